/-! The methods as functions over Mem; written by program. -/
def J77_328 (n : Nat) (rec18 : Int32 → Int32 → Int32 → Int32 → Int32 → Int32 → Mem → Option (Int32 × Mem)) (x1 : Int32) (x2 : Int32) (x3 : Int32) (x4 : Int32) (x5 : Int32) (x9 : Int32) (M : Mem) : Option (Int32 × Mem) :=
  rec18 x1 x2 x3 x4 x5 x9 M
set_option maxRecDepth 100000 in
set_option maxHeartbeats 4000000 in
theorem J77_328_ev (sc : Option (Nat × (Nat → Int32))) (n : Nat)  (e : Nat) (he : 4 ≤ e) (rec18 : Int32 → Int32 → Int32 → Int32 → Int32 → Int32 → Mem → Option (Int32 × Mem)) (hr18 : ∀ (x1 : Int32) (x2 : Int32) (x3 : Int32) (x4 : Int32) (x5 : Int32) (x6 : Int32) (u7 : Option Value) (u8 : Option Value) (u9 : Option Value) (u10 : Option Value) (M : Mem) (r : Int32) (M' : Mem), rec18 x1 x2 x3 x4 x5 x6 M = some (r, M') → pm_ev pmT sc e 77 false (18, [some (.ref 83), some (.int x1), some (.int x2), some (.int x3), some (.int x4), some (.int x5), some (.int x6), u7, u8, u9, u10], [], 129, 17845, hp M) (some (.int r), 129, 17845, hp M')) : ∀ (x1 : Int32) (x2 : Int32) (x3 : Int32) (x4 : Int32) (x5 : Int32) (x9 : Int32) (u6 : Option Value) (u7 : Option Value) (u8 : Option Value) (u10 : Option Value) (M : Mem) (r : Int32) (M' : Mem), J77_328 n rec18 x1 x2 x3 x4 x5 x9 M = some (r, M') → pm_ev pmT sc e 77 false (328, [some (.ref 83), some (.int x1), some (.int x2), some (.int x3), some (.int x4), some (.int x5), u6, u7, u8, some (.int x9), u10], [], 129, 17845, hp M) (some (.int r), 129, 17845, hp M') := by
  intro x1 x2 x3 x4 x5 x9 u6 u7 u8 u10 M r M' h
  unfold J77_328 at h
  refine pe_blk mm_77 3 (s' := (18, [some (.ref 83), some (.int x1), some (.int x2), some (.int x3), some (.int x4), some (.int x5), some (.int x9), u7, u8, some (.int x9), u10], [], _, _, _)) rfl ?_
  exact hr18 x1 x2 x3 x4 x5 x9 _ _ _ _ _ _ _ h
def J77_102 (n : Nat) (rec18 : Int32 → Int32 → Int32 → Int32 → Int32 → Int32 → Mem → Option (Int32 × Mem)) (x1 : Int32) (x2 : Int32) (x3 : Int32) (x4 : Int32) (x5 : Int32) (x9 : Int32) (x10 : Int32) (M : Mem) : Option (Int32 × Mem) :=
  match F75 n x10 x2 x4 x1 M with | some (v17, M18) => (J77_328 n rec18 x1 x2 x3 x4 x5 x9 M18) | none => none
set_option maxRecDepth 100000 in
set_option maxHeartbeats 4000000 in
theorem J77_102_ev (sc : Option (Nat × (Nat → Int32))) (n : Nat)  (e : Nat) (he : 4 ≤ e) (rec18 : Int32 → Int32 → Int32 → Int32 → Int32 → Int32 → Mem → Option (Int32 × Mem)) (hr18 : ∀ (x1 : Int32) (x2 : Int32) (x3 : Int32) (x4 : Int32) (x5 : Int32) (x6 : Int32) (u7 : Option Value) (u8 : Option Value) (u9 : Option Value) (u10 : Option Value) (M : Mem) (r : Int32) (M' : Mem), rec18 x1 x2 x3 x4 x5 x6 M = some (r, M') → pm_ev pmT sc e 77 false (18, [some (.ref 83), some (.int x1), some (.int x2), some (.int x3), some (.int x4), some (.int x5), some (.int x6), u7, u8, u9, u10], [], 129, 17845, hp M) (some (.int r), 129, 17845, hp M')) : ∀ (x1 : Int32) (x2 : Int32) (x3 : Int32) (x4 : Int32) (x5 : Int32) (x9 : Int32) (x10 : Int32) (u6 : Option Value) (u7 : Option Value) (u8 : Option Value) (M : Mem) (r : Int32) (M' : Mem), J77_102 n rec18 x1 x2 x3 x4 x5 x9 x10 M = some (r, M') → pm_ev pmT sc e 77 false (102, [some (.ref 83), some (.int x1), some (.int x2), some (.int x3), some (.int x4), some (.int x5), u6, u7, u8, some (.int x9), some (.int x10)], [], 129, 17845, hp M) (some (.int r), 129, 17845, hp M') := by
  intro x1 x2 x3 x4 x5 x9 x10 u6 u7 u8 M r M' h
  unfold J77_102 at h
  refine pe_blk mm_77 5 (s' := (109, [some (.ref 83), some (.int x1), some (.int x2), some (.int x3), some (.int x4), some (.int x5), u6, u7, u8, some (.int x9), some (.int x10)], [.int x1, .int x4, .int x2, .int x10, .ref 83], _, _, _)) rfl ?_
  obtain ⟨e1, rfl⟩ : ∃ e1, e = e1 + 1 := ⟨e - 1, by omega⟩
  cases hc19 : F75 n x10 x2 x4 x1 M with
  | none => rw [hc19] at h; cases h
  | some w =>
    obtain ⟨v17, M18⟩ := w
    rw [hc19] at h
    dsimp only at h
    refine pe_virt (al := [.int x1, .int x4, .int x2, .int x10]) (a := 83) (L0 := [some (.ref 83), some (.int x10), some (.int x2), some (.int x4), some (.int x1), none, none, none, none]) (r1 := (none, 129, 17845, hp M18)) mm_77 rfl rfl rfl mm_75 rfl (by decide) (by decide) rfl (Nat.le_of_ble_eq_true rfl) (Nat.le_of_ble_eq_true rfl) rfl rfl (F75_ev sc n x10 x2 x4 x1 _ e1 (by omega) _ _ hc19) ?_
    show pm_ev _ _ _ _ _ (112, [some (.ref 83), some (.int x1), some (.int x2), some (.int x3), some (.int x4), some (.int x5), u6, u7, u8, some (.int x9), some (.int x10)], [], _, _, _) _
    refine pe_blk mm_77 1 (s' := (328, [some (.ref 83), some (.int x1), some (.int x2), some (.int x3), some (.int x4), some (.int x5), u6, u7, u8, some (.int x9), some (.int x10)], [], _, _, _)) rfl ?_
    exact J77_328_ev sc n (e1 + 1) he rec18 hr18 x1 x2 x3 x4 x5 x9 _ _ _ _ _ _ _ h
def J77_209 (n : Nat) (rec18 : Int32 → Int32 → Int32 → Int32 → Int32 → Int32 → Mem → Option (Int32 × Mem)) (x1 : Int32) (x3 : Int32) (x4 : Int32) (x5 : Int32) (x9 : Int32) (s0 : Int32) (M : Mem) : Option (Int32 × Mem) :=
  J77_328 n rec18 x1 s0 x3 x4 x5 x9 M
set_option maxRecDepth 100000 in
set_option maxHeartbeats 4000000 in
theorem J77_209_ev (sc : Option (Nat × (Nat → Int32))) (n : Nat)  (e : Nat) (he : 4 ≤ e) (rec18 : Int32 → Int32 → Int32 → Int32 → Int32 → Int32 → Mem → Option (Int32 × Mem)) (hr18 : ∀ (x1 : Int32) (x2 : Int32) (x3 : Int32) (x4 : Int32) (x5 : Int32) (x6 : Int32) (u7 : Option Value) (u8 : Option Value) (u9 : Option Value) (u10 : Option Value) (M : Mem) (r : Int32) (M' : Mem), rec18 x1 x2 x3 x4 x5 x6 M = some (r, M') → pm_ev pmT sc e 77 false (18, [some (.ref 83), some (.int x1), some (.int x2), some (.int x3), some (.int x4), some (.int x5), some (.int x6), u7, u8, u9, u10], [], 129, 17845, hp M) (some (.int r), 129, 17845, hp M')) : ∀ (x1 : Int32) (x3 : Int32) (x4 : Int32) (x5 : Int32) (x9 : Int32) (s0 : Int32) (u2 : Option Value) (u6 : Option Value) (u7 : Option Value) (u8 : Option Value) (u10 : Option Value) (M : Mem) (r : Int32) (M' : Mem), J77_209 n rec18 x1 x3 x4 x5 x9 s0 M = some (r, M') → pm_ev pmT sc e 77 false (209, [some (.ref 83), some (.int x1), u2, some (.int x3), some (.int x4), some (.int x5), u6, u7, u8, some (.int x9), u10], [.int s0], 129, 17845, hp M) (some (.int r), 129, 17845, hp M') := by
  intro x1 x3 x4 x5 x9 s0 u2 u6 u7 u8 u10 M r M' h
  unfold J77_209 at h
  refine pe_blk mm_77 2 (s' := (328, [some (.ref 83), some (.int x1), some (.int s0), some (.int x3), some (.int x4), some (.int x5), u6, u7, u8, some (.int x9), u10], [], _, _, _)) rfl ?_
  exact J77_328_ev sc n e he rec18 hr18 x1 s0 x3 x4 x5 x9 _ _ _ _ _ _ _ h
def J77_198 (n : Nat) (rec18 : Int32 → Int32 → Int32 → Int32 → Int32 → Int32 → Mem → Option (Int32 × Mem)) (x1 : Int32) (x2 : Int32) (x4 : Int32) (x5 : Int32) (x8 : Int32) (x9 : Int32) (s0 : Int32) (M : Mem) : Option (Int32 × Mem) :=
  if x8 = 0 then (J77_209 n rec18 x1 s0 x4 x5 x9 0 M) else (J77_209 n rec18 x1 s0 x4 x5 x9 x2 M)
set_option maxRecDepth 100000 in
set_option maxHeartbeats 4000000 in
theorem J77_198_ev (sc : Option (Nat × (Nat → Int32))) (n : Nat)  (e : Nat) (he : 4 ≤ e) (rec18 : Int32 → Int32 → Int32 → Int32 → Int32 → Int32 → Mem → Option (Int32 × Mem)) (hr18 : ∀ (x1 : Int32) (x2 : Int32) (x3 : Int32) (x4 : Int32) (x5 : Int32) (x6 : Int32) (u7 : Option Value) (u8 : Option Value) (u9 : Option Value) (u10 : Option Value) (M : Mem) (r : Int32) (M' : Mem), rec18 x1 x2 x3 x4 x5 x6 M = some (r, M') → pm_ev pmT sc e 77 false (18, [some (.ref 83), some (.int x1), some (.int x2), some (.int x3), some (.int x4), some (.int x5), some (.int x6), u7, u8, u9, u10], [], 129, 17845, hp M) (some (.int r), 129, 17845, hp M')) : ∀ (x1 : Int32) (x2 : Int32) (x4 : Int32) (x5 : Int32) (x8 : Int32) (x9 : Int32) (s0 : Int32) (u3 : Option Value) (u6 : Option Value) (u7 : Option Value) (u10 : Option Value) (M : Mem) (r : Int32) (M' : Mem), J77_198 n rec18 x1 x2 x4 x5 x8 x9 s0 M = some (r, M') → pm_ev pmT sc e 77 false (198, [some (.ref 83), some (.int x1), some (.int x2), u3, some (.int x4), some (.int x5), u6, u7, some (.int x8), some (.int x9), u10], [.int s0], 129, 17845, hp M) (some (.int r), 129, 17845, hp M') := by
  intro x1 x2 x4 x5 x8 x9 s0 u3 u6 u7 u10 M r M' h
  unfold J77_198 at h
  refine pe_blk mm_77 2 (s' := (201, [some (.ref 83), some (.int x1), some (.int x2), some (.int s0), some (.int x4), some (.int x5), u6, u7, some (.int x8), some (.int x9), u10], [.int x8], _, _, _)) rfl ?_
  by_cases q30 : x8 = 0
  · rw [if_pos q30] at h
    refine pe_blk mm_77 1 (s' := (if x8 = 0 then 208 else 204, [some (.ref 83), some (.int x1), some (.int x2), some (.int s0), some (.int x4), some (.int x5), u6, u7, some (.int x8), some (.int x9), u10], [], _, _, _)) rfl ?_
    rw [if_pos q30]
    refine pe_blk mm_77 1 (s' := (209, [some (.ref 83), some (.int x1), some (.int x2), some (.int s0), some (.int x4), some (.int x5), u6, u7, some (.int x8), some (.int x9), u10], [.int 0], _, _, _)) rfl ?_
    exact J77_209_ev sc n e he rec18 hr18 x1 s0 x4 x5 x9 0 _ _ _ _ _ _ _ _ h
  · rw [if_neg q30] at h
    refine pe_blk mm_77 1 (s' := (if x8 = 0 then 208 else 204, [some (.ref 83), some (.int x1), some (.int x2), some (.int s0), some (.int x4), some (.int x5), u6, u7, some (.int x8), some (.int x9), u10], [], _, _, _)) rfl ?_
    rw [if_neg q30]
    refine pe_blk mm_77 2 (s' := (209, [some (.ref 83), some (.int x1), some (.int x2), some (.int s0), some (.int x4), some (.int x5), u6, u7, some (.int x8), some (.int x9), u10], [.int x2], _, _, _)) rfl ?_
    exact J77_209_ev sc n e he rec18 hr18 x1 s0 x4 x5 x9 x2 _ _ _ _ _ _ _ _ h
def J77_185 (n : Nat) (rec18 : Int32 → Int32 → Int32 → Int32 → Int32 → Int32 → Mem → Option (Int32 × Mem)) (x1 : Int32) (x2 : Int32) (x3 : Int32) (x5 : Int32) (x8 : Int32) (x9 : Int32) (x10 : Int32) (s0 : Int32) (M : Mem) : Option (Int32 × Mem) :=
  if x8 = 0 then (J77_198 n rec18 x1 x2 s0 x5 x8 x9 x10 M) else (J77_198 n rec18 x1 x2 s0 x5 x8 x9 x3 M)
set_option maxRecDepth 100000 in
set_option maxHeartbeats 4000000 in
theorem J77_185_ev (sc : Option (Nat × (Nat → Int32))) (n : Nat)  (e : Nat) (he : 4 ≤ e) (rec18 : Int32 → Int32 → Int32 → Int32 → Int32 → Int32 → Mem → Option (Int32 × Mem)) (hr18 : ∀ (x1 : Int32) (x2 : Int32) (x3 : Int32) (x4 : Int32) (x5 : Int32) (x6 : Int32) (u7 : Option Value) (u8 : Option Value) (u9 : Option Value) (u10 : Option Value) (M : Mem) (r : Int32) (M' : Mem), rec18 x1 x2 x3 x4 x5 x6 M = some (r, M') → pm_ev pmT sc e 77 false (18, [some (.ref 83), some (.int x1), some (.int x2), some (.int x3), some (.int x4), some (.int x5), some (.int x6), u7, u8, u9, u10], [], 129, 17845, hp M) (some (.int r), 129, 17845, hp M')) : ∀ (x1 : Int32) (x2 : Int32) (x3 : Int32) (x5 : Int32) (x8 : Int32) (x9 : Int32) (x10 : Int32) (s0 : Int32) (u4 : Option Value) (u6 : Option Value) (u7 : Option Value) (M : Mem) (r : Int32) (M' : Mem), J77_185 n rec18 x1 x2 x3 x5 x8 x9 x10 s0 M = some (r, M') → pm_ev pmT sc e 77 false (185, [some (.ref 83), some (.int x1), some (.int x2), some (.int x3), u4, some (.int x5), u6, u7, some (.int x8), some (.int x9), some (.int x10)], [.int s0], 129, 17845, hp M) (some (.int r), 129, 17845, hp M') := by
  intro x1 x2 x3 x5 x8 x9 x10 s0 u4 u6 u7 M r M' h
  unfold J77_185 at h
  refine pe_blk mm_77 2 (s' := (189, [some (.ref 83), some (.int x1), some (.int x2), some (.int x3), some (.int s0), some (.int x5), u6, u7, some (.int x8), some (.int x9), some (.int x10)], [.int x8], _, _, _)) rfl ?_
  by_cases q29 : x8 = 0
  · rw [if_pos q29] at h
    refine pe_blk mm_77 1 (s' := (if x8 = 0 then 196 else 192, [some (.ref 83), some (.int x1), some (.int x2), some (.int x3), some (.int s0), some (.int x5), u6, u7, some (.int x8), some (.int x9), some (.int x10)], [], _, _, _)) rfl ?_
    rw [if_pos q29]
    refine pe_blk mm_77 1 (s' := (198, [some (.ref 83), some (.int x1), some (.int x2), some (.int x3), some (.int s0), some (.int x5), u6, u7, some (.int x8), some (.int x9), some (.int x10)], [.int x10], _, _, _)) rfl ?_
    exact J77_198_ev sc n e he rec18 hr18 x1 x2 s0 x5 x8 x9 x10 _ _ _ _ _ _ _ h
  · rw [if_neg q29] at h
    refine pe_blk mm_77 1 (s' := (if x8 = 0 then 196 else 192, [some (.ref 83), some (.int x1), some (.int x2), some (.int x3), some (.int s0), some (.int x5), u6, u7, some (.int x8), some (.int x9), some (.int x10)], [], _, _, _)) rfl ?_
    rw [if_neg q29]
    refine pe_blk mm_77 2 (s' := (198, [some (.ref 83), some (.int x1), some (.int x2), some (.int x3), some (.int s0), some (.int x5), u6, u7, some (.int x8), some (.int x9), some (.int x10)], [.int x3], _, _, _)) rfl ?_
    exact J77_198_ev sc n e he rec18 hr18 x1 x2 s0 x5 x8 x9 x3 _ _ _ _ _ _ _ h
def J77_172 (n : Nat) (rec18 : Int32 → Int32 → Int32 → Int32 → Int32 → Int32 → Mem → Option (Int32 × Mem)) (x1 : Int32) (x2 : Int32) (x3 : Int32) (x4 : Int32) (x8 : Int32) (x9 : Int32) (x10 : Int32) (s0 : Int32) (M : Mem) : Option (Int32 × Mem) :=
  if x8 = 0 then (J77_185 n rec18 x1 x2 x3 s0 x8 x9 x10 x4 M) else (J77_185 n rec18 x1 x2 x3 s0 x8 x9 x10 0 M)
set_option maxRecDepth 100000 in
set_option maxHeartbeats 4000000 in
theorem J77_172_ev (sc : Option (Nat × (Nat → Int32))) (n : Nat)  (e : Nat) (he : 4 ≤ e) (rec18 : Int32 → Int32 → Int32 → Int32 → Int32 → Int32 → Mem → Option (Int32 × Mem)) (hr18 : ∀ (x1 : Int32) (x2 : Int32) (x3 : Int32) (x4 : Int32) (x5 : Int32) (x6 : Int32) (u7 : Option Value) (u8 : Option Value) (u9 : Option Value) (u10 : Option Value) (M : Mem) (r : Int32) (M' : Mem), rec18 x1 x2 x3 x4 x5 x6 M = some (r, M') → pm_ev pmT sc e 77 false (18, [some (.ref 83), some (.int x1), some (.int x2), some (.int x3), some (.int x4), some (.int x5), some (.int x6), u7, u8, u9, u10], [], 129, 17845, hp M) (some (.int r), 129, 17845, hp M')) : ∀ (x1 : Int32) (x2 : Int32) (x3 : Int32) (x4 : Int32) (x8 : Int32) (x9 : Int32) (x10 : Int32) (s0 : Int32) (u5 : Option Value) (u6 : Option Value) (u7 : Option Value) (M : Mem) (r : Int32) (M' : Mem), J77_172 n rec18 x1 x2 x3 x4 x8 x9 x10 s0 M = some (r, M') → pm_ev pmT sc e 77 false (172, [some (.ref 83), some (.int x1), some (.int x2), some (.int x3), some (.int x4), u5, u6, u7, some (.int x8), some (.int x9), some (.int x10)], [.int s0], 129, 17845, hp M) (some (.int r), 129, 17845, hp M') := by
  intro x1 x2 x3 x4 x8 x9 x10 s0 u5 u6 u7 M r M' h
  unfold J77_172 at h
  refine pe_blk mm_77 2 (s' := (176, [some (.ref 83), some (.int x1), some (.int x2), some (.int x3), some (.int x4), some (.int s0), u6, u7, some (.int x8), some (.int x9), some (.int x10)], [.int x8], _, _, _)) rfl ?_
  by_cases q28 : x8 = 0
  · rw [if_pos q28] at h
    refine pe_blk mm_77 1 (s' := (if x8 = 0 then 183 else 179, [some (.ref 83), some (.int x1), some (.int x2), some (.int x3), some (.int x4), some (.int s0), u6, u7, some (.int x8), some (.int x9), some (.int x10)], [], _, _, _)) rfl ?_
    rw [if_pos q28]
    refine pe_blk mm_77 1 (s' := (185, [some (.ref 83), some (.int x1), some (.int x2), some (.int x3), some (.int x4), some (.int s0), u6, u7, some (.int x8), some (.int x9), some (.int x10)], [.int x4], _, _, _)) rfl ?_
    exact J77_185_ev sc n e he rec18 hr18 x1 x2 x3 s0 x8 x9 x10 x4 _ _ _ _ _ _ h
  · rw [if_neg q28] at h
    refine pe_blk mm_77 1 (s' := (if x8 = 0 then 183 else 179, [some (.ref 83), some (.int x1), some (.int x2), some (.int x3), some (.int x4), some (.int s0), u6, u7, some (.int x8), some (.int x9), some (.int x10)], [], _, _, _)) rfl ?_
    rw [if_neg q28]
    refine pe_blk mm_77 2 (s' := (185, [some (.ref 83), some (.int x1), some (.int x2), some (.int x3), some (.int x4), some (.int s0), u6, u7, some (.int x8), some (.int x9), some (.int x10)], [.int 0], _, _, _)) rfl ?_
    exact J77_185_ev sc n e he rec18 hr18 x1 x2 x3 s0 x8 x9 x10 0 _ _ _ _ _ _ h
def J77_158 (n : Nat) (rec18 : Int32 → Int32 → Int32 → Int32 → Int32 → Int32 → Mem → Option (Int32 × Mem)) (x1 : Int32) (x2 : Int32) (x3 : Int32) (x4 : Int32) (x5 : Int32) (x8 : Int32) (x10 : Int32) (s0 : Int32) (M : Mem) : Option (Int32 × Mem) :=
  if x8 = 0 then (J77_172 n rec18 x1 x2 x3 x4 x8 s0 x10 x5 M) else (J77_172 n rec18 x1 x2 x3 x4 x8 s0 x10 x10 M)
set_option maxRecDepth 100000 in
set_option maxHeartbeats 4000000 in
theorem J77_158_ev (sc : Option (Nat × (Nat → Int32))) (n : Nat)  (e : Nat) (he : 4 ≤ e) (rec18 : Int32 → Int32 → Int32 → Int32 → Int32 → Int32 → Mem → Option (Int32 × Mem)) (hr18 : ∀ (x1 : Int32) (x2 : Int32) (x3 : Int32) (x4 : Int32) (x5 : Int32) (x6 : Int32) (u7 : Option Value) (u8 : Option Value) (u9 : Option Value) (u10 : Option Value) (M : Mem) (r : Int32) (M' : Mem), rec18 x1 x2 x3 x4 x5 x6 M = some (r, M') → pm_ev pmT sc e 77 false (18, [some (.ref 83), some (.int x1), some (.int x2), some (.int x3), some (.int x4), some (.int x5), some (.int x6), u7, u8, u9, u10], [], 129, 17845, hp M) (some (.int r), 129, 17845, hp M')) : ∀ (x1 : Int32) (x2 : Int32) (x3 : Int32) (x4 : Int32) (x5 : Int32) (x8 : Int32) (x10 : Int32) (s0 : Int32) (u6 : Option Value) (u7 : Option Value) (u9 : Option Value) (M : Mem) (r : Int32) (M' : Mem), J77_158 n rec18 x1 x2 x3 x4 x5 x8 x10 s0 M = some (r, M') → pm_ev pmT sc e 77 false (158, [some (.ref 83), some (.int x1), some (.int x2), some (.int x3), some (.int x4), some (.int x5), u6, u7, some (.int x8), u9, some (.int x10)], [.int s0], 129, 17845, hp M) (some (.int r), 129, 17845, hp M') := by
  intro x1 x2 x3 x4 x5 x8 x10 s0 u6 u7 u9 M r M' h
  unfold J77_158 at h
  refine pe_blk mm_77 2 (s' := (162, [some (.ref 83), some (.int x1), some (.int x2), some (.int x3), some (.int x4), some (.int x5), u6, u7, some (.int x8), some (.int s0), some (.int x10)], [.int x8], _, _, _)) rfl ?_
  by_cases q27 : x8 = 0
  · rw [if_pos q27] at h
    refine pe_blk mm_77 1 (s' := (if x8 = 0 then 170 else 165, [some (.ref 83), some (.int x1), some (.int x2), some (.int x3), some (.int x4), some (.int x5), u6, u7, some (.int x8), some (.int s0), some (.int x10)], [], _, _, _)) rfl ?_
    rw [if_pos q27]
    refine pe_blk mm_77 1 (s' := (172, [some (.ref 83), some (.int x1), some (.int x2), some (.int x3), some (.int x4), some (.int x5), u6, u7, some (.int x8), some (.int s0), some (.int x10)], [.int x5], _, _, _)) rfl ?_
    exact J77_172_ev sc n e he rec18 hr18 x1 x2 x3 x4 x8 s0 x10 x5 _ _ _ _ _ _ h
  · rw [if_neg q27] at h
    refine pe_blk mm_77 1 (s' := (if x8 = 0 then 170 else 165, [some (.ref 83), some (.int x1), some (.int x2), some (.int x3), some (.int x4), some (.int x5), u6, u7, some (.int x8), some (.int s0), some (.int x10)], [], _, _, _)) rfl ?_
    rw [if_neg q27]
    refine pe_blk mm_77 2 (s' := (172, [some (.ref 83), some (.int x1), some (.int x2), some (.int x3), some (.int x4), some (.int x5), u6, u7, some (.int x8), some (.int s0), some (.int x10)], [.int x10], _, _, _)) rfl ?_
    exact J77_172_ev sc n e he rec18 hr18 x1 x2 x3 x4 x8 s0 x10 x10 _ _ _ _ _ _ h
def J77_130 (n : Nat) (rec18 : Int32 → Int32 → Int32 → Int32 → Int32 → Int32 → Mem → Option (Int32 × Mem)) (x1 : Int32) (x2 : Int32) (x3 : Int32) (x4 : Int32) (x5 : Int32) (x6 : Int32) (x8 : Int32) (x10 : Int32) (M : Mem) : Option (Int32 × Mem) :=
  if 0 ≤ x10 then (if x10 = 0 then (if x6 < 0 ∨ 128 ≤ (x6 : Int32).toNatClampNeg then none else (J77_158 n rec18 x1 x2 x3 x4 x5 x8 x10 ((M.1 99 (x6 : Int32).toNatClampNeg) + 1) M)) else (J77_158 n rec18 x1 x2 x3 x4 x5 x8 x10 (x6 + 1) M)) else (some (0, M))
set_option maxRecDepth 100000 in
set_option maxHeartbeats 4000000 in
theorem J77_130_ev (sc : Option (Nat × (Nat → Int32))) (n : Nat)  (e : Nat) (he : 4 ≤ e) (rec18 : Int32 → Int32 → Int32 → Int32 → Int32 → Int32 → Mem → Option (Int32 × Mem)) (hr18 : ∀ (x1 : Int32) (x2 : Int32) (x3 : Int32) (x4 : Int32) (x5 : Int32) (x6 : Int32) (u7 : Option Value) (u8 : Option Value) (u9 : Option Value) (u10 : Option Value) (M : Mem) (r : Int32) (M' : Mem), rec18 x1 x2 x3 x4 x5 x6 M = some (r, M') → pm_ev pmT sc e 77 false (18, [some (.ref 83), some (.int x1), some (.int x2), some (.int x3), some (.int x4), some (.int x5), some (.int x6), u7, u8, u9, u10], [], 129, 17845, hp M) (some (.int r), 129, 17845, hp M')) : ∀ (x1 : Int32) (x2 : Int32) (x3 : Int32) (x4 : Int32) (x5 : Int32) (x6 : Int32) (x8 : Int32) (x10 : Int32) (u7 : Option Value) (u9 : Option Value) (M : Mem) (r : Int32) (M' : Mem), J77_130 n rec18 x1 x2 x3 x4 x5 x6 x8 x10 M = some (r, M') → pm_ev pmT sc e 77 false (130, [some (.ref 83), some (.int x1), some (.int x2), some (.int x3), some (.int x4), some (.int x5), some (.int x6), u7, some (.int x8), u9, some (.int x10)], [], 129, 17845, hp M) (some (.int r), 129, 17845, hp M') := by
  intro x1 x2 x3 x4 x5 x6 x8 x10 u7 u9 M r M' h
  unfold J77_130 at h
  refine pe_blk mm_77 1 (s' := (132, [some (.ref 83), some (.int x1), some (.int x2), some (.int x3), some (.int x4), some (.int x5), some (.int x6), u7, some (.int x8), u9, some (.int x10)], [.int x10], _, _, _)) rfl ?_
  by_cases q24 : 0 ≤ x10
  · rw [if_pos q24] at h
    refine pe_blk mm_77 1 (s' := (if 0 ≤ x10 then 137 else 135, [some (.ref 83), some (.int x1), some (.int x2), some (.int x3), some (.int x4), some (.int x5), some (.int x6), u7, some (.int x8), u9, some (.int x10)], [], _, _, _)) rfl ?_
    rw [if_pos q24]
    refine pe_blk mm_77 1 (s' := (139, [some (.ref 83), some (.int x1), some (.int x2), some (.int x3), some (.int x4), some (.int x5), some (.int x6), u7, some (.int x8), u9, some (.int x10)], [.int x10], _, _, _)) rfl ?_
    by_cases q25 : x10 = 0
    · rw [if_pos q25] at h
      refine pe_blk mm_77 1 (s' := (if x10 = 0 then 142 else 154, [some (.ref 83), some (.int x1), some (.int x2), some (.int x3), some (.int x4), some (.int x5), some (.int x6), u7, some (.int x8), u9, some (.int x10)], [], _, _, _)) rfl ?_
      rw [if_pos q25]
      refine pe_blk mm_77 1 (s' := (143, [some (.ref 83), some (.int x1), some (.int x2), some (.int x3), some (.int x4), some (.int x5), some (.int x6), u7, some (.int x8), u9, some (.int x10)], [.ref 83], _, _, _)) rfl ?_
      refine pe_get mm_77 rfl rfl rfl (by decide) rfl ?_
      refine pe_blk mm_77 1 (s' := (148, [some (.ref 83), some (.int x1), some (.int x2), some (.int x3), some (.int x4), some (.int x5), some (.int x6), u7, some (.int x8), u9, some (.int x10)], [.int x6, .ref 99], _, _, _)) rfl ?_
      by_cases q26 : x6 < 0 ∨ 128 ≤ (x6 : Int32).toNatClampNeg
      · rw [if_pos q26] at h
        cases h
      · rw [if_neg q26] at h
        refine pe_iald (f := M.1 99) mm_77 rfl rfl (by decide) q26 ?_
        refine pe_blk mm_77 3 (s' := (158, [some (.ref 83), some (.int x1), some (.int x2), some (.int x3), some (.int x4), some (.int x5), some (.int x6), u7, some (.int x8), u9, some (.int x10)], [.int ((M.1 99 (x6 : Int32).toNatClampNeg) + 1)], _, _, _)) rfl ?_
        exact J77_158_ev sc n e he rec18 hr18 x1 x2 x3 x4 x5 x8 x10 ((M.1 99 (x6 : Int32).toNatClampNeg) + 1) _ _ _ _ _ _ h
    · rw [if_neg q25] at h
      refine pe_blk mm_77 1 (s' := (if x10 = 0 then 142 else 154, [some (.ref 83), some (.int x1), some (.int x2), some (.int x3), some (.int x4), some (.int x5), some (.int x6), u7, some (.int x8), u9, some (.int x10)], [], _, _, _)) rfl ?_
      rw [if_neg q25]
      refine pe_blk mm_77 3 (s' := (158, [some (.ref 83), some (.int x1), some (.int x2), some (.int x3), some (.int x4), some (.int x5), some (.int x6), u7, some (.int x8), u9, some (.int x10)], [.int (x6 + 1)], _, _, _)) rfl ?_
      exact J77_158_ev sc n e he rec18 hr18 x1 x2 x3 x4 x5 x8 x10 (x6 + 1) _ _ _ _ _ _ h
  · rw [if_neg q24] at h
    refine pe_blk mm_77 1 (s' := (if 0 ≤ x10 then 137 else 135, [some (.ref 83), some (.int x1), some (.int x2), some (.int x3), some (.int x4), some (.int x5), some (.int x6), u7, some (.int x8), u9, some (.int x10)], [], _, _, _)) rfl ?_
    rw [if_neg q24]
    refine pe_blk mm_77 1 (s' := (136, [some (.ref 83), some (.int x1), some (.int x2), some (.int x3), some (.int x4), some (.int x5), some (.int x6), u7, some (.int x8), u9, some (.int x10)], [.int 0], _, _, _)) rfl ?_
    cases h
    exact pe_ret mm_77 rfl rfl
def J77_326 (n : Nat) (rec18 : Int32 → Int32 → Int32 → Int32 → Int32 → Int32 → Mem → Option (Int32 × Mem)) (x1 : Int32) (x2 : Int32) (x3 : Int32) (x4 : Int32) (x5 : Int32) (s0 : Int32) (M : Mem) : Option (Int32 × Mem) :=
  J77_328 n rec18 x1 x2 x3 x4 x5 s0 M
set_option maxRecDepth 100000 in
set_option maxHeartbeats 4000000 in
theorem J77_326_ev (sc : Option (Nat × (Nat → Int32))) (n : Nat)  (e : Nat) (he : 4 ≤ e) (rec18 : Int32 → Int32 → Int32 → Int32 → Int32 → Int32 → Mem → Option (Int32 × Mem)) (hr18 : ∀ (x1 : Int32) (x2 : Int32) (x3 : Int32) (x4 : Int32) (x5 : Int32) (x6 : Int32) (u7 : Option Value) (u8 : Option Value) (u9 : Option Value) (u10 : Option Value) (M : Mem) (r : Int32) (M' : Mem), rec18 x1 x2 x3 x4 x5 x6 M = some (r, M') → pm_ev pmT sc e 77 false (18, [some (.ref 83), some (.int x1), some (.int x2), some (.int x3), some (.int x4), some (.int x5), some (.int x6), u7, u8, u9, u10], [], 129, 17845, hp M) (some (.int r), 129, 17845, hp M')) : ∀ (x1 : Int32) (x2 : Int32) (x3 : Int32) (x4 : Int32) (x5 : Int32) (s0 : Int32) (u6 : Option Value) (u7 : Option Value) (u8 : Option Value) (u9 : Option Value) (u10 : Option Value) (M : Mem) (r : Int32) (M' : Mem), J77_326 n rec18 x1 x2 x3 x4 x5 s0 M = some (r, M') → pm_ev pmT sc e 77 false (326, [some (.ref 83), some (.int x1), some (.int x2), some (.int x3), some (.int x4), some (.int x5), u6, u7, u8, u9, u10], [.int s0], 129, 17845, hp M) (some (.int r), 129, 17845, hp M') := by
  intro x1 x2 x3 x4 x5 s0 u6 u7 u8 u9 u10 M r M' h
  unfold J77_326 at h
  refine pe_blk mm_77 1 (s' := (328, [some (.ref 83), some (.int x1), some (.int x2), some (.int x3), some (.int x4), some (.int x5), u6, u7, u8, some (.int s0), u10], [], _, _, _)) rfl ?_
  exact J77_328_ev sc n e he rec18 hr18 x1 x2 x3 x4 x5 s0 _ _ _ _ _ _ _ h
def J77_304 (n : Nat) (rec18 : Int32 → Int32 → Int32 → Int32 → Int32 → Int32 → Mem → Option (Int32 × Mem)) (x1 : Int32) (x3 : Int32) (x4 : Int32) (x5 : Int32) (x6 : Int32) (x10 : Int32) (s0 : Int32) (M : Mem) : Option (Int32 × Mem) :=
  if x10 = 0 then (J77_326 n rec18 x1 s0 x3 x4 x5 (x6 + 1) M) else (if x6 < 0 ∨ 128 ≤ (x6 : Int32).toNatClampNeg then none else (J77_326 n rec18 x1 s0 x3 x4 x5 ((M.1 99 (x6 : Int32).toNatClampNeg) + 1) M))
set_option maxRecDepth 100000 in
set_option maxHeartbeats 4000000 in
theorem J77_304_ev (sc : Option (Nat × (Nat → Int32))) (n : Nat)  (e : Nat) (he : 4 ≤ e) (rec18 : Int32 → Int32 → Int32 → Int32 → Int32 → Int32 → Mem → Option (Int32 × Mem)) (hr18 : ∀ (x1 : Int32) (x2 : Int32) (x3 : Int32) (x4 : Int32) (x5 : Int32) (x6 : Int32) (u7 : Option Value) (u8 : Option Value) (u9 : Option Value) (u10 : Option Value) (M : Mem) (r : Int32) (M' : Mem), rec18 x1 x2 x3 x4 x5 x6 M = some (r, M') → pm_ev pmT sc e 77 false (18, [some (.ref 83), some (.int x1), some (.int x2), some (.int x3), some (.int x4), some (.int x5), some (.int x6), u7, u8, u9, u10], [], 129, 17845, hp M) (some (.int r), 129, 17845, hp M')) : ∀ (x1 : Int32) (x3 : Int32) (x4 : Int32) (x5 : Int32) (x6 : Int32) (x10 : Int32) (s0 : Int32) (u2 : Option Value) (u7 : Option Value) (u8 : Option Value) (u9 : Option Value) (M : Mem) (r : Int32) (M' : Mem), J77_304 n rec18 x1 x3 x4 x5 x6 x10 s0 M = some (r, M') → pm_ev pmT sc e 77 false (304, [some (.ref 83), some (.int x1), u2, some (.int x3), some (.int x4), some (.int x5), some (.int x6), u7, u8, u9, some (.int x10)], [.int s0], 129, 17845, hp M) (some (.int r), 129, 17845, hp M') := by
  intro x1 x3 x4 x5 x6 x10 s0 u2 u7 u8 u9 M r M' h
  unfold J77_304 at h
  refine pe_blk mm_77 2 (s' := (307, [some (.ref 83), some (.int x1), some (.int s0), some (.int x3), some (.int x4), some (.int x5), some (.int x6), u7, u8, u9, some (.int x10)], [.int x10], _, _, _)) rfl ?_
  by_cases q36 : x10 = 0
  · rw [if_pos q36] at h
    refine pe_blk mm_77 1 (s' := (if x10 = 0 then 322 else 310, [some (.ref 83), some (.int x1), some (.int s0), some (.int x3), some (.int x4), some (.int x5), some (.int x6), u7, u8, u9, some (.int x10)], [], _, _, _)) rfl ?_
    rw [if_pos q36]
    refine pe_blk mm_77 3 (s' := (326, [some (.ref 83), some (.int x1), some (.int s0), some (.int x3), some (.int x4), some (.int x5), some (.int x6), u7, u8, u9, some (.int x10)], [.int (x6 + 1)], _, _, _)) rfl ?_
    exact J77_326_ev sc n e he rec18 hr18 x1 s0 x3 x4 x5 (x6 + 1) _ _ _ _ _ _ _ _ h
  · rw [if_neg q36] at h
    refine pe_blk mm_77 1 (s' := (if x10 = 0 then 322 else 310, [some (.ref 83), some (.int x1), some (.int s0), some (.int x3), some (.int x4), some (.int x5), some (.int x6), u7, u8, u9, some (.int x10)], [], _, _, _)) rfl ?_
    rw [if_neg q36]
    refine pe_blk mm_77 1 (s' := (311, [some (.ref 83), some (.int x1), some (.int s0), some (.int x3), some (.int x4), some (.int x5), some (.int x6), u7, u8, u9, some (.int x10)], [.ref 83], _, _, _)) rfl ?_
    refine pe_get mm_77 rfl rfl rfl (by decide) rfl ?_
    refine pe_blk mm_77 1 (s' := (316, [some (.ref 83), some (.int x1), some (.int s0), some (.int x3), some (.int x4), some (.int x5), some (.int x6), u7, u8, u9, some (.int x10)], [.int x6, .ref 99], _, _, _)) rfl ?_
    by_cases q37 : x6 < 0 ∨ 128 ≤ (x6 : Int32).toNatClampNeg
    · rw [if_pos q37] at h
      cases h
    · rw [if_neg q37] at h
      refine pe_iald (f := M.1 99) mm_77 rfl rfl (by decide) q37 ?_
      refine pe_blk mm_77 3 (s' := (326, [some (.ref 83), some (.int x1), some (.int s0), some (.int x3), some (.int x4), some (.int x5), some (.int x6), u7, u8, u9, some (.int x10)], [.int ((M.1 99 (x6 : Int32).toNatClampNeg) + 1)], _, _, _)) rfl ?_
      exact J77_326_ev sc n e he rec18 hr18 x1 s0 x3 x4 x5 ((M.1 99 (x6 : Int32).toNatClampNeg) + 1) _ _ _ _ _ _ _ _ h
def J77_290 (n : Nat) (rec18 : Int32 → Int32 → Int32 → Int32 → Int32 → Int32 → Mem → Option (Int32 × Mem)) (x1 : Int32) (x2 : Int32) (x3 : Int32) (x5 : Int32) (x6 : Int32) (x8 : Int32) (x10 : Int32) (s0 : Int32) (M : Mem) : Option (Int32 × Mem) :=
  if x8 = 0 then (J77_304 n rec18 x1 x3 s0 x5 x6 x10 (x2 + 1) M) else (J77_304 n rec18 x1 x3 s0 x5 x6 x10 x2 M)
set_option maxRecDepth 100000 in
set_option maxHeartbeats 4000000 in
theorem J77_290_ev (sc : Option (Nat × (Nat → Int32))) (n : Nat)  (e : Nat) (he : 4 ≤ e) (rec18 : Int32 → Int32 → Int32 → Int32 → Int32 → Int32 → Mem → Option (Int32 × Mem)) (hr18 : ∀ (x1 : Int32) (x2 : Int32) (x3 : Int32) (x4 : Int32) (x5 : Int32) (x6 : Int32) (u7 : Option Value) (u8 : Option Value) (u9 : Option Value) (u10 : Option Value) (M : Mem) (r : Int32) (M' : Mem), rec18 x1 x2 x3 x4 x5 x6 M = some (r, M') → pm_ev pmT sc e 77 false (18, [some (.ref 83), some (.int x1), some (.int x2), some (.int x3), some (.int x4), some (.int x5), some (.int x6), u7, u8, u9, u10], [], 129, 17845, hp M) (some (.int r), 129, 17845, hp M')) : ∀ (x1 : Int32) (x2 : Int32) (x3 : Int32) (x5 : Int32) (x6 : Int32) (x8 : Int32) (x10 : Int32) (s0 : Int32) (u4 : Option Value) (u7 : Option Value) (u9 : Option Value) (M : Mem) (r : Int32) (M' : Mem), J77_290 n rec18 x1 x2 x3 x5 x6 x8 x10 s0 M = some (r, M') → pm_ev pmT sc e 77 false (290, [some (.ref 83), some (.int x1), some (.int x2), some (.int x3), u4, some (.int x5), some (.int x6), u7, some (.int x8), u9, some (.int x10)], [.int s0], 129, 17845, hp M) (some (.int r), 129, 17845, hp M') := by
  intro x1 x2 x3 x5 x6 x8 x10 s0 u4 u7 u9 M r M' h
  unfold J77_290 at h
  refine pe_blk mm_77 2 (s' := (294, [some (.ref 83), some (.int x1), some (.int x2), some (.int x3), some (.int s0), some (.int x5), some (.int x6), u7, some (.int x8), u9, some (.int x10)], [.int x8], _, _, _)) rfl ?_
  by_cases q35 : x8 = 0
  · rw [if_pos q35] at h
    refine pe_blk mm_77 1 (s' := (if x8 = 0 then 301 else 297, [some (.ref 83), some (.int x1), some (.int x2), some (.int x3), some (.int s0), some (.int x5), some (.int x6), u7, some (.int x8), u9, some (.int x10)], [], _, _, _)) rfl ?_
    rw [if_pos q35]
    refine pe_blk mm_77 3 (s' := (304, [some (.ref 83), some (.int x1), some (.int x2), some (.int x3), some (.int s0), some (.int x5), some (.int x6), u7, some (.int x8), u9, some (.int x10)], [.int (x2 + 1)], _, _, _)) rfl ?_
    exact J77_304_ev sc n e he rec18 hr18 x1 x3 s0 x5 x6 x10 (x2 + 1) _ _ _ _ _ _ _ h
  · rw [if_neg q35] at h
    refine pe_blk mm_77 1 (s' := (if x8 = 0 then 301 else 297, [some (.ref 83), some (.int x1), some (.int x2), some (.int x3), some (.int s0), some (.int x5), some (.int x6), u7, some (.int x8), u9, some (.int x10)], [], _, _, _)) rfl ?_
    rw [if_neg q35]
    refine pe_blk mm_77 2 (s' := (304, [some (.ref 83), some (.int x1), some (.int x2), some (.int x3), some (.int s0), some (.int x5), some (.int x6), u7, some (.int x8), u9, some (.int x10)], [.int x2], _, _, _)) rfl ?_
    exact J77_304_ev sc n e he rec18 hr18 x1 x3 s0 x5 x6 x10 x2 _ _ _ _ _ _ _ h
def J77_276 (n : Nat) (rec18 : Int32 → Int32 → Int32 → Int32 → Int32 → Int32 → Mem → Option (Int32 × Mem)) (x1 : Int32) (x2 : Int32) (x3 : Int32) (x4 : Int32) (x5 : Int32) (x6 : Int32) (x8 : Int32) (x10 : Int32) (M : Mem) : Option (Int32 × Mem) :=
  if x8 = 0 then (J77_290 n rec18 x1 x2 x3 x5 x6 x8 x10 x4 M) else (J77_290 n rec18 x1 x2 x3 x5 x6 x8 x10 (x4 + 1) M)
set_option maxRecDepth 100000 in
set_option maxHeartbeats 4000000 in
theorem J77_276_ev (sc : Option (Nat × (Nat → Int32))) (n : Nat)  (e : Nat) (he : 4 ≤ e) (rec18 : Int32 → Int32 → Int32 → Int32 → Int32 → Int32 → Mem → Option (Int32 × Mem)) (hr18 : ∀ (x1 : Int32) (x2 : Int32) (x3 : Int32) (x4 : Int32) (x5 : Int32) (x6 : Int32) (u7 : Option Value) (u8 : Option Value) (u9 : Option Value) (u10 : Option Value) (M : Mem) (r : Int32) (M' : Mem), rec18 x1 x2 x3 x4 x5 x6 M = some (r, M') → pm_ev pmT sc e 77 false (18, [some (.ref 83), some (.int x1), some (.int x2), some (.int x3), some (.int x4), some (.int x5), some (.int x6), u7, u8, u9, u10], [], 129, 17845, hp M) (some (.int r), 129, 17845, hp M')) : ∀ (x1 : Int32) (x2 : Int32) (x3 : Int32) (x4 : Int32) (x5 : Int32) (x6 : Int32) (x8 : Int32) (x10 : Int32) (u7 : Option Value) (u9 : Option Value) (M : Mem) (r : Int32) (M' : Mem), J77_276 n rec18 x1 x2 x3 x4 x5 x6 x8 x10 M = some (r, M') → pm_ev pmT sc e 77 false (276, [some (.ref 83), some (.int x1), some (.int x2), some (.int x3), some (.int x4), some (.int x5), some (.int x6), u7, some (.int x8), u9, some (.int x10)], [], 129, 17845, hp M) (some (.int r), 129, 17845, hp M') := by
  intro x1 x2 x3 x4 x5 x6 x8 x10 u7 u9 M r M' h
  unfold J77_276 at h
  refine pe_blk mm_77 1 (s' := (278, [some (.ref 83), some (.int x1), some (.int x2), some (.int x3), some (.int x4), some (.int x5), some (.int x6), u7, some (.int x8), u9, some (.int x10)], [.int x8], _, _, _)) rfl ?_
  by_cases q34 : x8 = 0
  · rw [if_pos q34] at h
    refine pe_blk mm_77 1 (s' := (if x8 = 0 then 288 else 281, [some (.ref 83), some (.int x1), some (.int x2), some (.int x3), some (.int x4), some (.int x5), some (.int x6), u7, some (.int x8), u9, some (.int x10)], [], _, _, _)) rfl ?_
    rw [if_pos q34]
    refine pe_blk mm_77 1 (s' := (290, [some (.ref 83), some (.int x1), some (.int x2), some (.int x3), some (.int x4), some (.int x5), some (.int x6), u7, some (.int x8), u9, some (.int x10)], [.int x4], _, _, _)) rfl ?_
    exact J77_290_ev sc n e he rec18 hr18 x1 x2 x3 x5 x6 x8 x10 x4 _ _ _ _ _ _ h
  · rw [if_neg q34] at h
    refine pe_blk mm_77 1 (s' := (if x8 = 0 then 288 else 281, [some (.ref 83), some (.int x1), some (.int x2), some (.int x3), some (.int x4), some (.int x5), some (.int x6), u7, some (.int x8), u9, some (.int x10)], [], _, _, _)) rfl ?_
    rw [if_neg q34]
    refine pe_blk mm_77 4 (s' := (290, [some (.ref 83), some (.int x1), some (.int x2), some (.int x3), some (.int x4), some (.int x5), some (.int x6), u7, some (.int x8), u9, some (.int x10)], [.int (x4 + 1)], _, _, _)) rfl ?_
    exact J77_290_ev sc n e he rec18 hr18 x1 x2 x3 x5 x6 x8 x10 (x4 + 1) _ _ _ _ _ _ h
def J77_247 (n : Nat) (rec18 : Int32 → Int32 → Int32 → Int32 → Int32 → Int32 → Mem → Option (Int32 × Mem)) (x1 : Int32) (x2 : Int32) (x3 : Int32) (x4 : Int32) (x5 : Int32) (x6 : Int32) (x8 : Int32) (s0 : Int32) (M : Mem) : Option (Int32 × Mem) :=
  if s0 = 0 then (J77_276 n rec18 x1 x2 x3 x4 x5 x6 x8 s0 M) else (if x6 < 0 ∨ 128 ≤ (x6 : Int32).toNatClampNeg then none else (if (M.1 100 (x6 : Int32).toNatClampNeg) = 0 then (J77_276 n rec18 x1 x2 x3 x4 x5 x6 x8 s0 M) else (if x6 < 0 ∨ 128 ≤ (x6 : Int32).toNatClampNeg then none else (match F74 n (M.1 100 (x6 : Int32).toNatClampNeg) x1 M with | some (v41, M42) => (J77_276 n rec18 x1 x2 x3 x4 x5 x6 x8 s0 M42) | none => none))))
set_option maxRecDepth 100000 in
set_option maxHeartbeats 4000000 in
theorem J77_247_ev (sc : Option (Nat × (Nat → Int32))) (n : Nat)  (e : Nat) (he : 4 ≤ e) (rec18 : Int32 → Int32 → Int32 → Int32 → Int32 → Int32 → Mem → Option (Int32 × Mem)) (hr18 : ∀ (x1 : Int32) (x2 : Int32) (x3 : Int32) (x4 : Int32) (x5 : Int32) (x6 : Int32) (u7 : Option Value) (u8 : Option Value) (u9 : Option Value) (u10 : Option Value) (M : Mem) (r : Int32) (M' : Mem), rec18 x1 x2 x3 x4 x5 x6 M = some (r, M') → pm_ev pmT sc e 77 false (18, [some (.ref 83), some (.int x1), some (.int x2), some (.int x3), some (.int x4), some (.int x5), some (.int x6), u7, u8, u9, u10], [], 129, 17845, hp M) (some (.int r), 129, 17845, hp M')) : ∀ (x1 : Int32) (x2 : Int32) (x3 : Int32) (x4 : Int32) (x5 : Int32) (x6 : Int32) (x8 : Int32) (s0 : Int32) (u7 : Option Value) (u9 : Option Value) (u10 : Option Value) (M : Mem) (r : Int32) (M' : Mem), J77_247 n rec18 x1 x2 x3 x4 x5 x6 x8 s0 M = some (r, M') → pm_ev pmT sc e 77 false (247, [some (.ref 83), some (.int x1), some (.int x2), some (.int x3), some (.int x4), some (.int x5), some (.int x6), u7, some (.int x8), u9, u10], [.int s0], 129, 17845, hp M) (some (.int r), 129, 17845, hp M') := by
  intro x1 x2 x3 x4 x5 x6 x8 s0 u7 u9 u10 M r M' h
  unfold J77_247 at h
  refine pe_blk mm_77 2 (s' := (251, [some (.ref 83), some (.int x1), some (.int x2), some (.int x3), some (.int x4), some (.int x5), some (.int x6), u7, some (.int x8), u9, some (.int s0)], [.int s0], _, _, _)) rfl ?_
  by_cases q33 : s0 = 0
  · rw [if_pos q33] at h
    refine pe_blk mm_77 1 (s' := (if s0 = 0 then 276 else 254, [some (.ref 83), some (.int x1), some (.int x2), some (.int x3), some (.int x4), some (.int x5), some (.int x6), u7, some (.int x8), u9, some (.int s0)], [], _, _, _)) rfl ?_
    rw [if_pos q33]
    exact J77_276_ev sc n e he rec18 hr18 x1 x2 x3 x4 x5 x6 x8 s0 _ _ _ _ _ h
  · rw [if_neg q33] at h
    refine pe_blk mm_77 1 (s' := (if s0 = 0 then 276 else 254, [some (.ref 83), some (.int x1), some (.int x2), some (.int x3), some (.int x4), some (.int x5), some (.int x6), u7, some (.int x8), u9, some (.int s0)], [], _, _, _)) rfl ?_
    rw [if_neg q33]
    refine pe_blk mm_77 1 (s' := (255, [some (.ref 83), some (.int x1), some (.int x2), some (.int x3), some (.int x4), some (.int x5), some (.int x6), u7, some (.int x8), u9, some (.int s0)], [.ref 83], _, _, _)) rfl ?_
    refine pe_get mm_77 rfl rfl rfl (by decide) rfl ?_
    refine pe_blk mm_77 1 (s' := (260, [some (.ref 83), some (.int x1), some (.int x2), some (.int x3), some (.int x4), some (.int x5), some (.int x6), u7, some (.int x8), u9, some (.int s0)], [.int x6, .ref 100], _, _, _)) rfl ?_
    by_cases q38 : x6 < 0 ∨ 128 ≤ (x6 : Int32).toNatClampNeg
    · rw [if_pos q38] at h
      cases h
    · rw [if_neg q38] at h
      refine pe_iald (f := M.1 100) mm_77 rfl rfl (by decide) q38 ?_
      by_cases q39 : (M.1 100 (x6 : Int32).toNatClampNeg) = 0
      · rw [if_pos q39] at h
        refine pe_blk mm_77 1 (s' := (if (M.1 100 (x6 : Int32).toNatClampNeg) = 0 then 276 else 264, [some (.ref 83), some (.int x1), some (.int x2), some (.int x3), some (.int x4), some (.int x5), some (.int x6), u7, some (.int x8), u9, some (.int s0)], [], _, _, _)) rfl ?_
        rw [if_pos q39]
        exact J77_276_ev sc n e he rec18 hr18 x1 x2 x3 x4 x5 x6 x8 s0 _ _ _ _ _ h
      · rw [if_neg q39] at h
        refine pe_blk mm_77 1 (s' := (if (M.1 100 (x6 : Int32).toNatClampNeg) = 0 then 276 else 264, [some (.ref 83), some (.int x1), some (.int x2), some (.int x3), some (.int x4), some (.int x5), some (.int x6), u7, some (.int x8), u9, some (.int s0)], [], _, _, _)) rfl ?_
        rw [if_neg q39]
        refine pe_blk mm_77 2 (s' := (266, [some (.ref 83), some (.int x1), some (.int x2), some (.int x3), some (.int x4), some (.int x5), some (.int x6), u7, some (.int x8), u9, some (.int s0)], [.ref 83, .ref 83], _, _, _)) rfl ?_
        refine pe_get mm_77 rfl rfl rfl (by decide) rfl ?_
        refine pe_blk mm_77 1 (s' := (271, [some (.ref 83), some (.int x1), some (.int x2), some (.int x3), some (.int x4), some (.int x5), some (.int x6), u7, some (.int x8), u9, some (.int s0)], [.int x6, .ref 100, .ref 83], _, _, _)) rfl ?_
        by_cases q40 : x6 < 0 ∨ 128 ≤ (x6 : Int32).toNatClampNeg
        · rw [if_pos q40] at h
          cases h
        · rw [if_neg q40] at h
          refine pe_iald (f := M.1 100) mm_77 rfl rfl (by decide) q40 ?_
          refine pe_blk mm_77 1 (s' := (273, [some (.ref 83), some (.int x1), some (.int x2), some (.int x3), some (.int x4), some (.int x5), some (.int x6), u7, some (.int x8), u9, some (.int s0)], [.int x1, .int (M.1 100 (x6 : Int32).toNatClampNeg), .ref 83], _, _, _)) rfl ?_
          obtain ⟨e1, rfl⟩ : ∃ e1, e = e1 + 1 := ⟨e - 1, by omega⟩
          cases hc43 : F74 n (M.1 100 (x6 : Int32).toNatClampNeg) x1 M with
          | none => rw [hc43] at h; cases h
          | some w =>
            obtain ⟨v41, M42⟩ := w
            rw [hc43] at h
            dsimp only at h
            refine pe_virt (al := [.int x1, .int (M.1 100 (x6 : Int32).toNatClampNeg)]) (a := 83) (L0 := [some (.ref 83), some (.int (M.1 100 (x6 : Int32).toNatClampNeg)), some (.int x1)]) (r1 := (none, 129, 17845, hp M42)) mm_77 rfl rfl rfl mm_74 rfl (by decide) (by decide) rfl (Nat.le_of_ble_eq_true rfl) (Nat.le_of_ble_eq_true rfl) rfl rfl (F74_ev sc n (M.1 100 (x6 : Int32).toNatClampNeg) x1 _ e1 (by omega) _ _ hc43) ?_
            show pm_ev _ _ _ _ _ (276, [some (.ref 83), some (.int x1), some (.int x2), some (.int x3), some (.int x4), some (.int x5), some (.int x6), u7, some (.int x8), u9, some (.int s0)], [], _, _, _) _
            exact J77_276_ev sc n (e1 + 1) he rec18 hr18 x1 x2 x3 x4 x5 x6 x8 s0 _ _ _ _ _ h
def J77_246 (n : Nat) (rec18 : Int32 → Int32 → Int32 → Int32 → Int32 → Int32 → Mem → Option (Int32 × Mem)) (x1 : Int32) (x2 : Int32) (x3 : Int32) (x4 : Int32) (x5 : Int32) (x6 : Int32) (x8 : Int32) (M : Mem) : Option (Int32 × Mem) :=
  J77_247 n rec18 x1 x2 x3 x4 x5 x6 x8 0 M
set_option maxRecDepth 100000 in
set_option maxHeartbeats 4000000 in
theorem J77_246_ev (sc : Option (Nat × (Nat → Int32))) (n : Nat)  (e : Nat) (he : 4 ≤ e) (rec18 : Int32 → Int32 → Int32 → Int32 → Int32 → Int32 → Mem → Option (Int32 × Mem)) (hr18 : ∀ (x1 : Int32) (x2 : Int32) (x3 : Int32) (x4 : Int32) (x5 : Int32) (x6 : Int32) (u7 : Option Value) (u8 : Option Value) (u9 : Option Value) (u10 : Option Value) (M : Mem) (r : Int32) (M' : Mem), rec18 x1 x2 x3 x4 x5 x6 M = some (r, M') → pm_ev pmT sc e 77 false (18, [some (.ref 83), some (.int x1), some (.int x2), some (.int x3), some (.int x4), some (.int x5), some (.int x6), u7, u8, u9, u10], [], 129, 17845, hp M) (some (.int r), 129, 17845, hp M')) : ∀ (x1 : Int32) (x2 : Int32) (x3 : Int32) (x4 : Int32) (x5 : Int32) (x6 : Int32) (x8 : Int32) (u7 : Option Value) (u9 : Option Value) (u10 : Option Value) (M : Mem) (r : Int32) (M' : Mem), J77_246 n rec18 x1 x2 x3 x4 x5 x6 x8 M = some (r, M') → pm_ev pmT sc e 77 false (246, [some (.ref 83), some (.int x1), some (.int x2), some (.int x3), some (.int x4), some (.int x5), some (.int x6), u7, some (.int x8), u9, u10], [], 129, 17845, hp M) (some (.int r), 129, 17845, hp M') := by
  intro x1 x2 x3 x4 x5 x6 x8 u7 u9 u10 M r M' h
  unfold J77_246 at h
  refine pe_blk mm_77 1 (s' := (247, [some (.ref 83), some (.int x1), some (.int x2), some (.int x3), some (.int x4), some (.int x5), some (.int x6), u7, some (.int x8), u9, u10], [.int 0], _, _, _)) rfl ?_
  exact J77_247_ev sc n e he rec18 hr18 x1 x2 x3 x4 x5 x6 x8 0 _ _ _ _ _ _ h
def J77_242 (n : Nat) (rec18 : Int32 → Int32 → Int32 → Int32 → Int32 → Int32 → Mem → Option (Int32 × Mem)) (x1 : Int32) (x2 : Int32) (x3 : Int32) (x4 : Int32) (x5 : Int32) (x6 : Int32) (x8 : Int32) (M : Mem) : Option (Int32 × Mem) :=
  J77_247 n rec18 x1 x2 x3 x4 x5 x6 x8 1 M
set_option maxRecDepth 100000 in
set_option maxHeartbeats 4000000 in
theorem J77_242_ev (sc : Option (Nat × (Nat → Int32))) (n : Nat)  (e : Nat) (he : 4 ≤ e) (rec18 : Int32 → Int32 → Int32 → Int32 → Int32 → Int32 → Mem → Option (Int32 × Mem)) (hr18 : ∀ (x1 : Int32) (x2 : Int32) (x3 : Int32) (x4 : Int32) (x5 : Int32) (x6 : Int32) (u7 : Option Value) (u8 : Option Value) (u9 : Option Value) (u10 : Option Value) (M : Mem) (r : Int32) (M' : Mem), rec18 x1 x2 x3 x4 x5 x6 M = some (r, M') → pm_ev pmT sc e 77 false (18, [some (.ref 83), some (.int x1), some (.int x2), some (.int x3), some (.int x4), some (.int x5), some (.int x6), u7, u8, u9, u10], [], 129, 17845, hp M) (some (.int r), 129, 17845, hp M')) : ∀ (x1 : Int32) (x2 : Int32) (x3 : Int32) (x4 : Int32) (x5 : Int32) (x6 : Int32) (x8 : Int32) (u7 : Option Value) (u9 : Option Value) (u10 : Option Value) (M : Mem) (r : Int32) (M' : Mem), J77_242 n rec18 x1 x2 x3 x4 x5 x6 x8 M = some (r, M') → pm_ev pmT sc e 77 false (242, [some (.ref 83), some (.int x1), some (.int x2), some (.int x3), some (.int x4), some (.int x5), some (.int x6), u7, some (.int x8), u9, u10], [], 129, 17845, hp M) (some (.int r), 129, 17845, hp M') := by
  intro x1 x2 x3 x4 x5 x6 x8 u7 u9 u10 M r M' h
  unfold J77_242 at h
  refine pe_blk mm_77 2 (s' := (247, [some (.ref 83), some (.int x1), some (.int x2), some (.int x3), some (.int x4), some (.int x5), some (.int x6), u7, some (.int x8), u9, u10], [.int 1], _, _, _)) rfl ?_
  exact J77_247_ev sc n e he rec18 hr18 x1 x2 x3 x4 x5 x6 x8 1 _ _ _ _ _ _ h
def J77_231 (n : Nat) (rec18 : Int32 → Int32 → Int32 → Int32 → Int32 → Int32 → Mem → Option (Int32 × Mem)) (x1 : Int32) (x2 : Int32) (x3 : Int32) (x4 : Int32) (x5 : Int32) (x6 : Int32) (x8 : Int32) (M : Mem) : Option (Int32 × Mem) :=
  J77_247 n rec18 x1 x2 x3 x4 x5 x6 x8 0 M
set_option maxRecDepth 100000 in
set_option maxHeartbeats 4000000 in
theorem J77_231_ev (sc : Option (Nat × (Nat → Int32))) (n : Nat)  (e : Nat) (he : 4 ≤ e) (rec18 : Int32 → Int32 → Int32 → Int32 → Int32 → Int32 → Mem → Option (Int32 × Mem)) (hr18 : ∀ (x1 : Int32) (x2 : Int32) (x3 : Int32) (x4 : Int32) (x5 : Int32) (x6 : Int32) (u7 : Option Value) (u8 : Option Value) (u9 : Option Value) (u10 : Option Value) (M : Mem) (r : Int32) (M' : Mem), rec18 x1 x2 x3 x4 x5 x6 M = some (r, M') → pm_ev pmT sc e 77 false (18, [some (.ref 83), some (.int x1), some (.int x2), some (.int x3), some (.int x4), some (.int x5), some (.int x6), u7, u8, u9, u10], [], 129, 17845, hp M) (some (.int r), 129, 17845, hp M')) : ∀ (x1 : Int32) (x2 : Int32) (x3 : Int32) (x4 : Int32) (x5 : Int32) (x6 : Int32) (x8 : Int32) (u7 : Option Value) (u9 : Option Value) (u10 : Option Value) (M : Mem) (r : Int32) (M' : Mem), J77_231 n rec18 x1 x2 x3 x4 x5 x6 x8 M = some (r, M') → pm_ev pmT sc e 77 false (231, [some (.ref 83), some (.int x1), some (.int x2), some (.int x3), some (.int x4), some (.int x5), some (.int x6), u7, some (.int x8), u9, u10], [], 129, 17845, hp M) (some (.int r), 129, 17845, hp M') := by
  intro x1 x2 x3 x4 x5 x6 x8 u7 u9 u10 M r M' h
  unfold J77_231 at h
  refine pe_blk mm_77 2 (s' := (247, [some (.ref 83), some (.int x1), some (.int x2), some (.int x3), some (.int x4), some (.int x5), some (.int x6), u7, some (.int x8), u9, u10], [.int 0], _, _, _)) rfl ?_
  exact J77_247_ev sc n e he rec18 hr18 x1 x2 x3 x4 x5 x6 x8 0 _ _ _ _ _ _ h
def J77_227 (n : Nat) (rec18 : Int32 → Int32 → Int32 → Int32 → Int32 → Int32 → Mem → Option (Int32 × Mem)) (x1 : Int32) (x2 : Int32) (x3 : Int32) (x4 : Int32) (x5 : Int32) (x6 : Int32) (x8 : Int32) (M : Mem) : Option (Int32 × Mem) :=
  J77_247 n rec18 x1 x2 x3 x4 x5 x6 x8 1 M
set_option maxRecDepth 100000 in
set_option maxHeartbeats 4000000 in
theorem J77_227_ev (sc : Option (Nat × (Nat → Int32))) (n : Nat)  (e : Nat) (he : 4 ≤ e) (rec18 : Int32 → Int32 → Int32 → Int32 → Int32 → Int32 → Mem → Option (Int32 × Mem)) (hr18 : ∀ (x1 : Int32) (x2 : Int32) (x3 : Int32) (x4 : Int32) (x5 : Int32) (x6 : Int32) (u7 : Option Value) (u8 : Option Value) (u9 : Option Value) (u10 : Option Value) (M : Mem) (r : Int32) (M' : Mem), rec18 x1 x2 x3 x4 x5 x6 M = some (r, M') → pm_ev pmT sc e 77 false (18, [some (.ref 83), some (.int x1), some (.int x2), some (.int x3), some (.int x4), some (.int x5), some (.int x6), u7, u8, u9, u10], [], 129, 17845, hp M) (some (.int r), 129, 17845, hp M')) : ∀ (x1 : Int32) (x2 : Int32) (x3 : Int32) (x4 : Int32) (x5 : Int32) (x6 : Int32) (x8 : Int32) (u7 : Option Value) (u9 : Option Value) (u10 : Option Value) (M : Mem) (r : Int32) (M' : Mem), J77_227 n rec18 x1 x2 x3 x4 x5 x6 x8 M = some (r, M') → pm_ev pmT sc e 77 false (227, [some (.ref 83), some (.int x1), some (.int x2), some (.int x3), some (.int x4), some (.int x5), some (.int x6), u7, some (.int x8), u9, u10], [], 129, 17845, hp M) (some (.int r), 129, 17845, hp M') := by
  intro x1 x2 x3 x4 x5 x6 x8 u7 u9 u10 M r M' h
  unfold J77_227 at h
  refine pe_blk mm_77 2 (s' := (247, [some (.ref 83), some (.int x1), some (.int x2), some (.int x3), some (.int x4), some (.int x5), some (.int x6), u7, some (.int x8), u9, u10], [.int 1], _, _, _)) rfl ?_
  exact J77_247_ev sc n e he rec18 hr18 x1 x2 x3 x4 x5 x6 x8 1 _ _ _ _ _ _ h
def J77_54 (n : Nat) (rec18 : Int32 → Int32 → Int32 → Int32 → Int32 → Int32 → Mem → Option (Int32 × Mem)) (x1 : Int32) (x2 : Int32) (x3 : Int32) (x4 : Int32) (x5 : Int32) (x6 : Int32) (x7 : Int32) (s0 : Int32) (M : Mem) : Option (Int32 × Mem) :=
  if x7 = 0 then (if x6 < 0 ∨ 128 ≤ (x6 : Int32).toNatClampNeg then none else (match F74 n (M.1 98 (x6 : Int32).toNatClampNeg) x1 M with | some (v9, M10) => (J77_328 n rec18 x1 x2 x3 x4 x5 (x6 + 1) M10) | none => none)) else (if x7 = 7 then (if x6 < 0 ∨ 128 ≤ (x6 : Int32).toNatClampNeg then none else (match F46 n (M.1 98 (x6 : Int32).toNatClampNeg) M with | some (v14, M15) => (J77_102 n rec18 x1 x2 x3 x4 x5 (x6 + 1) v14 M15) | none => none)) else (if x7 = 4 then (match F76 n x6 x2 M with | some (v21, M22) => (J77_130 n rec18 x1 x2 x3 x4 x5 x6 s0 v21 M22) | none => none) else (if s0 = 0 then (if x3 ≤ (x2 + 1) then (J77_246 n rec18 x1 x2 x3 x4 x5 x6 s0 M) else (J77_242 n rec18 x1 x2 x3 x4 x5 x6 s0 M)) else (if x5 ≤ (x4 + 1) then (J77_231 n rec18 x1 x2 x3 x4 x5 x6 s0 M) else (J77_227 n rec18 x1 x2 x3 x4 x5 x6 s0 M)))))
set_option maxRecDepth 100000 in
set_option maxHeartbeats 4000000 in
theorem J77_54_ev (sc : Option (Nat × (Nat → Int32))) (n : Nat)  (e : Nat) (he : 4 ≤ e) (rec18 : Int32 → Int32 → Int32 → Int32 → Int32 → Int32 → Mem → Option (Int32 × Mem)) (hr18 : ∀ (x1 : Int32) (x2 : Int32) (x3 : Int32) (x4 : Int32) (x5 : Int32) (x6 : Int32) (u7 : Option Value) (u8 : Option Value) (u9 : Option Value) (u10 : Option Value) (M : Mem) (r : Int32) (M' : Mem), rec18 x1 x2 x3 x4 x5 x6 M = some (r, M') → pm_ev pmT sc e 77 false (18, [some (.ref 83), some (.int x1), some (.int x2), some (.int x3), some (.int x4), some (.int x5), some (.int x6), u7, u8, u9, u10], [], 129, 17845, hp M) (some (.int r), 129, 17845, hp M')) : ∀ (x1 : Int32) (x2 : Int32) (x3 : Int32) (x4 : Int32) (x5 : Int32) (x6 : Int32) (x7 : Int32) (s0 : Int32) (u8 : Option Value) (u9 : Option Value) (u10 : Option Value) (M : Mem) (r : Int32) (M' : Mem), J77_54 n rec18 x1 x2 x3 x4 x5 x6 x7 s0 M = some (r, M') → pm_ev pmT sc e 77 false (54, [some (.ref 83), some (.int x1), some (.int x2), some (.int x3), some (.int x4), some (.int x5), some (.int x6), some (.int x7), u8, u9, u10], [.int s0], 129, 17845, hp M) (some (.int r), 129, 17845, hp M') := by
  intro x1 x2 x3 x4 x5 x6 x7 s0 u8 u9 u10 M r M' h
  unfold J77_54 at h
  refine pe_blk mm_77 6 (s' := (64, [some (.ref 83), some (.int x1), some (.int x2), some (.int x3), some (.int x4), some (.int x5), some (.int x6), some (.int x7), some (.int s0), some (.int (x6 + 1)), u10], [.int x7], _, _, _)) rfl ?_
  by_cases q7 : x7 = 0
  · rw [if_pos q7] at h
    refine pe_blk mm_77 1 (s' := (if x7 = 0 then 67 else 82, [some (.ref 83), some (.int x1), some (.int x2), some (.int x3), some (.int x4), some (.int x5), some (.int x6), some (.int x7), some (.int s0), some (.int (x6 + 1)), u10], [], _, _, _)) rfl ?_
    rw [if_pos q7]
    refine pe_blk mm_77 2 (s' := (69, [some (.ref 83), some (.int x1), some (.int x2), some (.int x3), some (.int x4), some (.int x5), some (.int x6), some (.int x7), some (.int s0), some (.int (x6 + 1)), u10], [.ref 83, .ref 83], _, _, _)) rfl ?_
    refine pe_get mm_77 rfl rfl rfl (by decide) rfl ?_
    refine pe_blk mm_77 1 (s' := (74, [some (.ref 83), some (.int x1), some (.int x2), some (.int x3), some (.int x4), some (.int x5), some (.int x6), some (.int x7), some (.int s0), some (.int (x6 + 1)), u10], [.int x6, .ref 98, .ref 83], _, _, _)) rfl ?_
    by_cases q8 : x6 < 0 ∨ 128 ≤ (x6 : Int32).toNatClampNeg
    · rw [if_pos q8] at h
      cases h
    · rw [if_neg q8] at h
      refine pe_iald (f := M.1 98) mm_77 rfl rfl (by decide) q8 ?_
      refine pe_blk mm_77 1 (s' := (76, [some (.ref 83), some (.int x1), some (.int x2), some (.int x3), some (.int x4), some (.int x5), some (.int x6), some (.int x7), some (.int s0), some (.int (x6 + 1)), u10], [.int x1, .int (M.1 98 (x6 : Int32).toNatClampNeg), .ref 83], _, _, _)) rfl ?_
      obtain ⟨e1, rfl⟩ : ∃ e1, e = e1 + 1 := ⟨e - 1, by omega⟩
      cases hc11 : F74 n (M.1 98 (x6 : Int32).toNatClampNeg) x1 M with
      | none => rw [hc11] at h; cases h
      | some w =>
        obtain ⟨v9, M10⟩ := w
        rw [hc11] at h
        dsimp only at h
        refine pe_virt (al := [.int x1, .int (M.1 98 (x6 : Int32).toNatClampNeg)]) (a := 83) (L0 := [some (.ref 83), some (.int (M.1 98 (x6 : Int32).toNatClampNeg)), some (.int x1)]) (r1 := (none, 129, 17845, hp M10)) mm_77 rfl rfl rfl mm_74 rfl (by decide) (by decide) rfl (Nat.le_of_ble_eq_true rfl) (Nat.le_of_ble_eq_true rfl) rfl rfl (F74_ev sc n (M.1 98 (x6 : Int32).toNatClampNeg) x1 _ e1 (by omega) _ _ hc11) ?_
        show pm_ev _ _ _ _ _ (79, [some (.ref 83), some (.int x1), some (.int x2), some (.int x3), some (.int x4), some (.int x5), some (.int x6), some (.int x7), some (.int s0), some (.int (x6 + 1)), u10], [], _, _, _) _
        refine pe_blk mm_77 1 (s' := (328, [some (.ref 83), some (.int x1), some (.int x2), some (.int x3), some (.int x4), some (.int x5), some (.int x6), some (.int x7), some (.int s0), some (.int (x6 + 1)), u10], [], _, _, _)) rfl ?_
        exact J77_328_ev sc n (e1 + 1) he rec18 hr18 x1 x2 x3 x4 x5 (x6 + 1) _ _ _ _ _ _ _ h
  · rw [if_neg q7] at h
    refine pe_blk mm_77 1 (s' := (if x7 = 0 then 67 else 82, [some (.ref 83), some (.int x1), some (.int x2), some (.int x3), some (.int x4), some (.int x5), some (.int x6), some (.int x7), some (.int s0), some (.int (x6 + 1)), u10], [], _, _, _)) rfl ?_
    rw [if_neg q7]
    refine pe_blk mm_77 2 (s' := (86, [some (.ref 83), some (.int x1), some (.int x2), some (.int x3), some (.int x4), some (.int x5), some (.int x6), some (.int x7), some (.int s0), some (.int (x6 + 1)), u10], [.int 7, .int x7], _, _, _)) rfl ?_
    by_cases q12 : x7 = 7
    · rw [if_pos q12] at h
      refine pe_blk mm_77 1 (s' := (if x7 = 7 then 89 else 115, [some (.ref 83), some (.int x1), some (.int x2), some (.int x3), some (.int x4), some (.int x5), some (.int x6), some (.int x7), some (.int s0), some (.int (x6 + 1)), u10], [], _, _, _)) rfl ?_
      rw [if_pos q12]
      refine pe_blk mm_77 2 (s' := (91, [some (.ref 83), some (.int x1), some (.int x2), some (.int x3), some (.int x4), some (.int x5), some (.int x6), some (.int x7), some (.int s0), some (.int (x6 + 1)), u10], [.ref 83, .ref 83], _, _, _)) rfl ?_
      refine pe_get mm_77 rfl rfl rfl (by decide) rfl ?_
      refine pe_blk mm_77 1 (s' := (96, [some (.ref 83), some (.int x1), some (.int x2), some (.int x3), some (.int x4), some (.int x5), some (.int x6), some (.int x7), some (.int s0), some (.int (x6 + 1)), u10], [.int x6, .ref 98, .ref 83], _, _, _)) rfl ?_
      by_cases q13 : x6 < 0 ∨ 128 ≤ (x6 : Int32).toNatClampNeg
      · rw [if_pos q13] at h
        cases h
      · rw [if_neg q13] at h
        refine pe_iald (f := M.1 98) mm_77 rfl rfl (by decide) q13 ?_
        obtain ⟨e1, rfl⟩ : ∃ e1, e = e1 + 1 := ⟨e - 1, by omega⟩
        cases hc16 : F46 n (M.1 98 (x6 : Int32).toNatClampNeg) M with
        | none => rw [hc16] at h; cases h
        | some w =>
          obtain ⟨v14, M15⟩ := w
          rw [hc16] at h
          dsimp only at h
          refine pe_virt (al := [.int (M.1 98 (x6 : Int32).toNatClampNeg)]) (a := 83) (L0 := [some (.ref 83), some (.int (M.1 98 (x6 : Int32).toNatClampNeg)), none, none]) (r1 := (some (.int v14), 129, 17845, hp M15)) mm_77 rfl rfl rfl mm_46 rfl (by decide) (by decide) rfl (Nat.le_of_ble_eq_true rfl) (Nat.le_of_ble_eq_true rfl) rfl rfl (F46_ev sc n (M.1 98 (x6 : Int32).toNatClampNeg) _ e1 (by omega) _ _ hc16) ?_
          show pm_ev _ _ _ _ _ (100, [some (.ref 83), some (.int x1), some (.int x2), some (.int x3), some (.int x4), some (.int x5), some (.int x6), some (.int x7), some (.int s0), some (.int (x6 + 1)), u10], [.int v14], _, _, _) _
          refine pe_blk mm_77 1 (s' := (102, [some (.ref 83), some (.int x1), some (.int x2), some (.int x3), some (.int x4), some (.int x5), some (.int x6), some (.int x7), some (.int s0), some (.int (x6 + 1)), some (.int v14)], [], _, _, _)) rfl ?_
          exact J77_102_ev sc n (e1 + 1) he rec18 hr18 x1 x2 x3 x4 x5 (x6 + 1) v14 _ _ _ _ _ _ h
    · rw [if_neg q12] at h
      refine pe_blk mm_77 1 (s' := (if x7 = 7 then 89 else 115, [some (.ref 83), some (.int x1), some (.int x2), some (.int x3), some (.int x4), some (.int x5), some (.int x6), some (.int x7), some (.int s0), some (.int (x6 + 1)), u10], [], _, _, _)) rfl ?_
      rw [if_neg q12]
      refine pe_blk mm_77 2 (s' := (118, [some (.ref 83), some (.int x1), some (.int x2), some (.int x3), some (.int x4), some (.int x5), some (.int x6), some (.int x7), some (.int s0), some (.int (x6 + 1)), u10], [.int 4, .int x7], _, _, _)) rfl ?_
      by_cases q20 : x7 = 4
      · rw [if_pos q20] at h
        refine pe_blk mm_77 1 (s' := (if x7 = 4 then 121 else 213, [some (.ref 83), some (.int x1), some (.int x2), some (.int x3), some (.int x4), some (.int x5), some (.int x6), some (.int x7), some (.int s0), some (.int (x6 + 1)), u10], [], _, _, _)) rfl ?_
        rw [if_pos q20]
        refine pe_blk mm_77 3 (s' := (125, [some (.ref 83), some (.int x1), some (.int x2), some (.int x3), some (.int x4), some (.int x5), some (.int x6), some (.int x7), some (.int s0), some (.int (x6 + 1)), u10], [.int x2, .int x6, .ref 83], _, _, _)) rfl ?_
        obtain ⟨e1, rfl⟩ : ∃ e1, e = e1 + 1 := ⟨e - 1, by omega⟩
        cases hc23 : F76 n x6 x2 M with
        | none => rw [hc23] at h; cases h
        | some w =>
          obtain ⟨v21, M22⟩ := w
          rw [hc23] at h
          dsimp only at h
          refine pe_virt (al := [.int x2, .int x6]) (a := 83) (L0 := [some (.ref 83), some (.int x6), some (.int x2), none, none, none, none, none]) (r1 := (some (.int v21), 129, 17845, hp M22)) mm_77 rfl rfl rfl mm_76 rfl (by decide) (by decide) rfl (Nat.le_of_ble_eq_true rfl) (Nat.le_of_ble_eq_true rfl) rfl rfl (F76_ev sc n x6 x2 _ e1 (by omega) _ _ hc23) ?_
          show pm_ev _ _ _ _ _ (128, [some (.ref 83), some (.int x1), some (.int x2), some (.int x3), some (.int x4), some (.int x5), some (.int x6), some (.int x7), some (.int s0), some (.int (x6 + 1)), u10], [.int v21], _, _, _) _
          refine pe_blk mm_77 1 (s' := (130, [some (.ref 83), some (.int x1), some (.int x2), some (.int x3), some (.int x4), some (.int x5), some (.int x6), some (.int x7), some (.int s0), some (.int (x6 + 1)), some (.int v21)], [], _, _, _)) rfl ?_
          exact J77_130_ev sc n (e1 + 1) he rec18 hr18 x1 x2 x3 x4 x5 x6 s0 v21 _ _ _ _ _ h
      · rw [if_neg q20] at h
        refine pe_blk mm_77 1 (s' := (if x7 = 4 then 121 else 213, [some (.ref 83), some (.int x1), some (.int x2), some (.int x3), some (.int x4), some (.int x5), some (.int x6), some (.int x7), some (.int s0), some (.int (x6 + 1)), u10], [], _, _, _)) rfl ?_
        rw [if_neg q20]
        refine pe_blk mm_77 1 (s' := (215, [some (.ref 83), some (.int x1), some (.int x2), some (.int x3), some (.int x4), some (.int x5), some (.int x6), some (.int x7), some (.int s0), some (.int (x6 + 1)), u10], [.int s0], _, _, _)) rfl ?_
        by_cases q31 : s0 = 0
        · rw [if_pos q31] at h
          refine pe_blk mm_77 1 (s' := (if s0 = 0 then 235 else 218, [some (.ref 83), some (.int x1), some (.int x2), some (.int x3), some (.int x4), some (.int x5), some (.int x6), some (.int x7), some (.int s0), some (.int (x6 + 1)), u10], [], _, _, _)) rfl ?_
          rw [if_pos q31]
          refine pe_blk mm_77 4 (s' := (239, [some (.ref 83), some (.int x1), some (.int x2), some (.int x3), some (.int x4), some (.int x5), some (.int x6), some (.int x7), some (.int s0), some (.int (x6 + 1)), u10], [.int x3, .int (x2 + 1)], _, _, _)) rfl ?_
          by_cases q32 : x3 ≤ (x2 + 1)
          · rw [if_pos q32] at h
            refine pe_blk mm_77 1 (s' := (if x3 ≤ (x2 + 1) then 246 else 242, [some (.ref 83), some (.int x1), some (.int x2), some (.int x3), some (.int x4), some (.int x5), some (.int x6), some (.int x7), some (.int s0), some (.int (x6 + 1)), u10], [], _, _, _)) rfl ?_
            rw [if_pos q32]
            exact J77_246_ev sc n e he rec18 hr18 x1 x2 x3 x4 x5 x6 s0 _ _ _ _ _ _ h
          · rw [if_neg q32] at h
            refine pe_blk mm_77 1 (s' := (if x3 ≤ (x2 + 1) then 246 else 242, [some (.ref 83), some (.int x1), some (.int x2), some (.int x3), some (.int x4), some (.int x5), some (.int x6), some (.int x7), some (.int s0), some (.int (x6 + 1)), u10], [], _, _, _)) rfl ?_
            rw [if_neg q32]
            exact J77_242_ev sc n e he rec18 hr18 x1 x2 x3 x4 x5 x6 s0 _ _ _ _ _ _ h
        · rw [if_neg q31] at h
          refine pe_blk mm_77 1 (s' := (if s0 = 0 then 235 else 218, [some (.ref 83), some (.int x1), some (.int x2), some (.int x3), some (.int x4), some (.int x5), some (.int x6), some (.int x7), some (.int s0), some (.int (x6 + 1)), u10], [], _, _, _)) rfl ?_
          rw [if_neg q31]
          refine pe_blk mm_77 4 (s' := (224, [some (.ref 83), some (.int x1), some (.int x2), some (.int x3), some (.int x4), some (.int x5), some (.int x6), some (.int x7), some (.int s0), some (.int (x6 + 1)), u10], [.int x5, .int (x4 + 1)], _, _, _)) rfl ?_
          by_cases q44 : x5 ≤ (x4 + 1)
          · rw [if_pos q44] at h
            refine pe_blk mm_77 1 (s' := (if x5 ≤ (x4 + 1) then 231 else 227, [some (.ref 83), some (.int x1), some (.int x2), some (.int x3), some (.int x4), some (.int x5), some (.int x6), some (.int x7), some (.int s0), some (.int (x6 + 1)), u10], [], _, _, _)) rfl ?_
            rw [if_pos q44]
            exact J77_231_ev sc n e he rec18 hr18 x1 x2 x3 x4 x5 x6 s0 _ _ _ _ _ _ h
          · rw [if_neg q44] at h
            refine pe_blk mm_77 1 (s' := (if x5 ≤ (x4 + 1) then 231 else 227, [some (.ref 83), some (.int x1), some (.int x2), some (.int x3), some (.int x4), some (.int x5), some (.int x6), some (.int x7), some (.int s0), some (.int (x6 + 1)), u10], [], _, _, _)) rfl ?_
            rw [if_neg q44]
            exact J77_227_ev sc n e he rec18 hr18 x1 x2 x3 x4 x5 x6 s0 _ _ _ _ _ _ h
def J77_53 (n : Nat) (rec18 : Int32 → Int32 → Int32 → Int32 → Int32 → Int32 → Mem → Option (Int32 × Mem)) (x1 : Int32) (x2 : Int32) (x3 : Int32) (x4 : Int32) (x5 : Int32) (x6 : Int32) (x7 : Int32) (M : Mem) : Option (Int32 × Mem) :=
  J77_54 n rec18 x1 x2 x3 x4 x5 x6 x7 0 M
set_option maxRecDepth 100000 in
set_option maxHeartbeats 4000000 in
theorem J77_53_ev (sc : Option (Nat × (Nat → Int32))) (n : Nat)  (e : Nat) (he : 4 ≤ e) (rec18 : Int32 → Int32 → Int32 → Int32 → Int32 → Int32 → Mem → Option (Int32 × Mem)) (hr18 : ∀ (x1 : Int32) (x2 : Int32) (x3 : Int32) (x4 : Int32) (x5 : Int32) (x6 : Int32) (u7 : Option Value) (u8 : Option Value) (u9 : Option Value) (u10 : Option Value) (M : Mem) (r : Int32) (M' : Mem), rec18 x1 x2 x3 x4 x5 x6 M = some (r, M') → pm_ev pmT sc e 77 false (18, [some (.ref 83), some (.int x1), some (.int x2), some (.int x3), some (.int x4), some (.int x5), some (.int x6), u7, u8, u9, u10], [], 129, 17845, hp M) (some (.int r), 129, 17845, hp M')) : ∀ (x1 : Int32) (x2 : Int32) (x3 : Int32) (x4 : Int32) (x5 : Int32) (x6 : Int32) (x7 : Int32) (u8 : Option Value) (u9 : Option Value) (u10 : Option Value) (M : Mem) (r : Int32) (M' : Mem), J77_53 n rec18 x1 x2 x3 x4 x5 x6 x7 M = some (r, M') → pm_ev pmT sc e 77 false (53, [some (.ref 83), some (.int x1), some (.int x2), some (.int x3), some (.int x4), some (.int x5), some (.int x6), some (.int x7), u8, u9, u10], [], 129, 17845, hp M) (some (.int r), 129, 17845, hp M') := by
  intro x1 x2 x3 x4 x5 x6 x7 u8 u9 u10 M r M' h
  unfold J77_53 at h
  refine pe_blk mm_77 1 (s' := (54, [some (.ref 83), some (.int x1), some (.int x2), some (.int x3), some (.int x4), some (.int x5), some (.int x6), some (.int x7), u8, u9, u10], [.int 0], _, _, _)) rfl ?_
  exact J77_54_ev sc n e he rec18 hr18 x1 x2 x3 x4 x5 x6 x7 0 _ _ _ _ _ _ h
def J77_49 (n : Nat) (rec18 : Int32 → Int32 → Int32 → Int32 → Int32 → Int32 → Mem → Option (Int32 × Mem)) (x1 : Int32) (x2 : Int32) (x3 : Int32) (x4 : Int32) (x5 : Int32) (x6 : Int32) (x7 : Int32) (M : Mem) : Option (Int32 × Mem) :=
  J77_54 n rec18 x1 x2 x3 x4 x5 x6 x7 1 M
set_option maxRecDepth 100000 in
set_option maxHeartbeats 4000000 in
theorem J77_49_ev (sc : Option (Nat × (Nat → Int32))) (n : Nat)  (e : Nat) (he : 4 ≤ e) (rec18 : Int32 → Int32 → Int32 → Int32 → Int32 → Int32 → Mem → Option (Int32 × Mem)) (hr18 : ∀ (x1 : Int32) (x2 : Int32) (x3 : Int32) (x4 : Int32) (x5 : Int32) (x6 : Int32) (u7 : Option Value) (u8 : Option Value) (u9 : Option Value) (u10 : Option Value) (M : Mem) (r : Int32) (M' : Mem), rec18 x1 x2 x3 x4 x5 x6 M = some (r, M') → pm_ev pmT sc e 77 false (18, [some (.ref 83), some (.int x1), some (.int x2), some (.int x3), some (.int x4), some (.int x5), some (.int x6), u7, u8, u9, u10], [], 129, 17845, hp M) (some (.int r), 129, 17845, hp M')) : ∀ (x1 : Int32) (x2 : Int32) (x3 : Int32) (x4 : Int32) (x5 : Int32) (x6 : Int32) (x7 : Int32) (u8 : Option Value) (u9 : Option Value) (u10 : Option Value) (M : Mem) (r : Int32) (M' : Mem), J77_49 n rec18 x1 x2 x3 x4 x5 x6 x7 M = some (r, M') → pm_ev pmT sc e 77 false (49, [some (.ref 83), some (.int x1), some (.int x2), some (.int x3), some (.int x4), some (.int x5), some (.int x6), some (.int x7), u8, u9, u10], [], 129, 17845, hp M) (some (.int r), 129, 17845, hp M') := by
  intro x1 x2 x3 x4 x5 x6 x7 u8 u9 u10 M r M' h
  unfold J77_49 at h
  refine pe_blk mm_77 2 (s' := (54, [some (.ref 83), some (.int x1), some (.int x2), some (.int x3), some (.int x4), some (.int x5), some (.int x6), some (.int x7), u8, u9, u10], [.int 1], _, _, _)) rfl ?_
  exact J77_54_ev sc n e he rec18 hr18 x1 x2 x3 x4 x5 x6 x7 1 _ _ _ _ _ _ h
def L77_18 (n : Nat) : Nat → Int32 → Int32 → Int32 → Int32 → Int32 → Int32 → Mem → Option (Int32 × Mem)
  | 0, _, _, _, _, _, _, _ => none
  | k + 1, x1, x2, x3, x4, x5, x6, M => if x6 < 0 ∨ 128 ≤ (x6 : Int32).toNatClampNeg then none else (if (M.1 97 (x6 : Int32).toNatClampNeg) = 6 then (some (1, M)) else (if x6 < 0 ∨ 128 ≤ (x6 : Int32).toNatClampNeg then none else (if x6 < 0 ∨ 128 ≤ (x6 : Int32).toNatClampNeg then none else (if (M.1 101 (x6 : Int32).toNatClampNeg) < 0 then (J77_53 n (L77_18 n k) x1 x2 x3 x4 x5 x6 (M.1 97 (x6 : Int32).toNatClampNeg) M) else (J77_49 n (L77_18 n k) x1 x2 x3 x4 x5 x6 (M.1 97 (x6 : Int32).toNatClampNeg) M)))))
set_option maxRecDepth 100000 in
set_option maxHeartbeats 4000000 in
theorem L77_18_ev (sc : Option (Nat × (Nat → Int32))) (n : Nat)  (e : Nat) (he : 4 ≤ e) : ∀ k : Nat, ∀ (x1 : Int32) (x2 : Int32) (x3 : Int32) (x4 : Int32) (x5 : Int32) (x6 : Int32) (u7 : Option Value) (u8 : Option Value) (u9 : Option Value) (u10 : Option Value) (M : Mem) (r : Int32) (M' : Mem), L77_18 n k x1 x2 x3 x4 x5 x6 M = some (r, M') → pm_ev pmT sc e 77 false (18, [some (.ref 83), some (.int x1), some (.int x2), some (.int x3), some (.int x4), some (.int x5), some (.int x6), u7, u8, u9, u10], [], 129, 17845, hp M) (some (.int r), 129, 17845, hp M') := by
  intro k
  induction k with
  | zero => intro x1 x2 x3 x4 x5 x6 u7 u8 u9 u10 M r M' h; cases h
  | succ k hr18 =>
    intro x1 x2 x3 x4 x5 x6 u7 u8 u9 u10 M r M' h
    rw [L77_18] at h
    refine pe_blk mm_77 1 (s' := (19, [some (.ref 83), some (.int x1), some (.int x2), some (.int x3), some (.int x4), some (.int x5), some (.int x6), u7, u8, u9, u10], [.ref 83], _, _, _)) rfl ?_
    refine pe_get mm_77 rfl rfl rfl (by decide) rfl ?_
    refine pe_blk mm_77 1 (s' := (24, [some (.ref 83), some (.int x1), some (.int x2), some (.int x3), some (.int x4), some (.int x5), some (.int x6), u7, u8, u9, u10], [.int x6, .ref 97], _, _, _)) rfl ?_
    by_cases q2 : x6 < 0 ∨ 128 ≤ (x6 : Int32).toNatClampNeg
    · rw [if_pos q2] at h
      cases h
    · rw [if_neg q2] at h
      refine pe_iald (f := M.1 97) mm_77 rfl rfl (by decide) q2 ?_
      refine pe_blk mm_77 1 (s' := (27, [some (.ref 83), some (.int x1), some (.int x2), some (.int x3), some (.int x4), some (.int x5), some (.int x6), u7, u8, u9, u10], [.int 6, .int (M.1 97 (x6 : Int32).toNatClampNeg)], _, _, _)) rfl ?_
      by_cases q3 : (M.1 97 (x6 : Int32).toNatClampNeg) = 6
      · rw [if_pos q3] at h
        refine pe_blk mm_77 1 (s' := (if (M.1 97 (x6 : Int32).toNatClampNeg) = 6 then 335 else 30, [some (.ref 83), some (.int x1), some (.int x2), some (.int x3), some (.int x4), some (.int x5), some (.int x6), u7, u8, u9, u10], [], _, _, _)) rfl ?_
        rw [if_pos q3]
        refine pe_blk mm_77 1 (s' := (336, [some (.ref 83), some (.int x1), some (.int x2), some (.int x3), some (.int x4), some (.int x5), some (.int x6), u7, u8, u9, u10], [.int 1], _, _, _)) rfl ?_
        cases h
        exact pe_ret mm_77 rfl rfl
      · rw [if_neg q3] at h
        refine pe_blk mm_77 1 (s' := (if (M.1 97 (x6 : Int32).toNatClampNeg) = 6 then 335 else 30, [some (.ref 83), some (.int x1), some (.int x2), some (.int x3), some (.int x4), some (.int x5), some (.int x6), u7, u8, u9, u10], [], _, _, _)) rfl ?_
        rw [if_neg q3]
        refine pe_blk mm_77 1 (s' := (31, [some (.ref 83), some (.int x1), some (.int x2), some (.int x3), some (.int x4), some (.int x5), some (.int x6), u7, u8, u9, u10], [.ref 83], _, _, _)) rfl ?_
        refine pe_get mm_77 rfl rfl rfl (by decide) rfl ?_
        refine pe_blk mm_77 1 (s' := (36, [some (.ref 83), some (.int x1), some (.int x2), some (.int x3), some (.int x4), some (.int x5), some (.int x6), u7, u8, u9, u10], [.int x6, .ref 97], _, _, _)) rfl ?_
        by_cases q4 : x6 < 0 ∨ 128 ≤ (x6 : Int32).toNatClampNeg
        · rw [if_pos q4] at h
          cases h
        · rw [if_neg q4] at h
          refine pe_iald (f := M.1 97) mm_77 rfl rfl (by decide) q4 ?_
          refine pe_blk mm_77 2 (s' := (40, [some (.ref 83), some (.int x1), some (.int x2), some (.int x3), some (.int x4), some (.int x5), some (.int x6), some (.int (M.1 97 (x6 : Int32).toNatClampNeg)), u8, u9, u10], [.ref 83], _, _, _)) rfl ?_
          refine pe_get mm_77 rfl rfl rfl (by decide) rfl ?_
          refine pe_blk mm_77 1 (s' := (45, [some (.ref 83), some (.int x1), some (.int x2), some (.int x3), some (.int x4), some (.int x5), some (.int x6), some (.int (M.1 97 (x6 : Int32).toNatClampNeg)), u8, u9, u10], [.int x6, .ref 101], _, _, _)) rfl ?_
          by_cases q5 : x6 < 0 ∨ 128 ≤ (x6 : Int32).toNatClampNeg
          · rw [if_pos q5] at h
            cases h
          · rw [if_neg q5] at h
            refine pe_iald (f := M.1 101) mm_77 rfl rfl (by decide) q5 ?_
            by_cases q6 : (M.1 101 (x6 : Int32).toNatClampNeg) < 0
            · rw [if_pos q6] at h
              refine pe_blk mm_77 1 (s' := (if (M.1 101 (x6 : Int32).toNatClampNeg) < 0 then 53 else 49, [some (.ref 83), some (.int x1), some (.int x2), some (.int x3), some (.int x4), some (.int x5), some (.int x6), some (.int (M.1 97 (x6 : Int32).toNatClampNeg)), u8, u9, u10], [], _, _, _)) rfl ?_
              rw [if_pos q6]
              exact J77_53_ev sc n e he (L77_18 n k) hr18 x1 x2 x3 x4 x5 x6 (M.1 97 (x6 : Int32).toNatClampNeg) _ _ _ _ _ _ h
            · rw [if_neg q6] at h
              refine pe_blk mm_77 1 (s' := (if (M.1 101 (x6 : Int32).toNatClampNeg) < 0 then 53 else 49, [some (.ref 83), some (.int x1), some (.int x2), some (.int x3), some (.int x4), some (.int x5), some (.int x6), some (.int (M.1 97 (x6 : Int32).toNatClampNeg)), u8, u9, u10], [], _, _, _)) rfl ?_
              rw [if_neg q6]
              exact J77_49_ev sc n e he (L77_18 n k) hr18 x1 x2 x3 x4 x5 x6 (M.1 97 (x6 : Int32).toNatClampNeg) _ _ _ _ _ _ h
/-- ArmExpanderModel.makeBody -/
def F77 (n : Nat) (a0 : Int32) (M : Mem) : Option (Int32 × Mem) :=
  mlet (m_i M 83 62 0) (fun M1 => L77_18 n n a0 0 0 0 0 0 M1)
set_option maxRecDepth 100000 in
set_option maxHeartbeats 4000000 in
theorem F77_ev (sc : Option (Nat × (Nat → Int32))) (n : Nat) (a0 : Int32)  (M : Mem) (e : Nat) (he : 4 ≤ e) (r : Int32) (M' : Mem) (h : F77 n a0 M = some (r, M')) : pm_ev pmT sc e 77 false (0, [some (.ref 83), some (.int a0), none, none, none, none, none, none, none, none, none], [], 129, 17845, hp M) (some (.int r), 129, 17845, hp M') := by
  unfold F77 at h
  refine pe_blk mm_77 10 (s' := (12, [some (.ref 83), some (.int a0), some (.int 0), some (.int 0), some (.int 0), some (.int 0), none, none, none, none, none], [.int 0, .ref 83], _, _, _)) rfl ?_
  refine pe_puti mm_77 rfl rfl rfl (by decide) (Nat.le_of_ble_eq_true rfl) rfl rfl ?_
  show pm_ev _ _ _ _ _ (15, [some (.ref 83), some (.int a0), some (.int 0), some (.int 0), some (.int 0), some (.int 0), none, none, none, none, none], [], _, _, hp (m_i M 83 62 0)) _
  generalize m_i M 83 62 0 = M1 at h ⊢
  rw [mlet] at h
  refine pe_blk mm_77 2 (s' := (18, [some (.ref 83), some (.int a0), some (.int 0), some (.int 0), some (.int 0), some (.int 0), some (.int 0), none, none, none, none], [], _, _, _)) rfl ?_
  exact L77_18_ev sc n e he n a0 0 0 0 0 0 _ _ _ _ _ _ _ h
def J78_181 (n : Nat) (s0 : Int32) (M : Mem) : Option (Int32 × Mem) :=
  if s0 = 0 ∨ s0 = 1 then some (s0, M) else none
set_option maxRecDepth 100000 in
set_option maxHeartbeats 4000000 in
theorem J78_181_ev (sc : Option (Nat × (Nat → Int32))) (n : Nat)  (e : Nat) (he : 4 ≤ e) : ∀ (s0 : Int32) (u0 : Option Value) (u1 : Option Value) (M : Mem) (r : Int32) (M' : Mem), J78_181 n s0 M = some (r, M') → pm_ev pmT sc e 78 false (181, [u0, u1], [.int s0], 129, 17845, hp M) (some (.int r), 129, 17845, hp M') := by
  intro s0 u0 u1 M r M' h
  unfold J78_181 at h
  by_cases q4 : s0 = 0 ∨ s0 = 1
  · rw [if_pos q4] at h
    cases h
    exact pe_ret mm_78 rfl (if_pos q4)
  · rw [if_neg q4] at h
    cases h
def J78_176 (n : Nat) (M : Mem) : Option (Int32 × Mem) :=
  J78_181 n 1 M
set_option maxRecDepth 100000 in
set_option maxHeartbeats 4000000 in
theorem J78_176_ev (sc : Option (Nat × (Nat → Int32))) (n : Nat)  (e : Nat) (he : 4 ≤ e) : ∀ (u0 : Option Value) (u1 : Option Value) (M : Mem) (r : Int32) (M' : Mem), J78_176 n  M = some (r, M') → pm_ev pmT sc e 78 false (176, [u0, u1], [], 129, 17845, hp M) (some (.int r), 129, 17845, hp M') := by
  intro u0 u1 M r M' h
  unfold J78_176 at h
  refine pe_blk mm_78 2 (s' := (181, [u0, u1], [.int 1], _, _, _)) rfl ?_
  exact J78_181_ev sc n e he 1 _ _ _ _ _ h
def J78_180 (n : Nat) (M : Mem) : Option (Int32 × Mem) :=
  J78_181 n 0 M
set_option maxRecDepth 100000 in
set_option maxHeartbeats 4000000 in
theorem J78_180_ev (sc : Option (Nat × (Nat → Int32))) (n : Nat)  (e : Nat) (he : 4 ≤ e) : ∀ (u0 : Option Value) (u1 : Option Value) (M : Mem) (r : Int32) (M' : Mem), J78_180 n  M = some (r, M') → pm_ev pmT sc e 78 false (180, [u0, u1], [], 129, 17845, hp M) (some (.int r), 129, 17845, hp M') := by
  intro u0 u1 M r M' h
  unfold J78_180 at h
  refine pe_blk mm_78 1 (s' := (181, [u0, u1], [.int 0], _, _, _)) rfl ?_
  exact J78_181_ev sc n e he 0 _ _ _ _ _ h
def J78_37 (n : Nat) (M : Mem) : Option (Int32 × Mem) :=
  match F29 n M with | some (v10, M11) => (if v10 = 0 ∨ v10 = 1 then some (v10, M11) else none) | none => none
set_option maxRecDepth 100000 in
set_option maxHeartbeats 4000000 in
theorem J78_37_ev (sc : Option (Nat × (Nat → Int32))) (n : Nat)  (e : Nat) (he : 4 ≤ e) : ∀ (u1 : Option Value) (M : Mem) (r : Int32) (M' : Mem), J78_37 n  M = some (r, M') → pm_ev pmT sc e 78 false (37, [some (.ref 83), u1], [], 129, 17845, hp M) (some (.int r), 129, 17845, hp M') := by
  intro u1 M r M' h
  unfold J78_37 at h
  refine pe_blk mm_78 1 (s' := (38, [some (.ref 83), u1], [.ref 83], _, _, _)) rfl ?_
  obtain ⟨e1, rfl⟩ : ∃ e1, e = e1 + 1 := ⟨e - 1, by omega⟩
  cases hc12 : F29 n M with
  | none => rw [hc12] at h; cases h
  | some w =>
    obtain ⟨v10, M11⟩ := w
    rw [hc12] at h
    dsimp only at h
    refine pe_virt (al := []) (a := 83) (L0 := [some (.ref 83)]) (r1 := (some (.int v10), 129, 17845, hp M11)) mm_78 rfl rfl rfl mm_29 rfl (by decide) (by decide) rfl (Nat.le_of_ble_eq_true rfl) (Nat.le_of_ble_eq_true rfl) rfl rfl (F29_ev sc n _ e1 (by omega) _ _ hc12) ?_
    show pm_ev _ _ _ _ _ (41, [some (.ref 83), u1], [.int v10], _, _, _) _
    by_cases q13 : v10 = 0 ∨ v10 = 1
    · rw [if_pos q13] at h
      cases h
      exact pe_ret mm_78 rfl (if_pos q13)
    · rw [if_neg q13] at h
      cases h
def J78_72 (n : Nat) (M : Mem) : Option (Int32 × Mem) :=
  match F29 n M with | some (v18, M19) => (if v18 = 0 ∨ v18 = 1 then some (v18, M19) else none) | none => none
set_option maxRecDepth 100000 in
set_option maxHeartbeats 4000000 in
theorem J78_72_ev (sc : Option (Nat × (Nat → Int32))) (n : Nat)  (e : Nat) (he : 4 ≤ e) : ∀ (u1 : Option Value) (M : Mem) (r : Int32) (M' : Mem), J78_72 n  M = some (r, M') → pm_ev pmT sc e 78 false (72, [some (.ref 83), u1], [], 129, 17845, hp M) (some (.int r), 129, 17845, hp M') := by
  intro u1 M r M' h
  unfold J78_72 at h
  refine pe_blk mm_78 1 (s' := (73, [some (.ref 83), u1], [.ref 83], _, _, _)) rfl ?_
  obtain ⟨e1, rfl⟩ : ∃ e1, e = e1 + 1 := ⟨e - 1, by omega⟩
  cases hc20 : F29 n M with
  | none => rw [hc20] at h; cases h
  | some w =>
    obtain ⟨v18, M19⟩ := w
    rw [hc20] at h
    dsimp only at h
    refine pe_virt (al := []) (a := 83) (L0 := [some (.ref 83)]) (r1 := (some (.int v18), 129, 17845, hp M19)) mm_78 rfl rfl rfl mm_29 rfl (by decide) (by decide) rfl (Nat.le_of_ble_eq_true rfl) (Nat.le_of_ble_eq_true rfl) rfl rfl (F29_ev sc n _ e1 (by omega) _ _ hc20) ?_
    show pm_ev _ _ _ _ _ (76, [some (.ref 83), u1], [.int v18], _, _, _) _
    by_cases q21 : v18 = 0 ∨ v18 = 1
    · rw [if_pos q21] at h
      cases h
      exact pe_ret mm_78 rfl (if_pos q21)
    · rw [if_neg q21] at h
      cases h
def J78_148 (n : Nat) (rec7 : Int32 → Mem → Option (Int32 × Mem)) (x1 : Int32) (M : Mem) : Option (Int32 × Mem) :=
  mlet (m_i M 83 34 ((M.1 83 34) + 1)) (fun M35 => match F28 n M35 with | some (v36, M37) => (rec7 x1 M37) | none => none)
set_option maxRecDepth 100000 in
set_option maxHeartbeats 4000000 in
theorem J78_148_ev (sc : Option (Nat × (Nat → Int32))) (n : Nat)  (e : Nat) (he : 4 ≤ e) (rec7 : Int32 → Mem → Option (Int32 × Mem)) (hr7 : ∀ (x1 : Int32) (M : Mem) (r : Int32) (M' : Mem), rec7 x1 M = some (r, M') → pm_ev pmT sc e 78 false (7, [some (.ref 83), some (.int x1)], [], 129, 17845, hp M) (some (.int r), 129, 17845, hp M')) : ∀ (x1 : Int32) (M : Mem) (r : Int32) (M' : Mem), J78_148 n rec7 x1 M = some (r, M') → pm_ev pmT sc e 78 false (148, [some (.ref 83), some (.int x1)], [], 129, 17845, hp M) (some (.int r), 129, 17845, hp M') := by
  intro x1  M r M' h
  unfold J78_148 at h
  refine pe_blk mm_78 2 (s' := (150, [some (.ref 83), some (.int x1)], [.ref 83, .ref 83], _, _, _)) rfl ?_
  refine pe_get mm_78 rfl rfl rfl (by decide) rfl ?_
  refine pe_blk mm_78 2 (s' := (155, [some (.ref 83), some (.int x1)], [.int ((M.1 83 34) + 1), .ref 83], _, _, _)) rfl ?_
  refine pe_puti mm_78 rfl rfl rfl (by decide) (Nat.le_of_ble_eq_true rfl) rfl rfl ?_
  show pm_ev _ _ _ _ _ (158, [some (.ref 83), some (.int x1)], [], _, _, hp (m_i M 83 34 ((M.1 83 34) + 1))) _
  generalize m_i M 83 34 ((M.1 83 34) + 1) = M35 at h ⊢
  rw [mlet] at h
  refine pe_blk mm_78 1 (s' := (159, [some (.ref 83), some (.int x1)], [.ref 83], _, _, _)) rfl ?_
  obtain ⟨e1, rfl⟩ : ∃ e1, e = e1 + 1 := ⟨e - 1, by omega⟩
  cases hc38 : F28 n M35 with
  | none => rw [hc38] at h; cases h
  | some w =>
    obtain ⟨v36, M37⟩ := w
    rw [hc38] at h
    dsimp only at h
    refine pe_virt (al := []) (a := 83) (L0 := [some (.ref 83), none, none, none, none, none]) (r1 := (none, 129, 17845, hp M37)) mm_78 rfl rfl rfl mm_28 rfl (by decide) (by decide) rfl (Nat.le_of_ble_eq_true rfl) (Nat.le_of_ble_eq_true rfl) rfl rfl (F28_ev sc n _ e1 (by omega) _ _ hc38) ?_
    show pm_ev _ _ _ _ _ (162, [some (.ref 83), some (.int x1)], [], _, _, _) _
    refine pe_blk mm_78 1 (s' := (7, [some (.ref 83), some (.int x1)], [], _, _, _)) rfl ?_
    exact hr7 x1 _ _ _ h
def J78_124 (n : Nat) (rec7 : Int32 → Mem → Option (Int32 × Mem)) (s0 : Int32) (M : Mem) : Option (Int32 × Mem) :=
  if (M.1 83 34) < 0 ∨ 320 ≤ (M.1 83 34 : Int32).toNatClampNeg then none else (mlet (m_i M 105 (M.1 83 34 : Int32).toNatClampNeg (M.1 83 5)) (fun M32 => if (M32.1 83 34) < 0 ∨ 320 ≤ (M32.1 83 34 : Int32).toNatClampNeg then none else (mlet (m_i M32 106 (M32.1 83 34 : Int32).toNatClampNeg 0) (fun M34 => J78_148 n rec7 s0 M34))))
set_option maxRecDepth 100000 in
set_option maxHeartbeats 4000000 in
theorem J78_124_ev (sc : Option (Nat × (Nat → Int32))) (n : Nat)  (e : Nat) (he : 4 ≤ e) (rec7 : Int32 → Mem → Option (Int32 × Mem)) (hr7 : ∀ (x1 : Int32) (M : Mem) (r : Int32) (M' : Mem), rec7 x1 M = some (r, M') → pm_ev pmT sc e 78 false (7, [some (.ref 83), some (.int x1)], [], 129, 17845, hp M) (some (.int r), 129, 17845, hp M')) : ∀ (s0 : Int32) (u1 : Option Value) (M : Mem) (r : Int32) (M' : Mem), J78_124 n rec7 s0 M = some (r, M') → pm_ev pmT sc e 78 false (124, [some (.ref 83), u1], [.int s0], 129, 17845, hp M) (some (.int r), 129, 17845, hp M') := by
  intro s0 u1 M r M' h
  unfold J78_124 at h
  refine pe_blk mm_78 2 (s' := (126, [some (.ref 83), some (.int s0)], [.ref 83], _, _, _)) rfl ?_
  refine pe_get mm_78 rfl rfl rfl (by decide) rfl ?_
  refine pe_blk mm_78 1 (s' := (130, [some (.ref 83), some (.int s0)], [.ref 83, .ref 105], _, _, _)) rfl ?_
  refine pe_get mm_78 rfl rfl rfl (by decide) rfl ?_
  refine pe_blk mm_78 1 (s' := (134, [some (.ref 83), some (.int s0)], [.ref 83, .int (M.1 83 34), .ref 105], _, _, _)) rfl ?_
  refine pe_get mm_78 rfl rfl rfl (by decide) rfl ?_
  by_cases q31 : (M.1 83 34) < 0 ∨ 320 ≤ (M.1 83 34 : Int32).toNatClampNeg
  · rw [if_pos q31] at h
    cases h
  · rw [if_neg q31] at h
    refine pe_iasti mm_78 rfl rfl (by decide) q31 rfl ?_
    show pm_ev _ _ _ _ _ (138, [some (.ref 83), some (.int s0)], [], _, _, hp (m_i M 105 (M.1 83 34 : Int32).toNatClampNeg (M.1 83 5))) _
    generalize m_i M 105 (M.1 83 34 : Int32).toNatClampNeg (M.1 83 5) = M32 at h ⊢
    rw [mlet] at h
    refine pe_blk mm_78 1 (s' := (139, [some (.ref 83), some (.int s0)], [.ref 83], _, _, _)) rfl ?_
    refine pe_get mm_78 rfl rfl rfl (by decide) rfl ?_
    refine pe_blk mm_78 1 (s' := (143, [some (.ref 83), some (.int s0)], [.ref 83, .ref 106], _, _, _)) rfl ?_
    refine pe_get mm_78 rfl rfl rfl (by decide) rfl ?_
    refine pe_blk mm_78 1 (s' := (147, [some (.ref 83), some (.int s0)], [.int 0, .int (M32.1 83 34), .ref 106], _, _, _)) rfl ?_
    by_cases q33 : (M32.1 83 34) < 0 ∨ 320 ≤ (M32.1 83 34 : Int32).toNatClampNeg
    · rw [if_pos q33] at h
      cases h
    · rw [if_neg q33] at h
      refine pe_iasti mm_78 rfl rfl (by decide) q33 rfl ?_
      show pm_ev _ _ _ _ _ (148, [some (.ref 83), some (.int s0)], [], _, _, hp (m_i M32 106 (M32.1 83 34 : Int32).toNatClampNeg 0)) _
      generalize m_i M32 106 (M32.1 83 34 : Int32).toNatClampNeg 0 = M34 at h ⊢
      rw [mlet] at h
      exact J78_148_ev sc n e he rec7 hr7 s0 _ _ _ h
def J78_95 (n : Nat) (rec7 : Int32 → Mem → Option (Int32 × Mem)) (x1 : Int32) (M : Mem) : Option (Int32 × Mem) :=
  if (M.1 83 4) = 4 then (J78_124 n rec7 (x1 + 1) M) else (if (M.1 83 4) = 5 then (J78_124 n rec7 (x1 - 1) M) else (J78_124 n rec7 x1 M))
set_option maxRecDepth 100000 in
set_option maxHeartbeats 4000000 in
theorem J78_95_ev (sc : Option (Nat × (Nat → Int32))) (n : Nat)  (e : Nat) (he : 4 ≤ e) (rec7 : Int32 → Mem → Option (Int32 × Mem)) (hr7 : ∀ (x1 : Int32) (M : Mem) (r : Int32) (M' : Mem), rec7 x1 M = some (r, M') → pm_ev pmT sc e 78 false (7, [some (.ref 83), some (.int x1)], [], 129, 17845, hp M) (some (.int r), 129, 17845, hp M')) : ∀ (x1 : Int32) (M : Mem) (r : Int32) (M' : Mem), J78_95 n rec7 x1 M = some (r, M') → pm_ev pmT sc e 78 false (95, [some (.ref 83), some (.int x1)], [], 129, 17845, hp M) (some (.int r), 129, 17845, hp M') := by
  intro x1  M r M' h
  unfold J78_95 at h
  refine pe_blk mm_78 1 (s' := (96, [some (.ref 83), some (.int x1)], [.ref 83], _, _, _)) rfl ?_
  refine pe_get mm_78 rfl rfl rfl (by decide) rfl ?_
  refine pe_blk mm_78 1 (s' := (100, [some (.ref 83), some (.int x1)], [.int 4, .int (M.1 83 4)], _, _, _)) rfl ?_
  by_cases q30 : (M.1 83 4) = 4
  · rw [if_pos q30] at h
    refine pe_blk mm_78 1 (s' := (if (M.1 83 4) = 4 then 103 else 109, [some (.ref 83), some (.int x1)], [], _, _, _)) rfl ?_
    rw [if_pos q30]
    refine pe_blk mm_78 4 (s' := (124, [some (.ref 83), some (.int x1)], [.int (x1 + 1)], _, _, _)) rfl ?_
    exact J78_124_ev sc n e he rec7 hr7 (x1 + 1) _ _ _ _ h
  · rw [if_neg q30] at h
    refine pe_blk mm_78 1 (s' := (if (M.1 83 4) = 4 then 103 else 109, [some (.ref 83), some (.int x1)], [], _, _, _)) rfl ?_
    rw [if_neg q30]
    refine pe_blk mm_78 1 (s' := (110, [some (.ref 83), some (.int x1)], [.ref 83], _, _, _)) rfl ?_
    refine pe_get mm_78 rfl rfl rfl (by decide) rfl ?_
    refine pe_blk mm_78 1 (s' := (114, [some (.ref 83), some (.int x1)], [.int 5, .int (M.1 83 4)], _, _, _)) rfl ?_
    by_cases q39 : (M.1 83 4) = 5
    · rw [if_pos q39] at h
      refine pe_blk mm_78 1 (s' := (if (M.1 83 4) = 5 then 117 else 123, [some (.ref 83), some (.int x1)], [], _, _, _)) rfl ?_
      rw [if_pos q39]
      refine pe_blk mm_78 4 (s' := (124, [some (.ref 83), some (.int x1)], [.int (x1 - 1)], _, _, _)) rfl ?_
      exact J78_124_ev sc n e he rec7 hr7 (x1 - 1) _ _ _ _ h
    · rw [if_neg q39] at h
      refine pe_blk mm_78 1 (s' := (if (M.1 83 4) = 5 then 117 else 123, [some (.ref 83), some (.int x1)], [], _, _, _)) rfl ?_
      rw [if_neg q39]
      refine pe_blk mm_78 1 (s' := (124, [some (.ref 83), some (.int x1)], [.int x1], _, _, _)) rfl ?_
      exact J78_124_ev sc n e he rec7 hr7 x1 _ _ _ _ h
def J78_77 (n : Nat) (rec7 : Int32 → Mem → Option (Int32 × Mem)) (x1 : Int32) (M : Mem) : Option (Int32 × Mem) :=
  if (M.1 83 4) = 4 then (if x1 < 0 ∨ 16 ≤ (x1 : Int32).toNatClampNeg then none else (mlet (m_i M 103 (x1 : Int32).toNatClampNeg (M.1 83 5)) (fun M29 => J78_95 n rec7 x1 M29))) else (J78_95 n rec7 x1 M)
set_option maxRecDepth 100000 in
set_option maxHeartbeats 4000000 in
theorem J78_77_ev (sc : Option (Nat × (Nat → Int32))) (n : Nat)  (e : Nat) (he : 4 ≤ e) (rec7 : Int32 → Mem → Option (Int32 × Mem)) (hr7 : ∀ (x1 : Int32) (M : Mem) (r : Int32) (M' : Mem), rec7 x1 M = some (r, M') → pm_ev pmT sc e 78 false (7, [some (.ref 83), some (.int x1)], [], 129, 17845, hp M) (some (.int r), 129, 17845, hp M')) : ∀ (x1 : Int32) (M : Mem) (r : Int32) (M' : Mem), J78_77 n rec7 x1 M = some (r, M') → pm_ev pmT sc e 78 false (77, [some (.ref 83), some (.int x1)], [], 129, 17845, hp M) (some (.int r), 129, 17845, hp M') := by
  intro x1  M r M' h
  unfold J78_77 at h
  refine pe_blk mm_78 1 (s' := (78, [some (.ref 83), some (.int x1)], [.ref 83], _, _, _)) rfl ?_
  refine pe_get mm_78 rfl rfl rfl (by decide) rfl ?_
  refine pe_blk mm_78 1 (s' := (82, [some (.ref 83), some (.int x1)], [.int 4, .int (M.1 83 4)], _, _, _)) rfl ?_
  by_cases q27 : (M.1 83 4) = 4
  · rw [if_pos q27] at h
    refine pe_blk mm_78 1 (s' := (if (M.1 83 4) = 4 then 85 else 95, [some (.ref 83), some (.int x1)], [], _, _, _)) rfl ?_
    rw [if_pos q27]
    refine pe_blk mm_78 1 (s' := (86, [some (.ref 83), some (.int x1)], [.ref 83], _, _, _)) rfl ?_
    refine pe_get mm_78 rfl rfl rfl (by decide) rfl ?_
    refine pe_blk mm_78 2 (s' := (91, [some (.ref 83), some (.int x1)], [.ref 83, .int x1, .ref 103], _, _, _)) rfl ?_
    refine pe_get mm_78 rfl rfl rfl (by decide) rfl ?_
    by_cases q28 : x1 < 0 ∨ 16 ≤ (x1 : Int32).toNatClampNeg
    · rw [if_pos q28] at h
      cases h
    · rw [if_neg q28] at h
      refine pe_iasti mm_78 rfl rfl (by decide) q28 rfl ?_
      show pm_ev _ _ _ _ _ (95, [some (.ref 83), some (.int x1)], [], _, _, hp (m_i M 103 (x1 : Int32).toNatClampNeg (M.1 83 5))) _
      generalize m_i M 103 (x1 : Int32).toNatClampNeg (M.1 83 5) = M29 at h ⊢
      rw [mlet] at h
      exact J78_95_ev sc n e he rec7 hr7 x1 _ _ _ h
  · rw [if_neg q27] at h
    refine pe_blk mm_78 1 (s' := (if (M.1 83 4) = 4 then 85 else 95, [some (.ref 83), some (.int x1)], [], _, _, _)) rfl ?_
    rw [if_neg q27]
    exact J78_95_ev sc n e he rec7 hr7 x1 _ _ _ h
def J78_42 (n : Nat) (rec7 : Int32 → Mem → Option (Int32 × Mem)) (x1 : Int32) (M : Mem) : Option (Int32 × Mem) :=
  if (M.1 83 4) = 5 then (if x1 = 0 then (J78_72 n M) else (if (x1 - 1) < 0 ∨ 16 ≤ (x1 - 1 : Int32).toNatClampNeg then none else (match F23 n (M.1 103 (x1 - 1 : Int32).toNatClampNeg) M with | some (v23, M24) => (if (M.1 83 5) = v23 then (J78_77 n rec7 x1 M24) else (J78_72 n M24)) | none => none))) else (J78_77 n rec7 x1 M)
set_option maxRecDepth 100000 in
set_option maxHeartbeats 4000000 in
theorem J78_42_ev (sc : Option (Nat × (Nat → Int32))) (n : Nat)  (e : Nat) (he : 4 ≤ e) (rec7 : Int32 → Mem → Option (Int32 × Mem)) (hr7 : ∀ (x1 : Int32) (M : Mem) (r : Int32) (M' : Mem), rec7 x1 M = some (r, M') → pm_ev pmT sc e 78 false (7, [some (.ref 83), some (.int x1)], [], 129, 17845, hp M) (some (.int r), 129, 17845, hp M')) : ∀ (x1 : Int32) (M : Mem) (r : Int32) (M' : Mem), J78_42 n rec7 x1 M = some (r, M') → pm_ev pmT sc e 78 false (42, [some (.ref 83), some (.int x1)], [], 129, 17845, hp M) (some (.int r), 129, 17845, hp M') := by
  intro x1  M r M' h
  unfold J78_42 at h
  refine pe_blk mm_78 1 (s' := (43, [some (.ref 83), some (.int x1)], [.ref 83], _, _, _)) rfl ?_
  refine pe_get mm_78 rfl rfl rfl (by decide) rfl ?_
  refine pe_blk mm_78 1 (s' := (47, [some (.ref 83), some (.int x1)], [.int 5, .int (M.1 83 4)], _, _, _)) rfl ?_
  by_cases q16 : (M.1 83 4) = 5
  · rw [if_pos q16] at h
    refine pe_blk mm_78 1 (s' := (if (M.1 83 4) = 5 then 50 else 77, [some (.ref 83), some (.int x1)], [], _, _, _)) rfl ?_
    rw [if_pos q16]
    refine pe_blk mm_78 1 (s' := (51, [some (.ref 83), some (.int x1)], [.int x1], _, _, _)) rfl ?_
    by_cases q17 : x1 = 0
    · rw [if_pos q17] at h
      refine pe_blk mm_78 1 (s' := (if x1 = 0 then 72 else 54, [some (.ref 83), some (.int x1)], [], _, _, _)) rfl ?_
      rw [if_pos q17]
      exact J78_72_ev sc n e he _ _ _ _ h
    · rw [if_neg q17] at h
      refine pe_blk mm_78 1 (s' := (if x1 = 0 then 72 else 54, [some (.ref 83), some (.int x1)], [], _, _, _)) rfl ?_
      rw [if_neg q17]
      refine pe_blk mm_78 1 (s' := (55, [some (.ref 83), some (.int x1)], [.ref 83], _, _, _)) rfl ?_
      refine pe_get mm_78 rfl rfl rfl (by decide) rfl ?_
      refine pe_blk mm_78 1 (s' := (59, [some (.ref 83), some (.int x1)], [.ref 83, .int (M.1 83 5)], _, _, _)) rfl ?_
      refine pe_get mm_78 rfl rfl rfl (by decide) rfl ?_
      refine pe_blk mm_78 3 (s' := (65, [some (.ref 83), some (.int x1)], [.int (x1 - 1), .ref 103, .int (M.1 83 5)], _, _, _)) rfl ?_
      by_cases q22 : (x1 - 1) < 0 ∨ 16 ≤ (x1 - 1 : Int32).toNatClampNeg
      · rw [if_pos q22] at h
        cases h
      · rw [if_neg q22] at h
        refine pe_iald (f := M.1 103) mm_78 rfl rfl (by decide) q22 ?_
        obtain ⟨e1, rfl⟩ : ∃ e1, e = e1 + 1 := ⟨e - 1, by omega⟩
        cases hc25 : F23 n (M.1 103 (x1 - 1 : Int32).toNatClampNeg) M with
        | none => rw [hc25] at h; cases h
        | some w =>
          obtain ⟨v23, M24⟩ := w
          rw [hc25] at h
          dsimp only at h
          refine pe_stat (al := [.int (M.1 103 (x1 - 1 : Int32).toNatClampNeg)]) (L0 := [some (.int (M.1 103 (x1 - 1 : Int32).toNatClampNeg))]) (r1 := (some (.int v23), 129, 17845, hp M24)) mm_78 rfl rfl rfl mm_23 rfl (Nat.le_of_ble_eq_true rfl) (Nat.le_of_ble_eq_true rfl) rfl rfl (F23_ev sc n (M.1 103 (x1 - 1 : Int32).toNatClampNeg) _ e1 (by omega) _ _ hc25) ?_
          show pm_ev _ _ _ _ _ (69, [some (.ref 83), some (.int x1)], [.int v23, .int (M.1 83 5)], _, _, _) _
          by_cases q26 : (M.1 83 5) = v23
          · rw [if_pos q26] at h
            refine pe_blk mm_78 1 (s' := (if (M.1 83 5) = v23 then 77 else 72, [some (.ref 83), some (.int x1)], [], _, _, _)) rfl ?_
            rw [if_pos q26]
            exact J78_77_ev sc n (e1 + 1) he rec7 hr7 x1 _ _ _ h
          · rw [if_neg q26] at h
            refine pe_blk mm_78 1 (s' := (if (M.1 83 5) = v23 then 77 else 72, [some (.ref 83), some (.int x1)], [], _, _, _)) rfl ?_
            rw [if_neg q26]
            exact J78_72_ev sc n (e1 + 1) he _ _ _ _ h
  · rw [if_neg q16] at h
    refine pe_blk mm_78 1 (s' := (if (M.1 83 4) = 5 then 50 else 77, [some (.ref 83), some (.int x1)], [], _, _, _)) rfl ?_
    rw [if_neg q16]
    exact J78_77_ev sc n e he rec7 hr7 x1 _ _ _ h
def J78_31 (n : Nat) (rec7 : Int32 → Mem → Option (Int32 × Mem)) (x1 : Int32) (M : Mem) : Option (Int32 × Mem) :=
  if x1 ≤ 9 then (J78_42 n rec7 x1 M) else (J78_37 n M)
set_option maxRecDepth 100000 in
set_option maxHeartbeats 4000000 in
theorem J78_31_ev (sc : Option (Nat × (Nat → Int32))) (n : Nat)  (e : Nat) (he : 4 ≤ e) (rec7 : Int32 → Mem → Option (Int32 × Mem)) (hr7 : ∀ (x1 : Int32) (M : Mem) (r : Int32) (M' : Mem), rec7 x1 M = some (r, M') → pm_ev pmT sc e 78 false (7, [some (.ref 83), some (.int x1)], [], 129, 17845, hp M) (some (.int r), 129, 17845, hp M')) : ∀ (x1 : Int32) (M : Mem) (r : Int32) (M' : Mem), J78_31 n rec7 x1 M = some (r, M') → pm_ev pmT sc e 78 false (31, [some (.ref 83), some (.int x1)], [], 129, 17845, hp M) (some (.int r), 129, 17845, hp M') := by
  intro x1  M r M' h
  unfold J78_31 at h
  refine pe_blk mm_78 2 (s' := (34, [some (.ref 83), some (.int x1)], [.int 9, .int x1], _, _, _)) rfl ?_
  by_cases q15 : x1 ≤ 9
  · rw [if_pos q15] at h
    refine pe_blk mm_78 1 (s' := (if x1 ≤ 9 then 42 else 37, [some (.ref 83), some (.int x1)], [], _, _, _)) rfl ?_
    rw [if_pos q15]
    exact J78_42_ev sc n e he rec7 hr7 x1 _ _ _ h
  · rw [if_neg q15] at h
    refine pe_blk mm_78 1 (s' := (if x1 ≤ 9 then 42 else 37, [some (.ref 83), some (.int x1)], [], _, _, _)) rfl ?_
    rw [if_neg q15]
    exact J78_37_ev sc n e he _ _ _ _ h
def L78_7 (n : Nat) : Nat → Int32 → Mem → Option (Int32 × Mem)
  | 0, _, _ => none
  | k + 1, x1, M => if (M.1 83 4) = 6 then (if x1 = 0 then (J78_176 n M) else (match F29 n M with | some (v5, M6) => (if v5 = 0 then (J78_180 n M6) else (J78_176 n M6)) | none => none)) else (if (M.1 83 4) = 0 then (J78_37 n M) else (if (M.1 83 4) = 4 then (J78_31 n (L78_7 n k) x1 M) else (J78_42 n (L78_7 n k) x1 M)))
set_option maxRecDepth 100000 in
set_option maxHeartbeats 4000000 in
theorem L78_7_ev (sc : Option (Nat × (Nat → Int32))) (n : Nat)  (e : Nat) (he : 4 ≤ e) : ∀ k : Nat, ∀ (x1 : Int32) (M : Mem) (r : Int32) (M' : Mem), L78_7 n k x1 M = some (r, M') → pm_ev pmT sc e 78 false (7, [some (.ref 83), some (.int x1)], [], 129, 17845, hp M) (some (.int r), 129, 17845, hp M') := by
  intro k
  induction k with
  | zero => intro x1  M r M' h; cases h
  | succ k hr7 =>
    intro x1  M r M' h
    rw [L78_7] at h
    refine pe_blk mm_78 1 (s' := (8, [some (.ref 83), some (.int x1)], [.ref 83], _, _, _)) rfl ?_
    refine pe_get mm_78 rfl rfl rfl (by decide) rfl ?_
    refine pe_blk mm_78 1 (s' := (13, [some (.ref 83), some (.int x1)], [.int 6, .int (M.1 83 4)], _, _, _)) rfl ?_
    by_cases q2 : (M.1 83 4) = 6
    · rw [if_pos q2] at h
      refine pe_blk mm_78 1 (s' := (if (M.1 83 4) = 6 then 165 else 16, [some (.ref 83), some (.int x1)], [], _, _, _)) rfl ?_
      rw [if_pos q2]
      refine pe_blk mm_78 1 (s' := (166, [some (.ref 83), some (.int x1)], [.int x1], _, _, _)) rfl ?_
      by_cases q3 : x1 = 0
      · rw [if_pos q3] at h
        refine pe_blk mm_78 1 (s' := (if x1 = 0 then 176 else 169, [some (.ref 83), some (.int x1)], [], _, _, _)) rfl ?_
        rw [if_pos q3]
        exact J78_176_ev sc n e he _ _ _ _ _ h
      · rw [if_neg q3] at h
        refine pe_blk mm_78 1 (s' := (if x1 = 0 then 176 else 169, [some (.ref 83), some (.int x1)], [], _, _, _)) rfl ?_
        rw [if_neg q3]
        refine pe_blk mm_78 1 (s' := (170, [some (.ref 83), some (.int x1)], [.ref 83], _, _, _)) rfl ?_
        obtain ⟨e1, rfl⟩ : ∃ e1, e = e1 + 1 := ⟨e - 1, by omega⟩
        cases hc7 : F29 n M with
        | none => rw [hc7] at h; cases h
        | some w =>
          obtain ⟨v5, M6⟩ := w
          rw [hc7] at h
          dsimp only at h
          refine pe_virt (al := []) (a := 83) (L0 := [some (.ref 83)]) (r1 := (some (.int v5), 129, 17845, hp M6)) mm_78 rfl rfl rfl mm_29 rfl (by decide) (by decide) rfl (Nat.le_of_ble_eq_true rfl) (Nat.le_of_ble_eq_true rfl) rfl rfl (F29_ev sc n _ e1 (by omega) _ _ hc7) ?_
          show pm_ev _ _ _ _ _ (173, [some (.ref 83), some (.int x1)], [.int v5], _, _, _) _
          by_cases q8 : v5 = 0
          · rw [if_pos q8] at h
            refine pe_blk mm_78 1 (s' := (if v5 = 0 then 180 else 176, [some (.ref 83), some (.int x1)], [], _, _, _)) rfl ?_
            rw [if_pos q8]
            exact J78_180_ev sc n (e1 + 1) he _ _ _ _ _ h
          · rw [if_neg q8] at h
            refine pe_blk mm_78 1 (s' := (if v5 = 0 then 180 else 176, [some (.ref 83), some (.int x1)], [], _, _, _)) rfl ?_
            rw [if_neg q8]
            exact J78_176_ev sc n (e1 + 1) he _ _ _ _ _ h
    · rw [if_neg q2] at h
      refine pe_blk mm_78 1 (s' := (if (M.1 83 4) = 6 then 165 else 16, [some (.ref 83), some (.int x1)], [], _, _, _)) rfl ?_
      rw [if_neg q2]
      refine pe_blk mm_78 1 (s' := (17, [some (.ref 83), some (.int x1)], [.ref 83], _, _, _)) rfl ?_
      refine pe_get mm_78 rfl rfl rfl (by decide) rfl ?_
      by_cases q9 : (M.1 83 4) = 0
      · rw [if_pos q9] at h
        refine pe_blk mm_78 1 (s' := (if (M.1 83 4) = 0 then 37 else 23, [some (.ref 83), some (.int x1)], [], _, _, _)) rfl ?_
        rw [if_pos q9]
        exact J78_37_ev sc n e he _ _ _ _ h
      · rw [if_neg q9] at h
        refine pe_blk mm_78 1 (s' := (if (M.1 83 4) = 0 then 37 else 23, [some (.ref 83), some (.int x1)], [], _, _, _)) rfl ?_
        rw [if_neg q9]
        refine pe_blk mm_78 1 (s' := (24, [some (.ref 83), some (.int x1)], [.ref 83], _, _, _)) rfl ?_
        refine pe_get mm_78 rfl rfl rfl (by decide) rfl ?_
        refine pe_blk mm_78 1 (s' := (28, [some (.ref 83), some (.int x1)], [.int 4, .int (M.1 83 4)], _, _, _)) rfl ?_
        by_cases q14 : (M.1 83 4) = 4
        · rw [if_pos q14] at h
          refine pe_blk mm_78 1 (s' := (if (M.1 83 4) = 4 then 31 else 42, [some (.ref 83), some (.int x1)], [], _, _, _)) rfl ?_
          rw [if_pos q14]
          exact J78_31_ev sc n e he (L78_7 n k) hr7 x1 _ _ _ h
        · rw [if_neg q14] at h
          refine pe_blk mm_78 1 (s' := (if (M.1 83 4) = 4 then 31 else 42, [some (.ref 83), some (.int x1)], [], _, _, _)) rfl ?_
          rw [if_neg q14]
          exact J78_42_ev sc n e he (L78_7 n k) hr7 x1 _ _ _ h
/-- ArmExpanderModel.readText -/
def F78 (n : Nat) (M : Mem) : Option (Int32 × Mem) :=
  mlet (m_i M 83 34 0) (fun M1 => L78_7 n n 0 M1)
set_option maxRecDepth 100000 in
set_option maxHeartbeats 4000000 in
theorem F78_ev (sc : Option (Nat × (Nat → Int32))) (n : Nat)  (M : Mem) (e : Nat) (he : 4 ≤ e) (r : Int32) (M' : Mem) (h : F78 n M = some (r, M')) : pm_ev pmT sc e 78 false (0, [some (.ref 83), none], [], 129, 17845, hp M) (some (.int r), 129, 17845, hp M') := by
  unfold F78 at h
  refine pe_blk mm_78 4 (s' := (4, [some (.ref 83), some (.int 0)], [.int 0, .ref 83], _, _, _)) rfl ?_
  refine pe_puti mm_78 rfl rfl rfl (by decide) (Nat.le_of_ble_eq_true rfl) rfl rfl ?_
  show pm_ev _ _ _ _ _ (7, [some (.ref 83), some (.int 0)], [], _, _, hp (m_i M 83 34 0)) _
  generalize m_i M 83 34 0 = M1 at h ⊢
  rw [mlet] at h
  exact L78_7_ev sc n e he n 0 _ _ _ h
def J79_54 (n : Nat) (s0 : Int32) (M : Mem) : Option (Int32 × Mem) :=
  if s0 = 0 ∨ s0 = 1 then some (s0, M) else none
set_option maxRecDepth 100000 in
set_option maxHeartbeats 4000000 in
theorem J79_54_ev (sc : Option (Nat × (Nat → Int32))) (n : Nat)  (e : Nat) (he : 2 ≤ e) : ∀ (s0 : Int32) (u0 : Option Value) (u1 : Option Value) (M : Mem) (r : Int32) (M' : Mem), J79_54 n s0 M = some (r, M') → pm_ev pmT sc e 79 false (54, [u0, u1], [.int s0], 129, 17845, hp M) (some (.int r), 129, 17845, hp M') := by
  intro s0 u0 u1 M r M' h
  unfold J79_54 at h
  by_cases q2 : s0 = 0 ∨ s0 = 1
  · rw [if_pos q2] at h
    cases h
    exact pe_ret mm_79 rfl (if_pos q2)
  · rw [if_neg q2] at h
    cases h
def J79_53 (n : Nat) (M : Mem) : Option (Int32 × Mem) :=
  J79_54 n 0 M
set_option maxRecDepth 100000 in
set_option maxHeartbeats 4000000 in
theorem J79_53_ev (sc : Option (Nat × (Nat → Int32))) (n : Nat)  (e : Nat) (he : 2 ≤ e) : ∀ (u0 : Option Value) (u1 : Option Value) (M : Mem) (r : Int32) (M' : Mem), J79_53 n  M = some (r, M') → pm_ev pmT sc e 79 false (53, [u0, u1], [], 129, 17845, hp M) (some (.int r), 129, 17845, hp M') := by
  intro u0 u1 M r M' h
  unfold J79_53 at h
  refine pe_blk mm_79 1 (s' := (54, [u0, u1], [.int 0], _, _, _)) rfl ?_
  exact J79_54_ev sc n e he 0 _ _ _ _ _ h
def J79_35 (n : Nat) (x1 : Int32) (M : Mem) : Option (Int32 × Mem) :=
  if (x1 + 2) < 0 ∨ 320 ≤ (x1 + 2 : Int32).toNatClampNeg then none else (match F21 n (M.1 105 (x1 + 2 : Int32).toNatClampNeg) M with | some (v8, M9) => (if v8 = 0 then (J79_53 n M9) else (J79_54 n 1 M9)) | none => none)
set_option maxRecDepth 100000 in
set_option maxHeartbeats 4000000 in
theorem J79_35_ev (sc : Option (Nat × (Nat → Int32))) (n : Nat)  (e : Nat) (he : 2 ≤ e) : ∀ (x1 : Int32) (M : Mem) (r : Int32) (M' : Mem), J79_35 n x1 M = some (r, M') → pm_ev pmT sc e 79 false (35, [some (.ref 83), some (.int x1)], [], 129, 17845, hp M) (some (.int r), 129, 17845, hp M') := by
  intro x1  M r M' h
  unfold J79_35 at h
  refine pe_blk mm_79 1 (s' := (36, [some (.ref 83), some (.int x1)], [.ref 83], _, _, _)) rfl ?_
  refine pe_get mm_79 rfl rfl rfl (by decide) rfl ?_
  refine pe_blk mm_79 3 (s' := (42, [some (.ref 83), some (.int x1)], [.int (x1 + 2), .ref 105], _, _, _)) rfl ?_
  by_cases q7 : (x1 + 2) < 0 ∨ 320 ≤ (x1 + 2 : Int32).toNatClampNeg
  · rw [if_pos q7] at h
    cases h
  · rw [if_neg q7] at h
    refine pe_iald (f := M.1 105) mm_79 rfl rfl (by decide) q7 ?_
    obtain ⟨e1, rfl⟩ : ∃ e1, e = e1 + 1 := ⟨e - 1, by omega⟩
    cases hc10 : F21 n (M.1 105 (x1 + 2 : Int32).toNatClampNeg) M with
    | none => rw [hc10] at h; cases h
    | some w =>
      obtain ⟨v8, M9⟩ := w
      rw [hc10] at h
      dsimp only at h
      refine pe_stat (al := [.int (M.1 105 (x1 + 2 : Int32).toNatClampNeg)]) (L0 := [some (.int (M.1 105 (x1 + 2 : Int32).toNatClampNeg))]) (r1 := (some (.int v8), 129, 17845, hp M9)) mm_79 rfl rfl rfl mm_21 rfl (Nat.le_of_ble_eq_true rfl) (Nat.le_of_ble_eq_true rfl) rfl rfl (F21_ev sc n (M.1 105 (x1 + 2 : Int32).toNatClampNeg) _ e1 (by omega) _ _ hc10) ?_
      show pm_ev _ _ _ _ _ (46, [some (.ref 83), some (.int x1)], [.int v8], _, _, _) _
      by_cases q11 : v8 = 0
      · rw [if_pos q11] at h
        refine pe_blk mm_79 1 (s' := (if v8 = 0 then 53 else 49, [some (.ref 83), some (.int x1)], [], _, _, _)) rfl ?_
        rw [if_pos q11]
        exact J79_53_ev sc n (e1 + 1) he _ _ _ _ _ h
      · rw [if_neg q11] at h
        refine pe_blk mm_79 1 (s' := (if v8 = 0 then 53 else 49, [some (.ref 83), some (.int x1)], [], _, _, _)) rfl ?_
        rw [if_neg q11]
        refine pe_blk mm_79 2 (s' := (54, [some (.ref 83), some (.int x1)], [.int 1], _, _, _)) rfl ?_
        exact J79_54_ev sc n (e1 + 1) he 1 _ _ _ _ _ h
/-- ArmExpanderModel.isCall -/
def F79 (n : Nat) (a0 : Int32) (M : Mem) : Option (Int32 × Mem) :=
  if (M.1 83 34) ≤ (a0 + 2) then (J79_53 n M) else (if a0 < 0 ∨ 320 ≤ (a0 : Int32).toNatClampNeg then none else (if (M.1 105 (a0 : Int32).toNatClampNeg) < 1000 then (J79_53 n M) else (if (a0 + 1) < 0 ∨ 320 ≤ (a0 + 1 : Int32).toNatClampNeg then none else (if (M.1 105 (a0 + 1 : Int32).toNatClampNeg) = 33 then (J79_35 n a0 M) else (J79_53 n M)))))
set_option maxRecDepth 100000 in
set_option maxHeartbeats 4000000 in
theorem F79_ev (sc : Option (Nat × (Nat → Int32))) (n : Nat) (a0 : Int32)  (M : Mem) (e : Nat) (he : 2 ≤ e) (r : Int32) (M' : Mem) (h : F79 n a0 M = some (r, M')) : pm_ev pmT sc e 79 false (0, [some (.ref 83), some (.int a0)], [], 129, 17845, hp M) (some (.int r), 129, 17845, hp M') := by
  unfold F79 at h
  refine pe_blk mm_79 4 (s' := (4, [some (.ref 83), some (.int a0)], [.ref 83, .int (a0 + 2)], _, _, _)) rfl ?_
  refine pe_get mm_79 rfl rfl rfl (by decide) rfl ?_
  by_cases q1 : (M.1 83 34) ≤ (a0 + 2)
  · rw [if_pos q1] at h
    refine pe_blk mm_79 1 (s' := (if (M.1 83 34) ≤ (a0 + 2) then 53 else 10, [some (.ref 83), some (.int a0)], [], _, _, _)) rfl ?_
    rw [if_pos q1]
    exact J79_53_ev sc n e he _ _ _ _ _ h
  · rw [if_neg q1] at h
    refine pe_blk mm_79 1 (s' := (if (M.1 83 34) ≤ (a0 + 2) then 53 else 10, [some (.ref 83), some (.int a0)], [], _, _, _)) rfl ?_
    rw [if_neg q1]
    refine pe_blk mm_79 1 (s' := (11, [some (.ref 83), some (.int a0)], [.ref 83], _, _, _)) rfl ?_
    refine pe_get mm_79 rfl rfl rfl (by decide) rfl ?_
    refine pe_blk mm_79 1 (s' := (15, [some (.ref 83), some (.int a0)], [.int a0, .ref 105], _, _, _)) rfl ?_
    by_cases q3 : a0 < 0 ∨ 320 ≤ (a0 : Int32).toNatClampNeg
    · rw [if_pos q3] at h
      cases h
    · rw [if_neg q3] at h
      refine pe_iald (f := M.1 105) mm_79 rfl rfl (by decide) q3 ?_
      refine pe_blk mm_79 1 (s' := (19, [some (.ref 83), some (.int a0)], [.int 1000, .int (M.1 105 (a0 : Int32).toNatClampNeg)], _, _, _)) rfl ?_
      by_cases q4 : (M.1 105 (a0 : Int32).toNatClampNeg) < 1000
      · rw [if_pos q4] at h
        refine pe_blk mm_79 1 (s' := (if (M.1 105 (a0 : Int32).toNatClampNeg) < 1000 then 53 else 22, [some (.ref 83), some (.int a0)], [], _, _, _)) rfl ?_
        rw [if_pos q4]
        exact J79_53_ev sc n e he _ _ _ _ _ h
      · rw [if_neg q4] at h
        refine pe_blk mm_79 1 (s' := (if (M.1 105 (a0 : Int32).toNatClampNeg) < 1000 then 53 else 22, [some (.ref 83), some (.int a0)], [], _, _, _)) rfl ?_
        rw [if_neg q4]
        refine pe_blk mm_79 1 (s' := (23, [some (.ref 83), some (.int a0)], [.ref 83], _, _, _)) rfl ?_
        refine pe_get mm_79 rfl rfl rfl (by decide) rfl ?_
        refine pe_blk mm_79 3 (s' := (29, [some (.ref 83), some (.int a0)], [.int (a0 + 1), .ref 105], _, _, _)) rfl ?_
        by_cases q5 : (a0 + 1) < 0 ∨ 320 ≤ (a0 + 1 : Int32).toNatClampNeg
        · rw [if_pos q5] at h
          cases h
        · rw [if_neg q5] at h
          refine pe_iald (f := M.1 105) mm_79 rfl rfl (by decide) q5 ?_
          refine pe_blk mm_79 1 (s' := (32, [some (.ref 83), some (.int a0)], [.int 33, .int (M.1 105 (a0 + 1 : Int32).toNatClampNeg)], _, _, _)) rfl ?_
          by_cases q6 : (M.1 105 (a0 + 1 : Int32).toNatClampNeg) = 33
          · rw [if_pos q6] at h
            refine pe_blk mm_79 1 (s' := (if (M.1 105 (a0 + 1 : Int32).toNatClampNeg) = 33 then 35 else 53, [some (.ref 83), some (.int a0)], [], _, _, _)) rfl ?_
            rw [if_pos q6]
            exact J79_35_ev sc n e he a0 _ _ _ h
          · rw [if_neg q6] at h
            refine pe_blk mm_79 1 (s' := (if (M.1 105 (a0 + 1 : Int32).toNatClampNeg) = 33 then 35 else 53, [some (.ref 83), some (.int a0)], [], _, _, _)) rfl ?_
            rw [if_neg q6]
            exact J79_53_ev sc n e he _ _ _ _ _ h
