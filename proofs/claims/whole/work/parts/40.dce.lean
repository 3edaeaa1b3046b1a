/-! The methods as functions over Mem; written by program. -/
def J54_147 (n : Nat) (rec4 : Int32 → Int32 → Mem → Option (Int32 × Mem)) (x1 : Int32) (x2 : Int32) (M : Mem) : Option (Int32 × Mem) :=
  rec4 x1 (x2 + 1) M
set_option maxRecDepth 100000 in
set_option maxHeartbeats 4000000 in
theorem J54_147_ev (sc : Option (Nat × (Nat → Int32))) (n : Nat)  (e : Nat) (he : 2 ≤ e) (rec4 : Int32 → Int32 → Mem → Option (Int32 × Mem)) (hr4 : ∀ (x1 : Int32) (x2 : Int32) (u3 : Option Value) (u4 : Option Value) (u5 : Option Value) (M : Mem) (r : Int32) (M' : Mem), rec4 x1 x2 M = some (r, M') → pm_ev pmT sc e 54 false (4, [some (.ref 83), some (.int x1), some (.int x2), u3, u4, u5], [], 129, 17845, hp M) (some (.int r), 129, 17845, hp M')) : ∀ (x1 : Int32) (x2 : Int32) (u3 : Option Value) (u4 : Option Value) (u5 : Option Value) (M : Mem) (r : Int32) (M' : Mem), J54_147 n rec4 x1 x2 M = some (r, M') → pm_ev pmT sc e 54 false (147, [some (.ref 83), some (.int x1), some (.int x2), u3, u4, u5], [], 129, 17845, hp M) (some (.int r), 129, 17845, hp M') := by
  intro x1 x2 u3 u4 u5 M r M' h
  unfold J54_147 at h
  refine pe_blk mm_54 2 (s' := (4, [some (.ref 83), some (.int x1), some (.int (x2 + 1)), u3, u4, u5], [], _, _, _)) rfl ?_
  exact hr4 x1 (x2 + 1) _ _ _ _ _ _ h
def J54_140 (n : Nat) (rec4 : Int32 → Int32 → Mem → Option (Int32 × Mem)) (rec50 : Int32 → Int32 → Int32 → Mem → Option (Int32 × Mem)) (x2 : Int32) (x3 : Int32) (s0 : Int32) (M : Mem) : Option (Int32 × Mem) :=
  rec50 s0 x2 (x3 + 1) M
set_option maxRecDepth 100000 in
set_option maxHeartbeats 4000000 in
theorem J54_140_ev (sc : Option (Nat × (Nat → Int32))) (n : Nat)  (e : Nat) (he : 2 ≤ e) (rec4 : Int32 → Int32 → Mem → Option (Int32 × Mem)) (rec50 : Int32 → Int32 → Int32 → Mem → Option (Int32 × Mem)) (hr4 : ∀ (x1 : Int32) (x2 : Int32) (u3 : Option Value) (u4 : Option Value) (u5 : Option Value) (M : Mem) (r : Int32) (M' : Mem), rec4 x1 x2 M = some (r, M') → pm_ev pmT sc e 54 false (4, [some (.ref 83), some (.int x1), some (.int x2), u3, u4, u5], [], 129, 17845, hp M) (some (.int r), 129, 17845, hp M')) (hr50 : ∀ (x1 : Int32) (x2 : Int32) (x3 : Int32) (u4 : Option Value) (u5 : Option Value) (M : Mem) (r : Int32) (M' : Mem), rec50 x1 x2 x3 M = some (r, M') → pm_ev pmT sc e 54 false (50, [some (.ref 83), some (.int x1), some (.int x2), some (.int x3), u4, u5], [], 129, 17845, hp M) (some (.int r), 129, 17845, hp M')) : ∀ (x2 : Int32) (x3 : Int32) (s0 : Int32) (u1 : Option Value) (u4 : Option Value) (u5 : Option Value) (M : Mem) (r : Int32) (M' : Mem), J54_140 n rec4 rec50 x2 x3 s0 M = some (r, M') → pm_ev pmT sc e 54 false (140, [some (.ref 83), u1, some (.int x2), some (.int x3), u4, u5], [.int s0], 129, 17845, hp M) (some (.int r), 129, 17845, hp M') := by
  intro x2 x3 s0 u1 u4 u5 M r M' h
  unfold J54_140 at h
  refine pe_blk mm_54 3 (s' := (50, [some (.ref 83), some (.int s0), some (.int x2), some (.int (x3 + 1)), u4, u5], [], _, _, _)) rfl ?_
  exact hr50 s0 x2 (x3 + 1) _ _ _ _ _ h
def J54_139 (n : Nat) (rec4 : Int32 → Int32 → Mem → Option (Int32 × Mem)) (rec50 : Int32 → Int32 → Int32 → Mem → Option (Int32 × Mem)) (x2 : Int32) (x3 : Int32) (M : Mem) : Option (Int32 × Mem) :=
  J54_140 n rec4 rec50 x2 x3 0 M
set_option maxRecDepth 100000 in
set_option maxHeartbeats 4000000 in
theorem J54_139_ev (sc : Option (Nat × (Nat → Int32))) (n : Nat)  (e : Nat) (he : 2 ≤ e) (rec4 : Int32 → Int32 → Mem → Option (Int32 × Mem)) (rec50 : Int32 → Int32 → Int32 → Mem → Option (Int32 × Mem)) (hr4 : ∀ (x1 : Int32) (x2 : Int32) (u3 : Option Value) (u4 : Option Value) (u5 : Option Value) (M : Mem) (r : Int32) (M' : Mem), rec4 x1 x2 M = some (r, M') → pm_ev pmT sc e 54 false (4, [some (.ref 83), some (.int x1), some (.int x2), u3, u4, u5], [], 129, 17845, hp M) (some (.int r), 129, 17845, hp M')) (hr50 : ∀ (x1 : Int32) (x2 : Int32) (x3 : Int32) (u4 : Option Value) (u5 : Option Value) (M : Mem) (r : Int32) (M' : Mem), rec50 x1 x2 x3 M = some (r, M') → pm_ev pmT sc e 54 false (50, [some (.ref 83), some (.int x1), some (.int x2), some (.int x3), u4, u5], [], 129, 17845, hp M) (some (.int r), 129, 17845, hp M')) : ∀ (x2 : Int32) (x3 : Int32) (u1 : Option Value) (u4 : Option Value) (u5 : Option Value) (M : Mem) (r : Int32) (M' : Mem), J54_139 n rec4 rec50 x2 x3 M = some (r, M') → pm_ev pmT sc e 54 false (139, [some (.ref 83), u1, some (.int x2), some (.int x3), u4, u5], [], 129, 17845, hp M) (some (.int r), 129, 17845, hp M') := by
  intro x2 x3 u1 u4 u5 M r M' h
  unfold J54_139 at h
  refine pe_blk mm_54 1 (s' := (140, [some (.ref 83), u1, some (.int x2), some (.int x3), u4, u5], [.int 0], _, _, _)) rfl ?_
  exact J54_140_ev sc n e he rec4 rec50 hr4 hr50 x2 x3 0 _ _ _ _ _ _ h
def J54_124 (n : Nat) (rec4 : Int32 → Int32 → Mem → Option (Int32 × Mem)) (rec50 : Int32 → Int32 → Int32 → Mem → Option (Int32 × Mem)) (x1 : Int32) (x2 : Int32) (x3 : Int32) (s0 : Int32) (M : Mem) : Option (Int32 × Mem) :=
  if x1 = 0 then (J54_139 n rec4 rec50 x2 x3 M) else (if s0 = 0 then (J54_139 n rec4 rec50 x2 x3 M) else (J54_140 n rec4 rec50 x2 x3 1 M))
set_option maxRecDepth 100000 in
set_option maxHeartbeats 4000000 in
theorem J54_124_ev (sc : Option (Nat × (Nat → Int32))) (n : Nat)  (e : Nat) (he : 2 ≤ e) (rec4 : Int32 → Int32 → Mem → Option (Int32 × Mem)) (rec50 : Int32 → Int32 → Int32 → Mem → Option (Int32 × Mem)) (hr4 : ∀ (x1 : Int32) (x2 : Int32) (u3 : Option Value) (u4 : Option Value) (u5 : Option Value) (M : Mem) (r : Int32) (M' : Mem), rec4 x1 x2 M = some (r, M') → pm_ev pmT sc e 54 false (4, [some (.ref 83), some (.int x1), some (.int x2), u3, u4, u5], [], 129, 17845, hp M) (some (.int r), 129, 17845, hp M')) (hr50 : ∀ (x1 : Int32) (x2 : Int32) (x3 : Int32) (u4 : Option Value) (u5 : Option Value) (M : Mem) (r : Int32) (M' : Mem), rec50 x1 x2 x3 M = some (r, M') → pm_ev pmT sc e 54 false (50, [some (.ref 83), some (.int x1), some (.int x2), some (.int x3), u4, u5], [], 129, 17845, hp M) (some (.int r), 129, 17845, hp M')) : ∀ (x1 : Int32) (x2 : Int32) (x3 : Int32) (s0 : Int32) (u4 : Option Value) (u5 : Option Value) (M : Mem) (r : Int32) (M' : Mem), J54_124 n rec4 rec50 x1 x2 x3 s0 M = some (r, M') → pm_ev pmT sc e 54 false (124, [some (.ref 83), some (.int x1), some (.int x2), some (.int x3), u4, u5], [.int s0], 129, 17845, hp M) (some (.int r), 129, 17845, hp M') := by
  intro x1 x2 x3 s0 u4 u5 M r M' h
  unfold J54_124 at h
  refine pe_blk mm_54 2 (s' := (127, [some (.ref 83), some (.int x1), some (.int x2), some (.int x3), u4, some (.int s0)], [.int x1], _, _, _)) rfl ?_
  by_cases q19 : x1 = 0
  · rw [if_pos q19] at h
    refine pe_blk mm_54 1 (s' := (if x1 = 0 then 139 else 130, [some (.ref 83), some (.int x1), some (.int x2), some (.int x3), u4, some (.int s0)], [], _, _, _)) rfl ?_
    rw [if_pos q19]
    exact J54_139_ev sc n e he rec4 rec50 hr4 hr50 x2 x3 _ _ _ _ _ _ h
  · rw [if_neg q19] at h
    refine pe_blk mm_54 1 (s' := (if x1 = 0 then 139 else 130, [some (.ref 83), some (.int x1), some (.int x2), some (.int x3), u4, some (.int s0)], [], _, _, _)) rfl ?_
    rw [if_neg q19]
    refine pe_blk mm_54 1 (s' := (132, [some (.ref 83), some (.int x1), some (.int x2), some (.int x3), u4, some (.int s0)], [.int s0], _, _, _)) rfl ?_
    by_cases q20 : s0 = 0
    · rw [if_pos q20] at h
      refine pe_blk mm_54 1 (s' := (if s0 = 0 then 139 else 135, [some (.ref 83), some (.int x1), some (.int x2), some (.int x3), u4, some (.int s0)], [], _, _, _)) rfl ?_
      rw [if_pos q20]
      exact J54_139_ev sc n e he rec4 rec50 hr4 hr50 x2 x3 _ _ _ _ _ _ h
    · rw [if_neg q20] at h
      refine pe_blk mm_54 1 (s' := (if s0 = 0 then 139 else 135, [some (.ref 83), some (.int x1), some (.int x2), some (.int x3), u4, some (.int s0)], [], _, _, _)) rfl ?_
      rw [if_neg q20]
      refine pe_blk mm_54 2 (s' := (140, [some (.ref 83), some (.int x1), some (.int x2), some (.int x3), u4, some (.int s0)], [.int 1], _, _, _)) rfl ?_
      exact J54_140_ev sc n e he rec4 rec50 hr4 hr50 x2 x3 1 _ _ _ _ _ _ h
def J54_119 (n : Nat) (rec4 : Int32 → Int32 → Mem → Option (Int32 × Mem)) (rec50 : Int32 → Int32 → Int32 → Mem → Option (Int32 × Mem)) (x1 : Int32) (x2 : Int32) (x3 : Int32) (M : Mem) : Option (Int32 × Mem) :=
  J54_124 n rec4 rec50 x1 x2 x3 1 M
set_option maxRecDepth 100000 in
set_option maxHeartbeats 4000000 in
theorem J54_119_ev (sc : Option (Nat × (Nat → Int32))) (n : Nat)  (e : Nat) (he : 2 ≤ e) (rec4 : Int32 → Int32 → Mem → Option (Int32 × Mem)) (rec50 : Int32 → Int32 → Int32 → Mem → Option (Int32 × Mem)) (hr4 : ∀ (x1 : Int32) (x2 : Int32) (u3 : Option Value) (u4 : Option Value) (u5 : Option Value) (M : Mem) (r : Int32) (M' : Mem), rec4 x1 x2 M = some (r, M') → pm_ev pmT sc e 54 false (4, [some (.ref 83), some (.int x1), some (.int x2), u3, u4, u5], [], 129, 17845, hp M) (some (.int r), 129, 17845, hp M')) (hr50 : ∀ (x1 : Int32) (x2 : Int32) (x3 : Int32) (u4 : Option Value) (u5 : Option Value) (M : Mem) (r : Int32) (M' : Mem), rec50 x1 x2 x3 M = some (r, M') → pm_ev pmT sc e 54 false (50, [some (.ref 83), some (.int x1), some (.int x2), some (.int x3), u4, u5], [], 129, 17845, hp M) (some (.int r), 129, 17845, hp M')) : ∀ (x1 : Int32) (x2 : Int32) (x3 : Int32) (u4 : Option Value) (u5 : Option Value) (M : Mem) (r : Int32) (M' : Mem), J54_119 n rec4 rec50 x1 x2 x3 M = some (r, M') → pm_ev pmT sc e 54 false (119, [some (.ref 83), some (.int x1), some (.int x2), some (.int x3), u4, u5], [], 129, 17845, hp M) (some (.int r), 129, 17845, hp M') := by
  intro x1 x2 x3 u4 u5 M r M' h
  unfold J54_119 at h
  refine pe_blk mm_54 2 (s' := (124, [some (.ref 83), some (.int x1), some (.int x2), some (.int x3), u4, u5], [.int 1], _, _, _)) rfl ?_
  exact J54_124_ev sc n e he rec4 rec50 hr4 hr50 x1 x2 x3 1 _ _ _ _ _ h
def J54_123 (n : Nat) (rec4 : Int32 → Int32 → Mem → Option (Int32 × Mem)) (rec50 : Int32 → Int32 → Int32 → Mem → Option (Int32 × Mem)) (x1 : Int32) (x2 : Int32) (x3 : Int32) (M : Mem) : Option (Int32 × Mem) :=
  J54_124 n rec4 rec50 x1 x2 x3 0 M
set_option maxRecDepth 100000 in
set_option maxHeartbeats 4000000 in
theorem J54_123_ev (sc : Option (Nat × (Nat → Int32))) (n : Nat)  (e : Nat) (he : 2 ≤ e) (rec4 : Int32 → Int32 → Mem → Option (Int32 × Mem)) (rec50 : Int32 → Int32 → Int32 → Mem → Option (Int32 × Mem)) (hr4 : ∀ (x1 : Int32) (x2 : Int32) (u3 : Option Value) (u4 : Option Value) (u5 : Option Value) (M : Mem) (r : Int32) (M' : Mem), rec4 x1 x2 M = some (r, M') → pm_ev pmT sc e 54 false (4, [some (.ref 83), some (.int x1), some (.int x2), u3, u4, u5], [], 129, 17845, hp M) (some (.int r), 129, 17845, hp M')) (hr50 : ∀ (x1 : Int32) (x2 : Int32) (x3 : Int32) (u4 : Option Value) (u5 : Option Value) (M : Mem) (r : Int32) (M' : Mem), rec50 x1 x2 x3 M = some (r, M') → pm_ev pmT sc e 54 false (50, [some (.ref 83), some (.int x1), some (.int x2), some (.int x3), u4, u5], [], 129, 17845, hp M) (some (.int r), 129, 17845, hp M')) : ∀ (x1 : Int32) (x2 : Int32) (x3 : Int32) (u4 : Option Value) (u5 : Option Value) (M : Mem) (r : Int32) (M' : Mem), J54_123 n rec4 rec50 x1 x2 x3 M = some (r, M') → pm_ev pmT sc e 54 false (123, [some (.ref 83), some (.int x1), some (.int x2), some (.int x3), u4, u5], [], 129, 17845, hp M) (some (.int r), 129, 17845, hp M') := by
  intro x1 x2 x3 u4 u5 M r M' h
  unfold J54_123 at h
  refine pe_blk mm_54 1 (s' := (124, [some (.ref 83), some (.int x1), some (.int x2), some (.int x3), u4, u5], [.int 0], _, _, _)) rfl ?_
  exact J54_124_ev sc n e he rec4 rec50 hr4 hr50 x1 x2 x3 0 _ _ _ _ _ h
def J54_97 (n : Nat) (rec4 : Int32 → Int32 → Mem → Option (Int32 × Mem)) (rec50 : Int32 → Int32 → Int32 → Mem → Option (Int32 × Mem)) (x1 : Int32) (x2 : Int32) (x3 : Int32) (x4 : Int32) (M : Mem) : Option (Int32 × Mem) :=
  match F22 n x4 M with | some (v23, M24) => (if v23 = 0 then (if x4 = 44 then (J54_119 n rec4 rec50 x1 x2 x3 M24) else (if x4 = 59 then (J54_119 n rec4 rec50 x1 x2 x3 M24) else (J54_123 n rec4 rec50 x1 x2 x3 M24))) else (J54_119 n rec4 rec50 x1 x2 x3 M24)) | none => none
set_option maxRecDepth 100000 in
set_option maxHeartbeats 4000000 in
theorem J54_97_ev (sc : Option (Nat × (Nat → Int32))) (n : Nat)  (e : Nat) (he : 2 ≤ e) (rec4 : Int32 → Int32 → Mem → Option (Int32 × Mem)) (rec50 : Int32 → Int32 → Int32 → Mem → Option (Int32 × Mem)) (hr4 : ∀ (x1 : Int32) (x2 : Int32) (u3 : Option Value) (u4 : Option Value) (u5 : Option Value) (M : Mem) (r : Int32) (M' : Mem), rec4 x1 x2 M = some (r, M') → pm_ev pmT sc e 54 false (4, [some (.ref 83), some (.int x1), some (.int x2), u3, u4, u5], [], 129, 17845, hp M) (some (.int r), 129, 17845, hp M')) (hr50 : ∀ (x1 : Int32) (x2 : Int32) (x3 : Int32) (u4 : Option Value) (u5 : Option Value) (M : Mem) (r : Int32) (M' : Mem), rec50 x1 x2 x3 M = some (r, M') → pm_ev pmT sc e 54 false (50, [some (.ref 83), some (.int x1), some (.int x2), some (.int x3), u4, u5], [], 129, 17845, hp M) (some (.int r), 129, 17845, hp M')) : ∀ (x1 : Int32) (x2 : Int32) (x3 : Int32) (x4 : Int32) (u5 : Option Value) (M : Mem) (r : Int32) (M' : Mem), J54_97 n rec4 rec50 x1 x2 x3 x4 M = some (r, M') → pm_ev pmT sc e 54 false (97, [some (.ref 83), some (.int x1), some (.int x2), some (.int x3), some (.int x4), u5], [], 129, 17845, hp M) (some (.int r), 129, 17845, hp M') := by
  intro x1 x2 x3 x4 u5 M r M' h
  unfold J54_97 at h
  refine pe_blk mm_54 1 (s' := (99, [some (.ref 83), some (.int x1), some (.int x2), some (.int x3), some (.int x4), u5], [.int x4], _, _, _)) rfl ?_
  obtain ⟨e1, rfl⟩ : ∃ e1, e = e1 + 1 := ⟨e - 1, by omega⟩
  cases hc25 : F22 n x4 M with
  | none => rw [hc25] at h; cases h
  | some w =>
    obtain ⟨v23, M24⟩ := w
    rw [hc25] at h
    dsimp only at h
    refine pe_stat (al := [.int x4]) (L0 := [some (.int x4)]) (r1 := (some (.int v23), 129, 17845, hp M24)) mm_54 rfl rfl rfl mm_22 rfl (Nat.le_of_ble_eq_true rfl) (Nat.le_of_ble_eq_true rfl) rfl rfl (F22_ev sc n x4 _ e1 (by omega) _ _ hc25) ?_
    show pm_ev _ _ _ _ _ (102, [some (.ref 83), some (.int x1), some (.int x2), some (.int x3), some (.int x4), u5], [.int v23], _, _, _) _
    by_cases q26 : v23 = 0
    · rw [if_pos q26] at h
      refine pe_blk mm_54 1 (s' := (if v23 = 0 then 105 else 119, [some (.ref 83), some (.int x1), some (.int x2), some (.int x3), some (.int x4), u5], [], _, _, _)) rfl ?_
      rw [if_pos q26]
      refine pe_blk mm_54 2 (s' := (109, [some (.ref 83), some (.int x1), some (.int x2), some (.int x3), some (.int x4), u5], [.int 44, .int x4], _, _, _)) rfl ?_
      by_cases q27 : x4 = 44
      · rw [if_pos q27] at h
        refine pe_blk mm_54 1 (s' := (if x4 = 44 then 119 else 112, [some (.ref 83), some (.int x1), some (.int x2), some (.int x3), some (.int x4), u5], [], _, _, _)) rfl ?_
        rw [if_pos q27]
        exact J54_119_ev sc n (e1 + 1) he rec4 rec50 hr4 hr50 x1 x2 x3 _ _ _ _ _ h
      · rw [if_neg q27] at h
        refine pe_blk mm_54 1 (s' := (if x4 = 44 then 119 else 112, [some (.ref 83), some (.int x1), some (.int x2), some (.int x3), some (.int x4), u5], [], _, _, _)) rfl ?_
        rw [if_neg q27]
        refine pe_blk mm_54 2 (s' := (116, [some (.ref 83), some (.int x1), some (.int x2), some (.int x3), some (.int x4), u5], [.int 59, .int x4], _, _, _)) rfl ?_
        by_cases q28 : x4 = 59
        · rw [if_pos q28] at h
          refine pe_blk mm_54 1 (s' := (if x4 = 59 then 119 else 123, [some (.ref 83), some (.int x1), some (.int x2), some (.int x3), some (.int x4), u5], [], _, _, _)) rfl ?_
          rw [if_pos q28]
          exact J54_119_ev sc n (e1 + 1) he rec4 rec50 hr4 hr50 x1 x2 x3 _ _ _ _ _ h
        · rw [if_neg q28] at h
          refine pe_blk mm_54 1 (s' := (if x4 = 59 then 119 else 123, [some (.ref 83), some (.int x1), some (.int x2), some (.int x3), some (.int x4), u5], [], _, _, _)) rfl ?_
          rw [if_neg q28]
          exact J54_123_ev sc n (e1 + 1) he rec4 rec50 hr4 hr50 x1 x2 x3 _ _ _ _ _ h
    · rw [if_neg q26] at h
      refine pe_blk mm_54 1 (s' := (if v23 = 0 then 105 else 119, [some (.ref 83), some (.int x1), some (.int x2), some (.int x3), some (.int x4), u5], [], _, _, _)) rfl ?_
      rw [if_neg q26]
      exact J54_119_ev sc n (e1 + 1) he rec4 rec50 hr4 hr50 x1 x2 x3 _ _ _ _ _ h
def J54_75 (n : Nat) (rec4 : Int32 → Int32 → Mem → Option (Int32 × Mem)) (rec50 : Int32 → Int32 → Int32 → Mem → Option (Int32 × Mem)) (x1 : Int32) (x2 : Int32) (x3 : Int32) (s0 : Int32) (M : Mem) : Option (Int32 × Mem) :=
  if x3 < 0 ∨ 128 ≤ (x3 : Int32).toNatClampNeg then none else (if (M.1 109 (x3 : Int32).toNatClampNeg) = 0 then (J54_119 n rec4 rec50 x1 x2 x3 M) else (if x3 < 0 ∨ 128 ≤ (x3 : Int32).toNatClampNeg then none else (if (M.1 90 (x3 : Int32).toNatClampNeg) = 6 then (J54_119 n rec4 rec50 x1 x2 x3 M) else (J54_97 n rec4 rec50 x1 x2 x3 s0 M))))
set_option maxRecDepth 100000 in
set_option maxHeartbeats 4000000 in
theorem J54_75_ev (sc : Option (Nat × (Nat → Int32))) (n : Nat)  (e : Nat) (he : 2 ≤ e) (rec4 : Int32 → Int32 → Mem → Option (Int32 × Mem)) (rec50 : Int32 → Int32 → Int32 → Mem → Option (Int32 × Mem)) (hr4 : ∀ (x1 : Int32) (x2 : Int32) (u3 : Option Value) (u4 : Option Value) (u5 : Option Value) (M : Mem) (r : Int32) (M' : Mem), rec4 x1 x2 M = some (r, M') → pm_ev pmT sc e 54 false (4, [some (.ref 83), some (.int x1), some (.int x2), u3, u4, u5], [], 129, 17845, hp M) (some (.int r), 129, 17845, hp M')) (hr50 : ∀ (x1 : Int32) (x2 : Int32) (x3 : Int32) (u4 : Option Value) (u5 : Option Value) (M : Mem) (r : Int32) (M' : Mem), rec50 x1 x2 x3 M = some (r, M') → pm_ev pmT sc e 54 false (50, [some (.ref 83), some (.int x1), some (.int x2), some (.int x3), u4, u5], [], 129, 17845, hp M) (some (.int r), 129, 17845, hp M')) : ∀ (x1 : Int32) (x2 : Int32) (x3 : Int32) (s0 : Int32) (u4 : Option Value) (u5 : Option Value) (M : Mem) (r : Int32) (M' : Mem), J54_75 n rec4 rec50 x1 x2 x3 s0 M = some (r, M') → pm_ev pmT sc e 54 false (75, [some (.ref 83), some (.int x1), some (.int x2), some (.int x3), u4, u5], [.int s0], 129, 17845, hp M) (some (.int r), 129, 17845, hp M') := by
  intro x1 x2 x3 s0 u4 u5 M r M' h
  unfold J54_75 at h
  refine pe_blk mm_54 2 (s' := (78, [some (.ref 83), some (.int x1), some (.int x2), some (.int x3), some (.int s0), u5], [.ref 83], _, _, _)) rfl ?_
  refine pe_get mm_54 rfl rfl rfl (by decide) rfl ?_
  refine pe_blk mm_54 1 (s' := (82, [some (.ref 83), some (.int x1), some (.int x2), some (.int x3), some (.int s0), u5], [.int x3, .ref 109], _, _, _)) rfl ?_
  by_cases q17 : x3 < 0 ∨ 128 ≤ (x3 : Int32).toNatClampNeg
  · rw [if_pos q17] at h
    cases h
  · rw [if_neg q17] at h
    refine pe_iald (f := M.1 109) mm_54 rfl rfl (by decide) q17 ?_
    by_cases q18 : (M.1 109 (x3 : Int32).toNatClampNeg) = 0
    · rw [if_pos q18] at h
      refine pe_blk mm_54 1 (s' := (if (M.1 109 (x3 : Int32).toNatClampNeg) = 0 then 119 else 86, [some (.ref 83), some (.int x1), some (.int x2), some (.int x3), some (.int s0), u5], [], _, _, _)) rfl ?_
      rw [if_pos q18]
      exact J54_119_ev sc n e he rec4 rec50 hr4 hr50 x1 x2 x3 _ _ _ _ _ h
    · rw [if_neg q18] at h
      refine pe_blk mm_54 1 (s' := (if (M.1 109 (x3 : Int32).toNatClampNeg) = 0 then 119 else 86, [some (.ref 83), some (.int x1), some (.int x2), some (.int x3), some (.int s0), u5], [], _, _, _)) rfl ?_
      rw [if_neg q18]
      refine pe_blk mm_54 1 (s' := (87, [some (.ref 83), some (.int x1), some (.int x2), some (.int x3), some (.int s0), u5], [.ref 83], _, _, _)) rfl ?_
      refine pe_get mm_54 rfl rfl rfl (by decide) rfl ?_
      refine pe_blk mm_54 1 (s' := (91, [some (.ref 83), some (.int x1), some (.int x2), some (.int x3), some (.int s0), u5], [.int x3, .ref 90], _, _, _)) rfl ?_
      by_cases q21 : x3 < 0 ∨ 128 ≤ (x3 : Int32).toNatClampNeg
      · rw [if_pos q21] at h
        cases h
      · rw [if_neg q21] at h
        refine pe_iald (f := M.1 90) mm_54 rfl rfl (by decide) q21 ?_
        refine pe_blk mm_54 1 (s' := (94, [some (.ref 83), some (.int x1), some (.int x2), some (.int x3), some (.int s0), u5], [.int 6, .int (M.1 90 (x3 : Int32).toNatClampNeg)], _, _, _)) rfl ?_
        by_cases q22 : (M.1 90 (x3 : Int32).toNatClampNeg) = 6
        · rw [if_pos q22] at h
          refine pe_blk mm_54 1 (s' := (if (M.1 90 (x3 : Int32).toNatClampNeg) = 6 then 119 else 97, [some (.ref 83), some (.int x1), some (.int x2), some (.int x3), some (.int s0), u5], [], _, _, _)) rfl ?_
          rw [if_pos q22]
          exact J54_119_ev sc n e he rec4 rec50 hr4 hr50 x1 x2 x3 _ _ _ _ _ h
        · rw [if_neg q22] at h
          refine pe_blk mm_54 1 (s' := (if (M.1 90 (x3 : Int32).toNatClampNeg) = 6 then 119 else 97, [some (.ref 83), some (.int x1), some (.int x2), some (.int x3), some (.int s0), u5], [], _, _, _)) rfl ?_
          rw [if_neg q22]
          exact J54_97_ev sc n e he rec4 rec50 hr4 hr50 x1 x2 x3 s0 _ _ _ _ h
def L54_50 (n : Nat) (rec4 : Int32 → Int32 → Mem → Option (Int32 × Mem)) : Nat → Int32 → Int32 → Int32 → Mem → Option (Int32 × Mem)
  | 0, _, _, _, _ => none
  | k + 1, x1, x2, x3, M => if 128 ≤ x3 then (J54_147 n rec4 x1 x2 M) else (if x3 < 0 ∨ 128 ≤ (x3 : Int32).toNatClampNeg then none else (if (M.1 109 (x3 : Int32).toNatClampNeg) ≤ 0 then (J54_75 n rec4 (L54_50 n rec4 k) x1 x2 x3 0 M) else (match F53 n x3 M with | some (v29, M30) => (J54_75 n rec4 (L54_50 n rec4 k) x1 x2 x3 v29 M30) | none => none)))
set_option maxRecDepth 100000 in
set_option maxHeartbeats 4000000 in
theorem L54_50_ev (sc : Option (Nat × (Nat → Int32))) (n : Nat)  (e : Nat) (he : 2 ≤ e) (rec4 : Int32 → Int32 → Mem → Option (Int32 × Mem)) (hr4 : ∀ (x1 : Int32) (x2 : Int32) (u3 : Option Value) (u4 : Option Value) (u5 : Option Value) (M : Mem) (r : Int32) (M' : Mem), rec4 x1 x2 M = some (r, M') → pm_ev pmT sc e 54 false (4, [some (.ref 83), some (.int x1), some (.int x2), u3, u4, u5], [], 129, 17845, hp M) (some (.int r), 129, 17845, hp M')) : ∀ k : Nat, ∀ (x1 : Int32) (x2 : Int32) (x3 : Int32) (u4 : Option Value) (u5 : Option Value) (M : Mem) (r : Int32) (M' : Mem), L54_50 n rec4 k x1 x2 x3 M = some (r, M') → pm_ev pmT sc e 54 false (50, [some (.ref 83), some (.int x1), some (.int x2), some (.int x3), u4, u5], [], 129, 17845, hp M) (some (.int r), 129, 17845, hp M') := by
  intro k
  induction k with
  | zero => intro x1 x2 x3 u4 u5 M r M' h; cases h
  | succ k hr50 =>
    intro x1 x2 x3 u4 u5 M r M' h
    rw [L54_50] at h
    refine pe_blk mm_54 2 (s' := (54, [some (.ref 83), some (.int x1), some (.int x2), some (.int x3), u4, u5], [.int 128, .int x3], _, _, _)) rfl ?_
    by_cases q14 : 128 ≤ x3
    · rw [if_pos q14] at h
      refine pe_blk mm_54 1 (s' := (if 128 ≤ x3 then 147 else 57, [some (.ref 83), some (.int x1), some (.int x2), some (.int x3), u4, u5], [], _, _, _)) rfl ?_
      rw [if_pos q14]
      exact J54_147_ev sc n e he rec4 hr4 x1 x2 _ _ _ _ _ _ h
    · rw [if_neg q14] at h
      refine pe_blk mm_54 1 (s' := (if 128 ≤ x3 then 147 else 57, [some (.ref 83), some (.int x1), some (.int x2), some (.int x3), u4, u5], [], _, _, _)) rfl ?_
      rw [if_neg q14]
      refine pe_blk mm_54 1 (s' := (58, [some (.ref 83), some (.int x1), some (.int x2), some (.int x3), u4, u5], [.ref 83], _, _, _)) rfl ?_
      refine pe_get mm_54 rfl rfl rfl (by decide) rfl ?_
      refine pe_blk mm_54 1 (s' := (62, [some (.ref 83), some (.int x1), some (.int x2), some (.int x3), u4, u5], [.int x3, .ref 109], _, _, _)) rfl ?_
      by_cases q15 : x3 < 0 ∨ 128 ≤ (x3 : Int32).toNatClampNeg
      · rw [if_pos q15] at h
        cases h
      · rw [if_neg q15] at h
        refine pe_iald (f := M.1 109) mm_54 rfl rfl (by decide) q15 ?_
        by_cases q16 : (M.1 109 (x3 : Int32).toNatClampNeg) ≤ 0
        · rw [if_pos q16] at h
          refine pe_blk mm_54 1 (s' := (if (M.1 109 (x3 : Int32).toNatClampNeg) ≤ 0 then 74 else 66, [some (.ref 83), some (.int x1), some (.int x2), some (.int x3), u4, u5], [], _, _, _)) rfl ?_
          rw [if_pos q16]
          refine pe_blk mm_54 1 (s' := (75, [some (.ref 83), some (.int x1), some (.int x2), some (.int x3), u4, u5], [.int 0], _, _, _)) rfl ?_
          exact J54_75_ev sc n e he rec4 (L54_50 n rec4 k) hr4 hr50 x1 x2 x3 0 _ _ _ _ _ h
        · rw [if_neg q16] at h
          refine pe_blk mm_54 1 (s' := (if (M.1 109 (x3 : Int32).toNatClampNeg) ≤ 0 then 74 else 66, [some (.ref 83), some (.int x1), some (.int x2), some (.int x3), u4, u5], [], _, _, _)) rfl ?_
          rw [if_neg q16]
          refine pe_blk mm_54 2 (s' := (68, [some (.ref 83), some (.int x1), some (.int x2), some (.int x3), u4, u5], [.int x3, .ref 83], _, _, _)) rfl ?_
          obtain ⟨e1, rfl⟩ : ∃ e1, e = e1 + 1 := ⟨e - 1, by omega⟩
          cases hc31 : F53 n x3 M with
          | none => rw [hc31] at h; cases h
          | some w =>
            obtain ⟨v29, M30⟩ := w
            rw [hc31] at h
            dsimp only at h
            refine pe_virt (al := [.int x3]) (a := 83) (L0 := [some (.ref 83), some (.int x3)]) (r1 := (some (.int v29), 129, 17845, hp M30)) mm_54 rfl rfl rfl mm_53 rfl (by decide) (by decide) rfl (Nat.le_of_ble_eq_true rfl) (Nat.le_of_ble_eq_true rfl) rfl rfl (F53_ev sc n x3 _ e1 (by omega) _ _ hc31) ?_
            show pm_ev _ _ _ _ _ (71, [some (.ref 83), some (.int x1), some (.int x2), some (.int x3), u4, u5], [.int v29], _, _, _) _
            refine pe_blk mm_54 1 (s' := (75, [some (.ref 83), some (.int x1), some (.int x2), some (.int x3), u4, u5], [.int v29], _, _, _)) rfl ?_
            exact J54_75_ev sc n (e1 + 1) he rec4 (L54_50 n rec4 k) hr4 hr50 x1 x2 x3 v29 _ _ _ _ _ h
def J54_39 (n : Nat) (rec4 : Int32 → Int32 → Mem → Option (Int32 × Mem)) (x1 : Int32) (x2 : Int32) (M : Mem) : Option (Int32 × Mem) :=
  match F49 n (x2 + 1) 1 0 M with | some (v11, M12) => (L54_50 n rec4 n x1 x2 0 M12) | none => none
set_option maxRecDepth 100000 in
set_option maxHeartbeats 4000000 in
theorem J54_39_ev (sc : Option (Nat × (Nat → Int32))) (n : Nat)  (e : Nat) (he : 2 ≤ e) (rec4 : Int32 → Int32 → Mem → Option (Int32 × Mem)) (hr4 : ∀ (x1 : Int32) (x2 : Int32) (u3 : Option Value) (u4 : Option Value) (u5 : Option Value) (M : Mem) (r : Int32) (M' : Mem), rec4 x1 x2 M = some (r, M') → pm_ev pmT sc e 54 false (4, [some (.ref 83), some (.int x1), some (.int x2), u3, u4, u5], [], 129, 17845, hp M) (some (.int r), 129, 17845, hp M')) : ∀ (x1 : Int32) (x2 : Int32) (u3 : Option Value) (u4 : Option Value) (u5 : Option Value) (M : Mem) (r : Int32) (M' : Mem), J54_39 n rec4 x1 x2 M = some (r, M') → pm_ev pmT sc e 54 false (39, [some (.ref 83), some (.int x1), some (.int x2), u3, u4, u5], [], 129, 17845, hp M) (some (.int r), 129, 17845, hp M') := by
  intro x1 x2 u3 u4 u5 M r M' h
  unfold J54_39 at h
  refine pe_blk mm_54 6 (s' := (45, [some (.ref 83), some (.int x1), some (.int x2), u3, u4, u5], [.int 0, .int 1, .int (x2 + 1), .ref 83], _, _, _)) rfl ?_
  obtain ⟨e1, rfl⟩ : ∃ e1, e = e1 + 1 := ⟨e - 1, by omega⟩
  cases hc13 : F49 n (x2 + 1) 1 0 M with
  | none => rw [hc13] at h; cases h
  | some w =>
    obtain ⟨v11, M12⟩ := w
    rw [hc13] at h
    dsimp only at h
    refine pe_virt (al := [.int 0, .int 1, .int (x2 + 1)]) (a := 83) (L0 := [some (.ref 83), some (.int (x2 + 1)), some (.int 1), some (.int 0), none, none, none, none, none]) (r1 := (none, 129, 17845, hp M12)) mm_54 rfl rfl rfl mm_49 rfl (by decide) (by decide) rfl (Nat.le_of_ble_eq_true rfl) (Nat.le_of_ble_eq_true rfl) rfl rfl (F49_ev sc n (x2 + 1) 1 0 _ e1 (by omega) _ _ hc13) ?_
    show pm_ev _ _ _ _ _ (48, [some (.ref 83), some (.int x1), some (.int x2), u3, u4, u5], [], _, _, _) _
    refine pe_blk mm_54 2 (s' := (50, [some (.ref 83), some (.int x1), some (.int x2), some (.int 0), u4, u5], [], _, _, _)) rfl ?_
    exact L54_50_ev sc n (e1 + 1) he rec4 hr4 n x1 x2 0 _ _ _ _ _ h
def J54_25 (n : Nat) (rec4 : Int32 → Int32 → Mem → Option (Int32 × Mem)) (x1 : Int32) (x2 : Int32) (M : Mem) : Option (Int32 × Mem) :=
  if x2 < 0 ∨ 128 ≤ (x2 : Int32).toNatClampNeg then none else (if (M.1 94 (x2 : Int32).toNatClampNeg) = 4 then (match F50 n M with | some (v8, M9) => (J54_39 n rec4 x1 x2 M9) | none => none) else (J54_147 n rec4 x1 x2 M))
set_option maxRecDepth 100000 in
set_option maxHeartbeats 4000000 in
theorem J54_25_ev (sc : Option (Nat × (Nat → Int32))) (n : Nat)  (e : Nat) (he : 2 ≤ e) (rec4 : Int32 → Int32 → Mem → Option (Int32 × Mem)) (hr4 : ∀ (x1 : Int32) (x2 : Int32) (u3 : Option Value) (u4 : Option Value) (u5 : Option Value) (M : Mem) (r : Int32) (M' : Mem), rec4 x1 x2 M = some (r, M') → pm_ev pmT sc e 54 false (4, [some (.ref 83), some (.int x1), some (.int x2), u3, u4, u5], [], 129, 17845, hp M) (some (.int r), 129, 17845, hp M')) : ∀ (x1 : Int32) (x2 : Int32) (u3 : Option Value) (u4 : Option Value) (u5 : Option Value) (M : Mem) (r : Int32) (M' : Mem), J54_25 n rec4 x1 x2 M = some (r, M') → pm_ev pmT sc e 54 false (25, [some (.ref 83), some (.int x1), some (.int x2), u3, u4, u5], [], 129, 17845, hp M) (some (.int r), 129, 17845, hp M') := by
  intro x1 x2 u3 u4 u5 M r M' h
  unfold J54_25 at h
  refine pe_blk mm_54 1 (s' := (26, [some (.ref 83), some (.int x1), some (.int x2), u3, u4, u5], [.ref 83], _, _, _)) rfl ?_
  refine pe_get mm_54 rfl rfl rfl (by decide) rfl ?_
  refine pe_blk mm_54 1 (s' := (30, [some (.ref 83), some (.int x1), some (.int x2), u3, u4, u5], [.int x2, .ref 94], _, _, _)) rfl ?_
  by_cases q6 : x2 < 0 ∨ 128 ≤ (x2 : Int32).toNatClampNeg
  · rw [if_pos q6] at h
    cases h
  · rw [if_neg q6] at h
    refine pe_iald (f := M.1 94) mm_54 rfl rfl (by decide) q6 ?_
    refine pe_blk mm_54 1 (s' := (32, [some (.ref 83), some (.int x1), some (.int x2), u3, u4, u5], [.int 4, .int (M.1 94 (x2 : Int32).toNatClampNeg)], _, _, _)) rfl ?_
    by_cases q7 : (M.1 94 (x2 : Int32).toNatClampNeg) = 4
    · rw [if_pos q7] at h
      refine pe_blk mm_54 1 (s' := (if (M.1 94 (x2 : Int32).toNatClampNeg) = 4 then 35 else 147, [some (.ref 83), some (.int x1), some (.int x2), u3, u4, u5], [], _, _, _)) rfl ?_
      rw [if_pos q7]
      refine pe_blk mm_54 1 (s' := (36, [some (.ref 83), some (.int x1), some (.int x2), u3, u4, u5], [.ref 83], _, _, _)) rfl ?_
      obtain ⟨e1, rfl⟩ : ∃ e1, e = e1 + 1 := ⟨e - 1, by omega⟩
      cases hc10 : F50 n M with
      | none => rw [hc10] at h; cases h
      | some w =>
        obtain ⟨v8, M9⟩ := w
        rw [hc10] at h
        dsimp only at h
        refine pe_virt (al := []) (a := 83) (L0 := [some (.ref 83), none]) (r1 := (none, 129, 17845, hp M9)) mm_54 rfl rfl rfl mm_50 rfl (by decide) (by decide) rfl (Nat.le_of_ble_eq_true rfl) (Nat.le_of_ble_eq_true rfl) rfl rfl (F50_ev sc n _ e1 (by omega) _ _ hc10) ?_
        show pm_ev _ _ _ _ _ (39, [some (.ref 83), some (.int x1), some (.int x2), u3, u4, u5], [], _, _, _) _
        exact J54_39_ev sc n (e1 + 1) he rec4 hr4 x1 x2 _ _ _ _ _ _ h
    · rw [if_neg q7] at h
      refine pe_blk mm_54 1 (s' := (if (M.1 94 (x2 : Int32).toNatClampNeg) = 4 then 35 else 147, [some (.ref 83), some (.int x1), some (.int x2), u3, u4, u5], [], _, _, _)) rfl ?_
      rw [if_neg q7]
      exact J54_147_ev sc n e he rec4 hr4 x1 x2 _ _ _ _ _ _ h
def L54_4 (n : Nat) : Nat → Int32 → Int32 → Mem → Option (Int32 × Mem)
  | 0, _, _, _ => none
  | k + 1, x1, x2, M => if x2 < 0 ∨ 128 ≤ (x2 : Int32).toNatClampNeg then none else (if (M.1 90 (x2 : Int32).toNatClampNeg) = 6 then (if x1 = 0 ∨ x1 = 1 then some (x1, M) else none) else (if x2 < 0 ∨ 128 ≤ (x2 : Int32).toNatClampNeg then none else (if (M.1 90 (x2 : Int32).toNatClampNeg) = 3 then (J54_25 n (L54_4 n k) x1 x2 M) else (J54_147 n (L54_4 n k) x1 x2 M))))
set_option maxRecDepth 100000 in
set_option maxHeartbeats 4000000 in
theorem L54_4_ev (sc : Option (Nat × (Nat → Int32))) (n : Nat)  (e : Nat) (he : 2 ≤ e) : ∀ k : Nat, ∀ (x1 : Int32) (x2 : Int32) (u3 : Option Value) (u4 : Option Value) (u5 : Option Value) (M : Mem) (r : Int32) (M' : Mem), L54_4 n k x1 x2 M = some (r, M') → pm_ev pmT sc e 54 false (4, [some (.ref 83), some (.int x1), some (.int x2), u3, u4, u5], [], 129, 17845, hp M) (some (.int r), 129, 17845, hp M') := by
  intro k
  induction k with
  | zero => intro x1 x2 u3 u4 u5 M r M' h; cases h
  | succ k hr4 =>
    intro x1 x2 u3 u4 u5 M r M' h
    rw [L54_4] at h
    refine pe_blk mm_54 1 (s' := (5, [some (.ref 83), some (.int x1), some (.int x2), u3, u4, u5], [.ref 83], _, _, _)) rfl ?_
    refine pe_get mm_54 rfl rfl rfl (by decide) rfl ?_
    refine pe_blk mm_54 1 (s' := (9, [some (.ref 83), some (.int x1), some (.int x2), u3, u4, u5], [.int x2, .ref 90], _, _, _)) rfl ?_
    by_cases q1 : x2 < 0 ∨ 128 ≤ (x2 : Int32).toNatClampNeg
    · rw [if_pos q1] at h
      cases h
    · rw [if_neg q1] at h
      refine pe_iald (f := M.1 90) mm_54 rfl rfl (by decide) q1 ?_
      refine pe_blk mm_54 1 (s' := (12, [some (.ref 83), some (.int x1), some (.int x2), u3, u4, u5], [.int 6, .int (M.1 90 (x2 : Int32).toNatClampNeg)], _, _, _)) rfl ?_
      by_cases q2 : (M.1 90 (x2 : Int32).toNatClampNeg) = 6
      · rw [if_pos q2] at h
        refine pe_blk mm_54 1 (s' := (if (M.1 90 (x2 : Int32).toNatClampNeg) = 6 then 153 else 15, [some (.ref 83), some (.int x1), some (.int x2), u3, u4, u5], [], _, _, _)) rfl ?_
        rw [if_pos q2]
        refine pe_blk mm_54 1 (s' := (154, [some (.ref 83), some (.int x1), some (.int x2), u3, u4, u5], [.int x1], _, _, _)) rfl ?_
        by_cases q3 : x1 = 0 ∨ x1 = 1
        · rw [if_pos q3] at h
          cases h
          exact pe_ret mm_54 rfl (if_pos q3)
        · rw [if_neg q3] at h
          cases h
      · rw [if_neg q2] at h
        refine pe_blk mm_54 1 (s' := (if (M.1 90 (x2 : Int32).toNatClampNeg) = 6 then 153 else 15, [some (.ref 83), some (.int x1), some (.int x2), u3, u4, u5], [], _, _, _)) rfl ?_
        rw [if_neg q2]
        refine pe_blk mm_54 1 (s' := (16, [some (.ref 83), some (.int x1), some (.int x2), u3, u4, u5], [.ref 83], _, _, _)) rfl ?_
        refine pe_get mm_54 rfl rfl rfl (by decide) rfl ?_
        refine pe_blk mm_54 1 (s' := (20, [some (.ref 83), some (.int x1), some (.int x2), u3, u4, u5], [.int x2, .ref 90], _, _, _)) rfl ?_
        by_cases q4 : x2 < 0 ∨ 128 ≤ (x2 : Int32).toNatClampNeg
        · rw [if_pos q4] at h
          cases h
        · rw [if_neg q4] at h
          refine pe_iald (f := M.1 90) mm_54 rfl rfl (by decide) q4 ?_
          refine pe_blk mm_54 1 (s' := (22, [some (.ref 83), some (.int x1), some (.int x2), u3, u4, u5], [.int 3, .int (M.1 90 (x2 : Int32).toNatClampNeg)], _, _, _)) rfl ?_
          by_cases q5 : (M.1 90 (x2 : Int32).toNatClampNeg) = 3
          · rw [if_pos q5] at h
            refine pe_blk mm_54 1 (s' := (if (M.1 90 (x2 : Int32).toNatClampNeg) = 3 then 25 else 147, [some (.ref 83), some (.int x1), some (.int x2), u3, u4, u5], [], _, _, _)) rfl ?_
            rw [if_pos q5]
            exact J54_25_ev sc n e he (L54_4 n k) hr4 x1 x2 _ _ _ _ _ _ h
          · rw [if_neg q5] at h
            refine pe_blk mm_54 1 (s' := (if (M.1 90 (x2 : Int32).toNatClampNeg) = 3 then 25 else 147, [some (.ref 83), some (.int x1), some (.int x2), u3, u4, u5], [], _, _, _)) rfl ?_
            rw [if_neg q5]
            exact J54_147_ev sc n e he (L54_4 n k) hr4 x1 x2 _ _ _ _ _ _ h
/-- ArmExpanderModel.followed -/
def F54 (n : Nat) (M : Mem) : Option (Int32 × Mem) :=
  L54_4 n n 1 0 M
set_option maxRecDepth 100000 in
set_option maxHeartbeats 4000000 in
theorem F54_ev (sc : Option (Nat × (Nat → Int32))) (n : Nat)  (M : Mem) (e : Nat) (he : 2 ≤ e) (r : Int32) (M' : Mem) (h : F54 n M = some (r, M')) : pm_ev pmT sc e 54 false (0, [some (.ref 83), none, none, none, none, none], [], 129, 17845, hp M) (some (.int r), 129, 17845, hp M') := by
  unfold F54 at h
  refine pe_blk mm_54 4 (s' := (4, [some (.ref 83), some (.int 1), some (.int 0), none, none, none], [], _, _, _)) rfl ?_
  exact L54_4_ev sc n e he n 1 0 _ _ _ _ _ _ h
def J55_34 (n : Nat) (rec4 : Int32 → Int32 → Int32 → Mem → Option (Int32 × Mem)) (x1 : Int32) (x3 : Int32) (s0 : Int32) (M : Mem) : Option (Int32 × Mem) :=
  rec4 x1 s0 (x3 + 1) M
set_option maxRecDepth 100000 in
set_option maxHeartbeats 4000000 in
theorem J55_34_ev (sc : Option (Nat × (Nat → Int32))) (n : Nat)  (e : Nat) (he : 1 ≤ e) (rec4 : Int32 → Int32 → Int32 → Mem → Option (Int32 × Mem)) (hr4 : ∀ (x1 : Int32) (x2 : Int32) (x3 : Int32) (M : Mem) (r : Int32) (M' : Mem), rec4 x1 x2 x3 M = some (r, M') → pm_ev pmT sc e 55 false (4, [some (.ref 83), some (.int x1), some (.int x2), some (.int x3)], [], 129, 17845, hp M) (some (.int r), 129, 17845, hp M')) : ∀ (x1 : Int32) (x3 : Int32) (s0 : Int32) (u2 : Option Value) (M : Mem) (r : Int32) (M' : Mem), J55_34 n rec4 x1 x3 s0 M = some (r, M') → pm_ev pmT sc e 55 false (34, [some (.ref 83), some (.int x1), u2, some (.int x3)], [.int s0], 129, 17845, hp M) (some (.int r), 129, 17845, hp M') := by
  intro x1 x3 s0 u2 M r M' h
  unfold J55_34 at h
  refine pe_blk mm_55 3 (s' := (4, [some (.ref 83), some (.int x1), some (.int s0), some (.int (x3 + 1))], [], _, _, _)) rfl ?_
  exact hr4 x1 s0 (x3 + 1) _ _ _ h
def J55_29 (n : Nat) (rec4 : Int32 → Int32 → Int32 → Mem → Option (Int32 × Mem)) (x1 : Int32) (x3 : Int32) (M : Mem) : Option (Int32 × Mem) :=
  J55_34 n rec4 x1 x3 1 M
set_option maxRecDepth 100000 in
set_option maxHeartbeats 4000000 in
theorem J55_29_ev (sc : Option (Nat × (Nat → Int32))) (n : Nat)  (e : Nat) (he : 1 ≤ e) (rec4 : Int32 → Int32 → Int32 → Mem → Option (Int32 × Mem)) (hr4 : ∀ (x1 : Int32) (x2 : Int32) (x3 : Int32) (M : Mem) (r : Int32) (M' : Mem), rec4 x1 x2 x3 M = some (r, M') → pm_ev pmT sc e 55 false (4, [some (.ref 83), some (.int x1), some (.int x2), some (.int x3)], [], 129, 17845, hp M) (some (.int r), 129, 17845, hp M')) : ∀ (x1 : Int32) (x3 : Int32) (u2 : Option Value) (M : Mem) (r : Int32) (M' : Mem), J55_29 n rec4 x1 x3 M = some (r, M') → pm_ev pmT sc e 55 false (29, [some (.ref 83), some (.int x1), u2, some (.int x3)], [], 129, 17845, hp M) (some (.int r), 129, 17845, hp M') := by
  intro x1 x3 u2 M r M' h
  unfold J55_29 at h
  refine pe_blk mm_55 2 (s' := (34, [some (.ref 83), some (.int x1), u2, some (.int x3)], [.int 1], _, _, _)) rfl ?_
  exact J55_34_ev sc n e he rec4 hr4 x1 x3 1 _ _ _ _ h
def J55_33 (n : Nat) (rec4 : Int32 → Int32 → Int32 → Mem → Option (Int32 × Mem)) (x1 : Int32) (x3 : Int32) (M : Mem) : Option (Int32 × Mem) :=
  J55_34 n rec4 x1 x3 0 M
set_option maxRecDepth 100000 in
set_option maxHeartbeats 4000000 in
theorem J55_33_ev (sc : Option (Nat × (Nat → Int32))) (n : Nat)  (e : Nat) (he : 1 ≤ e) (rec4 : Int32 → Int32 → Int32 → Mem → Option (Int32 × Mem)) (hr4 : ∀ (x1 : Int32) (x2 : Int32) (x3 : Int32) (M : Mem) (r : Int32) (M' : Mem), rec4 x1 x2 x3 M = some (r, M') → pm_ev pmT sc e 55 false (4, [some (.ref 83), some (.int x1), some (.int x2), some (.int x3)], [], 129, 17845, hp M) (some (.int r), 129, 17845, hp M')) : ∀ (x1 : Int32) (x3 : Int32) (u2 : Option Value) (M : Mem) (r : Int32) (M' : Mem), J55_33 n rec4 x1 x3 M = some (r, M') → pm_ev pmT sc e 55 false (33, [some (.ref 83), some (.int x1), u2, some (.int x3)], [], 129, 17845, hp M) (some (.int r), 129, 17845, hp M') := by
  intro x1 x3 u2 M r M' h
  unfold J55_33 at h
  refine pe_blk mm_55 1 (s' := (34, [some (.ref 83), some (.int x1), u2, some (.int x3)], [.int 0], _, _, _)) rfl ?_
  exact J55_34_ev sc n e he rec4 hr4 x1 x3 0 _ _ _ _ h
def L55_4 (n : Nat) : Nat → Int32 → Int32 → Int32 → Mem → Option (Int32 × Mem)
  | 0, _, _, _, _ => none
  | k + 1, x1, x2, x3, M => if x1 < 0 ∨ 128 ≤ (x1 : Int32).toNatClampNeg then none else (if (M.1 99 (x1 : Int32).toNatClampNeg) ≤ x3 then (if x2 = 0 ∨ x2 = 1 then some (x2, M) else none) else (if x2 = 0 then (if x3 < 0 ∨ 128 ≤ (x3 : Int32).toNatClampNeg then none else (if (M.1 97 (x3 : Int32).toNatClampNeg) = 7 then (J55_29 n (L55_4 n k) x1 x3 M) else (J55_33 n (L55_4 n k) x1 x3 M))) else (J55_29 n (L55_4 n k) x1 x3 M)))
set_option maxRecDepth 100000 in
set_option maxHeartbeats 4000000 in
theorem L55_4_ev (sc : Option (Nat × (Nat → Int32))) (n : Nat)  (e : Nat) (he : 1 ≤ e) : ∀ k : Nat, ∀ (x1 : Int32) (x2 : Int32) (x3 : Int32) (M : Mem) (r : Int32) (M' : Mem), L55_4 n k x1 x2 x3 M = some (r, M') → pm_ev pmT sc e 55 false (4, [some (.ref 83), some (.int x1), some (.int x2), some (.int x3)], [], 129, 17845, hp M) (some (.int r), 129, 17845, hp M') := by
  intro k
  induction k with
  | zero => intro x1 x2 x3  M r M' h; cases h
  | succ k hr4 =>
    intro x1 x2 x3  M r M' h
    rw [L55_4] at h
    refine pe_blk mm_55 2 (s' := (6, [some (.ref 83), some (.int x1), some (.int x2), some (.int x3)], [.ref 83, .int x3], _, _, _)) rfl ?_
    refine pe_get mm_55 rfl rfl rfl (by decide) rfl ?_
    refine pe_blk mm_55 1 (s' := (10, [some (.ref 83), some (.int x1), some (.int x2), some (.int x3)], [.int x1, .ref 99, .int x3], _, _, _)) rfl ?_
    by_cases q1 : x1 < 0 ∨ 128 ≤ (x1 : Int32).toNatClampNeg
    · rw [if_pos q1] at h
      cases h
    · rw [if_neg q1] at h
      refine pe_iald (f := M.1 99) mm_55 rfl rfl (by decide) q1 ?_
      by_cases q2 : (M.1 99 (x1 : Int32).toNatClampNeg) ≤ x3
      · rw [if_pos q2] at h
        refine pe_blk mm_55 1 (s' := (if (M.1 99 (x1 : Int32).toNatClampNeg) ≤ x3 then 41 else 14, [some (.ref 83), some (.int x1), some (.int x2), some (.int x3)], [], _, _, _)) rfl ?_
        rw [if_pos q2]
        refine pe_blk mm_55 1 (s' := (42, [some (.ref 83), some (.int x1), some (.int x2), some (.int x3)], [.int x2], _, _, _)) rfl ?_
        by_cases q3 : x2 = 0 ∨ x2 = 1
        · rw [if_pos q3] at h
          cases h
          exact pe_ret mm_55 rfl (if_pos q3)
        · rw [if_neg q3] at h
          cases h
      · rw [if_neg q2] at h
        refine pe_blk mm_55 1 (s' := (if (M.1 99 (x1 : Int32).toNatClampNeg) ≤ x3 then 41 else 14, [some (.ref 83), some (.int x1), some (.int x2), some (.int x3)], [], _, _, _)) rfl ?_
        rw [if_neg q2]
        refine pe_blk mm_55 1 (s' := (15, [some (.ref 83), some (.int x1), some (.int x2), some (.int x3)], [.int x2], _, _, _)) rfl ?_
        by_cases q4 : x2 = 0
        · rw [if_pos q4] at h
          refine pe_blk mm_55 1 (s' := (if x2 = 0 then 18 else 29, [some (.ref 83), some (.int x1), some (.int x2), some (.int x3)], [], _, _, _)) rfl ?_
          rw [if_pos q4]
          refine pe_blk mm_55 1 (s' := (19, [some (.ref 83), some (.int x1), some (.int x2), some (.int x3)], [.ref 83], _, _, _)) rfl ?_
          refine pe_get mm_55 rfl rfl rfl (by decide) rfl ?_
          refine pe_blk mm_55 1 (s' := (23, [some (.ref 83), some (.int x1), some (.int x2), some (.int x3)], [.int x3, .ref 97], _, _, _)) rfl ?_
          by_cases q5 : x3 < 0 ∨ 128 ≤ (x3 : Int32).toNatClampNeg
          · rw [if_pos q5] at h
            cases h
          · rw [if_neg q5] at h
            refine pe_iald (f := M.1 97) mm_55 rfl rfl (by decide) q5 ?_
            refine pe_blk mm_55 1 (s' := (26, [some (.ref 83), some (.int x1), some (.int x2), some (.int x3)], [.int 7, .int (M.1 97 (x3 : Int32).toNatClampNeg)], _, _, _)) rfl ?_
            by_cases q6 : (M.1 97 (x3 : Int32).toNatClampNeg) = 7
            · rw [if_pos q6] at h
              refine pe_blk mm_55 1 (s' := (if (M.1 97 (x3 : Int32).toNatClampNeg) = 7 then 29 else 33, [some (.ref 83), some (.int x1), some (.int x2), some (.int x3)], [], _, _, _)) rfl ?_
              rw [if_pos q6]
              exact J55_29_ev sc n e he (L55_4 n k) hr4 x1 x3 _ _ _ _ h
            · rw [if_neg q6] at h
              refine pe_blk mm_55 1 (s' := (if (M.1 97 (x3 : Int32).toNatClampNeg) = 7 then 29 else 33, [some (.ref 83), some (.int x1), some (.int x2), some (.int x3)], [], _, _, _)) rfl ?_
              rw [if_neg q6]
              exact J55_33_ev sc n e he (L55_4 n k) hr4 x1 x3 _ _ _ _ h
        · rw [if_neg q4] at h
          refine pe_blk mm_55 1 (s' := (if x2 = 0 then 18 else 29, [some (.ref 83), some (.int x1), some (.int x2), some (.int x3)], [], _, _, _)) rfl ?_
          rw [if_neg q4]
          exact J55_29_ev sc n e he (L55_4 n k) hr4 x1 x3 _ _ _ _ h
/-- ArmExpanderModel.isUsed -/
def F55 (n : Nat) (a0 : Int32) (M : Mem) : Option (Int32 × Mem) :=
  L55_4 n n a0 0 a0 M
set_option maxRecDepth 100000 in
set_option maxHeartbeats 4000000 in
theorem F55_ev (sc : Option (Nat × (Nat → Int32))) (n : Nat) (a0 : Int32)  (M : Mem) (e : Nat) (he : 1 ≤ e) (r : Int32) (M' : Mem) (h : F55 n a0 M = some (r, M')) : pm_ev pmT sc e 55 false (0, [some (.ref 83), some (.int a0), none, none], [], 129, 17845, hp M) (some (.int r), 129, 17845, hp M') := by
  unfold F55 at h
  refine pe_blk mm_55 4 (s' := (4, [some (.ref 83), some (.int a0), some (.int 0), some (.int a0)], [], _, _, _)) rfl ?_
  exact L55_4_ev sc n e he n a0 0 a0 _ _ _ h
def J56_17 (n : Nat) (s0 : Int32) (M : Mem) : Option (Int32 × Mem) :=
  some (s0, M)
set_option maxRecDepth 100000 in
set_option maxHeartbeats 4000000 in
theorem J56_17_ev (sc : Option (Nat × (Nat → Int32))) (n : Nat)  (e : Nat) (he : 1 ≤ e) : ∀ (s0 : Int32) (u0 : Option Value) (u1 : Option Value) (M : Mem) (r : Int32) (M' : Mem), J56_17 n s0 M = some (r, M') → pm_ev pmT sc e 56 false (17, [u0, u1], [.int s0], 129, 17845, hp M) (some (.int r), 129, 17845, hp M') := by
  intro s0 u0 u1 M r M' h
  unfold J56_17 at h
  cases h
  exact pe_ret mm_56 rfl rfl
/-- ArmExpanderModel.depth -/
def F56 (n : Nat) (a0 : Int32) (a1 : Int32) (M : Mem) : Option (Int32 × Mem) :=
  if 0 ≤ a0 then (if 0 ≤ a1 then (J56_17 n 2 M) else (J56_17 n 1 M)) else (J56_17 n 0 M)
set_option maxRecDepth 100000 in
set_option maxHeartbeats 4000000 in
theorem F56_ev (sc : Option (Nat × (Nat → Int32))) (n : Nat) (a0 : Int32) (a1 : Int32)  (M : Mem) (e : Nat) (he : 1 ≤ e) (r : Int32) (M' : Mem) (h : F56 n a0 a1 M = some (r, M')) : pm_ev pmT sc e 56 false (0, [some (.int a0), some (.int a1)], [], 129, 17845, hp M) (some (.int r), 129, 17845, hp M') := by
  unfold F56 at h
  refine pe_blk mm_56 1 (s' := (1, [some (.int a0), some (.int a1)], [.int a0], _, _, _)) rfl ?_
  by_cases q1 : 0 ≤ a0
  · rw [if_pos q1] at h
    refine pe_blk mm_56 1 (s' := (if 0 ≤ a0 then 8 else 4, [some (.int a0), some (.int a1)], [], _, _, _)) rfl ?_
    rw [if_pos q1]
    refine pe_blk mm_56 1 (s' := (9, [some (.int a0), some (.int a1)], [.int a1], _, _, _)) rfl ?_
    by_cases q2 : 0 ≤ a1
    · rw [if_pos q2] at h
      refine pe_blk mm_56 1 (s' := (if 0 ≤ a1 then 16 else 12, [some (.int a0), some (.int a1)], [], _, _, _)) rfl ?_
      rw [if_pos q2]
      refine pe_blk mm_56 1 (s' := (17, [some (.int a0), some (.int a1)], [.int 2], _, _, _)) rfl ?_
      exact J56_17_ev sc n e he 2 _ _ _ _ _ h
    · rw [if_neg q2] at h
      refine pe_blk mm_56 1 (s' := (if 0 ≤ a1 then 16 else 12, [some (.int a0), some (.int a1)], [], _, _, _)) rfl ?_
      rw [if_neg q2]
      refine pe_blk mm_56 2 (s' := (17, [some (.int a0), some (.int a1)], [.int 1], _, _, _)) rfl ?_
      exact J56_17_ev sc n e he 1 _ _ _ _ _ h
  · rw [if_neg q1] at h
    refine pe_blk mm_56 1 (s' := (if 0 ≤ a0 then 8 else 4, [some (.int a0), some (.int a1)], [], _, _, _)) rfl ?_
    rw [if_neg q1]
    refine pe_blk mm_56 2 (s' := (17, [some (.int a0), some (.int a1)], [.int 0], _, _, _)) rfl ?_
    exact J56_17_ev sc n e he 0 _ _ _ _ _ h
def J57_128 (n : Nat) (rec4 : Int32 → Int32 → Mem → Option (Int32 × Mem)) (x2 : Int32) (s0 : Int32) (M : Mem) : Option (Int32 × Mem) :=
  rec4 s0 (x2 + 1) M
set_option maxRecDepth 100000 in
set_option maxHeartbeats 4000000 in
theorem J57_128_ev (sc : Option (Nat × (Nat → Int32))) (n : Nat)  (e : Nat) (he : 2 ≤ e) (rec4 : Int32 → Int32 → Mem → Option (Int32 × Mem)) (hr4 : ∀ (x1 : Int32) (x2 : Int32) (u3 : Option Value) (u4 : Option Value) (M : Mem) (r : Int32) (M' : Mem), rec4 x1 x2 M = some (r, M') → pm_ev pmT sc e 57 false (4, [some (.ref 83), some (.int x1), some (.int x2), u3, u4], [], 129, 17845, hp M) (some (.int r), 129, 17845, hp M')) : ∀ (x2 : Int32) (s0 : Int32) (u1 : Option Value) (u3 : Option Value) (u4 : Option Value) (M : Mem) (r : Int32) (M' : Mem), J57_128 n rec4 x2 s0 M = some (r, M') → pm_ev pmT sc e 57 false (128, [some (.ref 83), u1, some (.int x2), u3, u4], [.int s0], 129, 17845, hp M) (some (.int r), 129, 17845, hp M') := by
  intro x2 s0 u1 u3 u4 M r M' h
  unfold J57_128 at h
  refine pe_blk mm_57 3 (s' := (4, [some (.ref 83), some (.int s0), some (.int (x2 + 1)), u3, u4], [], _, _, _)) rfl ?_
  exact hr4 s0 (x2 + 1) _ _ _ _ _ h
def J57_127 (n : Nat) (rec4 : Int32 → Int32 → Mem → Option (Int32 × Mem)) (x2 : Int32) (M : Mem) : Option (Int32 × Mem) :=
  J57_128 n rec4 x2 0 M
set_option maxRecDepth 100000 in
set_option maxHeartbeats 4000000 in
theorem J57_127_ev (sc : Option (Nat × (Nat → Int32))) (n : Nat)  (e : Nat) (he : 2 ≤ e) (rec4 : Int32 → Int32 → Mem → Option (Int32 × Mem)) (hr4 : ∀ (x1 : Int32) (x2 : Int32) (u3 : Option Value) (u4 : Option Value) (M : Mem) (r : Int32) (M' : Mem), rec4 x1 x2 M = some (r, M') → pm_ev pmT sc e 57 false (4, [some (.ref 83), some (.int x1), some (.int x2), u3, u4], [], 129, 17845, hp M) (some (.int r), 129, 17845, hp M')) : ∀ (x2 : Int32) (u1 : Option Value) (u3 : Option Value) (u4 : Option Value) (M : Mem) (r : Int32) (M' : Mem), J57_127 n rec4 x2 M = some (r, M') → pm_ev pmT sc e 57 false (127, [some (.ref 83), u1, some (.int x2), u3, u4], [], 129, 17845, hp M) (some (.int r), 129, 17845, hp M') := by
  intro x2 u1 u3 u4 M r M' h
  unfold J57_127 at h
  refine pe_blk mm_57 1 (s' := (128, [some (.ref 83), u1, some (.int x2), u3, u4], [.int 0], _, _, _)) rfl ?_
  exact J57_128_ev sc n e he rec4 hr4 x2 0 _ _ _ _ _ _ h
def J57_123 (n : Nat) (rec4 : Int32 → Int32 → Mem → Option (Int32 × Mem)) (x2 : Int32) (M : Mem) : Option (Int32 × Mem) :=
  J57_128 n rec4 x2 1 M
set_option maxRecDepth 100000 in
set_option maxHeartbeats 4000000 in
theorem J57_123_ev (sc : Option (Nat × (Nat → Int32))) (n : Nat)  (e : Nat) (he : 2 ≤ e) (rec4 : Int32 → Int32 → Mem → Option (Int32 × Mem)) (hr4 : ∀ (x1 : Int32) (x2 : Int32) (u3 : Option Value) (u4 : Option Value) (M : Mem) (r : Int32) (M' : Mem), rec4 x1 x2 M = some (r, M') → pm_ev pmT sc e 57 false (4, [some (.ref 83), some (.int x1), some (.int x2), u3, u4], [], 129, 17845, hp M) (some (.int r), 129, 17845, hp M')) : ∀ (x2 : Int32) (u1 : Option Value) (u3 : Option Value) (u4 : Option Value) (M : Mem) (r : Int32) (M' : Mem), J57_123 n rec4 x2 M = some (r, M') → pm_ev pmT sc e 57 false (123, [some (.ref 83), u1, some (.int x2), u3, u4], [], 129, 17845, hp M) (some (.int r), 129, 17845, hp M') := by
  intro x2 u1 u3 u4 M r M' h
  unfold J57_123 at h
  refine pe_blk mm_57 2 (s' := (128, [some (.ref 83), u1, some (.int x2), u3, u4], [.int 1], _, _, _)) rfl ?_
  exact J57_128_ev sc n e he rec4 hr4 x2 1 _ _ _ _ _ _ h
def J57_105 (n : Nat) (rec4 : Int32 → Int32 → Mem → Option (Int32 × Mem)) (x2 : Int32) (M : Mem) : Option (Int32 × Mem) :=
  if x2 < 0 ∨ 128 ≤ (x2 : Int32).toNatClampNeg then none else (if (M.1 97 (x2 : Int32).toNatClampNeg) = 4 then (match F55 n x2 M with | some (v17, M18) => (if v17 = 0 then (J57_127 n rec4 x2 M18) else (J57_123 n rec4 x2 M18)) | none => none) else (J57_123 n rec4 x2 M))
set_option maxRecDepth 100000 in
set_option maxHeartbeats 4000000 in
theorem J57_105_ev (sc : Option (Nat × (Nat → Int32))) (n : Nat)  (e : Nat) (he : 2 ≤ e) (rec4 : Int32 → Int32 → Mem → Option (Int32 × Mem)) (hr4 : ∀ (x1 : Int32) (x2 : Int32) (u3 : Option Value) (u4 : Option Value) (M : Mem) (r : Int32) (M' : Mem), rec4 x1 x2 M = some (r, M') → pm_ev pmT sc e 57 false (4, [some (.ref 83), some (.int x1), some (.int x2), u3, u4], [], 129, 17845, hp M) (some (.int r), 129, 17845, hp M')) : ∀ (x2 : Int32) (u1 : Option Value) (u3 : Option Value) (u4 : Option Value) (M : Mem) (r : Int32) (M' : Mem), J57_105 n rec4 x2 M = some (r, M') → pm_ev pmT sc e 57 false (105, [some (.ref 83), u1, some (.int x2), u3, u4], [], 129, 17845, hp M) (some (.int r), 129, 17845, hp M') := by
  intro x2 u1 u3 u4 M r M' h
  unfold J57_105 at h
  refine pe_blk mm_57 1 (s' := (106, [some (.ref 83), u1, some (.int x2), u3, u4], [.ref 83], _, _, _)) rfl ?_
  refine pe_get mm_57 rfl rfl rfl (by decide) rfl ?_
  refine pe_blk mm_57 1 (s' := (110, [some (.ref 83), u1, some (.int x2), u3, u4], [.int x2, .ref 97], _, _, _)) rfl ?_
  by_cases q15 : x2 < 0 ∨ 128 ≤ (x2 : Int32).toNatClampNeg
  · rw [if_pos q15] at h
    cases h
  · rw [if_neg q15] at h
    refine pe_iald (f := M.1 97) mm_57 rfl rfl (by decide) q15 ?_
    refine pe_blk mm_57 1 (s' := (112, [some (.ref 83), u1, some (.int x2), u3, u4], [.int 4, .int (M.1 97 (x2 : Int32).toNatClampNeg)], _, _, _)) rfl ?_
    by_cases q16 : (M.1 97 (x2 : Int32).toNatClampNeg) = 4
    · rw [if_pos q16] at h
      refine pe_blk mm_57 1 (s' := (if (M.1 97 (x2 : Int32).toNatClampNeg) = 4 then 115 else 123, [some (.ref 83), u1, some (.int x2), u3, u4], [], _, _, _)) rfl ?_
      rw [if_pos q16]
      refine pe_blk mm_57 2 (s' := (117, [some (.ref 83), u1, some (.int x2), u3, u4], [.int x2, .ref 83], _, _, _)) rfl ?_
      obtain ⟨e1, rfl⟩ : ∃ e1, e = e1 + 1 := ⟨e - 1, by omega⟩
      cases hc19 : F55 n x2 M with
      | none => rw [hc19] at h; cases h
      | some w =>
        obtain ⟨v17, M18⟩ := w
        rw [hc19] at h
        dsimp only at h
        refine pe_virt (al := [.int x2]) (a := 83) (L0 := [some (.ref 83), some (.int x2), none, none]) (r1 := (some (.int v17), 129, 17845, hp M18)) mm_57 rfl rfl rfl mm_55 rfl (by decide) (by decide) rfl (Nat.le_of_ble_eq_true rfl) (Nat.le_of_ble_eq_true rfl) rfl rfl (F55_ev sc n x2 _ e1 (by omega) _ _ hc19) ?_
        show pm_ev _ _ _ _ _ (120, [some (.ref 83), u1, some (.int x2), u3, u4], [.int v17], _, _, _) _
        by_cases q20 : v17 = 0
        · rw [if_pos q20] at h
          refine pe_blk mm_57 1 (s' := (if v17 = 0 then 127 else 123, [some (.ref 83), u1, some (.int x2), u3, u4], [], _, _, _)) rfl ?_
          rw [if_pos q20]
          exact J57_127_ev sc n (e1 + 1) he rec4 hr4 x2 _ _ _ _ _ _ h
        · rw [if_neg q20] at h
          refine pe_blk mm_57 1 (s' := (if v17 = 0 then 127 else 123, [some (.ref 83), u1, some (.int x2), u3, u4], [], _, _, _)) rfl ?_
          rw [if_neg q20]
          exact J57_123_ev sc n (e1 + 1) he rec4 hr4 x2 _ _ _ _ _ _ h
    · rw [if_neg q16] at h
      refine pe_blk mm_57 1 (s' := (if (M.1 97 (x2 : Int32).toNatClampNeg) = 4 then 115 else 123, [some (.ref 83), u1, some (.int x2), u3, u4], [], _, _, _)) rfl ?_
      rw [if_neg q16]
      exact J57_123_ev sc n e he rec4 hr4 x2 _ _ _ _ _ _ h
def J57_83 (n : Nat) (rec4 : Int32 → Int32 → Mem → Option (Int32 × Mem)) (x1 : Int32) (x2 : Int32) (s0 : Int32) (M : Mem) : Option (Int32 × Mem) :=
  if x1 = 0 then (J57_127 n rec4 x2 M) else (if x2 < 0 ∨ 128 ≤ (x2 : Int32).toNatClampNeg then none else (if (M.1 97 (x2 : Int32).toNatClampNeg) = 7 then (if s0 = 0 then (J57_127 n rec4 x2 M) else (J57_105 n rec4 x2 M)) else (J57_105 n rec4 x2 M)))
set_option maxRecDepth 100000 in
set_option maxHeartbeats 4000000 in
theorem J57_83_ev (sc : Option (Nat × (Nat → Int32))) (n : Nat)  (e : Nat) (he : 2 ≤ e) (rec4 : Int32 → Int32 → Mem → Option (Int32 × Mem)) (hr4 : ∀ (x1 : Int32) (x2 : Int32) (u3 : Option Value) (u4 : Option Value) (M : Mem) (r : Int32) (M' : Mem), rec4 x1 x2 M = some (r, M') → pm_ev pmT sc e 57 false (4, [some (.ref 83), some (.int x1), some (.int x2), u3, u4], [], 129, 17845, hp M) (some (.int r), 129, 17845, hp M')) : ∀ (x1 : Int32) (x2 : Int32) (s0 : Int32) (u3 : Option Value) (u4 : Option Value) (M : Mem) (r : Int32) (M' : Mem), J57_83 n rec4 x1 x2 s0 M = some (r, M') → pm_ev pmT sc e 57 false (83, [some (.ref 83), some (.int x1), some (.int x2), u3, u4], [.int s0], 129, 17845, hp M) (some (.int r), 129, 17845, hp M') := by
  intro x1 x2 s0 u3 u4 M r M' h
  unfold J57_83 at h
  refine pe_blk mm_57 2 (s' := (86, [some (.ref 83), some (.int x1), some (.int x2), u3, some (.int s0)], [.int x1], _, _, _)) rfl ?_
  by_cases q11 : x1 = 0
  · rw [if_pos q11] at h
    refine pe_blk mm_57 1 (s' := (if x1 = 0 then 127 else 89, [some (.ref 83), some (.int x1), some (.int x2), u3, some (.int s0)], [], _, _, _)) rfl ?_
    rw [if_pos q11]
    exact J57_127_ev sc n e he rec4 hr4 x2 _ _ _ _ _ _ h
  · rw [if_neg q11] at h
    refine pe_blk mm_57 1 (s' := (if x1 = 0 then 127 else 89, [some (.ref 83), some (.int x1), some (.int x2), u3, some (.int s0)], [], _, _, _)) rfl ?_
    rw [if_neg q11]
    refine pe_blk mm_57 1 (s' := (90, [some (.ref 83), some (.int x1), some (.int x2), u3, some (.int s0)], [.ref 83], _, _, _)) rfl ?_
    refine pe_get mm_57 rfl rfl rfl (by decide) rfl ?_
    refine pe_blk mm_57 1 (s' := (94, [some (.ref 83), some (.int x1), some (.int x2), u3, some (.int s0)], [.int x2, .ref 97], _, _, _)) rfl ?_
    by_cases q12 : x2 < 0 ∨ 128 ≤ (x2 : Int32).toNatClampNeg
    · rw [if_pos q12] at h
      cases h
    · rw [if_neg q12] at h
      refine pe_iald (f := M.1 97) mm_57 rfl rfl (by decide) q12 ?_
      refine pe_blk mm_57 1 (s' := (97, [some (.ref 83), some (.int x1), some (.int x2), u3, some (.int s0)], [.int 7, .int (M.1 97 (x2 : Int32).toNatClampNeg)], _, _, _)) rfl ?_
      by_cases q13 : (M.1 97 (x2 : Int32).toNatClampNeg) = 7
      · rw [if_pos q13] at h
        refine pe_blk mm_57 1 (s' := (if (M.1 97 (x2 : Int32).toNatClampNeg) = 7 then 100 else 105, [some (.ref 83), some (.int x1), some (.int x2), u3, some (.int s0)], [], _, _, _)) rfl ?_
        rw [if_pos q13]
        refine pe_blk mm_57 1 (s' := (102, [some (.ref 83), some (.int x1), some (.int x2), u3, some (.int s0)], [.int s0], _, _, _)) rfl ?_
        by_cases q14 : s0 = 0
        · rw [if_pos q14] at h
          refine pe_blk mm_57 1 (s' := (if s0 = 0 then 127 else 105, [some (.ref 83), some (.int x1), some (.int x2), u3, some (.int s0)], [], _, _, _)) rfl ?_
          rw [if_pos q14]
          exact J57_127_ev sc n e he rec4 hr4 x2 _ _ _ _ _ _ h
        · rw [if_neg q14] at h
          refine pe_blk mm_57 1 (s' := (if s0 = 0 then 127 else 105, [some (.ref 83), some (.int x1), some (.int x2), u3, some (.int s0)], [], _, _, _)) rfl ?_
          rw [if_neg q14]
          exact J57_105_ev sc n e he rec4 hr4 x2 _ _ _ _ _ _ h
      · rw [if_neg q13] at h
        refine pe_blk mm_57 1 (s' := (if (M.1 97 (x2 : Int32).toNatClampNeg) = 7 then 100 else 105, [some (.ref 83), some (.int x1), some (.int x2), u3, some (.int s0)], [], _, _, _)) rfl ?_
        rw [if_neg q13]
        exact J57_105_ev sc n e he rec4 hr4 x2 _ _ _ _ _ _ h
def J57_82 (n : Nat) (rec4 : Int32 → Int32 → Mem → Option (Int32 × Mem)) (x1 : Int32) (x2 : Int32) (M : Mem) : Option (Int32 × Mem) :=
  J57_83 n rec4 x1 x2 0 M
set_option maxRecDepth 100000 in
set_option maxHeartbeats 4000000 in
theorem J57_82_ev (sc : Option (Nat × (Nat → Int32))) (n : Nat)  (e : Nat) (he : 2 ≤ e) (rec4 : Int32 → Int32 → Mem → Option (Int32 × Mem)) (hr4 : ∀ (x1 : Int32) (x2 : Int32) (u3 : Option Value) (u4 : Option Value) (M : Mem) (r : Int32) (M' : Mem), rec4 x1 x2 M = some (r, M') → pm_ev pmT sc e 57 false (4, [some (.ref 83), some (.int x1), some (.int x2), u3, u4], [], 129, 17845, hp M) (some (.int r), 129, 17845, hp M')) : ∀ (x1 : Int32) (x2 : Int32) (u3 : Option Value) (u4 : Option Value) (M : Mem) (r : Int32) (M' : Mem), J57_82 n rec4 x1 x2 M = some (r, M') → pm_ev pmT sc e 57 false (82, [some (.ref 83), some (.int x1), some (.int x2), u3, u4], [], 129, 17845, hp M) (some (.int r), 129, 17845, hp M') := by
  intro x1 x2 u3 u4 M r M' h
  unfold J57_82 at h
  refine pe_blk mm_57 1 (s' := (83, [some (.ref 83), some (.int x1), some (.int x2), u3, u4], [.int 0], _, _, _)) rfl ?_
  exact J57_83_ev sc n e he rec4 hr4 x1 x2 0 _ _ _ _ _ h
def J57_78 (n : Nat) (rec4 : Int32 → Int32 → Mem → Option (Int32 × Mem)) (x1 : Int32) (x2 : Int32) (M : Mem) : Option (Int32 × Mem) :=
  J57_83 n rec4 x1 x2 1 M
set_option maxRecDepth 100000 in
set_option maxHeartbeats 4000000 in
theorem J57_78_ev (sc : Option (Nat × (Nat → Int32))) (n : Nat)  (e : Nat) (he : 2 ≤ e) (rec4 : Int32 → Int32 → Mem → Option (Int32 × Mem)) (hr4 : ∀ (x1 : Int32) (x2 : Int32) (u3 : Option Value) (u4 : Option Value) (M : Mem) (r : Int32) (M' : Mem), rec4 x1 x2 M = some (r, M') → pm_ev pmT sc e 57 false (4, [some (.ref 83), some (.int x1), some (.int x2), u3, u4], [], 129, 17845, hp M) (some (.int r), 129, 17845, hp M')) : ∀ (x1 : Int32) (x2 : Int32) (u3 : Option Value) (u4 : Option Value) (M : Mem) (r : Int32) (M' : Mem), J57_78 n rec4 x1 x2 M = some (r, M') → pm_ev pmT sc e 57 false (78, [some (.ref 83), some (.int x1), some (.int x2), u3, u4], [], 129, 17845, hp M) (some (.int r), 129, 17845, hp M') := by
  intro x1 x2 u3 u4 M r M' h
  unfold J57_78 at h
  refine pe_blk mm_57 2 (s' := (83, [some (.ref 83), some (.int x1), some (.int x2), u3, u4], [.int 1], _, _, _)) rfl ?_
  exact J57_83_ev sc n e he rec4 hr4 x1 x2 1 _ _ _ _ _ h
def J57_40 (n : Nat) (rec4 : Int32 → Int32 → Mem → Option (Int32 × Mem)) (x1 : Int32) (x2 : Int32) (s0 : Int32) (M : Mem) : Option (Int32 × Mem) :=
  if s0 < 0 then (J57_82 n rec4 x1 x2 M) else (if s0 < 0 ∨ 128 ≤ (s0 : Int32).toNatClampNeg then none else (if s0 < 0 ∨ 128 ≤ (s0 : Int32).toNatClampNeg then none else (match F56 n (M.1 95 (s0 : Int32).toNatClampNeg) (M.1 96 (s0 : Int32).toNatClampNeg) M with | some (v23, M24) => (if x2 < 0 ∨ 128 ≤ (x2 : Int32).toNatClampNeg then none else (if x2 < 0 ∨ 128 ≤ (x2 : Int32).toNatClampNeg then none else (match F56 n (M24.1 101 (x2 : Int32).toNatClampNeg) (M24.1 102 (x2 : Int32).toNatClampNeg) M24 with | some (v28, M29) => (if v23 = v28 then (J57_78 n rec4 x1 x2 M29) else (J57_82 n rec4 x1 x2 M29)) | none => none))) | none => none)))
set_option maxRecDepth 100000 in
set_option maxHeartbeats 4000000 in
theorem J57_40_ev (sc : Option (Nat × (Nat → Int32))) (n : Nat)  (e : Nat) (he : 2 ≤ e) (rec4 : Int32 → Int32 → Mem → Option (Int32 × Mem)) (hr4 : ∀ (x1 : Int32) (x2 : Int32) (u3 : Option Value) (u4 : Option Value) (M : Mem) (r : Int32) (M' : Mem), rec4 x1 x2 M = some (r, M') → pm_ev pmT sc e 57 false (4, [some (.ref 83), some (.int x1), some (.int x2), u3, u4], [], 129, 17845, hp M) (some (.int r), 129, 17845, hp M')) : ∀ (x1 : Int32) (x2 : Int32) (s0 : Int32) (u3 : Option Value) (u4 : Option Value) (M : Mem) (r : Int32) (M' : Mem), J57_40 n rec4 x1 x2 s0 M = some (r, M') → pm_ev pmT sc e 57 false (40, [some (.ref 83), some (.int x1), some (.int x2), u3, u4], [.int s0], 129, 17845, hp M) (some (.int r), 129, 17845, hp M') := by
  intro x1 x2 s0 u3 u4 M r M' h
  unfold J57_40 at h
  refine pe_blk mm_57 2 (s' := (42, [some (.ref 83), some (.int x1), some (.int x2), some (.int s0), u4], [.int s0], _, _, _)) rfl ?_
  by_cases q10 : s0 < 0
  · rw [if_pos q10] at h
    refine pe_blk mm_57 1 (s' := (if s0 < 0 then 82 else 45, [some (.ref 83), some (.int x1), some (.int x2), some (.int s0), u4], [], _, _, _)) rfl ?_
    rw [if_pos q10]
    exact J57_82_ev sc n e he rec4 hr4 x1 x2 _ _ _ _ _ h
  · rw [if_neg q10] at h
    refine pe_blk mm_57 1 (s' := (if s0 < 0 then 82 else 45, [some (.ref 83), some (.int x1), some (.int x2), some (.int s0), u4], [], _, _, _)) rfl ?_
    rw [if_neg q10]
    refine pe_blk mm_57 1 (s' := (46, [some (.ref 83), some (.int x1), some (.int x2), some (.int s0), u4], [.ref 83], _, _, _)) rfl ?_
    refine pe_get mm_57 rfl rfl rfl (by decide) rfl ?_
    refine pe_blk mm_57 1 (s' := (50, [some (.ref 83), some (.int x1), some (.int x2), some (.int s0), u4], [.int s0, .ref 95], _, _, _)) rfl ?_
    by_cases q21 : s0 < 0 ∨ 128 ≤ (s0 : Int32).toNatClampNeg
    · rw [if_pos q21] at h
      cases h
    · rw [if_neg q21] at h
      refine pe_iald (f := M.1 95) mm_57 rfl rfl (by decide) q21 ?_
      refine pe_blk mm_57 1 (s' := (52, [some (.ref 83), some (.int x1), some (.int x2), some (.int s0), u4], [.ref 83, .int (M.1 95 (s0 : Int32).toNatClampNeg)], _, _, _)) rfl ?_
      refine pe_get mm_57 rfl rfl rfl (by decide) rfl ?_
      refine pe_blk mm_57 1 (s' := (56, [some (.ref 83), some (.int x1), some (.int x2), some (.int s0), u4], [.int s0, .ref 96, .int (M.1 95 (s0 : Int32).toNatClampNeg)], _, _, _)) rfl ?_
      by_cases q22 : s0 < 0 ∨ 128 ≤ (s0 : Int32).toNatClampNeg
      · rw [if_pos q22] at h
        cases h
      · rw [if_neg q22] at h
        refine pe_iald (f := M.1 96) mm_57 rfl rfl (by decide) q22 ?_
        obtain ⟨e1, rfl⟩ : ∃ e1, e = e1 + 1 := ⟨e - 1, by omega⟩
        cases hc25 : F56 n (M.1 95 (s0 : Int32).toNatClampNeg) (M.1 96 (s0 : Int32).toNatClampNeg) M with
        | none => rw [hc25] at h; cases h
        | some w =>
          obtain ⟨v23, M24⟩ := w
          rw [hc25] at h
          dsimp only at h
          refine pe_stat (al := [.int (M.1 96 (s0 : Int32).toNatClampNeg), .int (M.1 95 (s0 : Int32).toNatClampNeg)]) (L0 := [some (.int (M.1 95 (s0 : Int32).toNatClampNeg)), some (.int (M.1 96 (s0 : Int32).toNatClampNeg))]) (r1 := (some (.int v23), 129, 17845, hp M24)) mm_57 rfl rfl rfl mm_56 rfl (Nat.le_of_ble_eq_true rfl) (Nat.le_of_ble_eq_true rfl) rfl rfl (F56_ev sc n (M.1 95 (s0 : Int32).toNatClampNeg) (M.1 96 (s0 : Int32).toNatClampNeg) _ e1 (by omega) _ _ hc25) ?_
          show pm_ev _ _ _ _ _ (60, [some (.ref 83), some (.int x1), some (.int x2), some (.int s0), u4], [.int v23], _, _, _) _
          refine pe_blk mm_57 1 (s' := (61, [some (.ref 83), some (.int x1), some (.int x2), some (.int s0), u4], [.ref 83, .int v23], _, _, _)) rfl ?_
          refine pe_get mm_57 rfl rfl rfl (by decide) rfl ?_
          refine pe_blk mm_57 1 (s' := (65, [some (.ref 83), some (.int x1), some (.int x2), some (.int s0), u4], [.int x2, .ref 101, .int v23], _, _, _)) rfl ?_
          by_cases q26 : x2 < 0 ∨ 128 ≤ (x2 : Int32).toNatClampNeg
          · rw [if_pos q26] at h
            cases h
          · rw [if_neg q26] at h
            refine pe_iald (f := M24.1 101) mm_57 rfl rfl (by decide) q26 ?_
            refine pe_blk mm_57 1 (s' := (67, [some (.ref 83), some (.int x1), some (.int x2), some (.int s0), u4], [.ref 83, .int (M24.1 101 (x2 : Int32).toNatClampNeg), .int v23], _, _, _)) rfl ?_
            refine pe_get mm_57 rfl rfl rfl (by decide) rfl ?_
            refine pe_blk mm_57 1 (s' := (71, [some (.ref 83), some (.int x1), some (.int x2), some (.int s0), u4], [.int x2, .ref 102, .int (M24.1 101 (x2 : Int32).toNatClampNeg), .int v23], _, _, _)) rfl ?_
            by_cases q27 : x2 < 0 ∨ 128 ≤ (x2 : Int32).toNatClampNeg
            · rw [if_pos q27] at h
              cases h
            · rw [if_neg q27] at h
              refine pe_iald (f := M24.1 102) mm_57 rfl rfl (by decide) q27 ?_
              skip
              cases hc30 : F56 n (M24.1 101 (x2 : Int32).toNatClampNeg) (M24.1 102 (x2 : Int32).toNatClampNeg) M24 with
              | none => rw [hc30] at h; cases h
              | some w =>
                obtain ⟨v28, M29⟩ := w
                rw [hc30] at h
                dsimp only at h
                refine pe_stat (al := [.int (M24.1 102 (x2 : Int32).toNatClampNeg), .int (M24.1 101 (x2 : Int32).toNatClampNeg)]) (L0 := [some (.int (M24.1 101 (x2 : Int32).toNatClampNeg)), some (.int (M24.1 102 (x2 : Int32).toNatClampNeg))]) (r1 := (some (.int v28), 129, 17845, hp M29)) mm_57 rfl rfl rfl mm_56 rfl (Nat.le_of_ble_eq_true rfl) (Nat.le_of_ble_eq_true rfl) rfl rfl (F56_ev sc n (M24.1 101 (x2 : Int32).toNatClampNeg) (M24.1 102 (x2 : Int32).toNatClampNeg) _ e1 (by omega) _ _ hc30) ?_
                show pm_ev _ _ _ _ _ (75, [some (.ref 83), some (.int x1), some (.int x2), some (.int s0), u4], [.int v28, .int v23], _, _, _) _
                by_cases q31 : v23 = v28
                · rw [if_pos q31] at h
                  refine pe_blk mm_57 1 (s' := (if v23 = v28 then 78 else 82, [some (.ref 83), some (.int x1), some (.int x2), some (.int s0), u4], [], _, _, _)) rfl ?_
                  rw [if_pos q31]
                  exact J57_78_ev sc n (e1 + 1) he rec4 hr4 x1 x2 _ _ _ _ _ h
                · rw [if_neg q31] at h
                  refine pe_blk mm_57 1 (s' := (if v23 = v28 then 78 else 82, [some (.ref 83), some (.int x1), some (.int x2), some (.int s0), u4], [], _, _, _)) rfl ?_
                  rw [if_neg q31]
                  exact J57_82_ev sc n (e1 + 1) he rec4 hr4 x1 x2 _ _ _ _ _ h
def J57_26 (n : Nat) (rec4 : Int32 → Int32 → Mem → Option (Int32 × Mem)) (x1 : Int32) (x2 : Int32) (M : Mem) : Option (Int32 × Mem) :=
  if x2 < 0 ∨ 128 ≤ (x2 : Int32).toNatClampNeg then none else (match F46 n (M.1 98 (x2 : Int32).toNatClampNeg) M with | some (v7, M8) => (J57_40 n rec4 x1 x2 v7 M8) | none => none)
set_option maxRecDepth 100000 in
set_option maxHeartbeats 4000000 in
theorem J57_26_ev (sc : Option (Nat × (Nat → Int32))) (n : Nat)  (e : Nat) (he : 2 ≤ e) (rec4 : Int32 → Int32 → Mem → Option (Int32 × Mem)) (hr4 : ∀ (x1 : Int32) (x2 : Int32) (u3 : Option Value) (u4 : Option Value) (M : Mem) (r : Int32) (M' : Mem), rec4 x1 x2 M = some (r, M') → pm_ev pmT sc e 57 false (4, [some (.ref 83), some (.int x1), some (.int x2), u3, u4], [], 129, 17845, hp M) (some (.int r), 129, 17845, hp M')) : ∀ (x1 : Int32) (x2 : Int32) (u3 : Option Value) (u4 : Option Value) (M : Mem) (r : Int32) (M' : Mem), J57_26 n rec4 x1 x2 M = some (r, M') → pm_ev pmT sc e 57 false (26, [some (.ref 83), some (.int x1), some (.int x2), u3, u4], [], 129, 17845, hp M) (some (.int r), 129, 17845, hp M') := by
  intro x1 x2 u3 u4 M r M' h
  unfold J57_26 at h
  refine pe_blk mm_57 2 (s' := (28, [some (.ref 83), some (.int x1), some (.int x2), u3, u4], [.ref 83, .ref 83], _, _, _)) rfl ?_
  refine pe_get mm_57 rfl rfl rfl (by decide) rfl ?_
  refine pe_blk mm_57 1 (s' := (32, [some (.ref 83), some (.int x1), some (.int x2), u3, u4], [.int x2, .ref 98, .ref 83], _, _, _)) rfl ?_
  by_cases q6 : x2 < 0 ∨ 128 ≤ (x2 : Int32).toNatClampNeg
  · rw [if_pos q6] at h
    cases h
  · rw [if_neg q6] at h
    refine pe_iald (f := M.1 98) mm_57 rfl rfl (by decide) q6 ?_
    obtain ⟨e1, rfl⟩ : ∃ e1, e = e1 + 1 := ⟨e - 1, by omega⟩
    cases hc9 : F46 n (M.1 98 (x2 : Int32).toNatClampNeg) M with
    | none => rw [hc9] at h; cases h
    | some w =>
      obtain ⟨v7, M8⟩ := w
      rw [hc9] at h
      dsimp only at h
      refine pe_virt (al := [.int (M.1 98 (x2 : Int32).toNatClampNeg)]) (a := 83) (L0 := [some (.ref 83), some (.int (M.1 98 (x2 : Int32).toNatClampNeg)), none, none]) (r1 := (some (.int v7), 129, 17845, hp M8)) mm_57 rfl rfl rfl mm_46 rfl (by decide) (by decide) rfl (Nat.le_of_ble_eq_true rfl) (Nat.le_of_ble_eq_true rfl) rfl rfl (F46_ev sc n (M.1 98 (x2 : Int32).toNatClampNeg) _ e1 (by omega) _ _ hc9) ?_
      show pm_ev _ _ _ _ _ (36, [some (.ref 83), some (.int x1), some (.int x2), u3, u4], [.int v7], _, _, _) _
      refine pe_blk mm_57 1 (s' := (40, [some (.ref 83), some (.int x1), some (.int x2), u3, u4], [.int v7], _, _, _)) rfl ?_
      exact J57_40_ev sc n (e1 + 1) he rec4 hr4 x1 x2 v7 _ _ _ _ _ h
def J57_39 (n : Nat) (rec4 : Int32 → Int32 → Mem → Option (Int32 × Mem)) (x1 : Int32) (x2 : Int32) (M : Mem) : Option (Int32 × Mem) :=
  J57_40 n rec4 x1 x2 (-1) M
set_option maxRecDepth 100000 in
set_option maxHeartbeats 4000000 in
theorem J57_39_ev (sc : Option (Nat × (Nat → Int32))) (n : Nat)  (e : Nat) (he : 2 ≤ e) (rec4 : Int32 → Int32 → Mem → Option (Int32 × Mem)) (hr4 : ∀ (x1 : Int32) (x2 : Int32) (u3 : Option Value) (u4 : Option Value) (M : Mem) (r : Int32) (M' : Mem), rec4 x1 x2 M = some (r, M') → pm_ev pmT sc e 57 false (4, [some (.ref 83), some (.int x1), some (.int x2), u3, u4], [], 129, 17845, hp M) (some (.int r), 129, 17845, hp M')) : ∀ (x1 : Int32) (x2 : Int32) (u3 : Option Value) (u4 : Option Value) (M : Mem) (r : Int32) (M' : Mem), J57_39 n rec4 x1 x2 M = some (r, M') → pm_ev pmT sc e 57 false (39, [some (.ref 83), some (.int x1), some (.int x2), u3, u4], [], 129, 17845, hp M) (some (.int r), 129, 17845, hp M') := by
  intro x1 x2 u3 u4 M r M' h
  unfold J57_39 at h
  refine pe_blk mm_57 1 (s' := (40, [some (.ref 83), some (.int x1), some (.int x2), u3, u4], [.int (-1)], _, _, _)) rfl ?_
  exact J57_40_ev sc n e he rec4 hr4 x1 x2 (-1) _ _ _ _ _ h
def L57_4 (n : Nat) : Nat → Int32 → Int32 → Mem → Option (Int32 × Mem)
  | 0, _, _, _ => none
  | k + 1, x1, x2, M => if x2 < 0 ∨ 128 ≤ (x2 : Int32).toNatClampNeg then none else (if (M.1 97 (x2 : Int32).toNatClampNeg) = 6 then (if x1 = 0 ∨ x1 = 1 then some (x1, M) else none) else (if x2 < 0 ∨ 128 ≤ (x2 : Int32).toNatClampNeg then none else (if (M.1 97 (x2 : Int32).toNatClampNeg) = 7 then (J57_26 n (L57_4 n k) x1 x2 M) else (J57_39 n (L57_4 n k) x1 x2 M))))
set_option maxRecDepth 100000 in
set_option maxHeartbeats 4000000 in
theorem L57_4_ev (sc : Option (Nat × (Nat → Int32))) (n : Nat)  (e : Nat) (he : 2 ≤ e) : ∀ k : Nat, ∀ (x1 : Int32) (x2 : Int32) (u3 : Option Value) (u4 : Option Value) (M : Mem) (r : Int32) (M' : Mem), L57_4 n k x1 x2 M = some (r, M') → pm_ev pmT sc e 57 false (4, [some (.ref 83), some (.int x1), some (.int x2), u3, u4], [], 129, 17845, hp M) (some (.int r), 129, 17845, hp M') := by
  intro k
  induction k with
  | zero => intro x1 x2 u3 u4 M r M' h; cases h
  | succ k hr4 =>
    intro x1 x2 u3 u4 M r M' h
    rw [L57_4] at h
    refine pe_blk mm_57 1 (s' := (5, [some (.ref 83), some (.int x1), some (.int x2), u3, u4], [.ref 83], _, _, _)) rfl ?_
    refine pe_get mm_57 rfl rfl rfl (by decide) rfl ?_
    refine pe_blk mm_57 1 (s' := (9, [some (.ref 83), some (.int x1), some (.int x2), u3, u4], [.int x2, .ref 97], _, _, _)) rfl ?_
    by_cases q1 : x2 < 0 ∨ 128 ≤ (x2 : Int32).toNatClampNeg
    · rw [if_pos q1] at h
      cases h
    · rw [if_neg q1] at h
      refine pe_iald (f := M.1 97) mm_57 rfl rfl (by decide) q1 ?_
      refine pe_blk mm_57 1 (s' := (12, [some (.ref 83), some (.int x1), some (.int x2), u3, u4], [.int 6, .int (M.1 97 (x2 : Int32).toNatClampNeg)], _, _, _)) rfl ?_
      by_cases q2 : (M.1 97 (x2 : Int32).toNatClampNeg) = 6
      · rw [if_pos q2] at h
        refine pe_blk mm_57 1 (s' := (if (M.1 97 (x2 : Int32).toNatClampNeg) = 6 then 135 else 15, [some (.ref 83), some (.int x1), some (.int x2), u3, u4], [], _, _, _)) rfl ?_
        rw [if_pos q2]
        refine pe_blk mm_57 1 (s' := (136, [some (.ref 83), some (.int x1), some (.int x2), u3, u4], [.int x1], _, _, _)) rfl ?_
        by_cases q3 : x1 = 0 ∨ x1 = 1
        · rw [if_pos q3] at h
          cases h
          exact pe_ret mm_57 rfl (if_pos q3)
        · rw [if_neg q3] at h
          cases h
      · rw [if_neg q2] at h
        refine pe_blk mm_57 1 (s' := (if (M.1 97 (x2 : Int32).toNatClampNeg) = 6 then 135 else 15, [some (.ref 83), some (.int x1), some (.int x2), u3, u4], [], _, _, _)) rfl ?_
        rw [if_neg q2]
        refine pe_blk mm_57 1 (s' := (16, [some (.ref 83), some (.int x1), some (.int x2), u3, u4], [.ref 83], _, _, _)) rfl ?_
        refine pe_get mm_57 rfl rfl rfl (by decide) rfl ?_
        refine pe_blk mm_57 1 (s' := (20, [some (.ref 83), some (.int x1), some (.int x2), u3, u4], [.int x2, .ref 97], _, _, _)) rfl ?_
        by_cases q4 : x2 < 0 ∨ 128 ≤ (x2 : Int32).toNatClampNeg
        · rw [if_pos q4] at h
          cases h
        · rw [if_neg q4] at h
          refine pe_iald (f := M.1 97) mm_57 rfl rfl (by decide) q4 ?_
          refine pe_blk mm_57 1 (s' := (23, [some (.ref 83), some (.int x1), some (.int x2), u3, u4], [.int 7, .int (M.1 97 (x2 : Int32).toNatClampNeg)], _, _, _)) rfl ?_
          by_cases q5 : (M.1 97 (x2 : Int32).toNatClampNeg) = 7
          · rw [if_pos q5] at h
            refine pe_blk mm_57 1 (s' := (if (M.1 97 (x2 : Int32).toNatClampNeg) = 7 then 26 else 39, [some (.ref 83), some (.int x1), some (.int x2), u3, u4], [], _, _, _)) rfl ?_
            rw [if_pos q5]
            exact J57_26_ev sc n e he (L57_4 n k) hr4 x1 x2 _ _ _ _ _ h
          · rw [if_neg q5] at h
            refine pe_blk mm_57 1 (s' := (if (M.1 97 (x2 : Int32).toNatClampNeg) = 7 then 26 else 39, [some (.ref 83), some (.int x1), some (.int x2), u3, u4], [], _, _, _)) rfl ?_
            rw [if_neg q5]
            exact J57_39_ev sc n e he (L57_4 n k) hr4 x1 x2 _ _ _ _ _ h
/-- ArmExpanderModel.usesRight -/
def F57 (n : Nat) (M : Mem) : Option (Int32 × Mem) :=
  L57_4 n n 1 0 M
set_option maxRecDepth 100000 in
set_option maxHeartbeats 4000000 in
theorem F57_ev (sc : Option (Nat × (Nat → Int32))) (n : Nat)  (M : Mem) (e : Nat) (he : 2 ≤ e) (r : Int32) (M' : Mem) (h : F57 n M = some (r, M')) : pm_ev pmT sc e 57 false (0, [some (.ref 83), none, none, none, none], [], 129, 17845, hp M) (some (.int r), 129, 17845, hp M') := by
  unfold F57 at h
  refine pe_blk mm_57 4 (s' := (4, [some (.ref 83), some (.int 1), some (.int 0), none, none], [], _, _, _)) rfl ?_
  exact L57_4_ev sc n e he n 1 0 _ _ _ _ _ h
/-- ArmExpanderModel.definitions -/
def F59 (n : Nat) (M : Mem) : Option (Int32 × Mem) :=
  some (M.1 83 9, M)
set_option maxRecDepth 100000 in
set_option maxHeartbeats 4000000 in
theorem F59_ev (sc : Option (Nat × (Nat → Int32))) (n : Nat)  (M : Mem) (e : Nat) (he : 1 ≤ e) (r : Int32) (M' : Mem) (h : F59 n M = some (r, M')) : pm_ev pmT sc e 59 false (0, [some (.ref 83)], [], 129, 17845, hp M) (some (.int r), 129, 17845, hp M') := by
  unfold F59 at h
  refine pe_blk mm_59 1 (s' := (1, [some (.ref 83)], [.ref 83], _, _, _)) rfl ?_
  refine pe_get mm_59 rfl rfl rfl (by decide) rfl ?_
  cases h
  exact pe_ret mm_59 rfl rfl
def J60_24 (n : Nat) (s0 : Int32) (M : Mem) : Option (Int32 × Mem) :=
  some (s0, M)
set_option maxRecDepth 100000 in
set_option maxHeartbeats 4000000 in
theorem J60_24_ev (sc : Option (Nat × (Nat → Int32))) (n : Nat)  (e : Nat) (he : 2 ≤ e) : ∀ (s0 : Int32) (u0 : Option Value) (u1 : Option Value) (M : Mem) (r : Int32) (M' : Mem), J60_24 n s0 M = some (r, M') → pm_ev pmT sc e 60 false (24, [u0, u1], [.int s0], 129, 17845, hp M) (some (.int r), 129, 17845, hp M') := by
  intro s0 u0 u1 M r M' h
  unfold J60_24 at h
  cases h
  exact pe_ret mm_60 rfl rfl
/-- ArmExpanderModel.arms -/
def F60 (n : Nat) (a0 : Int32) (M : Mem) : Option (Int32 × Mem) :=
  match F19 n a0 0 ((M.1 83 9) - 1) M with | some (v1, M2) => (if v1 = 0 then (J60_24 n (-1) M2) else (if a0 < 0 ∨ 6 ≤ (a0 : Int32).toNatClampNeg then none else (J60_24 n (M2.1 89 (a0 : Int32).toNatClampNeg) M2))) | none => none
set_option maxRecDepth 100000 in
set_option maxHeartbeats 4000000 in
theorem F60_ev (sc : Option (Nat × (Nat → Int32))) (n : Nat) (a0 : Int32)  (M : Mem) (e : Nat) (he : 2 ≤ e) (r : Int32) (M' : Mem) (h : F60 n a0 M = some (r, M')) : pm_ev pmT sc e 60 false (0, [some (.ref 83), some (.int a0)], [], 129, 17845, hp M) (some (.int r), 129, 17845, hp M') := by
  unfold F60 at h
  refine pe_blk mm_60 3 (s' := (3, [some (.ref 83), some (.int a0)], [.ref 83, .int 0, .int a0], _, _, _)) rfl ?_
  refine pe_get mm_60 rfl rfl rfl (by decide) rfl ?_
  refine pe_blk mm_60 2 (s' := (8, [some (.ref 83), some (.int a0)], [.int ((M.1 83 9) - 1), .int 0, .int a0], _, _, _)) rfl ?_
  obtain ⟨e1, rfl⟩ : ∃ e1, e = e1 + 1 := ⟨e - 1, by omega⟩
  cases hc3 : F19 n a0 0 ((M.1 83 9) - 1) M with
  | none => rw [hc3] at h; cases h
  | some w =>
    obtain ⟨v1, M2⟩ := w
    rw [hc3] at h
    dsimp only at h
    refine pe_stat (al := [.int ((M.1 83 9) - 1), .int 0, .int a0]) (L0 := [some (.int a0), some (.int 0), some (.int ((M.1 83 9) - 1))]) (r1 := (some (.int v1), 129, 17845, hp M2)) mm_60 rfl rfl rfl mm_19 rfl (Nat.le_of_ble_eq_true rfl) (Nat.le_of_ble_eq_true rfl) rfl rfl (F19_ev sc n a0 0 ((M.1 83 9) - 1) _ e1 (by omega) _ _ hc3) ?_
    show pm_ev _ _ _ _ _ (11, [some (.ref 83), some (.int a0)], [.int v1], _, _, _) _
    by_cases q4 : v1 = 0
    · rw [if_pos q4] at h
      refine pe_blk mm_60 1 (s' := (if v1 = 0 then 23 else 14, [some (.ref 83), some (.int a0)], [], _, _, _)) rfl ?_
      rw [if_pos q4]
      refine pe_blk mm_60 1 (s' := (24, [some (.ref 83), some (.int a0)], [.int (-1)], _, _, _)) rfl ?_
      exact J60_24_ev sc n (e1 + 1) he (-1) _ _ _ _ _ h
    · rw [if_neg q4] at h
      refine pe_blk mm_60 1 (s' := (if v1 = 0 then 23 else 14, [some (.ref 83), some (.int a0)], [], _, _, _)) rfl ?_
      rw [if_neg q4]
      refine pe_blk mm_60 1 (s' := (15, [some (.ref 83), some (.int a0)], [.ref 83], _, _, _)) rfl ?_
      refine pe_get mm_60 rfl rfl rfl (by decide) rfl ?_
      refine pe_blk mm_60 1 (s' := (19, [some (.ref 83), some (.int a0)], [.int a0, .ref 89], _, _, _)) rfl ?_
      by_cases q5 : a0 < 0 ∨ 6 ≤ (a0 : Int32).toNatClampNeg
      · rw [if_pos q5] at h
        cases h
      · rw [if_neg q5] at h
        refine pe_iald (f := M2.1 89) mm_60 rfl rfl (by decide) q5 ?_
        refine pe_blk mm_60 1 (s' := (24, [some (.ref 83), some (.int a0)], [.int (M2.1 89 (a0 : Int32).toNatClampNeg)], _, _, _)) rfl ?_
        exact J60_24_ev sc n (e1 + 1) he (M2.1 89 (a0 : Int32).toNatClampNeg) _ _ _ _ _ h
def J61_49 (n : Nat) (rec4 : Int32 → Int32 → Mem → Option (Int32 × Mem)) (x3 : Int32) (s0 : Int32) (M : Mem) : Option (Int32 × Mem) :=
  rec4 s0 x3 M
set_option maxRecDepth 100000 in
set_option maxHeartbeats 4000000 in
theorem J61_49_ev (sc : Option (Nat × (Nat → Int32))) (n : Nat)  (e : Nat) (he : 2 ≤ e) (rec4 : Int32 → Int32 → Mem → Option (Int32 × Mem)) (hr4 : ∀ (x2 : Int32) (x3 : Int32) (u1 : Option Value) (M : Mem) (r : Int32) (M' : Mem), rec4 x2 x3 M = some (r, M') → pm_ev pmT sc e 61 false (4, [some (.ref 83), u1, some (.int x2), some (.int x3)], [], 129, 17845, hp M) (some (.int r), 129, 17845, hp M')) : ∀ (x3 : Int32) (s0 : Int32) (u1 : Option Value) (u2 : Option Value) (M : Mem) (r : Int32) (M' : Mem), J61_49 n rec4 x3 s0 M = some (r, M') → pm_ev pmT sc e 61 false (49, [some (.ref 83), u1, u2, some (.int x3)], [.int s0], 129, 17845, hp M) (some (.int r), 129, 17845, hp M') := by
  intro x3 s0 u1 u2 M r M' h
  unfold J61_49 at h
  refine pe_blk mm_61 2 (s' := (4, [some (.ref 83), u1, some (.int s0), some (.int x3)], [], _, _, _)) rfl ?_
  exact hr4 s0 x3 _ _ _ _ h
def J61_30 (n : Nat) (rec4 : Int32 → Int32 → Mem → Option (Int32 × Mem)) (x2 : Int32) (x3 : Int32) (M : Mem) : Option (Int32 × Mem) :=
  if x3 < 0 ∨ 320 ≤ (x3 : Int32).toNatClampNeg then none else (match F22 n (M.1 105 (x3 : Int32).toNatClampNeg) M with | some (v8, M9) => (if v8 = 0 then (J61_49 n rec4 x3 x2 M9) else (J61_49 n rec4 x3 (x2 - 1) M9)) | none => none)
set_option maxRecDepth 100000 in
set_option maxHeartbeats 4000000 in
theorem J61_30_ev (sc : Option (Nat × (Nat → Int32))) (n : Nat)  (e : Nat) (he : 2 ≤ e) (rec4 : Int32 → Int32 → Mem → Option (Int32 × Mem)) (hr4 : ∀ (x2 : Int32) (x3 : Int32) (u1 : Option Value) (M : Mem) (r : Int32) (M' : Mem), rec4 x2 x3 M = some (r, M') → pm_ev pmT sc e 61 false (4, [some (.ref 83), u1, some (.int x2), some (.int x3)], [], 129, 17845, hp M) (some (.int r), 129, 17845, hp M')) : ∀ (x2 : Int32) (x3 : Int32) (u1 : Option Value) (M : Mem) (r : Int32) (M' : Mem), J61_30 n rec4 x2 x3 M = some (r, M') → pm_ev pmT sc e 61 false (30, [some (.ref 83), u1, some (.int x2), some (.int x3)], [], 129, 17845, hp M) (some (.int r), 129, 17845, hp M') := by
  intro x2 x3 u1 M r M' h
  unfold J61_30 at h
  refine pe_blk mm_61 1 (s' := (31, [some (.ref 83), u1, some (.int x2), some (.int x3)], [.ref 83], _, _, _)) rfl ?_
  refine pe_get mm_61 rfl rfl rfl (by decide) rfl ?_
  refine pe_blk mm_61 1 (s' := (35, [some (.ref 83), u1, some (.int x2), some (.int x3)], [.int x3, .ref 105], _, _, _)) rfl ?_
  by_cases q7 : x3 < 0 ∨ 320 ≤ (x3 : Int32).toNatClampNeg
  · rw [if_pos q7] at h
    cases h
  · rw [if_neg q7] at h
    refine pe_iald (f := M.1 105) mm_61 rfl rfl (by decide) q7 ?_
    obtain ⟨e1, rfl⟩ : ∃ e1, e = e1 + 1 := ⟨e - 1, by omega⟩
    cases hc10 : F22 n (M.1 105 (x3 : Int32).toNatClampNeg) M with
    | none => rw [hc10] at h; cases h
    | some w =>
      obtain ⟨v8, M9⟩ := w
      rw [hc10] at h
      dsimp only at h
      refine pe_stat (al := [.int (M.1 105 (x3 : Int32).toNatClampNeg)]) (L0 := [some (.int (M.1 105 (x3 : Int32).toNatClampNeg))]) (r1 := (some (.int v8), 129, 17845, hp M9)) mm_61 rfl rfl rfl mm_22 rfl (Nat.le_of_ble_eq_true rfl) (Nat.le_of_ble_eq_true rfl) rfl rfl (F22_ev sc n (M.1 105 (x3 : Int32).toNatClampNeg) _ e1 (by omega) _ _ hc10) ?_
      show pm_ev _ _ _ _ _ (39, [some (.ref 83), u1, some (.int x2), some (.int x3)], [.int v8], _, _, _) _
      by_cases q11 : v8 = 0
      · rw [if_pos q11] at h
        refine pe_blk mm_61 1 (s' := (if v8 = 0 then 48 else 42, [some (.ref 83), u1, some (.int x2), some (.int x3)], [], _, _, _)) rfl ?_
        rw [if_pos q11]
        refine pe_blk mm_61 1 (s' := (49, [some (.ref 83), u1, some (.int x2), some (.int x3)], [.int x2], _, _, _)) rfl ?_
        exact J61_49_ev sc n (e1 + 1) he rec4 hr4 x3 x2 _ _ _ _ _ h
      · rw [if_neg q11] at h
        refine pe_blk mm_61 1 (s' := (if v8 = 0 then 48 else 42, [some (.ref 83), u1, some (.int x2), some (.int x3)], [], _, _, _)) rfl ?_
        rw [if_neg q11]
        refine pe_blk mm_61 4 (s' := (49, [some (.ref 83), u1, some (.int x2), some (.int x3)], [.int (x2 - 1)], _, _, _)) rfl ?_
        exact J61_49_ev sc n (e1 + 1) he rec4 hr4 x3 (x2 - 1) _ _ _ _ _ h
def J61_24 (n : Nat) (rec4 : Int32 → Int32 → Mem → Option (Int32 × Mem)) (x2 : Int32) (x3 : Int32) (M : Mem) : Option (Int32 × Mem) :=
  J61_49 n rec4 x3 (x2 + 1) M
set_option maxRecDepth 100000 in
set_option maxHeartbeats 4000000 in
theorem J61_24_ev (sc : Option (Nat × (Nat → Int32))) (n : Nat)  (e : Nat) (he : 2 ≤ e) (rec4 : Int32 → Int32 → Mem → Option (Int32 × Mem)) (hr4 : ∀ (x2 : Int32) (x3 : Int32) (u1 : Option Value) (M : Mem) (r : Int32) (M' : Mem), rec4 x2 x3 M = some (r, M') → pm_ev pmT sc e 61 false (4, [some (.ref 83), u1, some (.int x2), some (.int x3)], [], 129, 17845, hp M) (some (.int r), 129, 17845, hp M')) : ∀ (x2 : Int32) (x3 : Int32) (u1 : Option Value) (M : Mem) (r : Int32) (M' : Mem), J61_24 n rec4 x2 x3 M = some (r, M') → pm_ev pmT sc e 61 false (24, [some (.ref 83), u1, some (.int x2), some (.int x3)], [], 129, 17845, hp M) (some (.int r), 129, 17845, hp M') := by
  intro x2 x3 u1 M r M' h
  unfold J61_24 at h
  refine pe_blk mm_61 4 (s' := (49, [some (.ref 83), u1, some (.int x2), some (.int x3)], [.int (x2 + 1)], _, _, _)) rfl ?_
  exact J61_49_ev sc n e he rec4 hr4 x3 (x2 + 1) _ _ _ _ _ h
def L61_4 (n : Nat) : Nat → Int32 → Int32 → Mem → Option (Int32 × Mem)
  | 0, _, _, _ => none
  | k + 1, x2, x3, M => if x2 ≤ 0 then (some (x3, M)) else (if (x3 + 1) < 0 ∨ 320 ≤ (x3 + 1 : Int32).toNatClampNeg then none else (match F21 n (M.1 105 (x3 + 1 : Int32).toNatClampNeg) M with | some (v3, M4) => (if v3 = 0 then (J61_30 n (L61_4 n k) x2 (x3 + 1) M4) else (J61_24 n (L61_4 n k) x2 (x3 + 1) M4)) | none => none))
set_option maxRecDepth 100000 in
set_option maxHeartbeats 4000000 in
theorem L61_4_ev (sc : Option (Nat × (Nat → Int32))) (n : Nat)  (e : Nat) (he : 2 ≤ e) : ∀ k : Nat, ∀ (x2 : Int32) (x3 : Int32) (u1 : Option Value) (M : Mem) (r : Int32) (M' : Mem), L61_4 n k x2 x3 M = some (r, M') → pm_ev pmT sc e 61 false (4, [some (.ref 83), u1, some (.int x2), some (.int x3)], [], 129, 17845, hp M) (some (.int r), 129, 17845, hp M') := by
  intro k
  induction k with
  | zero => intro x2 x3 u1 M r M' h; cases h
  | succ k hr4 =>
    intro x2 x3 u1 M r M' h
    rw [L61_4] at h
    refine pe_blk mm_61 1 (s' := (5, [some (.ref 83), u1, some (.int x2), some (.int x3)], [.int x2], _, _, _)) rfl ?_
    by_cases q1 : x2 ≤ 0
    · rw [if_pos q1] at h
      refine pe_blk mm_61 1 (s' := (if x2 ≤ 0 then 53 else 8, [some (.ref 83), u1, some (.int x2), some (.int x3)], [], _, _, _)) rfl ?_
      rw [if_pos q1]
      refine pe_blk mm_61 1 (s' := (54, [some (.ref 83), u1, some (.int x2), some (.int x3)], [.int x3], _, _, _)) rfl ?_
      cases h
      exact pe_ret mm_61 rfl rfl
    · rw [if_neg q1] at h
      refine pe_blk mm_61 1 (s' := (if x2 ≤ 0 then 53 else 8, [some (.ref 83), u1, some (.int x2), some (.int x3)], [], _, _, _)) rfl ?_
      rw [if_neg q1]
      refine pe_blk mm_61 5 (s' := (13, [some (.ref 83), u1, some (.int x2), some (.int (x3 + 1))], [.ref 83], _, _, _)) rfl ?_
      refine pe_get mm_61 rfl rfl rfl (by decide) rfl ?_
      refine pe_blk mm_61 1 (s' := (17, [some (.ref 83), u1, some (.int x2), some (.int (x3 + 1))], [.int (x3 + 1), .ref 105], _, _, _)) rfl ?_
      by_cases q2 : (x3 + 1) < 0 ∨ 320 ≤ (x3 + 1 : Int32).toNatClampNeg
      · rw [if_pos q2] at h
        cases h
      · rw [if_neg q2] at h
        refine pe_iald (f := M.1 105) mm_61 rfl rfl (by decide) q2 ?_
        obtain ⟨e1, rfl⟩ : ∃ e1, e = e1 + 1 := ⟨e - 1, by omega⟩
        cases hc5 : F21 n (M.1 105 (x3 + 1 : Int32).toNatClampNeg) M with
        | none => rw [hc5] at h; cases h
        | some w =>
          obtain ⟨v3, M4⟩ := w
          rw [hc5] at h
          dsimp only at h
          refine pe_stat (al := [.int (M.1 105 (x3 + 1 : Int32).toNatClampNeg)]) (L0 := [some (.int (M.1 105 (x3 + 1 : Int32).toNatClampNeg))]) (r1 := (some (.int v3), 129, 17845, hp M4)) mm_61 rfl rfl rfl mm_21 rfl (Nat.le_of_ble_eq_true rfl) (Nat.le_of_ble_eq_true rfl) rfl rfl (F21_ev sc n (M.1 105 (x3 + 1 : Int32).toNatClampNeg) _ e1 (by omega) _ _ hc5) ?_
          show pm_ev _ _ _ _ _ (21, [some (.ref 83), u1, some (.int x2), some (.int (x3 + 1))], [.int v3], _, _, _) _
          by_cases q6 : v3 = 0
          · rw [if_pos q6] at h
            refine pe_blk mm_61 1 (s' := (if v3 = 0 then 30 else 24, [some (.ref 83), u1, some (.int x2), some (.int (x3 + 1))], [], _, _, _)) rfl ?_
            rw [if_pos q6]
            exact J61_30_ev sc n (e1 + 1) he (L61_4 n k) hr4 x2 (x3 + 1) _ _ _ _ h
          · rw [if_neg q6] at h
            refine pe_blk mm_61 1 (s' := (if v3 = 0 then 30 else 24, [some (.ref 83), u1, some (.int x2), some (.int (x3 + 1))], [], _, _, _)) rfl ?_
            rw [if_neg q6]
            exact J61_24_ev sc n (e1 + 1) he (L61_4 n k) hr4 x2 (x3 + 1) _ _ _ _ h
/-- ArmExpanderModel.close -/
def F61 (n : Nat) (a0 : Int32) (M : Mem) : Option (Int32 × Mem) :=
  L61_4 n n 1 a0 M
set_option maxRecDepth 100000 in
set_option maxHeartbeats 4000000 in
theorem F61_ev (sc : Option (Nat × (Nat → Int32))) (n : Nat) (a0 : Int32)  (M : Mem) (e : Nat) (he : 2 ≤ e) (r : Int32) (M' : Mem) (h : F61 n a0 M = some (r, M')) : pm_ev pmT sc e 61 false (0, [some (.ref 83), some (.int a0), none, none], [], 129, 17845, hp M) (some (.int r), 129, 17845, hp M') := by
  unfold F61 at h
  refine pe_blk mm_61 4 (s' := (4, [some (.ref 83), some (.int a0), some (.int 1), some (.int a0)], [], _, _, _)) rfl ?_
  exact L61_4_ev sc n e he n 1 a0 _ _ _ _ h
