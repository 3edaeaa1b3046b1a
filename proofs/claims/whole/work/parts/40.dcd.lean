/-! The methods as functions over Mem; written by program. -/
def J47_48 (n : Nat) (rec4 : Int32 → Int32 → Mem → Option (Int32 × Mem)) (x2 : Int32) (s0 : Int32) (M : Mem) : Option (Int32 × Mem) :=
  rec4 s0 (x2 + 1) M
set_option maxRecDepth 100000 in
set_option maxHeartbeats 4000000 in
theorem J47_48_ev (sc : Option (Nat × (Nat → Int32))) (n : Nat)  (e : Nat) (he : 2 ≤ e) (rec4 : Int32 → Int32 → Mem → Option (Int32 × Mem)) (hr4 : ∀ (x1 : Int32) (x2 : Int32) (M : Mem) (r : Int32) (M' : Mem), rec4 x1 x2 M = some (r, M') → pm_ev pmT sc e 47 false (4, [some (.ref 83), some (.int x1), some (.int x2)], [], 129, 17845, hp M) (some (.int r), 129, 17845, hp M')) : ∀ (x2 : Int32) (s0 : Int32) (u1 : Option Value) (M : Mem) (r : Int32) (M' : Mem), J47_48 n rec4 x2 s0 M = some (r, M') → pm_ev pmT sc e 47 false (48, [some (.ref 83), u1, some (.int x2)], [.int s0], 129, 17845, hp M) (some (.int r), 129, 17845, hp M') := by
  intro x2 s0 u1 M r M' h
  unfold J47_48 at h
  refine pe_blk mm_47 3 (s' := (4, [some (.ref 83), some (.int s0), some (.int (x2 + 1))], [], _, _, _)) rfl ?_
  exact hr4 s0 (x2 + 1) _ _ _ h
def J47_47 (n : Nat) (rec4 : Int32 → Int32 → Mem → Option (Int32 × Mem)) (x2 : Int32) (M : Mem) : Option (Int32 × Mem) :=
  J47_48 n rec4 x2 0 M
set_option maxRecDepth 100000 in
set_option maxHeartbeats 4000000 in
theorem J47_47_ev (sc : Option (Nat × (Nat → Int32))) (n : Nat)  (e : Nat) (he : 2 ≤ e) (rec4 : Int32 → Int32 → Mem → Option (Int32 × Mem)) (hr4 : ∀ (x1 : Int32) (x2 : Int32) (M : Mem) (r : Int32) (M' : Mem), rec4 x1 x2 M = some (r, M') → pm_ev pmT sc e 47 false (4, [some (.ref 83), some (.int x1), some (.int x2)], [], 129, 17845, hp M) (some (.int r), 129, 17845, hp M')) : ∀ (x2 : Int32) (u1 : Option Value) (M : Mem) (r : Int32) (M' : Mem), J47_47 n rec4 x2 M = some (r, M') → pm_ev pmT sc e 47 false (47, [some (.ref 83), u1, some (.int x2)], [], 129, 17845, hp M) (some (.int r), 129, 17845, hp M') := by
  intro x2 u1 M r M' h
  unfold J47_47 at h
  refine pe_blk mm_47 1 (s' := (48, [some (.ref 83), u1, some (.int x2)], [.int 0], _, _, _)) rfl ?_
  exact J47_48_ev sc n e he rec4 hr4 x2 0 _ _ _ _ h
def J47_43 (n : Nat) (rec4 : Int32 → Int32 → Mem → Option (Int32 × Mem)) (x2 : Int32) (M : Mem) : Option (Int32 × Mem) :=
  J47_48 n rec4 x2 1 M
set_option maxRecDepth 100000 in
set_option maxHeartbeats 4000000 in
theorem J47_43_ev (sc : Option (Nat × (Nat → Int32))) (n : Nat)  (e : Nat) (he : 2 ≤ e) (rec4 : Int32 → Int32 → Mem → Option (Int32 × Mem)) (hr4 : ∀ (x1 : Int32) (x2 : Int32) (M : Mem) (r : Int32) (M' : Mem), rec4 x1 x2 M = some (r, M') → pm_ev pmT sc e 47 false (4, [some (.ref 83), some (.int x1), some (.int x2)], [], 129, 17845, hp M) (some (.int r), 129, 17845, hp M')) : ∀ (x2 : Int32) (u1 : Option Value) (M : Mem) (r : Int32) (M' : Mem), J47_43 n rec4 x2 M = some (r, M') → pm_ev pmT sc e 47 false (43, [some (.ref 83), u1, some (.int x2)], [], 129, 17845, hp M) (some (.int r), 129, 17845, hp M') := by
  intro x2 u1 M r M' h
  unfold J47_43 at h
  refine pe_blk mm_47 2 (s' := (48, [some (.ref 83), u1, some (.int x2)], [.int 1], _, _, _)) rfl ?_
  exact J47_48_ev sc n e he rec4 hr4 x2 1 _ _ _ _ h
def J47_29 (n : Nat) (rec4 : Int32 → Int32 → Mem → Option (Int32 × Mem)) (x2 : Int32) (M : Mem) : Option (Int32 × Mem) :=
  if x2 < 0 ∨ 128 ≤ (x2 : Int32).toNatClampNeg then none else (match F46 n (M.1 91 (x2 : Int32).toNatClampNeg) M with | some (v8, M9) => (if v8 = x2 then (J47_47 n rec4 x2 M9) else (J47_43 n rec4 x2 M9)) | none => none)
set_option maxRecDepth 100000 in
set_option maxHeartbeats 4000000 in
theorem J47_29_ev (sc : Option (Nat × (Nat → Int32))) (n : Nat)  (e : Nat) (he : 2 ≤ e) (rec4 : Int32 → Int32 → Mem → Option (Int32 × Mem)) (hr4 : ∀ (x1 : Int32) (x2 : Int32) (M : Mem) (r : Int32) (M' : Mem), rec4 x1 x2 M = some (r, M') → pm_ev pmT sc e 47 false (4, [some (.ref 83), some (.int x1), some (.int x2)], [], 129, 17845, hp M) (some (.int r), 129, 17845, hp M')) : ∀ (x2 : Int32) (u1 : Option Value) (M : Mem) (r : Int32) (M' : Mem), J47_29 n rec4 x2 M = some (r, M') → pm_ev pmT sc e 47 false (29, [some (.ref 83), u1, some (.int x2)], [], 129, 17845, hp M) (some (.int r), 129, 17845, hp M') := by
  intro x2 u1 M r M' h
  unfold J47_29 at h
  refine pe_blk mm_47 2 (s' := (31, [some (.ref 83), u1, some (.int x2)], [.ref 83, .ref 83], _, _, _)) rfl ?_
  refine pe_get mm_47 rfl rfl rfl (by decide) rfl ?_
  refine pe_blk mm_47 1 (s' := (35, [some (.ref 83), u1, some (.int x2)], [.int x2, .ref 91, .ref 83], _, _, _)) rfl ?_
  by_cases q7 : x2 < 0 ∨ 128 ≤ (x2 : Int32).toNatClampNeg
  · rw [if_pos q7] at h
    cases h
  · rw [if_neg q7] at h
    refine pe_iald (f := M.1 91) mm_47 rfl rfl (by decide) q7 ?_
    obtain ⟨e1, rfl⟩ : ∃ e1, e = e1 + 1 := ⟨e - 1, by omega⟩
    cases hc10 : F46 n (M.1 91 (x2 : Int32).toNatClampNeg) M with
    | none => rw [hc10] at h; cases h
    | some w =>
      obtain ⟨v8, M9⟩ := w
      rw [hc10] at h
      dsimp only at h
      refine pe_virt (al := [.int (M.1 91 (x2 : Int32).toNatClampNeg)]) (a := 83) (L0 := [some (.ref 83), some (.int (M.1 91 (x2 : Int32).toNatClampNeg)), none, none]) (r1 := (some (.int v8), 129, 17845, hp M9)) mm_47 rfl rfl rfl mm_46 rfl (by decide) (by decide) rfl (Nat.le_of_ble_eq_true rfl) (Nat.le_of_ble_eq_true rfl) rfl rfl (F46_ev sc n (M.1 91 (x2 : Int32).toNatClampNeg) _ e1 (by omega) _ _ hc10) ?_
      show pm_ev _ _ _ _ _ (39, [some (.ref 83), u1, some (.int x2)], [.int v8], _, _, _) _
      refine pe_blk mm_47 1 (s' := (40, [some (.ref 83), u1, some (.int x2)], [.int x2, .int v8], _, _, _)) rfl ?_
      by_cases q11 : v8 = x2
      · rw [if_pos q11] at h
        refine pe_blk mm_47 1 (s' := (if v8 = x2 then 47 else 43, [some (.ref 83), u1, some (.int x2)], [], _, _, _)) rfl ?_
        rw [if_pos q11]
        exact J47_47_ev sc n (e1 + 1) he rec4 hr4 x2 _ _ _ _ h
      · rw [if_neg q11] at h
        refine pe_blk mm_47 1 (s' := (if v8 = x2 then 47 else 43, [some (.ref 83), u1, some (.int x2)], [], _, _, _)) rfl ?_
        rw [if_neg q11]
        exact J47_43_ev sc n (e1 + 1) he rec4 hr4 x2 _ _ _ _ h
def L47_4 (n : Nat) : Nat → Int32 → Int32 → Mem → Option (Int32 × Mem)
  | 0, _, _, _ => none
  | k + 1, x1, x2, M => if x2 < 0 ∨ 128 ≤ (x2 : Int32).toNatClampNeg then none else (if (M.1 90 (x2 : Int32).toNatClampNeg) = 6 then (if x1 = 0 ∨ x1 = 1 then some (x1, M) else none) else (if x1 = 0 then (if x2 < 0 ∨ 128 ≤ (x2 : Int32).toNatClampNeg then none else (if (M.1 90 (x2 : Int32).toNatClampNeg) = 3 then (J47_29 n (L47_4 n k) x2 M) else (J47_47 n (L47_4 n k) x2 M))) else (J47_43 n (L47_4 n k) x2 M)))
set_option maxRecDepth 100000 in
set_option maxHeartbeats 4000000 in
theorem L47_4_ev (sc : Option (Nat × (Nat → Int32))) (n : Nat)  (e : Nat) (he : 2 ≤ e) : ∀ k : Nat, ∀ (x1 : Int32) (x2 : Int32) (M : Mem) (r : Int32) (M' : Mem), L47_4 n k x1 x2 M = some (r, M') → pm_ev pmT sc e 47 false (4, [some (.ref 83), some (.int x1), some (.int x2)], [], 129, 17845, hp M) (some (.int r), 129, 17845, hp M') := by
  intro k
  induction k with
  | zero => intro x1 x2  M r M' h; cases h
  | succ k hr4 =>
    intro x1 x2  M r M' h
    rw [L47_4] at h
    refine pe_blk mm_47 1 (s' := (5, [some (.ref 83), some (.int x1), some (.int x2)], [.ref 83], _, _, _)) rfl ?_
    refine pe_get mm_47 rfl rfl rfl (by decide) rfl ?_
    refine pe_blk mm_47 1 (s' := (9, [some (.ref 83), some (.int x1), some (.int x2)], [.int x2, .ref 90], _, _, _)) rfl ?_
    by_cases q1 : x2 < 0 ∨ 128 ≤ (x2 : Int32).toNatClampNeg
    · rw [if_pos q1] at h
      cases h
    · rw [if_neg q1] at h
      refine pe_iald (f := M.1 90) mm_47 rfl rfl (by decide) q1 ?_
      refine pe_blk mm_47 1 (s' := (12, [some (.ref 83), some (.int x1), some (.int x2)], [.int 6, .int (M.1 90 (x2 : Int32).toNatClampNeg)], _, _, _)) rfl ?_
      by_cases q2 : (M.1 90 (x2 : Int32).toNatClampNeg) = 6
      · rw [if_pos q2] at h
        refine pe_blk mm_47 1 (s' := (if (M.1 90 (x2 : Int32).toNatClampNeg) = 6 then 55 else 15, [some (.ref 83), some (.int x1), some (.int x2)], [], _, _, _)) rfl ?_
        rw [if_pos q2]
        refine pe_blk mm_47 1 (s' := (56, [some (.ref 83), some (.int x1), some (.int x2)], [.int x1], _, _, _)) rfl ?_
        by_cases q3 : x1 = 0 ∨ x1 = 1
        · rw [if_pos q3] at h
          cases h
          exact pe_ret mm_47 rfl (if_pos q3)
        · rw [if_neg q3] at h
          cases h
      · rw [if_neg q2] at h
        refine pe_blk mm_47 1 (s' := (if (M.1 90 (x2 : Int32).toNatClampNeg) = 6 then 55 else 15, [some (.ref 83), some (.int x1), some (.int x2)], [], _, _, _)) rfl ?_
        rw [if_neg q2]
        refine pe_blk mm_47 1 (s' := (16, [some (.ref 83), some (.int x1), some (.int x2)], [.int x1], _, _, _)) rfl ?_
        by_cases q4 : x1 = 0
        · rw [if_pos q4] at h
          refine pe_blk mm_47 1 (s' := (if x1 = 0 then 19 else 43, [some (.ref 83), some (.int x1), some (.int x2)], [], _, _, _)) rfl ?_
          rw [if_pos q4]
          refine pe_blk mm_47 1 (s' := (20, [some (.ref 83), some (.int x1), some (.int x2)], [.ref 83], _, _, _)) rfl ?_
          refine pe_get mm_47 rfl rfl rfl (by decide) rfl ?_
          refine pe_blk mm_47 1 (s' := (24, [some (.ref 83), some (.int x1), some (.int x2)], [.int x2, .ref 90], _, _, _)) rfl ?_
          by_cases q5 : x2 < 0 ∨ 128 ≤ (x2 : Int32).toNatClampNeg
          · rw [if_pos q5] at h
            cases h
          · rw [if_neg q5] at h
            refine pe_iald (f := M.1 90) mm_47 rfl rfl (by decide) q5 ?_
            refine pe_blk mm_47 1 (s' := (26, [some (.ref 83), some (.int x1), some (.int x2)], [.int 3, .int (M.1 90 (x2 : Int32).toNatClampNeg)], _, _, _)) rfl ?_
            by_cases q6 : (M.1 90 (x2 : Int32).toNatClampNeg) = 3
            · rw [if_pos q6] at h
              refine pe_blk mm_47 1 (s' := (if (M.1 90 (x2 : Int32).toNatClampNeg) = 3 then 29 else 47, [some (.ref 83), some (.int x1), some (.int x2)], [], _, _, _)) rfl ?_
              rw [if_pos q6]
              exact J47_29_ev sc n e he (L47_4 n k) hr4 x2 _ _ _ _ h
            · rw [if_neg q6] at h
              refine pe_blk mm_47 1 (s' := (if (M.1 90 (x2 : Int32).toNatClampNeg) = 3 then 29 else 47, [some (.ref 83), some (.int x1), some (.int x2)], [], _, _, _)) rfl ?_
              rw [if_neg q6]
              exact J47_47_ev sc n e he (L47_4 n k) hr4 x2 _ _ _ _ h
        · rw [if_neg q4] at h
          refine pe_blk mm_47 1 (s' := (if x1 = 0 then 19 else 43, [some (.ref 83), some (.int x1), some (.int x2)], [], _, _, _)) rfl ?_
          rw [if_neg q4]
          exact J47_43_ev sc n e he (L47_4 n k) hr4 x2 _ _ _ _ h
/-- ArmExpanderModel.twice -/
def F47 (n : Nat) (M : Mem) : Option (Int32 × Mem) :=
  L47_4 n n 0 0 M
set_option maxRecDepth 100000 in
set_option maxHeartbeats 4000000 in
theorem F47_ev (sc : Option (Nat × (Nat → Int32))) (n : Nat)  (M : Mem) (e : Nat) (he : 2 ≤ e) (r : Int32) (M' : Mem) (h : F47 n M = some (r, M')) : pm_ev pmT sc e 47 false (0, [some (.ref 83), none, none], [], 129, 17845, hp M) (some (.int r), 129, 17845, hp M') := by
  unfold F47 at h
  refine pe_blk mm_47 4 (s' := (4, [some (.ref 83), some (.int 0), some (.int 0)], [], _, _, _)) rfl ?_
  exact L47_4_ev sc n e he n 0 0 _ _ _ h
def J48_90 (n : Nat) (rec4 : Int32 → Int32 → Mem → Option (Int32 × Mem)) (x2 : Int32) (s0 : Int32) (M : Mem) : Option (Int32 × Mem) :=
  rec4 s0 (x2 + 1) M
set_option maxRecDepth 100000 in
set_option maxHeartbeats 4000000 in
theorem J48_90_ev (sc : Option (Nat × (Nat → Int32))) (n : Nat)  (e : Nat) (he : 1 ≤ e) (rec4 : Int32 → Int32 → Mem → Option (Int32 × Mem)) (hr4 : ∀ (x1 : Int32) (x2 : Int32) (u3 : Option Value) (M : Mem) (r : Int32) (M' : Mem), rec4 x1 x2 M = some (r, M') → pm_ev pmT sc e 48 false (4, [some (.ref 83), some (.int x1), some (.int x2), u3], [], 129, 17845, hp M) (some (.int r), 129, 17845, hp M')) : ∀ (x2 : Int32) (s0 : Int32) (u1 : Option Value) (u3 : Option Value) (M : Mem) (r : Int32) (M' : Mem), J48_90 n rec4 x2 s0 M = some (r, M') → pm_ev pmT sc e 48 false (90, [some (.ref 83), u1, some (.int x2), u3], [.int s0], 129, 17845, hp M) (some (.int r), 129, 17845, hp M') := by
  intro x2 s0 u1 u3 M r M' h
  unfold J48_90 at h
  refine pe_blk mm_48 3 (s' := (4, [some (.ref 83), some (.int s0), some (.int (x2 + 1)), u3], [], _, _, _)) rfl ?_
  exact hr4 s0 (x2 + 1) _ _ _ _ h
def J48_85 (n : Nat) (rec4 : Int32 → Int32 → Mem → Option (Int32 × Mem)) (x2 : Int32) (M : Mem) : Option (Int32 × Mem) :=
  J48_90 n rec4 x2 1 M
set_option maxRecDepth 100000 in
set_option maxHeartbeats 4000000 in
theorem J48_85_ev (sc : Option (Nat × (Nat → Int32))) (n : Nat)  (e : Nat) (he : 1 ≤ e) (rec4 : Int32 → Int32 → Mem → Option (Int32 × Mem)) (hr4 : ∀ (x1 : Int32) (x2 : Int32) (u3 : Option Value) (M : Mem) (r : Int32) (M' : Mem), rec4 x1 x2 M = some (r, M') → pm_ev pmT sc e 48 false (4, [some (.ref 83), some (.int x1), some (.int x2), u3], [], 129, 17845, hp M) (some (.int r), 129, 17845, hp M')) : ∀ (x2 : Int32) (u1 : Option Value) (u3 : Option Value) (M : Mem) (r : Int32) (M' : Mem), J48_85 n rec4 x2 M = some (r, M') → pm_ev pmT sc e 48 false (85, [some (.ref 83), u1, some (.int x2), u3], [], 129, 17845, hp M) (some (.int r), 129, 17845, hp M') := by
  intro x2 u1 u3 M r M' h
  unfold J48_85 at h
  refine pe_blk mm_48 2 (s' := (90, [some (.ref 83), u1, some (.int x2), u3], [.int 1], _, _, _)) rfl ?_
  exact J48_90_ev sc n e he rec4 hr4 x2 1 _ _ _ _ _ h
def J48_89 (n : Nat) (rec4 : Int32 → Int32 → Mem → Option (Int32 × Mem)) (x2 : Int32) (M : Mem) : Option (Int32 × Mem) :=
  J48_90 n rec4 x2 0 M
set_option maxRecDepth 100000 in
set_option maxHeartbeats 4000000 in
theorem J48_89_ev (sc : Option (Nat × (Nat → Int32))) (n : Nat)  (e : Nat) (he : 1 ≤ e) (rec4 : Int32 → Int32 → Mem → Option (Int32 × Mem)) (hr4 : ∀ (x1 : Int32) (x2 : Int32) (u3 : Option Value) (M : Mem) (r : Int32) (M' : Mem), rec4 x1 x2 M = some (r, M') → pm_ev pmT sc e 48 false (4, [some (.ref 83), some (.int x1), some (.int x2), u3], [], 129, 17845, hp M) (some (.int r), 129, 17845, hp M')) : ∀ (x2 : Int32) (u1 : Option Value) (u3 : Option Value) (M : Mem) (r : Int32) (M' : Mem), J48_89 n rec4 x2 M = some (r, M') → pm_ev pmT sc e 48 false (89, [some (.ref 83), u1, some (.int x2), u3], [], 129, 17845, hp M) (some (.int r), 129, 17845, hp M') := by
  intro x2 u1 u3 M r M' h
  unfold J48_89 at h
  refine pe_blk mm_48 1 (s' := (90, [some (.ref 83), u1, some (.int x2), u3], [.int 0], _, _, _)) rfl ?_
  exact J48_90_ev sc n e he rec4 hr4 x2 0 _ _ _ _ _ h
def J48_61 (n : Nat) (rec4 : Int32 → Int32 → Mem → Option (Int32 × Mem)) (x1 : Int32) (x2 : Int32) (x3 : Int32) (M : Mem) : Option (Int32 × Mem) :=
  if x1 = 0 then (if x2 < 0 ∨ 128 ≤ (x2 : Int32).toNatClampNeg then none else (if (M.1 90 (x2 : Int32).toNatClampNeg) = 4 then (if x2 < 0 ∨ 128 ≤ (x2 : Int32).toNatClampNeg then none else (if (M.1 92 (x2 : Int32).toNatClampNeg) = x3 then (J48_85 n rec4 x2 M) else (J48_89 n rec4 x2 M))) else (J48_89 n rec4 x2 M))) else (J48_85 n rec4 x2 M)
set_option maxRecDepth 100000 in
set_option maxHeartbeats 4000000 in
theorem J48_61_ev (sc : Option (Nat × (Nat → Int32))) (n : Nat)  (e : Nat) (he : 1 ≤ e) (rec4 : Int32 → Int32 → Mem → Option (Int32 × Mem)) (hr4 : ∀ (x1 : Int32) (x2 : Int32) (u3 : Option Value) (M : Mem) (r : Int32) (M' : Mem), rec4 x1 x2 M = some (r, M') → pm_ev pmT sc e 48 false (4, [some (.ref 83), some (.int x1), some (.int x2), u3], [], 129, 17845, hp M) (some (.int r), 129, 17845, hp M')) : ∀ (x1 : Int32) (x2 : Int32) (x3 : Int32) (M : Mem) (r : Int32) (M' : Mem), J48_61 n rec4 x1 x2 x3 M = some (r, M') → pm_ev pmT sc e 48 false (61, [some (.ref 83), some (.int x1), some (.int x2), some (.int x3)], [], 129, 17845, hp M) (some (.int r), 129, 17845, hp M') := by
  intro x1 x2 x3  M r M' h
  unfold J48_61 at h
  refine pe_blk mm_48 1 (s' := (62, [some (.ref 83), some (.int x1), some (.int x2), some (.int x3)], [.int x1], _, _, _)) rfl ?_
  by_cases q10 : x1 = 0
  · rw [if_pos q10] at h
    refine pe_blk mm_48 1 (s' := (if x1 = 0 then 65 else 85, [some (.ref 83), some (.int x1), some (.int x2), some (.int x3)], [], _, _, _)) rfl ?_
    rw [if_pos q10]
    refine pe_blk mm_48 1 (s' := (66, [some (.ref 83), some (.int x1), some (.int x2), some (.int x3)], [.ref 83], _, _, _)) rfl ?_
    refine pe_get mm_48 rfl rfl rfl (by decide) rfl ?_
    refine pe_blk mm_48 1 (s' := (70, [some (.ref 83), some (.int x1), some (.int x2), some (.int x3)], [.int x2, .ref 90], _, _, _)) rfl ?_
    by_cases q11 : x2 < 0 ∨ 128 ≤ (x2 : Int32).toNatClampNeg
    · rw [if_pos q11] at h
      cases h
    · rw [if_neg q11] at h
      refine pe_iald (f := M.1 90) mm_48 rfl rfl (by decide) q11 ?_
      refine pe_blk mm_48 1 (s' := (72, [some (.ref 83), some (.int x1), some (.int x2), some (.int x3)], [.int 4, .int (M.1 90 (x2 : Int32).toNatClampNeg)], _, _, _)) rfl ?_
      by_cases q12 : (M.1 90 (x2 : Int32).toNatClampNeg) = 4
      · rw [if_pos q12] at h
        refine pe_blk mm_48 1 (s' := (if (M.1 90 (x2 : Int32).toNatClampNeg) = 4 then 75 else 89, [some (.ref 83), some (.int x1), some (.int x2), some (.int x3)], [], _, _, _)) rfl ?_
        rw [if_pos q12]
        refine pe_blk mm_48 1 (s' := (76, [some (.ref 83), some (.int x1), some (.int x2), some (.int x3)], [.ref 83], _, _, _)) rfl ?_
        refine pe_get mm_48 rfl rfl rfl (by decide) rfl ?_
        refine pe_blk mm_48 1 (s' := (80, [some (.ref 83), some (.int x1), some (.int x2), some (.int x3)], [.int x2, .ref 92], _, _, _)) rfl ?_
        by_cases q13 : x2 < 0 ∨ 128 ≤ (x2 : Int32).toNatClampNeg
        · rw [if_pos q13] at h
          cases h
        · rw [if_neg q13] at h
          refine pe_iald (f := M.1 92) mm_48 rfl rfl (by decide) q13 ?_
          refine pe_blk mm_48 1 (s' := (82, [some (.ref 83), some (.int x1), some (.int x2), some (.int x3)], [.int x3, .int (M.1 92 (x2 : Int32).toNatClampNeg)], _, _, _)) rfl ?_
          by_cases q14 : (M.1 92 (x2 : Int32).toNatClampNeg) = x3
          · rw [if_pos q14] at h
            refine pe_blk mm_48 1 (s' := (if (M.1 92 (x2 : Int32).toNatClampNeg) = x3 then 85 else 89, [some (.ref 83), some (.int x1), some (.int x2), some (.int x3)], [], _, _, _)) rfl ?_
            rw [if_pos q14]
            exact J48_85_ev sc n e he rec4 hr4 x2 _ _ _ _ _ h
          · rw [if_neg q14] at h
            refine pe_blk mm_48 1 (s' := (if (M.1 92 (x2 : Int32).toNatClampNeg) = x3 then 85 else 89, [some (.ref 83), some (.int x1), some (.int x2), some (.int x3)], [], _, _, _)) rfl ?_
            rw [if_neg q14]
            exact J48_89_ev sc n e he rec4 hr4 x2 _ _ _ _ _ h
      · rw [if_neg q12] at h
        refine pe_blk mm_48 1 (s' := (if (M.1 90 (x2 : Int32).toNatClampNeg) = 4 then 75 else 89, [some (.ref 83), some (.int x1), some (.int x2), some (.int x3)], [], _, _, _)) rfl ?_
        rw [if_neg q12]
        exact J48_89_ev sc n e he rec4 hr4 x2 _ _ _ _ _ h
  · rw [if_neg q10] at h
    refine pe_blk mm_48 1 (s' := (if x1 = 0 then 65 else 85, [some (.ref 83), some (.int x1), some (.int x2), some (.int x3)], [], _, _, _)) rfl ?_
    rw [if_neg q10]
    exact J48_85_ev sc n e he rec4 hr4 x2 _ _ _ _ _ h
def J48_39 (n : Nat) (rec4 : Int32 → Int32 → Mem → Option (Int32 × Mem)) (rec19 : Int32 → Int32 → Int32 → Mem → Option (Int32 × Mem)) (x1 : Int32) (x2 : Int32) (x3 : Int32) (M : Mem) : Option (Int32 × Mem) :=
  if x3 < 0 ∨ 128 ≤ (x3 : Int32).toNatClampNeg then none else (if (M.1 94 (x3 : Int32).toNatClampNeg) = 2 then (J48_61 n rec4 x1 x2 x3 M) else (if x3 < 0 ∨ 128 ≤ (x3 : Int32).toNatClampNeg then none else (rec19 x1 x2 ((M.1 92 (x3 : Int32).toNatClampNeg) + 1) M)))
set_option maxRecDepth 100000 in
set_option maxHeartbeats 4000000 in
theorem J48_39_ev (sc : Option (Nat × (Nat → Int32))) (n : Nat)  (e : Nat) (he : 1 ≤ e) (rec4 : Int32 → Int32 → Mem → Option (Int32 × Mem)) (rec19 : Int32 → Int32 → Int32 → Mem → Option (Int32 × Mem)) (hr4 : ∀ (x1 : Int32) (x2 : Int32) (u3 : Option Value) (M : Mem) (r : Int32) (M' : Mem), rec4 x1 x2 M = some (r, M') → pm_ev pmT sc e 48 false (4, [some (.ref 83), some (.int x1), some (.int x2), u3], [], 129, 17845, hp M) (some (.int r), 129, 17845, hp M')) (hr19 : ∀ (x1 : Int32) (x2 : Int32) (x3 : Int32) (M : Mem) (r : Int32) (M' : Mem), rec19 x1 x2 x3 M = some (r, M') → pm_ev pmT sc e 48 false (19, [some (.ref 83), some (.int x1), some (.int x2), some (.int x3)], [], 129, 17845, hp M) (some (.int r), 129, 17845, hp M')) : ∀ (x1 : Int32) (x2 : Int32) (x3 : Int32) (M : Mem) (r : Int32) (M' : Mem), J48_39 n rec4 rec19 x1 x2 x3 M = some (r, M') → pm_ev pmT sc e 48 false (39, [some (.ref 83), some (.int x1), some (.int x2), some (.int x3)], [], 129, 17845, hp M) (some (.int r), 129, 17845, hp M') := by
  intro x1 x2 x3  M r M' h
  unfold J48_39 at h
  refine pe_blk mm_48 1 (s' := (40, [some (.ref 83), some (.int x1), some (.int x2), some (.int x3)], [.ref 83], _, _, _)) rfl ?_
  refine pe_get mm_48 rfl rfl rfl (by decide) rfl ?_
  refine pe_blk mm_48 1 (s' := (44, [some (.ref 83), some (.int x1), some (.int x2), some (.int x3)], [.int x3, .ref 94], _, _, _)) rfl ?_
  by_cases q8 : x3 < 0 ∨ 128 ≤ (x3 : Int32).toNatClampNeg
  · rw [if_pos q8] at h
    cases h
  · rw [if_neg q8] at h
    refine pe_iald (f := M.1 94) mm_48 rfl rfl (by decide) q8 ?_
    refine pe_blk mm_48 1 (s' := (46, [some (.ref 83), some (.int x1), some (.int x2), some (.int x3)], [.int 2, .int (M.1 94 (x3 : Int32).toNatClampNeg)], _, _, _)) rfl ?_
    by_cases q9 : (M.1 94 (x3 : Int32).toNatClampNeg) = 2
    · rw [if_pos q9] at h
      refine pe_blk mm_48 1 (s' := (if (M.1 94 (x3 : Int32).toNatClampNeg) = 2 then 61 else 49, [some (.ref 83), some (.int x1), some (.int x2), some (.int x3)], [], _, _, _)) rfl ?_
      rw [if_pos q9]
      exact J48_61_ev sc n e he rec4 hr4 x1 x2 x3 _ _ _ h
    · rw [if_neg q9] at h
      refine pe_blk mm_48 1 (s' := (if (M.1 94 (x3 : Int32).toNatClampNeg) = 2 then 61 else 49, [some (.ref 83), some (.int x1), some (.int x2), some (.int x3)], [], _, _, _)) rfl ?_
      rw [if_neg q9]
      refine pe_blk mm_48 1 (s' := (50, [some (.ref 83), some (.int x1), some (.int x2), some (.int x3)], [.ref 83], _, _, _)) rfl ?_
      refine pe_get mm_48 rfl rfl rfl (by decide) rfl ?_
      refine pe_blk mm_48 1 (s' := (54, [some (.ref 83), some (.int x1), some (.int x2), some (.int x3)], [.int x3, .ref 92], _, _, _)) rfl ?_
      by_cases q15 : x3 < 0 ∨ 128 ≤ (x3 : Int32).toNatClampNeg
      · rw [if_pos q15] at h
        cases h
      · rw [if_neg q15] at h
        refine pe_iald (f := M.1 92) mm_48 rfl rfl (by decide) q15 ?_
        refine pe_blk mm_48 4 (s' := (19, [some (.ref 83), some (.int x1), some (.int x2), some (.int ((M.1 92 (x3 : Int32).toNatClampNeg) + 1))], [], _, _, _)) rfl ?_
        exact hr19 x1 x2 ((M.1 92 (x3 : Int32).toNatClampNeg) + 1) _ _ _ h
def L48_19 (n : Nat) (rec4 : Int32 → Int32 → Mem → Option (Int32 × Mem)) : Nat → Int32 → Int32 → Int32 → Mem → Option (Int32 × Mem)
  | 0, _, _, _, _ => none
  | k + 1, x1, x2, x3, M => if x2 < 0 ∨ 128 ≤ (x2 : Int32).toNatClampNeg then none else (if (M.1 90 (x2 : Int32).toNatClampNeg) = 4 then (if x3 < 0 ∨ 128 ≤ (x3 : Int32).toNatClampNeg then none else (if (M.1 90 (x3 : Int32).toNatClampNeg) = 4 then (J48_39 n rec4 (L48_19 n rec4 k) x1 x2 x3 M) else (J48_61 n rec4 x1 x2 x3 M))) else (J48_61 n rec4 x1 x2 x3 M))
set_option maxRecDepth 100000 in
set_option maxHeartbeats 4000000 in
theorem L48_19_ev (sc : Option (Nat × (Nat → Int32))) (n : Nat)  (e : Nat) (he : 1 ≤ e) (rec4 : Int32 → Int32 → Mem → Option (Int32 × Mem)) (hr4 : ∀ (x1 : Int32) (x2 : Int32) (u3 : Option Value) (M : Mem) (r : Int32) (M' : Mem), rec4 x1 x2 M = some (r, M') → pm_ev pmT sc e 48 false (4, [some (.ref 83), some (.int x1), some (.int x2), u3], [], 129, 17845, hp M) (some (.int r), 129, 17845, hp M')) : ∀ k : Nat, ∀ (x1 : Int32) (x2 : Int32) (x3 : Int32) (M : Mem) (r : Int32) (M' : Mem), L48_19 n rec4 k x1 x2 x3 M = some (r, M') → pm_ev pmT sc e 48 false (19, [some (.ref 83), some (.int x1), some (.int x2), some (.int x3)], [], 129, 17845, hp M) (some (.int r), 129, 17845, hp M') := by
  intro k
  induction k with
  | zero => intro x1 x2 x3  M r M' h; cases h
  | succ k hr19 =>
    intro x1 x2 x3  M r M' h
    rw [L48_19] at h
    refine pe_blk mm_48 1 (s' := (20, [some (.ref 83), some (.int x1), some (.int x2), some (.int x3)], [.ref 83], _, _, _)) rfl ?_
    refine pe_get mm_48 rfl rfl rfl (by decide) rfl ?_
    refine pe_blk mm_48 1 (s' := (24, [some (.ref 83), some (.int x1), some (.int x2), some (.int x3)], [.int x2, .ref 90], _, _, _)) rfl ?_
    by_cases q4 : x2 < 0 ∨ 128 ≤ (x2 : Int32).toNatClampNeg
    · rw [if_pos q4] at h
      cases h
    · rw [if_neg q4] at h
      refine pe_iald (f := M.1 90) mm_48 rfl rfl (by decide) q4 ?_
      refine pe_blk mm_48 1 (s' := (26, [some (.ref 83), some (.int x1), some (.int x2), some (.int x3)], [.int 4, .int (M.1 90 (x2 : Int32).toNatClampNeg)], _, _, _)) rfl ?_
      by_cases q5 : (M.1 90 (x2 : Int32).toNatClampNeg) = 4
      · rw [if_pos q5] at h
        refine pe_blk mm_48 1 (s' := (if (M.1 90 (x2 : Int32).toNatClampNeg) = 4 then 29 else 61, [some (.ref 83), some (.int x1), some (.int x2), some (.int x3)], [], _, _, _)) rfl ?_
        rw [if_pos q5]
        refine pe_blk mm_48 1 (s' := (30, [some (.ref 83), some (.int x1), some (.int x2), some (.int x3)], [.ref 83], _, _, _)) rfl ?_
        refine pe_get mm_48 rfl rfl rfl (by decide) rfl ?_
        refine pe_blk mm_48 1 (s' := (34, [some (.ref 83), some (.int x1), some (.int x2), some (.int x3)], [.int x3, .ref 90], _, _, _)) rfl ?_
        by_cases q6 : x3 < 0 ∨ 128 ≤ (x3 : Int32).toNatClampNeg
        · rw [if_pos q6] at h
          cases h
        · rw [if_neg q6] at h
          refine pe_iald (f := M.1 90) mm_48 rfl rfl (by decide) q6 ?_
          refine pe_blk mm_48 1 (s' := (36, [some (.ref 83), some (.int x1), some (.int x2), some (.int x3)], [.int 4, .int (M.1 90 (x3 : Int32).toNatClampNeg)], _, _, _)) rfl ?_
          by_cases q7 : (M.1 90 (x3 : Int32).toNatClampNeg) = 4
          · rw [if_pos q7] at h
            refine pe_blk mm_48 1 (s' := (if (M.1 90 (x3 : Int32).toNatClampNeg) = 4 then 39 else 61, [some (.ref 83), some (.int x1), some (.int x2), some (.int x3)], [], _, _, _)) rfl ?_
            rw [if_pos q7]
            exact J48_39_ev sc n e he rec4 (L48_19 n rec4 k) hr4 hr19 x1 x2 x3 _ _ _ h
          · rw [if_neg q7] at h
            refine pe_blk mm_48 1 (s' := (if (M.1 90 (x3 : Int32).toNatClampNeg) = 4 then 39 else 61, [some (.ref 83), some (.int x1), some (.int x2), some (.int x3)], [], _, _, _)) rfl ?_
            rw [if_neg q7]
            exact J48_61_ev sc n e he rec4 hr4 x1 x2 x3 _ _ _ h
      · rw [if_neg q5] at h
        refine pe_blk mm_48 1 (s' := (if (M.1 90 (x2 : Int32).toNatClampNeg) = 4 then 29 else 61, [some (.ref 83), some (.int x1), some (.int x2), some (.int x3)], [], _, _, _)) rfl ?_
        rw [if_neg q5]
        exact J48_61_ev sc n e he rec4 hr4 x1 x2 x3 _ _ _ h
def L48_4 (n : Nat) : Nat → Int32 → Int32 → Mem → Option (Int32 × Mem)
  | 0, _, _, _ => none
  | k + 1, x1, x2, M => if x2 < 0 ∨ 128 ≤ (x2 : Int32).toNatClampNeg then none else (if (M.1 90 (x2 : Int32).toNatClampNeg) = 6 then (if x1 = 0 ∨ x1 = 1 then some (x1, M) else none) else (L48_19 n (L48_4 n k) n x1 x2 (x2 + 1) M))
set_option maxRecDepth 100000 in
set_option maxHeartbeats 4000000 in
theorem L48_4_ev (sc : Option (Nat × (Nat → Int32))) (n : Nat)  (e : Nat) (he : 1 ≤ e) : ∀ k : Nat, ∀ (x1 : Int32) (x2 : Int32) (u3 : Option Value) (M : Mem) (r : Int32) (M' : Mem), L48_4 n k x1 x2 M = some (r, M') → pm_ev pmT sc e 48 false (4, [some (.ref 83), some (.int x1), some (.int x2), u3], [], 129, 17845, hp M) (some (.int r), 129, 17845, hp M') := by
  intro k
  induction k with
  | zero => intro x1 x2 u3 M r M' h; cases h
  | succ k hr4 =>
    intro x1 x2 u3 M r M' h
    rw [L48_4] at h
    refine pe_blk mm_48 1 (s' := (5, [some (.ref 83), some (.int x1), some (.int x2), u3], [.ref 83], _, _, _)) rfl ?_
    refine pe_get mm_48 rfl rfl rfl (by decide) rfl ?_
    refine pe_blk mm_48 1 (s' := (9, [some (.ref 83), some (.int x1), some (.int x2), u3], [.int x2, .ref 90], _, _, _)) rfl ?_
    by_cases q1 : x2 < 0 ∨ 128 ≤ (x2 : Int32).toNatClampNeg
    · rw [if_pos q1] at h
      cases h
    · rw [if_neg q1] at h
      refine pe_iald (f := M.1 90) mm_48 rfl rfl (by decide) q1 ?_
      refine pe_blk mm_48 1 (s' := (12, [some (.ref 83), some (.int x1), some (.int x2), u3], [.int 6, .int (M.1 90 (x2 : Int32).toNatClampNeg)], _, _, _)) rfl ?_
      by_cases q2 : (M.1 90 (x2 : Int32).toNatClampNeg) = 6
      · rw [if_pos q2] at h
        refine pe_blk mm_48 1 (s' := (if (M.1 90 (x2 : Int32).toNatClampNeg) = 6 then 97 else 15, [some (.ref 83), some (.int x1), some (.int x2), u3], [], _, _, _)) rfl ?_
        rw [if_pos q2]
        refine pe_blk mm_48 1 (s' := (98, [some (.ref 83), some (.int x1), some (.int x2), u3], [.int x1], _, _, _)) rfl ?_
        by_cases q3 : x1 = 0 ∨ x1 = 1
        · rw [if_pos q3] at h
          cases h
          exact pe_ret mm_48 rfl (if_pos q3)
        · rw [if_neg q3] at h
          cases h
      · rw [if_neg q2] at h
        refine pe_blk mm_48 1 (s' := (if (M.1 90 (x2 : Int32).toNatClampNeg) = 6 then 97 else 15, [some (.ref 83), some (.int x1), some (.int x2), u3], [], _, _, _)) rfl ?_
        rw [if_neg q2]
        refine pe_blk mm_48 4 (s' := (19, [some (.ref 83), some (.int x1), some (.int x2), some (.int (x2 + 1))], [], _, _, _)) rfl ?_
        exact L48_19_ev sc n e he (L48_4 n k) hr4 n x1 x2 (x2 + 1) _ _ _ h
/-- ArmExpanderModel.matchesNothing -/
def F48 (n : Nat) (M : Mem) : Option (Int32 × Mem) :=
  L48_4 n n 0 0 M
set_option maxRecDepth 100000 in
set_option maxHeartbeats 4000000 in
theorem F48_ev (sc : Option (Nat × (Nat → Int32))) (n : Nat)  (M : Mem) (e : Nat) (he : 1 ≤ e) (r : Int32) (M' : Mem) (h : F48 n M = some (r, M')) : pm_ev pmT sc e 48 false (0, [some (.ref 83), none, none, none], [], 129, 17845, hp M) (some (.int r), 129, 17845, hp M') := by
  unfold F48 at h
  refine pe_blk mm_48 4 (s' := (4, [some (.ref 83), some (.int 0), some (.int 0), none], [], _, _, _)) rfl ?_
  exact L48_4_ev sc n e he n 0 0 _ _ _ _ h
def J49_253 (n : Nat) (rec10 : Int32 → Int32 → Int32 → Mem → Option (Unit × Mem)) (x2 : Int32) (x3 : Int32) (x4 : Int32) (M : Mem) : Option (Unit × Mem) :=
  rec10 x2 x3 x4 M
set_option maxRecDepth 100000 in
set_option maxHeartbeats 4000000 in
theorem J49_253_ev (sc : Option (Nat × (Nat → Int32))) (n : Nat)  (e : Nat) (he : 1 ≤ e) (rec10 : Int32 → Int32 → Int32 → Mem → Option (Unit × Mem)) (hr10 : ∀ (x2 : Int32) (x3 : Int32) (x4 : Int32) (u1 : Option Value) (u5 : Option Value) (u6 : Option Value) (u7 : Option Value) (u8 : Option Value) (M : Mem) (r : Unit) (M' : Mem), rec10 x2 x3 x4 M = some (r, M') → pm_ev pmT sc e 49 false (10, [some (.ref 83), u1, some (.int x2), some (.int x3), some (.int x4), u5, u6, u7, u8], [], 129, 17845, hp M) (none, 129, 17845, hp M')) : ∀ (x2 : Int32) (x3 : Int32) (x4 : Int32) (u1 : Option Value) (u5 : Option Value) (u6 : Option Value) (u7 : Option Value) (u8 : Option Value) (M : Mem) (r : Unit) (M' : Mem), J49_253 n rec10 x2 x3 x4 M = some (r, M') → pm_ev pmT sc e 49 false (253, [some (.ref 83), u1, some (.int x2), some (.int x3), some (.int x4), u5, u6, u7, u8], [], 129, 17845, hp M) (none, 129, 17845, hp M') := by
  intro x2 x3 x4 u1 u5 u6 u7 u8 M r M' h
  unfold J49_253 at h
  refine pe_blk mm_49 1 (s' := (10, [some (.ref 83), u1, some (.int x2), some (.int x3), some (.int x4), u5, u6, u7, u8], [], _, _, _)) rfl ?_
  exact hr10 x2 x3 x4 _ _ _ _ _ _ _ _ h
def J49_247 (n : Nat) (rec10 : Int32 → Int32 → Int32 → Mem → Option (Unit × Mem)) (x2 : Int32) (x3 : Int32) (x4 : Int32) (M : Mem) : Option (Unit × Mem) :=
  J49_253 n rec10 x2 x3 (x4 + 1) M
set_option maxRecDepth 100000 in
set_option maxHeartbeats 4000000 in
theorem J49_247_ev (sc : Option (Nat × (Nat → Int32))) (n : Nat)  (e : Nat) (he : 1 ≤ e) (rec10 : Int32 → Int32 → Int32 → Mem → Option (Unit × Mem)) (hr10 : ∀ (x2 : Int32) (x3 : Int32) (x4 : Int32) (u1 : Option Value) (u5 : Option Value) (u6 : Option Value) (u7 : Option Value) (u8 : Option Value) (M : Mem) (r : Unit) (M' : Mem), rec10 x2 x3 x4 M = some (r, M') → pm_ev pmT sc e 49 false (10, [some (.ref 83), u1, some (.int x2), some (.int x3), some (.int x4), u5, u6, u7, u8], [], 129, 17845, hp M) (none, 129, 17845, hp M')) : ∀ (x2 : Int32) (x3 : Int32) (x4 : Int32) (u1 : Option Value) (u5 : Option Value) (u6 : Option Value) (u7 : Option Value) (u8 : Option Value) (M : Mem) (r : Unit) (M' : Mem), J49_247 n rec10 x2 x3 x4 M = some (r, M') → pm_ev pmT sc e 49 false (247, [some (.ref 83), u1, some (.int x2), some (.int x3), some (.int x4), u5, u6, u7, u8], [], 129, 17845, hp M) (none, 129, 17845, hp M') := by
  intro x2 x3 x4 u1 u5 u6 u7 u8 M r M' h
  unfold J49_247 at h
  refine pe_blk mm_49 4 (s' := (253, [some (.ref 83), u1, some (.int x2), some (.int x3), some (.int (x4 + 1)), u5, u6, u7, u8], [], _, _, _)) rfl ?_
  exact J49_253_ev sc n e he rec10 hr10 x2 x3 (x4 + 1) _ _ _ _ _ _ _ _ h
def J49_209 (n : Nat) (rec10 : Int32 → Int32 → Int32 → Mem → Option (Unit × Mem)) (x2 : Int32) (x3 : Int32) (x4 : Int32) (x5 : Int32) (x6 : Int32) (x7 : Int32) (M : Mem) : Option (Unit × Mem) :=
  if x6 = 5 then (if x7 = 3 then (J49_253 n rec10 x2 x3 x4 M) else (if x5 < 0 ∨ 128 ≤ (x5 : Int32).toNatClampNeg then none else (if (M.1 93 (x5 : Int32).toNatClampNeg) = 0 then (if x5 < 0 ∨ 128 ≤ (x5 : Int32).toNatClampNeg then none else (if x4 < 0 ∨ 512 ≤ (x4 : Int32).toNatClampNeg then none else (mlet (m_i M 114 (x4 : Int32).toNatClampNeg ((M.1 92 (x5 : Int32).toNatClampNeg) + 1)) (fun M22 => J49_247 n rec10 x2 x3 x4 M22)))) else (J49_253 n rec10 x2 x3 x4 M)))) else (J49_253 n rec10 x2 x3 x4 M)
set_option maxRecDepth 100000 in
set_option maxHeartbeats 4000000 in
theorem J49_209_ev (sc : Option (Nat × (Nat → Int32))) (n : Nat)  (e : Nat) (he : 1 ≤ e) (rec10 : Int32 → Int32 → Int32 → Mem → Option (Unit × Mem)) (hr10 : ∀ (x2 : Int32) (x3 : Int32) (x4 : Int32) (u1 : Option Value) (u5 : Option Value) (u6 : Option Value) (u7 : Option Value) (u8 : Option Value) (M : Mem) (r : Unit) (M' : Mem), rec10 x2 x3 x4 M = some (r, M') → pm_ev pmT sc e 49 false (10, [some (.ref 83), u1, some (.int x2), some (.int x3), some (.int x4), u5, u6, u7, u8], [], 129, 17845, hp M) (none, 129, 17845, hp M')) : ∀ (x2 : Int32) (x3 : Int32) (x4 : Int32) (x5 : Int32) (x6 : Int32) (x7 : Int32) (u1 : Option Value) (u8 : Option Value) (M : Mem) (r : Unit) (M' : Mem), J49_209 n rec10 x2 x3 x4 x5 x6 x7 M = some (r, M') → pm_ev pmT sc e 49 false (209, [some (.ref 83), u1, some (.int x2), some (.int x3), some (.int x4), some (.int x5), some (.int x6), some (.int x7), u8], [], 129, 17845, hp M) (none, 129, 17845, hp M') := by
  intro x2 x3 x4 x5 x6 x7 u1 u8 M r M' h
  unfold J49_209 at h
  refine pe_blk mm_49 2 (s' := (212, [some (.ref 83), u1, some (.int x2), some (.int x3), some (.int x4), some (.int x5), some (.int x6), some (.int x7), u8], [.int 5, .int x6], _, _, _)) rfl ?_
  by_cases q16 : x6 = 5
  · rw [if_pos q16] at h
    refine pe_blk mm_49 1 (s' := (if x6 = 5 then 215 else 253, [some (.ref 83), u1, some (.int x2), some (.int x3), some (.int x4), some (.int x5), some (.int x6), some (.int x7), u8], [], _, _, _)) rfl ?_
    rw [if_pos q16]
    refine pe_blk mm_49 2 (s' := (218, [some (.ref 83), u1, some (.int x2), some (.int x3), some (.int x4), some (.int x5), some (.int x6), some (.int x7), u8], [.int 3, .int x7], _, _, _)) rfl ?_
    by_cases q17 : x7 = 3
    · rw [if_pos q17] at h
      refine pe_blk mm_49 1 (s' := (if x7 = 3 then 253 else 221, [some (.ref 83), u1, some (.int x2), some (.int x3), some (.int x4), some (.int x5), some (.int x6), some (.int x7), u8], [], _, _, _)) rfl ?_
      rw [if_pos q17]
      exact J49_253_ev sc n e he rec10 hr10 x2 x3 x4 _ _ _ _ _ _ _ _ h
    · rw [if_neg q17] at h
      refine pe_blk mm_49 1 (s' := (if x7 = 3 then 253 else 221, [some (.ref 83), u1, some (.int x2), some (.int x3), some (.int x4), some (.int x5), some (.int x6), some (.int x7), u8], [], _, _, _)) rfl ?_
      rw [if_neg q17]
      refine pe_blk mm_49 1 (s' := (222, [some (.ref 83), u1, some (.int x2), some (.int x3), some (.int x4), some (.int x5), some (.int x6), some (.int x7), u8], [.ref 83], _, _, _)) rfl ?_
      refine pe_get mm_49 rfl rfl rfl (by decide) rfl ?_
      refine pe_blk mm_49 1 (s' := (227, [some (.ref 83), u1, some (.int x2), some (.int x3), some (.int x4), some (.int x5), some (.int x6), some (.int x7), u8], [.int x5, .ref 93], _, _, _)) rfl ?_
      by_cases q18 : x5 < 0 ∨ 128 ≤ (x5 : Int32).toNatClampNeg
      · rw [if_pos q18] at h
        cases h
      · rw [if_neg q18] at h
        refine pe_iald (f := M.1 93) mm_49 rfl rfl (by decide) q18 ?_
        by_cases q19 : (M.1 93 (x5 : Int32).toNatClampNeg) = 0
        · rw [if_pos q19] at h
          refine pe_blk mm_49 1 (s' := (if (M.1 93 (x5 : Int32).toNatClampNeg) = 0 then 231 else 253, [some (.ref 83), u1, some (.int x2), some (.int x3), some (.int x4), some (.int x5), some (.int x6), some (.int x7), u8], [], _, _, _)) rfl ?_
          rw [if_pos q19]
          refine pe_blk mm_49 1 (s' := (232, [some (.ref 83), u1, some (.int x2), some (.int x3), some (.int x4), some (.int x5), some (.int x6), some (.int x7), u8], [.ref 83], _, _, _)) rfl ?_
          refine pe_get mm_49 rfl rfl rfl (by decide) rfl ?_
          refine pe_blk mm_49 2 (s' := (238, [some (.ref 83), u1, some (.int x2), some (.int x3), some (.int x4), some (.int x5), some (.int x6), some (.int x7), u8], [.ref 83, .int x4, .ref 114], _, _, _)) rfl ?_
          refine pe_get mm_49 rfl rfl rfl (by decide) rfl ?_
          refine pe_blk mm_49 1 (s' := (243, [some (.ref 83), u1, some (.int x2), some (.int x3), some (.int x4), some (.int x5), some (.int x6), some (.int x7), u8], [.int x5, .ref 92, .int x4, .ref 114], _, _, _)) rfl ?_
          by_cases q20 : x5 < 0 ∨ 128 ≤ (x5 : Int32).toNatClampNeg
          · rw [if_pos q20] at h
            cases h
          · rw [if_neg q20] at h
            refine pe_iald (f := M.1 92) mm_49 rfl rfl (by decide) q20 ?_
            refine pe_blk mm_49 2 (s' := (246, [some (.ref 83), u1, some (.int x2), some (.int x3), some (.int x4), some (.int x5), some (.int x6), some (.int x7), u8], [.int ((M.1 92 (x5 : Int32).toNatClampNeg) + 1), .int x4, .ref 114], _, _, _)) rfl ?_
            by_cases q21 : x4 < 0 ∨ 512 ≤ (x4 : Int32).toNatClampNeg
            · rw [if_pos q21] at h
              cases h
            · rw [if_neg q21] at h
              refine pe_iasti mm_49 rfl rfl (by decide) q21 rfl ?_
              show pm_ev _ _ _ _ _ (247, [some (.ref 83), u1, some (.int x2), some (.int x3), some (.int x4), some (.int x5), some (.int x6), some (.int x7), u8], [], _, _, hp (m_i M 114 (x4 : Int32).toNatClampNeg ((M.1 92 (x5 : Int32).toNatClampNeg) + 1))) _
              generalize m_i M 114 (x4 : Int32).toNatClampNeg ((M.1 92 (x5 : Int32).toNatClampNeg) + 1) = M22 at h ⊢
              rw [mlet] at h
              exact J49_247_ev sc n e he rec10 hr10 x2 x3 x4 _ _ _ _ _ _ _ _ h
        · rw [if_neg q19] at h
          refine pe_blk mm_49 1 (s' := (if (M.1 93 (x5 : Int32).toNatClampNeg) = 0 then 231 else 253, [some (.ref 83), u1, some (.int x2), some (.int x3), some (.int x4), some (.int x5), some (.int x6), some (.int x7), u8], [], _, _, _)) rfl ?_
          rw [if_neg q19]
          exact J49_253_ev sc n e he rec10 hr10 x2 x3 x4 _ _ _ _ _ _ _ _ h
  · rw [if_neg q16] at h
    refine pe_blk mm_49 1 (s' := (if x6 = 5 then 215 else 253, [some (.ref 83), u1, some (.int x2), some (.int x3), some (.int x4), some (.int x5), some (.int x6), some (.int x7), u8], [], _, _, _)) rfl ?_
    rw [if_neg q16]
    exact J49_253_ev sc n e he rec10 hr10 x2 x3 x4 _ _ _ _ _ _ _ _ h
def J49_186 (n : Nat) (rec10 : Int32 → Int32 → Int32 → Mem → Option (Unit × Mem)) (x2 : Int32) (x3 : Int32) (x4 : Int32) (x5 : Int32) (x6 : Int32) (x7 : Int32) (M : Mem) : Option (Unit × Mem) :=
  if x6 = 5 then (if x4 < 0 ∨ 512 ≤ (x4 : Int32).toNatClampNeg then none else (mlet (m_i M 114 (x4 : Int32).toNatClampNeg (x5 + 1)) (fun M15 => J49_209 n rec10 x2 x3 (x4 + 1) x5 x6 x7 M15))) else (J49_209 n rec10 x2 x3 x4 x5 x6 x7 M)
set_option maxRecDepth 100000 in
set_option maxHeartbeats 4000000 in
theorem J49_186_ev (sc : Option (Nat × (Nat → Int32))) (n : Nat)  (e : Nat) (he : 1 ≤ e) (rec10 : Int32 → Int32 → Int32 → Mem → Option (Unit × Mem)) (hr10 : ∀ (x2 : Int32) (x3 : Int32) (x4 : Int32) (u1 : Option Value) (u5 : Option Value) (u6 : Option Value) (u7 : Option Value) (u8 : Option Value) (M : Mem) (r : Unit) (M' : Mem), rec10 x2 x3 x4 M = some (r, M') → pm_ev pmT sc e 49 false (10, [some (.ref 83), u1, some (.int x2), some (.int x3), some (.int x4), u5, u6, u7, u8], [], 129, 17845, hp M) (none, 129, 17845, hp M')) : ∀ (x2 : Int32) (x3 : Int32) (x4 : Int32) (x5 : Int32) (x6 : Int32) (x7 : Int32) (u1 : Option Value) (u8 : Option Value) (M : Mem) (r : Unit) (M' : Mem), J49_186 n rec10 x2 x3 x4 x5 x6 x7 M = some (r, M') → pm_ev pmT sc e 49 false (186, [some (.ref 83), u1, some (.int x2), some (.int x3), some (.int x4), some (.int x5), some (.int x6), some (.int x7), u8], [], 129, 17845, hp M) (none, 129, 17845, hp M') := by
  intro x2 x3 x4 x5 x6 x7 u1 u8 M r M' h
  unfold J49_186 at h
  refine pe_blk mm_49 2 (s' := (189, [some (.ref 83), u1, some (.int x2), some (.int x3), some (.int x4), some (.int x5), some (.int x6), some (.int x7), u8], [.int 5, .int x6], _, _, _)) rfl ?_
  by_cases q13 : x6 = 5
  · rw [if_pos q13] at h
    refine pe_blk mm_49 1 (s' := (if x6 = 5 then 192 else 209, [some (.ref 83), u1, some (.int x2), some (.int x3), some (.int x4), some (.int x5), some (.int x6), some (.int x7), u8], [], _, _, _)) rfl ?_
    rw [if_pos q13]
    refine pe_blk mm_49 1 (s' := (193, [some (.ref 83), u1, some (.int x2), some (.int x3), some (.int x4), some (.int x5), some (.int x6), some (.int x7), u8], [.ref 83], _, _, _)) rfl ?_
    refine pe_get mm_49 rfl rfl rfl (by decide) rfl ?_
    refine pe_blk mm_49 4 (s' := (202, [some (.ref 83), u1, some (.int x2), some (.int x3), some (.int x4), some (.int x5), some (.int x6), some (.int x7), u8], [.int (x5 + 1), .int x4, .ref 114], _, _, _)) rfl ?_
    by_cases q14 : x4 < 0 ∨ 512 ≤ (x4 : Int32).toNatClampNeg
    · rw [if_pos q14] at h
      cases h
    · rw [if_neg q14] at h
      refine pe_iasti mm_49 rfl rfl (by decide) q14 rfl ?_
      show pm_ev _ _ _ _ _ (203, [some (.ref 83), u1, some (.int x2), some (.int x3), some (.int x4), some (.int x5), some (.int x6), some (.int x7), u8], [], _, _, hp (m_i M 114 (x4 : Int32).toNatClampNeg (x5 + 1))) _
      generalize m_i M 114 (x4 : Int32).toNatClampNeg (x5 + 1) = M15 at h ⊢
      rw [mlet] at h
      refine pe_blk mm_49 4 (s' := (209, [some (.ref 83), u1, some (.int x2), some (.int x3), some (.int (x4 + 1)), some (.int x5), some (.int x6), some (.int x7), u8], [], _, _, _)) rfl ?_
      exact J49_209_ev sc n e he rec10 hr10 x2 x3 (x4 + 1) x5 x6 x7 _ _ _ _ _ h
  · rw [if_neg q13] at h
    refine pe_blk mm_49 1 (s' := (if x6 = 5 then 192 else 209, [some (.ref 83), u1, some (.int x2), some (.int x3), some (.int x4), some (.int x5), some (.int x6), some (.int x7), u8], [], _, _, _)) rfl ?_
    rw [if_neg q13]
    exact J49_209_ev sc n e he rec10 hr10 x2 x3 x4 x5 x6 x7 _ _ _ _ _ h
def J49_180 (n : Nat) (rec10 : Int32 → Int32 → Int32 → Mem → Option (Unit × Mem)) (x2 : Int32) (x3 : Int32) (x4 : Int32) (x5 : Int32) (x6 : Int32) (x7 : Int32) (M : Mem) : Option (Unit × Mem) :=
  J49_186 n rec10 x2 x3 (x4 + 1) x5 x6 x7 M
set_option maxRecDepth 100000 in
set_option maxHeartbeats 4000000 in
theorem J49_180_ev (sc : Option (Nat × (Nat → Int32))) (n : Nat)  (e : Nat) (he : 1 ≤ e) (rec10 : Int32 → Int32 → Int32 → Mem → Option (Unit × Mem)) (hr10 : ∀ (x2 : Int32) (x3 : Int32) (x4 : Int32) (u1 : Option Value) (u5 : Option Value) (u6 : Option Value) (u7 : Option Value) (u8 : Option Value) (M : Mem) (r : Unit) (M' : Mem), rec10 x2 x3 x4 M = some (r, M') → pm_ev pmT sc e 49 false (10, [some (.ref 83), u1, some (.int x2), some (.int x3), some (.int x4), u5, u6, u7, u8], [], 129, 17845, hp M) (none, 129, 17845, hp M')) : ∀ (x2 : Int32) (x3 : Int32) (x4 : Int32) (x5 : Int32) (x6 : Int32) (x7 : Int32) (u1 : Option Value) (u8 : Option Value) (M : Mem) (r : Unit) (M' : Mem), J49_180 n rec10 x2 x3 x4 x5 x6 x7 M = some (r, M') → pm_ev pmT sc e 49 false (180, [some (.ref 83), u1, some (.int x2), some (.int x3), some (.int x4), some (.int x5), some (.int x6), some (.int x7), u8], [], 129, 17845, hp M) (none, 129, 17845, hp M') := by
  intro x2 x3 x4 x5 x6 x7 u1 u8 M r M' h
  unfold J49_180 at h
  refine pe_blk mm_49 4 (s' := (186, [some (.ref 83), u1, some (.int x2), some (.int x3), some (.int (x4 + 1)), some (.int x5), some (.int x6), some (.int x7), u8], [], _, _, _)) rfl ?_
  exact J49_186_ev sc n e he rec10 hr10 x2 x3 (x4 + 1) x5 x6 x7 _ _ _ _ _ h
def J49_152 (n : Nat) (rec10 : Int32 → Int32 → Int32 → Mem → Option (Unit × Mem)) (x2 : Int32) (x3 : Int32) (x4 : Int32) (x5 : Int32) (x6 : Int32) (x7 : Int32) (M : Mem) : Option (Unit × Mem) :=
  if x6 = 4 then (if x7 = 2 then (J49_186 n rec10 x2 x3 x4 x5 x6 x7 M) else (if x5 < 0 ∨ 128 ≤ (x5 : Int32).toNatClampNeg then none else (if x4 < 0 ∨ 512 ≤ (x4 : Int32).toNatClampNeg then none else (mlet (m_i M 114 (x4 : Int32).toNatClampNeg ((M.1 92 (x5 : Int32).toNatClampNeg) + 1)) (fun M25 => J49_180 n rec10 x2 x3 x4 x5 x6 x7 M25))))) else (J49_186 n rec10 x2 x3 x4 x5 x6 x7 M)
set_option maxRecDepth 100000 in
set_option maxHeartbeats 4000000 in
theorem J49_152_ev (sc : Option (Nat × (Nat → Int32))) (n : Nat)  (e : Nat) (he : 1 ≤ e) (rec10 : Int32 → Int32 → Int32 → Mem → Option (Unit × Mem)) (hr10 : ∀ (x2 : Int32) (x3 : Int32) (x4 : Int32) (u1 : Option Value) (u5 : Option Value) (u6 : Option Value) (u7 : Option Value) (u8 : Option Value) (M : Mem) (r : Unit) (M' : Mem), rec10 x2 x3 x4 M = some (r, M') → pm_ev pmT sc e 49 false (10, [some (.ref 83), u1, some (.int x2), some (.int x3), some (.int x4), u5, u6, u7, u8], [], 129, 17845, hp M) (none, 129, 17845, hp M')) : ∀ (x2 : Int32) (x3 : Int32) (x4 : Int32) (x5 : Int32) (x6 : Int32) (x7 : Int32) (u1 : Option Value) (u8 : Option Value) (M : Mem) (r : Unit) (M' : Mem), J49_152 n rec10 x2 x3 x4 x5 x6 x7 M = some (r, M') → pm_ev pmT sc e 49 false (152, [some (.ref 83), u1, some (.int x2), some (.int x3), some (.int x4), some (.int x5), some (.int x6), some (.int x7), u8], [], 129, 17845, hp M) (none, 129, 17845, hp M') := by
  intro x2 x3 x4 x5 x6 x7 u1 u8 M r M' h
  unfold J49_152 at h
  refine pe_blk mm_49 2 (s' := (155, [some (.ref 83), u1, some (.int x2), some (.int x3), some (.int x4), some (.int x5), some (.int x6), some (.int x7), u8], [.int 4, .int x6], _, _, _)) rfl ?_
  by_cases q11 : x6 = 4
  · rw [if_pos q11] at h
    refine pe_blk mm_49 1 (s' := (if x6 = 4 then 158 else 186, [some (.ref 83), u1, some (.int x2), some (.int x3), some (.int x4), some (.int x5), some (.int x6), some (.int x7), u8], [], _, _, _)) rfl ?_
    rw [if_pos q11]
    refine pe_blk mm_49 2 (s' := (161, [some (.ref 83), u1, some (.int x2), some (.int x3), some (.int x4), some (.int x5), some (.int x6), some (.int x7), u8], [.int 2, .int x7], _, _, _)) rfl ?_
    by_cases q12 : x7 = 2
    · rw [if_pos q12] at h
      refine pe_blk mm_49 1 (s' := (if x7 = 2 then 186 else 164, [some (.ref 83), u1, some (.int x2), some (.int x3), some (.int x4), some (.int x5), some (.int x6), some (.int x7), u8], [], _, _, _)) rfl ?_
      rw [if_pos q12]
      exact J49_186_ev sc n e he rec10 hr10 x2 x3 x4 x5 x6 x7 _ _ _ _ _ h
    · rw [if_neg q12] at h
      refine pe_blk mm_49 1 (s' := (if x7 = 2 then 186 else 164, [some (.ref 83), u1, some (.int x2), some (.int x3), some (.int x4), some (.int x5), some (.int x6), some (.int x7), u8], [], _, _, _)) rfl ?_
      rw [if_neg q12]
      refine pe_blk mm_49 1 (s' := (165, [some (.ref 83), u1, some (.int x2), some (.int x3), some (.int x4), some (.int x5), some (.int x6), some (.int x7), u8], [.ref 83], _, _, _)) rfl ?_
      refine pe_get mm_49 rfl rfl rfl (by decide) rfl ?_
      refine pe_blk mm_49 2 (s' := (171, [some (.ref 83), u1, some (.int x2), some (.int x3), some (.int x4), some (.int x5), some (.int x6), some (.int x7), u8], [.ref 83, .int x4, .ref 114], _, _, _)) rfl ?_
      refine pe_get mm_49 rfl rfl rfl (by decide) rfl ?_
      refine pe_blk mm_49 1 (s' := (176, [some (.ref 83), u1, some (.int x2), some (.int x3), some (.int x4), some (.int x5), some (.int x6), some (.int x7), u8], [.int x5, .ref 92, .int x4, .ref 114], _, _, _)) rfl ?_
      by_cases q23 : x5 < 0 ∨ 128 ≤ (x5 : Int32).toNatClampNeg
      · rw [if_pos q23] at h
        cases h
      · rw [if_neg q23] at h
        refine pe_iald (f := M.1 92) mm_49 rfl rfl (by decide) q23 ?_
        refine pe_blk mm_49 2 (s' := (179, [some (.ref 83), u1, some (.int x2), some (.int x3), some (.int x4), some (.int x5), some (.int x6), some (.int x7), u8], [.int ((M.1 92 (x5 : Int32).toNatClampNeg) + 1), .int x4, .ref 114], _, _, _)) rfl ?_
        by_cases q24 : x4 < 0 ∨ 512 ≤ (x4 : Int32).toNatClampNeg
        · rw [if_pos q24] at h
          cases h
        · rw [if_neg q24] at h
          refine pe_iasti mm_49 rfl rfl (by decide) q24 rfl ?_
          show pm_ev _ _ _ _ _ (180, [some (.ref 83), u1, some (.int x2), some (.int x3), some (.int x4), some (.int x5), some (.int x6), some (.int x7), u8], [], _, _, hp (m_i M 114 (x4 : Int32).toNatClampNeg ((M.1 92 (x5 : Int32).toNatClampNeg) + 1))) _
          generalize m_i M 114 (x4 : Int32).toNatClampNeg ((M.1 92 (x5 : Int32).toNatClampNeg) + 1) = M25 at h ⊢
          rw [mlet] at h
          exact J49_180_ev sc n e he rec10 hr10 x2 x3 x4 x5 x6 x7 _ _ _ _ _ h
  · rw [if_neg q11] at h
    refine pe_blk mm_49 1 (s' := (if x6 = 4 then 158 else 186, [some (.ref 83), u1, some (.int x2), some (.int x3), some (.int x4), some (.int x5), some (.int x6), some (.int x7), u8], [], _, _, _)) rfl ?_
    rw [if_neg q11]
    exact J49_186_ev sc n e he rec10 hr10 x2 x3 x4 x5 x6 x7 _ _ _ _ _ h
def J49_129 (n : Nat) (rec10 : Int32 → Int32 → Int32 → Mem → Option (Unit × Mem)) (x2 : Int32) (x3 : Int32) (x4 : Int32) (x5 : Int32) (x6 : Int32) (x7 : Int32) (M : Mem) : Option (Unit × Mem) :=
  if x6 = 4 then (if x4 < 0 ∨ 512 ≤ (x4 : Int32).toNatClampNeg then none else (mlet (m_i M 114 (x4 : Int32).toNatClampNeg (x5 + 1)) (fun M10 => J49_152 n rec10 x2 x3 (x4 + 1) x5 x6 x7 M10))) else (J49_152 n rec10 x2 x3 x4 x5 x6 x7 M)
set_option maxRecDepth 100000 in
set_option maxHeartbeats 4000000 in
theorem J49_129_ev (sc : Option (Nat × (Nat → Int32))) (n : Nat)  (e : Nat) (he : 1 ≤ e) (rec10 : Int32 → Int32 → Int32 → Mem → Option (Unit × Mem)) (hr10 : ∀ (x2 : Int32) (x3 : Int32) (x4 : Int32) (u1 : Option Value) (u5 : Option Value) (u6 : Option Value) (u7 : Option Value) (u8 : Option Value) (M : Mem) (r : Unit) (M' : Mem), rec10 x2 x3 x4 M = some (r, M') → pm_ev pmT sc e 49 false (10, [some (.ref 83), u1, some (.int x2), some (.int x3), some (.int x4), u5, u6, u7, u8], [], 129, 17845, hp M) (none, 129, 17845, hp M')) : ∀ (x2 : Int32) (x3 : Int32) (x4 : Int32) (x5 : Int32) (x6 : Int32) (x7 : Int32) (u1 : Option Value) (u8 : Option Value) (M : Mem) (r : Unit) (M' : Mem), J49_129 n rec10 x2 x3 x4 x5 x6 x7 M = some (r, M') → pm_ev pmT sc e 49 false (129, [some (.ref 83), u1, some (.int x2), some (.int x3), some (.int x4), some (.int x5), some (.int x6), some (.int x7), u8], [], 129, 17845, hp M) (none, 129, 17845, hp M') := by
  intro x2 x3 x4 x5 x6 x7 u1 u8 M r M' h
  unfold J49_129 at h
  refine pe_blk mm_49 2 (s' := (132, [some (.ref 83), u1, some (.int x2), some (.int x3), some (.int x4), some (.int x5), some (.int x6), some (.int x7), u8], [.int 4, .int x6], _, _, _)) rfl ?_
  by_cases q8 : x6 = 4
  · rw [if_pos q8] at h
    refine pe_blk mm_49 1 (s' := (if x6 = 4 then 135 else 152, [some (.ref 83), u1, some (.int x2), some (.int x3), some (.int x4), some (.int x5), some (.int x6), some (.int x7), u8], [], _, _, _)) rfl ?_
    rw [if_pos q8]
    refine pe_blk mm_49 1 (s' := (136, [some (.ref 83), u1, some (.int x2), some (.int x3), some (.int x4), some (.int x5), some (.int x6), some (.int x7), u8], [.ref 83], _, _, _)) rfl ?_
    refine pe_get mm_49 rfl rfl rfl (by decide) rfl ?_
    refine pe_blk mm_49 4 (s' := (145, [some (.ref 83), u1, some (.int x2), some (.int x3), some (.int x4), some (.int x5), some (.int x6), some (.int x7), u8], [.int (x5 + 1), .int x4, .ref 114], _, _, _)) rfl ?_
    by_cases q9 : x4 < 0 ∨ 512 ≤ (x4 : Int32).toNatClampNeg
    · rw [if_pos q9] at h
      cases h
    · rw [if_neg q9] at h
      refine pe_iasti mm_49 rfl rfl (by decide) q9 rfl ?_
      show pm_ev _ _ _ _ _ (146, [some (.ref 83), u1, some (.int x2), some (.int x3), some (.int x4), some (.int x5), some (.int x6), some (.int x7), u8], [], _, _, hp (m_i M 114 (x4 : Int32).toNatClampNeg (x5 + 1))) _
      generalize m_i M 114 (x4 : Int32).toNatClampNeg (x5 + 1) = M10 at h ⊢
      rw [mlet] at h
      refine pe_blk mm_49 4 (s' := (152, [some (.ref 83), u1, some (.int x2), some (.int x3), some (.int (x4 + 1)), some (.int x5), some (.int x6), some (.int x7), u8], [], _, _, _)) rfl ?_
      exact J49_152_ev sc n e he rec10 hr10 x2 x3 (x4 + 1) x5 x6 x7 _ _ _ _ _ h
  · rw [if_neg q8] at h
    refine pe_blk mm_49 1 (s' := (if x6 = 4 then 135 else 152, [some (.ref 83), u1, some (.int x2), some (.int x3), some (.int x4), some (.int x5), some (.int x6), some (.int x7), u8], [], _, _, _)) rfl ?_
    rw [if_neg q8]
    exact J49_152_ev sc n e he rec10 hr10 x2 x3 x4 x5 x6 x7 _ _ _ _ _ h
def J49_120 (n : Nat) (rec10 : Int32 → Int32 → Int32 → Mem → Option (Unit × Mem)) (x2 : Int32) (x3 : Int32) (x4 : Int32) (x5 : Int32) (x6 : Int32) (x7 : Int32) (s0 : Int32) (s1 : Int32) (M : Mem) : Option (Unit × Mem) :=
  if s1 < 0 ∨ 128 ≤ (s1 : Int32).toNatClampNeg then none else (mlet (m_i M 109 (s1 : Int32).toNatClampNeg s0) (fun M30 => if x5 < 0 ∨ 128 ≤ (x5 : Int32).toNatClampNeg then none else (mlet (m_i M30 110 (x5 : Int32).toNatClampNeg x3) (fun M32 => J49_129 n rec10 x2 x3 x4 x5 x6 x7 M32))))
set_option maxRecDepth 100000 in
set_option maxHeartbeats 4000000 in
theorem J49_120_ev (sc : Option (Nat × (Nat → Int32))) (n : Nat)  (e : Nat) (he : 1 ≤ e) (rec10 : Int32 → Int32 → Int32 → Mem → Option (Unit × Mem)) (hr10 : ∀ (x2 : Int32) (x3 : Int32) (x4 : Int32) (u1 : Option Value) (u5 : Option Value) (u6 : Option Value) (u7 : Option Value) (u8 : Option Value) (M : Mem) (r : Unit) (M' : Mem), rec10 x2 x3 x4 M = some (r, M') → pm_ev pmT sc e 49 false (10, [some (.ref 83), u1, some (.int x2), some (.int x3), some (.int x4), u5, u6, u7, u8], [], 129, 17845, hp M) (none, 129, 17845, hp M')) : ∀ (x2 : Int32) (x3 : Int32) (x4 : Int32) (x5 : Int32) (x6 : Int32) (x7 : Int32) (s0 : Int32) (s1 : Int32) (u1 : Option Value) (u8 : Option Value) (M : Mem) (r : Unit) (M' : Mem), J49_120 n rec10 x2 x3 x4 x5 x6 x7 s0 s1 M = some (r, M') → pm_ev pmT sc e 49 false (120, [some (.ref 83), u1, some (.int x2), some (.int x3), some (.int x4), some (.int x5), some (.int x6), some (.int x7), u8], [.int s0, .int s1, .ref 109], 129, 17845, hp M) (none, 129, 17845, hp M') := by
  intro x2 x3 x4 x5 x6 x7 s0 s1 u1 u8 M r M' h
  unfold J49_120 at h
  by_cases q29 : s1 < 0 ∨ 128 ≤ (s1 : Int32).toNatClampNeg
  · rw [if_pos q29] at h
    cases h
  · rw [if_neg q29] at h
    refine pe_iasti mm_49 rfl rfl (by decide) q29 rfl ?_
    show pm_ev _ _ _ _ _ (121, [some (.ref 83), u1, some (.int x2), some (.int x3), some (.int x4), some (.int x5), some (.int x6), some (.int x7), u8], [], _, _, hp (m_i M 109 (s1 : Int32).toNatClampNeg s0)) _
    generalize m_i M 109 (s1 : Int32).toNatClampNeg s0 = M30 at h ⊢
    rw [mlet] at h
    refine pe_blk mm_49 1 (s' := (122, [some (.ref 83), u1, some (.int x2), some (.int x3), some (.int x4), some (.int x5), some (.int x6), some (.int x7), u8], [.ref 83], _, _, _)) rfl ?_
    refine pe_get mm_49 rfl rfl rfl (by decide) rfl ?_
    refine pe_blk mm_49 2 (s' := (128, [some (.ref 83), u1, some (.int x2), some (.int x3), some (.int x4), some (.int x5), some (.int x6), some (.int x7), u8], [.int x3, .int x5, .ref 110], _, _, _)) rfl ?_
    by_cases q31 : x5 < 0 ∨ 128 ≤ (x5 : Int32).toNatClampNeg
    · rw [if_pos q31] at h
      cases h
    · rw [if_neg q31] at h
      refine pe_iasti mm_49 rfl rfl (by decide) q31 rfl ?_
      show pm_ev _ _ _ _ _ (129, [some (.ref 83), u1, some (.int x2), some (.int x3), some (.int x4), some (.int x5), some (.int x6), some (.int x7), u8], [], _, _, hp (m_i M30 110 (x5 : Int32).toNatClampNeg x3)) _
      generalize m_i M30 110 (x5 : Int32).toNatClampNeg x3 = M32 at h ⊢
      rw [mlet] at h
      exact J49_129_ev sc n e he rec10 hr10 x2 x3 x4 x5 x6 x7 _ _ _ _ _ h
def J49_81 (n : Nat) (rec10 : Int32 → Int32 → Int32 → Mem → Option (Unit × Mem)) (x2 : Int32) (x3 : Int32) (x4 : Int32) (x5 : Int32) (x6 : Int32) (x7 : Int32) (s0 : Int32) (M : Mem) : Option (Unit × Mem) :=
  if s0 = 0 then (J49_129 n rec10 x2 x3 x4 x5 x6 x7 M) else (if x5 < 0 ∨ 128 ≤ (x5 : Int32).toNatClampNeg then none else (if ((M.1 109 (x5 : Int32).toNatClampNeg) + x2) ≤ 2 then (if x5 < 0 ∨ 128 ≤ (x5 : Int32).toNatClampNeg then none else (J49_120 n rec10 x2 x3 x4 x5 x6 x7 ((M.1 109 (x5 : Int32).toNatClampNeg) + x2) x5 M)) else (J49_120 n rec10 x2 x3 x4 x5 x6 x7 2 x5 M)))
set_option maxRecDepth 100000 in
set_option maxHeartbeats 4000000 in
theorem J49_81_ev (sc : Option (Nat × (Nat → Int32))) (n : Nat)  (e : Nat) (he : 1 ≤ e) (rec10 : Int32 → Int32 → Int32 → Mem → Option (Unit × Mem)) (hr10 : ∀ (x2 : Int32) (x3 : Int32) (x4 : Int32) (u1 : Option Value) (u5 : Option Value) (u6 : Option Value) (u7 : Option Value) (u8 : Option Value) (M : Mem) (r : Unit) (M' : Mem), rec10 x2 x3 x4 M = some (r, M') → pm_ev pmT sc e 49 false (10, [some (.ref 83), u1, some (.int x2), some (.int x3), some (.int x4), u5, u6, u7, u8], [], 129, 17845, hp M) (none, 129, 17845, hp M')) : ∀ (x2 : Int32) (x3 : Int32) (x4 : Int32) (x5 : Int32) (x6 : Int32) (x7 : Int32) (s0 : Int32) (u1 : Option Value) (u8 : Option Value) (M : Mem) (r : Unit) (M' : Mem), J49_81 n rec10 x2 x3 x4 x5 x6 x7 s0 M = some (r, M') → pm_ev pmT sc e 49 false (81, [some (.ref 83), u1, some (.int x2), some (.int x3), some (.int x4), some (.int x5), some (.int x6), some (.int x7), u8], [.int s0], 129, 17845, hp M) (none, 129, 17845, hp M') := by
  intro x2 x3 x4 x5 x6 x7 s0 u1 u8 M r M' h
  unfold J49_81 at h
  refine pe_blk mm_49 2 (s' := (85, [some (.ref 83), u1, some (.int x2), some (.int x3), some (.int x4), some (.int x5), some (.int x6), some (.int x7), some (.int s0)], [.int s0], _, _, _)) rfl ?_
  by_cases q7 : s0 = 0
  · rw [if_pos q7] at h
    refine pe_blk mm_49 1 (s' := (if s0 = 0 then 129 else 88, [some (.ref 83), u1, some (.int x2), some (.int x3), some (.int x4), some (.int x5), some (.int x6), some (.int x7), some (.int s0)], [], _, _, _)) rfl ?_
    rw [if_pos q7]
    exact J49_129_ev sc n e he rec10 hr10 x2 x3 x4 x5 x6 x7 _ _ _ _ _ h
  · rw [if_neg q7] at h
    refine pe_blk mm_49 1 (s' := (if s0 = 0 then 129 else 88, [some (.ref 83), u1, some (.int x2), some (.int x3), some (.int x4), some (.int x5), some (.int x6), some (.int x7), some (.int s0)], [], _, _, _)) rfl ?_
    rw [if_neg q7]
    refine pe_blk mm_49 1 (s' := (89, [some (.ref 83), u1, some (.int x2), some (.int x3), some (.int x4), some (.int x5), some (.int x6), some (.int x7), some (.int s0)], [.ref 83], _, _, _)) rfl ?_
    refine pe_get mm_49 rfl rfl rfl (by decide) rfl ?_
    refine pe_blk mm_49 2 (s' := (95, [some (.ref 83), u1, some (.int x2), some (.int x3), some (.int x4), some (.int x5), some (.int x6), some (.int x7), some (.int s0)], [.ref 83, .int x5, .ref 109], _, _, _)) rfl ?_
    refine pe_get mm_49 rfl rfl rfl (by decide) rfl ?_
    refine pe_blk mm_49 1 (s' := (100, [some (.ref 83), u1, some (.int x2), some (.int x3), some (.int x4), some (.int x5), some (.int x6), some (.int x7), some (.int s0)], [.int x5, .ref 109, .int x5, .ref 109], _, _, _)) rfl ?_
    by_cases q26 : x5 < 0 ∨ 128 ≤ (x5 : Int32).toNatClampNeg
    · rw [if_pos q26] at h
      cases h
    · rw [if_neg q26] at h
      refine pe_iald (f := M.1 109) mm_49 rfl rfl (by decide) q26 ?_
      refine pe_blk mm_49 3 (s' := (104, [some (.ref 83), u1, some (.int x2), some (.int x3), some (.int x4), some (.int x5), some (.int x6), some (.int x7), some (.int s0)], [.int 2, .int ((M.1 109 (x5 : Int32).toNatClampNeg) + x2), .int x5, .ref 109], _, _, _)) rfl ?_
      by_cases q27 : ((M.1 109 (x5 : Int32).toNatClampNeg) + x2) ≤ 2
      · rw [if_pos q27] at h
        refine pe_blk mm_49 1 (s' := (if ((M.1 109 (x5 : Int32).toNatClampNeg) + x2) ≤ 2 then 111 else 107, [some (.ref 83), u1, some (.int x2), some (.int x3), some (.int x4), some (.int x5), some (.int x6), some (.int x7), some (.int s0)], [.int x5, .ref 109], _, _, _)) rfl ?_
        rw [if_pos q27]
        refine pe_blk mm_49 1 (s' := (112, [some (.ref 83), u1, some (.int x2), some (.int x3), some (.int x4), some (.int x5), some (.int x6), some (.int x7), some (.int s0)], [.ref 83, .int x5, .ref 109], _, _, _)) rfl ?_
        refine pe_get mm_49 rfl rfl rfl (by decide) rfl ?_
        refine pe_blk mm_49 1 (s' := (117, [some (.ref 83), u1, some (.int x2), some (.int x3), some (.int x4), some (.int x5), some (.int x6), some (.int x7), some (.int s0)], [.int x5, .ref 109, .int x5, .ref 109], _, _, _)) rfl ?_
        by_cases q28 : x5 < 0 ∨ 128 ≤ (x5 : Int32).toNatClampNeg
        · rw [if_pos q28] at h
          cases h
        · rw [if_neg q28] at h
          refine pe_iald (f := M.1 109) mm_49 rfl rfl (by decide) q28 ?_
          refine pe_blk mm_49 2 (s' := (120, [some (.ref 83), u1, some (.int x2), some (.int x3), some (.int x4), some (.int x5), some (.int x6), some (.int x7), some (.int s0)], [.int ((M.1 109 (x5 : Int32).toNatClampNeg) + x2), .int x5, .ref 109], _, _, _)) rfl ?_
          exact J49_120_ev sc n e he rec10 hr10 x2 x3 x4 x5 x6 x7 ((M.1 109 (x5 : Int32).toNatClampNeg) + x2) x5 _ _ _ _ _ h
      · rw [if_neg q27] at h
        refine pe_blk mm_49 1 (s' := (if ((M.1 109 (x5 : Int32).toNatClampNeg) + x2) ≤ 2 then 111 else 107, [some (.ref 83), u1, some (.int x2), some (.int x3), some (.int x4), some (.int x5), some (.int x6), some (.int x7), some (.int s0)], [.int x5, .ref 109], _, _, _)) rfl ?_
        rw [if_neg q27]
        refine pe_blk mm_49 2 (s' := (120, [some (.ref 83), u1, some (.int x2), some (.int x3), some (.int x4), some (.int x5), some (.int x6), some (.int x7), some (.int s0)], [.int 2, .int x5, .ref 109], _, _, _)) rfl ?_
        exact J49_120_ev sc n e he rec10 hr10 x2 x3 x4 x5 x6 x7 2 x5 _ _ _ _ _ h
def J49_80 (n : Nat) (rec10 : Int32 → Int32 → Int32 → Mem → Option (Unit × Mem)) (x2 : Int32) (x3 : Int32) (x4 : Int32) (x5 : Int32) (x6 : Int32) (x7 : Int32) (M : Mem) : Option (Unit × Mem) :=
  J49_81 n rec10 x2 x3 x4 x5 x6 x7 0 M
set_option maxRecDepth 100000 in
set_option maxHeartbeats 4000000 in
theorem J49_80_ev (sc : Option (Nat × (Nat → Int32))) (n : Nat)  (e : Nat) (he : 1 ≤ e) (rec10 : Int32 → Int32 → Int32 → Mem → Option (Unit × Mem)) (hr10 : ∀ (x2 : Int32) (x3 : Int32) (x4 : Int32) (u1 : Option Value) (u5 : Option Value) (u6 : Option Value) (u7 : Option Value) (u8 : Option Value) (M : Mem) (r : Unit) (M' : Mem), rec10 x2 x3 x4 M = some (r, M') → pm_ev pmT sc e 49 false (10, [some (.ref 83), u1, some (.int x2), some (.int x3), some (.int x4), u5, u6, u7, u8], [], 129, 17845, hp M) (none, 129, 17845, hp M')) : ∀ (x2 : Int32) (x3 : Int32) (x4 : Int32) (x5 : Int32) (x6 : Int32) (x7 : Int32) (u1 : Option Value) (u8 : Option Value) (M : Mem) (r : Unit) (M' : Mem), J49_80 n rec10 x2 x3 x4 x5 x6 x7 M = some (r, M') → pm_ev pmT sc e 49 false (80, [some (.ref 83), u1, some (.int x2), some (.int x3), some (.int x4), some (.int x5), some (.int x6), some (.int x7), u8], [], 129, 17845, hp M) (none, 129, 17845, hp M') := by
  intro x2 x3 x4 x5 x6 x7 u1 u8 M r M' h
  unfold J49_80 at h
  refine pe_blk mm_49 1 (s' := (81, [some (.ref 83), u1, some (.int x2), some (.int x3), some (.int x4), some (.int x5), some (.int x6), some (.int x7), u8], [.int 0], _, _, _)) rfl ?_
  exact J49_81_ev sc n e he rec10 hr10 x2 x3 x4 x5 x6 x7 0 _ _ _ _ _ h
def J49_76 (n : Nat) (rec10 : Int32 → Int32 → Int32 → Mem → Option (Unit × Mem)) (x2 : Int32) (x3 : Int32) (x4 : Int32) (x5 : Int32) (x6 : Int32) (x7 : Int32) (M : Mem) : Option (Unit × Mem) :=
  J49_81 n rec10 x2 x3 x4 x5 x6 x7 1 M
set_option maxRecDepth 100000 in
set_option maxHeartbeats 4000000 in
theorem J49_76_ev (sc : Option (Nat × (Nat → Int32))) (n : Nat)  (e : Nat) (he : 1 ≤ e) (rec10 : Int32 → Int32 → Int32 → Mem → Option (Unit × Mem)) (hr10 : ∀ (x2 : Int32) (x3 : Int32) (x4 : Int32) (u1 : Option Value) (u5 : Option Value) (u6 : Option Value) (u7 : Option Value) (u8 : Option Value) (M : Mem) (r : Unit) (M' : Mem), rec10 x2 x3 x4 M = some (r, M') → pm_ev pmT sc e 49 false (10, [some (.ref 83), u1, some (.int x2), some (.int x3), some (.int x4), u5, u6, u7, u8], [], 129, 17845, hp M) (none, 129, 17845, hp M')) : ∀ (x2 : Int32) (x3 : Int32) (x4 : Int32) (x5 : Int32) (x6 : Int32) (x7 : Int32) (u1 : Option Value) (u8 : Option Value) (M : Mem) (r : Unit) (M' : Mem), J49_76 n rec10 x2 x3 x4 x5 x6 x7 M = some (r, M') → pm_ev pmT sc e 49 false (76, [some (.ref 83), u1, some (.int x2), some (.int x3), some (.int x4), some (.int x5), some (.int x6), some (.int x7), u8], [], 129, 17845, hp M) (none, 129, 17845, hp M') := by
  intro x2 x3 x4 x5 x6 x7 u1 u8 M r M' h
  unfold J49_76 at h
  refine pe_blk mm_49 2 (s' := (81, [some (.ref 83), u1, some (.int x2), some (.int x3), some (.int x4), some (.int x5), some (.int x6), some (.int x7), u8], [.int 1], _, _, _)) rfl ?_
  exact J49_81_ev sc n e he rec10 hr10 x2 x3 x4 x5 x6 x7 1 _ _ _ _ _ h
def J49_48 (n : Nat) (rec10 : Int32 → Int32 → Int32 → Mem → Option (Unit × Mem)) (x2 : Int32) (x3 : Int32) (x4 : Int32) (x5 : Int32) (x6 : Int32) (x7 : Int32) (M : Mem) : Option (Unit × Mem) :=
  if x6 = 4 then (J49_80 n rec10 x2 x3 x4 x5 x6 x7 M) else (if x6 = 5 then (if x7 = 3 then (J49_80 n rec10 x2 x3 x4 x5 x6 x7 M) else (if x5 < 0 ∨ 128 ≤ (x5 : Int32).toNatClampNeg then none else (if (M.1 93 (x5 : Int32).toNatClampNeg) = 0 then (J49_80 n rec10 x2 x3 x4 x5 x6 x7 M) else (J49_76 n rec10 x2 x3 x4 x5 x6 x7 M)))) else (J49_76 n rec10 x2 x3 x4 x5 x6 x7 M))
set_option maxRecDepth 100000 in
set_option maxHeartbeats 4000000 in
theorem J49_48_ev (sc : Option (Nat × (Nat → Int32))) (n : Nat)  (e : Nat) (he : 1 ≤ e) (rec10 : Int32 → Int32 → Int32 → Mem → Option (Unit × Mem)) (hr10 : ∀ (x2 : Int32) (x3 : Int32) (x4 : Int32) (u1 : Option Value) (u5 : Option Value) (u6 : Option Value) (u7 : Option Value) (u8 : Option Value) (M : Mem) (r : Unit) (M' : Mem), rec10 x2 x3 x4 M = some (r, M') → pm_ev pmT sc e 49 false (10, [some (.ref 83), u1, some (.int x2), some (.int x3), some (.int x4), u5, u6, u7, u8], [], 129, 17845, hp M) (none, 129, 17845, hp M')) : ∀ (x2 : Int32) (x3 : Int32) (x4 : Int32) (x5 : Int32) (x6 : Int32) (x7 : Int32) (u1 : Option Value) (u8 : Option Value) (M : Mem) (r : Unit) (M' : Mem), J49_48 n rec10 x2 x3 x4 x5 x6 x7 M = some (r, M') → pm_ev pmT sc e 49 false (48, [some (.ref 83), u1, some (.int x2), some (.int x3), some (.int x4), some (.int x5), some (.int x6), some (.int x7), u8], [], 129, 17845, hp M) (none, 129, 17845, hp M') := by
  intro x2 x3 x4 x5 x6 x7 u1 u8 M r M' h
  unfold J49_48 at h
  refine pe_blk mm_49 2 (s' := (51, [some (.ref 83), u1, some (.int x2), some (.int x3), some (.int x4), some (.int x5), some (.int x6), some (.int x7), u8], [.int 4, .int x6], _, _, _)) rfl ?_
  by_cases q6 : x6 = 4
  · rw [if_pos q6] at h
    refine pe_blk mm_49 1 (s' := (if x6 = 4 then 80 else 54, [some (.ref 83), u1, some (.int x2), some (.int x3), some (.int x4), some (.int x5), some (.int x6), some (.int x7), u8], [], _, _, _)) rfl ?_
    rw [if_pos q6]
    exact J49_80_ev sc n e he rec10 hr10 x2 x3 x4 x5 x6 x7 _ _ _ _ _ h
  · rw [if_neg q6] at h
    refine pe_blk mm_49 1 (s' := (if x6 = 4 then 80 else 54, [some (.ref 83), u1, some (.int x2), some (.int x3), some (.int x4), some (.int x5), some (.int x6), some (.int x7), u8], [], _, _, _)) rfl ?_
    rw [if_neg q6]
    refine pe_blk mm_49 2 (s' := (57, [some (.ref 83), u1, some (.int x2), some (.int x3), some (.int x4), some (.int x5), some (.int x6), some (.int x7), u8], [.int 5, .int x6], _, _, _)) rfl ?_
    by_cases q33 : x6 = 5
    · rw [if_pos q33] at h
      refine pe_blk mm_49 1 (s' := (if x6 = 5 then 60 else 76, [some (.ref 83), u1, some (.int x2), some (.int x3), some (.int x4), some (.int x5), some (.int x6), some (.int x7), u8], [], _, _, _)) rfl ?_
      rw [if_pos q33]
      refine pe_blk mm_49 2 (s' := (63, [some (.ref 83), u1, some (.int x2), some (.int x3), some (.int x4), some (.int x5), some (.int x6), some (.int x7), u8], [.int 3, .int x7], _, _, _)) rfl ?_
      by_cases q34 : x7 = 3
      · rw [if_pos q34] at h
        refine pe_blk mm_49 1 (s' := (if x7 = 3 then 80 else 66, [some (.ref 83), u1, some (.int x2), some (.int x3), some (.int x4), some (.int x5), some (.int x6), some (.int x7), u8], [], _, _, _)) rfl ?_
        rw [if_pos q34]
        exact J49_80_ev sc n e he rec10 hr10 x2 x3 x4 x5 x6 x7 _ _ _ _ _ h
      · rw [if_neg q34] at h
        refine pe_blk mm_49 1 (s' := (if x7 = 3 then 80 else 66, [some (.ref 83), u1, some (.int x2), some (.int x3), some (.int x4), some (.int x5), some (.int x6), some (.int x7), u8], [], _, _, _)) rfl ?_
        rw [if_neg q34]
        refine pe_blk mm_49 1 (s' := (67, [some (.ref 83), u1, some (.int x2), some (.int x3), some (.int x4), some (.int x5), some (.int x6), some (.int x7), u8], [.ref 83], _, _, _)) rfl ?_
        refine pe_get mm_49 rfl rfl rfl (by decide) rfl ?_
        refine pe_blk mm_49 1 (s' := (72, [some (.ref 83), u1, some (.int x2), some (.int x3), some (.int x4), some (.int x5), some (.int x6), some (.int x7), u8], [.int x5, .ref 93], _, _, _)) rfl ?_
        by_cases q35 : x5 < 0 ∨ 128 ≤ (x5 : Int32).toNatClampNeg
        · rw [if_pos q35] at h
          cases h
        · rw [if_neg q35] at h
          refine pe_iald (f := M.1 93) mm_49 rfl rfl (by decide) q35 ?_
          by_cases q36 : (M.1 93 (x5 : Int32).toNatClampNeg) = 0
          · rw [if_pos q36] at h
            refine pe_blk mm_49 1 (s' := (if (M.1 93 (x5 : Int32).toNatClampNeg) = 0 then 80 else 76, [some (.ref 83), u1, some (.int x2), some (.int x3), some (.int x4), some (.int x5), some (.int x6), some (.int x7), u8], [], _, _, _)) rfl ?_
            rw [if_pos q36]
            exact J49_80_ev sc n e he rec10 hr10 x2 x3 x4 x5 x6 x7 _ _ _ _ _ h
          · rw [if_neg q36] at h
            refine pe_blk mm_49 1 (s' := (if (M.1 93 (x5 : Int32).toNatClampNeg) = 0 then 80 else 76, [some (.ref 83), u1, some (.int x2), some (.int x3), some (.int x4), some (.int x5), some (.int x6), some (.int x7), u8], [], _, _, _)) rfl ?_
            rw [if_neg q36]
            exact J49_76_ev sc n e he rec10 hr10 x2 x3 x4 x5 x6 x7 _ _ _ _ _ h
    · rw [if_neg q33] at h
      refine pe_blk mm_49 1 (s' := (if x6 = 5 then 60 else 76, [some (.ref 83), u1, some (.int x2), some (.int x3), some (.int x4), some (.int x5), some (.int x6), some (.int x7), u8], [], _, _, _)) rfl ?_
      rw [if_neg q33]
      exact J49_76_ev sc n e he rec10 hr10 x2 x3 x4 x5 x6 x7 _ _ _ _ _ h
def L49_10 (n : Nat) : Nat → Int32 → Int32 → Int32 → Mem → Option (Unit × Mem)
  | 0, _, _, _, _ => none
  | k + 1, x2, x3, x4, M => if x4 ≤ 0 then (some ((), M)) else (if (x4 - 1) < 0 ∨ 512 ≤ (x4 - 1 : Int32).toNatClampNeg then none else (if (M.1 114 (x4 - 1 : Int32).toNatClampNeg) < 0 ∨ 128 ≤ (M.1 114 (x4 - 1 : Int32).toNatClampNeg : Int32).toNatClampNeg then none else (if (M.1 114 (x4 - 1 : Int32).toNatClampNeg) < 0 ∨ 128 ≤ (M.1 114 (x4 - 1 : Int32).toNatClampNeg : Int32).toNatClampNeg then none else (J49_48 n (L49_10 n k) x2 x3 (x4 - 1) (M.1 114 (x4 - 1 : Int32).toNatClampNeg) (M.1 90 (M.1 114 (x4 - 1 : Int32).toNatClampNeg : Int32).toNatClampNeg) (M.1 94 (M.1 114 (x4 - 1 : Int32).toNatClampNeg : Int32).toNatClampNeg) M))))
set_option maxRecDepth 100000 in
set_option maxHeartbeats 4000000 in
theorem L49_10_ev (sc : Option (Nat × (Nat → Int32))) (n : Nat)  (e : Nat) (he : 1 ≤ e) : ∀ k : Nat, ∀ (x2 : Int32) (x3 : Int32) (x4 : Int32) (u1 : Option Value) (u5 : Option Value) (u6 : Option Value) (u7 : Option Value) (u8 : Option Value) (M : Mem) (r : Unit) (M' : Mem), L49_10 n k x2 x3 x4 M = some (r, M') → pm_ev pmT sc e 49 false (10, [some (.ref 83), u1, some (.int x2), some (.int x3), some (.int x4), u5, u6, u7, u8], [], 129, 17845, hp M) (none, 129, 17845, hp M') := by
  intro k
  induction k with
  | zero => intro x2 x3 x4 u1 u5 u6 u7 u8 M r M' h; cases h
  | succ k hr10 =>
    intro x2 x3 x4 u1 u5 u6 u7 u8 M r M' h
    rw [L49_10] at h
    refine pe_blk mm_49 1 (s' := (12, [some (.ref 83), u1, some (.int x2), some (.int x3), some (.int x4), u5, u6, u7, u8], [.int x4], _, _, _)) rfl ?_
    by_cases q2 : x4 ≤ 0
    · rw [if_pos q2] at h
      refine pe_blk mm_49 1 (s' := (if x4 ≤ 0 then 256 else 15, [some (.ref 83), u1, some (.int x2), some (.int x3), some (.int x4), u5, u6, u7, u8], [], _, _, _)) rfl ?_
      rw [if_pos q2]
      cases h
      exact pe_ret mm_49 rfl rfl
    · rw [if_neg q2] at h
      refine pe_blk mm_49 1 (s' := (if x4 ≤ 0 then 256 else 15, [some (.ref 83), u1, some (.int x2), some (.int x3), some (.int x4), u5, u6, u7, u8], [], _, _, _)) rfl ?_
      rw [if_neg q2]
      refine pe_blk mm_49 5 (s' := (22, [some (.ref 83), u1, some (.int x2), some (.int x3), some (.int (x4 - 1)), u5, u6, u7, u8], [.ref 83], _, _, _)) rfl ?_
      refine pe_get mm_49 rfl rfl rfl (by decide) rfl ?_
      refine pe_blk mm_49 1 (s' := (27, [some (.ref 83), u1, some (.int x2), some (.int x3), some (.int (x4 - 1)), u5, u6, u7, u8], [.int (x4 - 1), .ref 114], _, _, _)) rfl ?_
      by_cases q3 : (x4 - 1) < 0 ∨ 512 ≤ (x4 - 1 : Int32).toNatClampNeg
      · rw [if_pos q3] at h
        cases h
      · rw [if_neg q3] at h
        refine pe_iald (f := M.1 114) mm_49 rfl rfl (by decide) q3 ?_
        refine pe_blk mm_49 2 (s' := (31, [some (.ref 83), u1, some (.int x2), some (.int x3), some (.int (x4 - 1)), some (.int (M.1 114 (x4 - 1 : Int32).toNatClampNeg)), u6, u7, u8], [.ref 83], _, _, _)) rfl ?_
        refine pe_get mm_49 rfl rfl rfl (by decide) rfl ?_
        refine pe_blk mm_49 1 (s' := (36, [some (.ref 83), u1, some (.int x2), some (.int x3), some (.int (x4 - 1)), some (.int (M.1 114 (x4 - 1 : Int32).toNatClampNeg)), u6, u7, u8], [.int (M.1 114 (x4 - 1 : Int32).toNatClampNeg), .ref 90], _, _, _)) rfl ?_
        by_cases q4 : (M.1 114 (x4 - 1 : Int32).toNatClampNeg) < 0 ∨ 128 ≤ (M.1 114 (x4 - 1 : Int32).toNatClampNeg : Int32).toNatClampNeg
        · rw [if_pos q4] at h
          cases h
        · rw [if_neg q4] at h
          refine pe_iald (f := M.1 90) mm_49 rfl rfl (by decide) q4 ?_
          refine pe_blk mm_49 2 (s' := (40, [some (.ref 83), u1, some (.int x2), some (.int x3), some (.int (x4 - 1)), some (.int (M.1 114 (x4 - 1 : Int32).toNatClampNeg)), some (.int (M.1 90 (M.1 114 (x4 - 1 : Int32).toNatClampNeg : Int32).toNatClampNeg)), u7, u8], [.ref 83], _, _, _)) rfl ?_
          refine pe_get mm_49 rfl rfl rfl (by decide) rfl ?_
          refine pe_blk mm_49 1 (s' := (45, [some (.ref 83), u1, some (.int x2), some (.int x3), some (.int (x4 - 1)), some (.int (M.1 114 (x4 - 1 : Int32).toNatClampNeg)), some (.int (M.1 90 (M.1 114 (x4 - 1 : Int32).toNatClampNeg : Int32).toNatClampNeg)), u7, u8], [.int (M.1 114 (x4 - 1 : Int32).toNatClampNeg), .ref 94], _, _, _)) rfl ?_
          by_cases q5 : (M.1 114 (x4 - 1 : Int32).toNatClampNeg) < 0 ∨ 128 ≤ (M.1 114 (x4 - 1 : Int32).toNatClampNeg : Int32).toNatClampNeg
          · rw [if_pos q5] at h
            cases h
          · rw [if_neg q5] at h
            refine pe_iald (f := M.1 94) mm_49 rfl rfl (by decide) q5 ?_
            refine pe_blk mm_49 1 (s' := (48, [some (.ref 83), u1, some (.int x2), some (.int x3), some (.int (x4 - 1)), some (.int (M.1 114 (x4 - 1 : Int32).toNatClampNeg)), some (.int (M.1 90 (M.1 114 (x4 - 1 : Int32).toNatClampNeg : Int32).toNatClampNeg)), some (.int (M.1 94 (M.1 114 (x4 - 1 : Int32).toNatClampNeg : Int32).toNatClampNeg)), u8], [], _, _, _)) rfl ?_
            exact J49_48_ev sc n e he (L49_10 n k) hr10 x2 x3 (x4 - 1) (M.1 114 (x4 - 1 : Int32).toNatClampNeg) (M.1 90 (M.1 114 (x4 - 1 : Int32).toNatClampNeg : Int32).toNatClampNeg) (M.1 94 (M.1 114 (x4 - 1 : Int32).toNatClampNeg : Int32).toNatClampNeg) _ _ _ _ _ h
/-- ArmExpanderModel.spread -/
def F49 (n : Nat) (a0 : Int32) (a1 : Int32) (a2 : Int32) (M : Mem) : Option (Unit × Mem) :=
  mlet (m_i M 114 0 a0) (fun M1 => L49_10 n n a1 a2 1 M1)
set_option maxRecDepth 100000 in
set_option maxHeartbeats 4000000 in
theorem F49_ev (sc : Option (Nat × (Nat → Int32))) (n : Nat) (a0 : Int32) (a1 : Int32) (a2 : Int32)  (M : Mem) (e : Nat) (he : 1 ≤ e) (r : Unit) (M' : Mem) (h : F49 n a0 a1 a2 M = some (r, M')) : pm_ev pmT sc e 49 false (0, [some (.ref 83), some (.int a0), some (.int a1), some (.int a2), none, none, none, none, none], [], 129, 17845, hp M) (none, 129, 17845, hp M') := by
  unfold F49 at h
  refine pe_blk mm_49 3 (s' := (4, [some (.ref 83), some (.int a0), some (.int a1), some (.int a2), some (.int 1), none, none, none, none], [.ref 83], _, _, _)) rfl ?_
  refine pe_get mm_49 rfl rfl rfl (by decide) rfl ?_
  refine pe_blk mm_49 2 (s' := (9, [some (.ref 83), some (.int a0), some (.int a1), some (.int a2), some (.int 1), none, none, none, none], [.int a0, .int 0, .ref 114], _, _, _)) rfl ?_
  refine pe_iasti mm_49 rfl rfl (by decide) (by decide) rfl ?_
  show pm_ev _ _ _ _ _ (10, [some (.ref 83), some (.int a0), some (.int a1), some (.int a2), some (.int 1), none, none, none, none], [], _, _, hp (m_i M 114 0 a0)) _
  generalize m_i M 114 0 a0 = M1 at h ⊢
  rw [mlet] at h
  exact L49_10_ev sc n e he n a1 a2 1 _ _ _ _ _ _ _ _ h
def J50_23 (n : Nat) (rec2 : Int32 → Mem → Option (Unit × Mem)) (x1 : Int32) (M : Mem) : Option (Unit × Mem) :=
  rec2 (x1 + 1) M
set_option maxRecDepth 100000 in
set_option maxHeartbeats 4000000 in
theorem J50_23_ev (sc : Option (Nat × (Nat → Int32))) (n : Nat)  (e : Nat) (he : 1 ≤ e) (rec2 : Int32 → Mem → Option (Unit × Mem)) (hr2 : ∀ (x1 : Int32) (M : Mem) (r : Unit) (M' : Mem), rec2 x1 M = some (r, M') → pm_ev pmT sc e 50 false (2, [some (.ref 83), some (.int x1)], [], 129, 17845, hp M) (none, 129, 17845, hp M')) : ∀ (x1 : Int32) (M : Mem) (r : Unit) (M' : Mem), J50_23 n rec2 x1 M = some (r, M') → pm_ev pmT sc e 50 false (23, [some (.ref 83), some (.int x1)], [], 129, 17845, hp M) (none, 129, 17845, hp M') := by
  intro x1  M r M' h
  unfold J50_23 at h
  refine pe_blk mm_50 2 (s' := (2, [some (.ref 83), some (.int (x1 + 1))], [], _, _, _)) rfl ?_
  exact hr2 (x1 + 1) _ _ _ h
def L50_2 (n : Nat) : Nat → Int32 → Mem → Option (Unit × Mem)
  | 0, _, _ => none
  | k + 1, x1, M => if 128 ≤ x1 then (some ((), M)) else (if x1 < 0 ∨ 128 ≤ (x1 : Int32).toNatClampNeg then none else (mlet (m_i M 109 (x1 : Int32).toNatClampNeg 0) (fun M3 => if x1 < 0 ∨ 128 ≤ (x1 : Int32).toNatClampNeg then none else (mlet (m_i M3 110 (x1 : Int32).toNatClampNeg 0) (fun M5 => J50_23 n (L50_2 n k) x1 M5)))))
set_option maxRecDepth 100000 in
set_option maxHeartbeats 4000000 in
theorem L50_2_ev (sc : Option (Nat × (Nat → Int32))) (n : Nat)  (e : Nat) (he : 1 ≤ e) : ∀ k : Nat, ∀ (x1 : Int32) (M : Mem) (r : Unit) (M' : Mem), L50_2 n k x1 M = some (r, M') → pm_ev pmT sc e 50 false (2, [some (.ref 83), some (.int x1)], [], 129, 17845, hp M) (none, 129, 17845, hp M') := by
  intro k
  induction k with
  | zero => intro x1  M r M' h; cases h
  | succ k hr2 =>
    intro x1  M r M' h
    rw [L50_2] at h
    refine pe_blk mm_50 2 (s' := (6, [some (.ref 83), some (.int x1)], [.int 128, .int x1], _, _, _)) rfl ?_
    by_cases q1 : 128 ≤ x1
    · rw [if_pos q1] at h
      refine pe_blk mm_50 1 (s' := (if 128 ≤ x1 then 29 else 9, [some (.ref 83), some (.int x1)], [], _, _, _)) rfl ?_
      rw [if_pos q1]
      cases h
      exact pe_ret mm_50 rfl rfl
    · rw [if_neg q1] at h
      refine pe_blk mm_50 1 (s' := (if 128 ≤ x1 then 29 else 9, [some (.ref 83), some (.int x1)], [], _, _, _)) rfl ?_
      rw [if_neg q1]
      refine pe_blk mm_50 1 (s' := (10, [some (.ref 83), some (.int x1)], [.ref 83], _, _, _)) rfl ?_
      refine pe_get mm_50 rfl rfl rfl (by decide) rfl ?_
      refine pe_blk mm_50 2 (s' := (15, [some (.ref 83), some (.int x1)], [.int 0, .int x1, .ref 109], _, _, _)) rfl ?_
      by_cases q2 : x1 < 0 ∨ 128 ≤ (x1 : Int32).toNatClampNeg
      · rw [if_pos q2] at h
        cases h
      · rw [if_neg q2] at h
        refine pe_iasti mm_50 rfl rfl (by decide) q2 rfl ?_
        show pm_ev _ _ _ _ _ (16, [some (.ref 83), some (.int x1)], [], _, _, hp (m_i M 109 (x1 : Int32).toNatClampNeg 0)) _
        generalize m_i M 109 (x1 : Int32).toNatClampNeg 0 = M3 at h ⊢
        rw [mlet] at h
        refine pe_blk mm_50 1 (s' := (17, [some (.ref 83), some (.int x1)], [.ref 83], _, _, _)) rfl ?_
        refine pe_get mm_50 rfl rfl rfl (by decide) rfl ?_
        refine pe_blk mm_50 2 (s' := (22, [some (.ref 83), some (.int x1)], [.int 0, .int x1, .ref 110], _, _, _)) rfl ?_
        by_cases q4 : x1 < 0 ∨ 128 ≤ (x1 : Int32).toNatClampNeg
        · rw [if_pos q4] at h
          cases h
        · rw [if_neg q4] at h
          refine pe_iasti mm_50 rfl rfl (by decide) q4 rfl ?_
          show pm_ev _ _ _ _ _ (23, [some (.ref 83), some (.int x1)], [], _, _, hp (m_i M3 110 (x1 : Int32).toNatClampNeg 0)) _
          generalize m_i M3 110 (x1 : Int32).toNatClampNeg 0 = M5 at h ⊢
          rw [mlet] at h
          exact J50_23_ev sc n e he (L50_2 n k) hr2 x1 _ _ _ h
/-- ArmExpanderModel.clear -/
def F50 (n : Nat) (M : Mem) : Option (Unit × Mem) :=
  L50_2 n n 0 M
set_option maxRecDepth 100000 in
set_option maxHeartbeats 4000000 in
theorem F50_ev (sc : Option (Nat × (Nat → Int32))) (n : Nat)  (M : Mem) (e : Nat) (he : 1 ≤ e) (r : Unit) (M' : Mem) (h : F50 n M = some (r, M')) : pm_ev pmT sc e 50 false (0, [some (.ref 83), none], [], 129, 17845, hp M) (none, 129, 17845, hp M') := by
  unfold F50 at h
  refine pe_blk mm_50 2 (s' := (2, [some (.ref 83), some (.int 0)], [], _, _, _)) rfl ?_
  exact L50_2_ev sc n e he n 0 _ _ _ h
/-- ArmExpanderModel.sourceOf -/
def F52 (n : Nat) (a0 : Int32) (a1 : Int32) (M : Mem) : Option (Int32 × Mem) :=
  if ((20 * a0) + (a1 / 7)) < 0 ∨ 3220 ≤ ((20 * a0) + (a1 / 7) : Int32).toNatClampNeg then none else (some ((((M.2.2 ((20 * a0) + (a1 / 7) : Int32).toNatClampNeg) >>> ((9 * (a1 - a1 / 7 * 7) : Int32).toInt64 &&& 63)) &&& 511).toInt32, M))
set_option maxRecDepth 100000 in
set_option maxHeartbeats 4000000 in
theorem F52_ev (sc : Option (Nat × (Nat → Int32))) (n : Nat) (a0 : Int32) (a1 : Int32)  (M : Mem) (e : Nat) (he : 1 ≤ e) (r : Int32) (M' : Mem) (h : F52 n a0 a1 M = some (r, M')) : pm_ev pmT sc e 52 false (0, [some (.ref 83), some (.int a0), some (.int a1)], [], 129, 17845, hp M) (some (.int r), 129, 17845, hp M') := by
  unfold F52 at h
  refine pe_blk mm_52 1 (s' := (1, [some (.ref 83), some (.int a0), some (.int a1)], [.ref 83], _, _, _)) rfl ?_
  refine pe_get mm_52 rfl rfl rfl (by decide) rfl ?_
  refine pe_blk mm_52 7 (s' := (13, [some (.ref 83), some (.int a0), some (.int a1)], [.int ((20 * a0) + (a1 / 7)), .ref 111], _, _, _)) rfl ?_
  by_cases q1 : ((20 * a0) + (a1 / 7)) < 0 ∨ 3220 ≤ ((20 * a0) + (a1 / 7) : Int32).toNatClampNeg
  · rw [if_pos q1] at h
    cases h
  · rw [if_neg q1] at h
    refine pe_lald (f := M.2.2) mm_52 rfl rfl (by decide) q1 ?_
    refine pe_blk mm_52 9 (s' := (27, [some (.ref 83), some (.int a0), some (.int a1)], [.int ((((M.2.2 ((20 * a0) + (a1 / 7) : Int32).toNatClampNeg) >>> ((9 * (a1 - a1 / 7 * 7) : Int32).toInt64 &&& 63)) &&& 511).toInt32)], _, _, _)) rfl ?_
    cases h
    exact pe_ret mm_52 rfl rfl
def J53_50 (n : Nat) (s0 : Int32) (M : Mem) : Option (Int32 × Mem) :=
  some (s0, M)
set_option maxRecDepth 100000 in
set_option maxHeartbeats 4000000 in
theorem J53_50_ev (sc : Option (Nat × (Nat → Int32))) (n : Nat)  (e : Nat) (he : 1 ≤ e) : ∀ (s0 : Int32) (u0 : Option Value) (u1 : Option Value) (M : Mem) (r : Int32) (M' : Mem), J53_50 n s0 M = some (r, M') → pm_ev pmT sc e 53 false (50, [u0, u1], [.int s0], 129, 17845, hp M) (some (.int r), 129, 17845, hp M') := by
  intro s0 u0 u1 M r M' h
  unfold J53_50 at h
  cases h
  exact pe_ret mm_53 rfl rfl
def J53_40 (n : Nat) (M : Mem) : Option (Int32 × Mem) :=
  J53_50 n 0 M
set_option maxRecDepth 100000 in
set_option maxHeartbeats 4000000 in
theorem J53_40_ev (sc : Option (Nat × (Nat → Int32))) (n : Nat)  (e : Nat) (he : 1 ≤ e) : ∀ (u0 : Option Value) (u1 : Option Value) (M : Mem) (r : Int32) (M' : Mem), J53_40 n  M = some (r, M') → pm_ev pmT sc e 53 false (40, [u0, u1], [], 129, 17845, hp M) (some (.int r), 129, 17845, hp M') := by
  intro u0 u1 M r M' h
  unfold J53_40 at h
  refine pe_blk mm_53 2 (s' := (50, [u0, u1], [.int 0], _, _, _)) rfl ?_
  exact J53_50_ev sc n e he 0 _ _ _ _ _ h
def J53_29 (n : Nat) (x1 : Int32) (M : Mem) : Option (Int32 × Mem) :=
  if x1 < 0 ∨ 128 ≤ (x1 : Int32).toNatClampNeg then none else (if (M.1 90 (x1 : Int32).toNatClampNeg) = 6 then (J53_40 n M) else (if x1 < 0 ∨ 128 ≤ (x1 : Int32).toNatClampNeg then none else (J53_50 n (M.1 91 (x1 : Int32).toNatClampNeg) M)))
set_option maxRecDepth 100000 in
set_option maxHeartbeats 4000000 in
theorem J53_29_ev (sc : Option (Nat × (Nat → Int32))) (n : Nat)  (e : Nat) (he : 1 ≤ e) : ∀ (x1 : Int32) (M : Mem) (r : Int32) (M' : Mem), J53_29 n x1 M = some (r, M') → pm_ev pmT sc e 53 false (29, [some (.ref 83), some (.int x1)], [], 129, 17845, hp M) (some (.int r), 129, 17845, hp M') := by
  intro x1  M r M' h
  unfold J53_29 at h
  refine pe_blk mm_53 1 (s' := (30, [some (.ref 83), some (.int x1)], [.ref 83], _, _, _)) rfl ?_
  refine pe_get mm_53 rfl rfl rfl (by decide) rfl ?_
  refine pe_blk mm_53 1 (s' := (34, [some (.ref 83), some (.int x1)], [.int x1, .ref 90], _, _, _)) rfl ?_
  by_cases q6 : x1 < 0 ∨ 128 ≤ (x1 : Int32).toNatClampNeg
  · rw [if_pos q6] at h
    cases h
  · rw [if_neg q6] at h
    refine pe_iald (f := M.1 90) mm_53 rfl rfl (by decide) q6 ?_
    refine pe_blk mm_53 1 (s' := (37, [some (.ref 83), some (.int x1)], [.int 6, .int (M.1 90 (x1 : Int32).toNatClampNeg)], _, _, _)) rfl ?_
    by_cases q7 : (M.1 90 (x1 : Int32).toNatClampNeg) = 6
    · rw [if_pos q7] at h
      refine pe_blk mm_53 1 (s' := (if (M.1 90 (x1 : Int32).toNatClampNeg) = 6 then 40 else 44, [some (.ref 83), some (.int x1)], [], _, _, _)) rfl ?_
      rw [if_pos q7]
      exact J53_40_ev sc n e he _ _ _ _ _ h
    · rw [if_neg q7] at h
      refine pe_blk mm_53 1 (s' := (if (M.1 90 (x1 : Int32).toNatClampNeg) = 6 then 40 else 44, [some (.ref 83), some (.int x1)], [], _, _, _)) rfl ?_
      rw [if_neg q7]
      refine pe_blk mm_53 1 (s' := (45, [some (.ref 83), some (.int x1)], [.ref 83], _, _, _)) rfl ?_
      refine pe_get mm_53 rfl rfl rfl (by decide) rfl ?_
      refine pe_blk mm_53 1 (s' := (49, [some (.ref 83), some (.int x1)], [.int x1, .ref 91], _, _, _)) rfl ?_
      by_cases q8 : x1 < 0 ∨ 128 ≤ (x1 : Int32).toNatClampNeg
      · rw [if_pos q8] at h
        cases h
      · rw [if_neg q8] at h
        refine pe_iald (f := M.1 91) mm_53 rfl rfl (by decide) q8 ?_
        exact J53_50_ev sc n e he (M.1 91 (x1 : Int32).toNatClampNeg) _ _ _ _ _ h
/-- ArmExpanderModel.before -/
def F53 (n : Nat) (a0 : Int32) (M : Mem) : Option (Int32 × Mem) :=
  if a0 < 0 ∨ 128 ≤ (a0 : Int32).toNatClampNeg then none else (if (M.1 90 (a0 : Int32).toNatClampNeg) = 5 then (if a0 < 0 ∨ 128 ≤ (a0 : Int32).toNatClampNeg then none else (J53_50 n (M.1 93 (a0 : Int32).toNatClampNeg) M)) else (if a0 < 0 ∨ 128 ≤ (a0 : Int32).toNatClampNeg then none else (if (M.1 90 (a0 : Int32).toNatClampNeg) = 3 then (J53_40 n M) else (J53_29 n a0 M))))
set_option maxRecDepth 100000 in
set_option maxHeartbeats 4000000 in
theorem F53_ev (sc : Option (Nat × (Nat → Int32))) (n : Nat) (a0 : Int32)  (M : Mem) (e : Nat) (he : 1 ≤ e) (r : Int32) (M' : Mem) (h : F53 n a0 M = some (r, M')) : pm_ev pmT sc e 53 false (0, [some (.ref 83), some (.int a0)], [], 129, 17845, hp M) (some (.int r), 129, 17845, hp M') := by
  unfold F53 at h
  refine pe_blk mm_53 1 (s' := (1, [some (.ref 83), some (.int a0)], [.ref 83], _, _, _)) rfl ?_
  refine pe_get mm_53 rfl rfl rfl (by decide) rfl ?_
  refine pe_blk mm_53 1 (s' := (5, [some (.ref 83), some (.int a0)], [.int a0, .ref 90], _, _, _)) rfl ?_
  by_cases q1 : a0 < 0 ∨ 128 ≤ (a0 : Int32).toNatClampNeg
  · rw [if_pos q1] at h
    cases h
  · rw [if_neg q1] at h
    refine pe_iald (f := M.1 90) mm_53 rfl rfl (by decide) q1 ?_
    refine pe_blk mm_53 1 (s' := (7, [some (.ref 83), some (.int a0)], [.int 5, .int (M.1 90 (a0 : Int32).toNatClampNeg)], _, _, _)) rfl ?_
    by_cases q2 : (M.1 90 (a0 : Int32).toNatClampNeg) = 5
    · rw [if_pos q2] at h
      refine pe_blk mm_53 1 (s' := (if (M.1 90 (a0 : Int32).toNatClampNeg) = 5 then 10 else 19, [some (.ref 83), some (.int a0)], [], _, _, _)) rfl ?_
      rw [if_pos q2]
      refine pe_blk mm_53 1 (s' := (11, [some (.ref 83), some (.int a0)], [.ref 83], _, _, _)) rfl ?_
      refine pe_get mm_53 rfl rfl rfl (by decide) rfl ?_
      refine pe_blk mm_53 1 (s' := (15, [some (.ref 83), some (.int a0)], [.int a0, .ref 93], _, _, _)) rfl ?_
      by_cases q3 : a0 < 0 ∨ 128 ≤ (a0 : Int32).toNatClampNeg
      · rw [if_pos q3] at h
        cases h
      · rw [if_neg q3] at h
        refine pe_iald (f := M.1 93) mm_53 rfl rfl (by decide) q3 ?_
        refine pe_blk mm_53 1 (s' := (50, [some (.ref 83), some (.int a0)], [.int (M.1 93 (a0 : Int32).toNatClampNeg)], _, _, _)) rfl ?_
        exact J53_50_ev sc n e he (M.1 93 (a0 : Int32).toNatClampNeg) _ _ _ _ _ h
    · rw [if_neg q2] at h
      refine pe_blk mm_53 1 (s' := (if (M.1 90 (a0 : Int32).toNatClampNeg) = 5 then 10 else 19, [some (.ref 83), some (.int a0)], [], _, _, _)) rfl ?_
      rw [if_neg q2]
      refine pe_blk mm_53 1 (s' := (20, [some (.ref 83), some (.int a0)], [.ref 83], _, _, _)) rfl ?_
      refine pe_get mm_53 rfl rfl rfl (by decide) rfl ?_
      refine pe_blk mm_53 1 (s' := (24, [some (.ref 83), some (.int a0)], [.int a0, .ref 90], _, _, _)) rfl ?_
      by_cases q4 : a0 < 0 ∨ 128 ≤ (a0 : Int32).toNatClampNeg
      · rw [if_pos q4] at h
        cases h
      · rw [if_neg q4] at h
        refine pe_iald (f := M.1 90) mm_53 rfl rfl (by decide) q4 ?_
        refine pe_blk mm_53 1 (s' := (26, [some (.ref 83), some (.int a0)], [.int 3, .int (M.1 90 (a0 : Int32).toNatClampNeg)], _, _, _)) rfl ?_
        by_cases q5 : (M.1 90 (a0 : Int32).toNatClampNeg) = 3
        · rw [if_pos q5] at h
          refine pe_blk mm_53 1 (s' := (if (M.1 90 (a0 : Int32).toNatClampNeg) = 3 then 40 else 29, [some (.ref 83), some (.int a0)], [], _, _, _)) rfl ?_
          rw [if_pos q5]
          exact J53_40_ev sc n e he _ _ _ _ _ h
        · rw [if_neg q5] at h
          refine pe_blk mm_53 1 (s' := (if (M.1 90 (a0 : Int32).toNatClampNeg) = 3 then 40 else 29, [some (.ref 83), some (.int a0)], [], _, _, _)) rfl ?_
          rw [if_neg q5]
          exact J53_29_ev sc n e he a0 _ _ _ h
