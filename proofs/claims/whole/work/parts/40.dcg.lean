/-! The methods as functions over Mem; written by program. -/
def J71_360 (n : Nat) (rec259 : Int32 → Int32 → Mem → Option (Unit × Mem)) (x6 : Int32) (M : Mem) : Option (Unit × Mem) :=
  if x6 < 0 ∨ 128 ≤ (x6 : Int32).toNatClampNeg then none else (rec259 (M.1 117 (x6 : Int32).toNatClampNeg) (x6 + (-1)) M)
set_option maxRecDepth 100000 in
set_option maxHeartbeats 4000000 in
theorem J71_360_ev (sc : Option (Nat × (Nat → Int32))) (n : Nat)  (e : Nat) (he : 3 ≤ e) (rec259 : Int32 → Int32 → Mem → Option (Unit × Mem)) (hr259 : ∀ (x5 : Int32) (x6 : Int32) (u1 : Option Value) (u2 : Option Value) (u3 : Option Value) (u4 : Option Value) (u7 : Option Value) (u8 : Option Value) (M : Mem) (r : Unit) (M' : Mem), rec259 x5 x6 M = some (r, M') → pm_ev pmT sc e 71 false (259, [some (.ref 83), u1, u2, u3, u4, some (.int x5), some (.int x6), u7, u8], [], 129, 17845, hp M) (none, 129, 17845, hp M')) : ∀ (x6 : Int32) (u1 : Option Value) (u2 : Option Value) (u3 : Option Value) (u4 : Option Value) (u5 : Option Value) (u7 : Option Value) (u8 : Option Value) (M : Mem) (r : Unit) (M' : Mem), J71_360 n rec259 x6 M = some (r, M') → pm_ev pmT sc e 71 false (360, [some (.ref 83), u1, u2, u3, u4, u5, some (.int x6), u7, u8], [], 129, 17845, hp M) (none, 129, 17845, hp M') := by
  intro x6 u1 u2 u3 u4 u5 u7 u8 M r M' h
  unfold J71_360 at h
  refine pe_blk mm_71 1 (s' := (361, [some (.ref 83), u1, u2, u3, u4, u5, some (.int x6), u7, u8], [.ref 83], _, _, _)) rfl ?_
  refine pe_get mm_71 rfl rfl rfl (by decide) rfl ?_
  refine pe_blk mm_71 1 (s' := (366, [some (.ref 83), u1, u2, u3, u4, u5, some (.int x6), u7, u8], [.int x6, .ref 117], _, _, _)) rfl ?_
  by_cases q17 : x6 < 0 ∨ 128 ≤ (x6 : Int32).toNatClampNeg
  · rw [if_pos q17] at h
    cases h
  · rw [if_neg q17] at h
    refine pe_iald (f := M.1 117) mm_71 rfl rfl (by decide) q17 ?_
    refine pe_blk mm_71 3 (s' := (259, [some (.ref 83), u1, u2, u3, u4, some (.int (M.1 117 (x6 : Int32).toNatClampNeg)), some (.int (x6 + (-1))), u7, u8], [], _, _, _)) rfl ?_
    exact hr259 (M.1 117 (x6 : Int32).toNatClampNeg) (x6 + (-1)) _ _ _ _ _ _ _ _ _ h
def J71_344 (n : Nat) (rec259 : Int32 → Int32 → Mem → Option (Unit × Mem)) (x5 : Int32) (x6 : Int32) (x8 : Int32) (M : Mem) : Option (Unit × Mem) :=
  if x8 = 0 then (J71_360 n rec259 x6 M) else (if x5 < 0 ∨ 128 ≤ (x5 : Int32).toNatClampNeg then none else (match F70 n (M.1 92 (x5 : Int32).toNatClampNeg) M with | some (v19, M20) => (J71_360 n rec259 x6 M20) | none => none))
set_option maxRecDepth 100000 in
set_option maxHeartbeats 4000000 in
theorem J71_344_ev (sc : Option (Nat × (Nat → Int32))) (n : Nat)  (e : Nat) (he : 3 ≤ e) (rec259 : Int32 → Int32 → Mem → Option (Unit × Mem)) (hr259 : ∀ (x5 : Int32) (x6 : Int32) (u1 : Option Value) (u2 : Option Value) (u3 : Option Value) (u4 : Option Value) (u7 : Option Value) (u8 : Option Value) (M : Mem) (r : Unit) (M' : Mem), rec259 x5 x6 M = some (r, M') → pm_ev pmT sc e 71 false (259, [some (.ref 83), u1, u2, u3, u4, some (.int x5), some (.int x6), u7, u8], [], 129, 17845, hp M) (none, 129, 17845, hp M')) : ∀ (x5 : Int32) (x6 : Int32) (x8 : Int32) (u1 : Option Value) (u2 : Option Value) (u3 : Option Value) (u4 : Option Value) (u7 : Option Value) (M : Mem) (r : Unit) (M' : Mem), J71_344 n rec259 x5 x6 x8 M = some (r, M') → pm_ev pmT sc e 71 false (344, [some (.ref 83), u1, u2, u3, u4, some (.int x5), some (.int x6), u7, some (.int x8)], [], 129, 17845, hp M) (none, 129, 17845, hp M') := by
  intro x5 x6 x8 u1 u2 u3 u4 u7 M r M' h
  unfold J71_344 at h
  refine pe_blk mm_71 1 (s' := (346, [some (.ref 83), u1, u2, u3, u4, some (.int x5), some (.int x6), u7, some (.int x8)], [.int x8], _, _, _)) rfl ?_
  by_cases q16 : x8 = 0
  · rw [if_pos q16] at h
    refine pe_blk mm_71 1 (s' := (if x8 = 0 then 360 else 349, [some (.ref 83), u1, u2, u3, u4, some (.int x5), some (.int x6), u7, some (.int x8)], [], _, _, _)) rfl ?_
    rw [if_pos q16]
    exact J71_360_ev sc n e he rec259 hr259 x6 _ _ _ _ _ _ _ _ _ _ h
  · rw [if_neg q16] at h
    refine pe_blk mm_71 1 (s' := (if x8 = 0 then 360 else 349, [some (.ref 83), u1, u2, u3, u4, some (.int x5), some (.int x6), u7, some (.int x8)], [], _, _, _)) rfl ?_
    rw [if_neg q16]
    refine pe_blk mm_71 2 (s' := (351, [some (.ref 83), u1, u2, u3, u4, some (.int x5), some (.int x6), u7, some (.int x8)], [.ref 83, .ref 83], _, _, _)) rfl ?_
    refine pe_get mm_71 rfl rfl rfl (by decide) rfl ?_
    refine pe_blk mm_71 1 (s' := (356, [some (.ref 83), u1, u2, u3, u4, some (.int x5), some (.int x6), u7, some (.int x8)], [.int x5, .ref 92, .ref 83], _, _, _)) rfl ?_
    by_cases q18 : x5 < 0 ∨ 128 ≤ (x5 : Int32).toNatClampNeg
    · rw [if_pos q18] at h
      cases h
    · rw [if_neg q18] at h
      refine pe_iald (f := M.1 92) mm_71 rfl rfl (by decide) q18 ?_
      obtain ⟨e1, rfl⟩ : ∃ e1, e = e1 + 1 := ⟨e - 1, by omega⟩
      cases hc21 : F70 n (M.1 92 (x5 : Int32).toNatClampNeg) M with
      | none => rw [hc21] at h; cases h
      | some w =>
        obtain ⟨v19, M20⟩ := w
        rw [hc21] at h
        dsimp only at h
        refine pe_virt (al := [.int (M.1 92 (x5 : Int32).toNatClampNeg)]) (a := 83) (L0 := [some (.ref 83), some (.int (M.1 92 (x5 : Int32).toNatClampNeg)), none, none]) (r1 := (none, 129, 17845, hp M20)) mm_71 rfl rfl rfl mm_70 rfl (by decide) (by decide) rfl (Nat.le_of_ble_eq_true rfl) (Nat.le_of_ble_eq_true rfl) rfl rfl (F70_ev sc n (M.1 92 (x5 : Int32).toNatClampNeg) _ e1 (by omega) _ _ hc21) ?_
        show pm_ev _ _ _ _ _ (360, [some (.ref 83), u1, u2, u3, u4, some (.int x5), some (.int x6), u7, some (.int x8)], [], _, _, _) _
        exact J71_360_ev sc n (e1 + 1) he rec259 hr259 x6 _ _ _ _ _ _ _ _ _ _ h
def J71_331 (n : Nat) (rec259 : Int32 → Int32 → Mem → Option (Unit × Mem)) (x5 : Int32) (x6 : Int32) (x7 : Int32) (s0 : Int32) (M : Mem) : Option (Unit × Mem) :=
  if x7 = 0 then (J71_344 n rec259 x5 x6 s0 M) else (match F70 n x5 M with | some (v22, M23) => (J71_344 n rec259 x5 x6 s0 M23) | none => none)
set_option maxRecDepth 100000 in
set_option maxHeartbeats 4000000 in
theorem J71_331_ev (sc : Option (Nat × (Nat → Int32))) (n : Nat)  (e : Nat) (he : 3 ≤ e) (rec259 : Int32 → Int32 → Mem → Option (Unit × Mem)) (hr259 : ∀ (x5 : Int32) (x6 : Int32) (u1 : Option Value) (u2 : Option Value) (u3 : Option Value) (u4 : Option Value) (u7 : Option Value) (u8 : Option Value) (M : Mem) (r : Unit) (M' : Mem), rec259 x5 x6 M = some (r, M') → pm_ev pmT sc e 71 false (259, [some (.ref 83), u1, u2, u3, u4, some (.int x5), some (.int x6), u7, u8], [], 129, 17845, hp M) (none, 129, 17845, hp M')) : ∀ (x5 : Int32) (x6 : Int32) (x7 : Int32) (s0 : Int32) (u1 : Option Value) (u2 : Option Value) (u3 : Option Value) (u4 : Option Value) (u8 : Option Value) (M : Mem) (r : Unit) (M' : Mem), J71_331 n rec259 x5 x6 x7 s0 M = some (r, M') → pm_ev pmT sc e 71 false (331, [some (.ref 83), u1, u2, u3, u4, some (.int x5), some (.int x6), some (.int x7), u8], [.int s0], 129, 17845, hp M) (none, 129, 17845, hp M') := by
  intro x5 x6 x7 s0 u1 u2 u3 u4 u8 M r M' h
  unfold J71_331 at h
  refine pe_blk mm_71 2 (s' := (335, [some (.ref 83), u1, u2, u3, u4, some (.int x5), some (.int x6), some (.int x7), some (.int s0)], [.int x7], _, _, _)) rfl ?_
  by_cases q15 : x7 = 0
  · rw [if_pos q15] at h
    refine pe_blk mm_71 1 (s' := (if x7 = 0 then 344 else 338, [some (.ref 83), u1, u2, u3, u4, some (.int x5), some (.int x6), some (.int x7), some (.int s0)], [], _, _, _)) rfl ?_
    rw [if_pos q15]
    exact J71_344_ev sc n e he rec259 hr259 x5 x6 s0 _ _ _ _ _ _ _ _ h
  · rw [if_neg q15] at h
    refine pe_blk mm_71 1 (s' := (if x7 = 0 then 344 else 338, [some (.ref 83), u1, u2, u3, u4, some (.int x5), some (.int x6), some (.int x7), some (.int s0)], [], _, _, _)) rfl ?_
    rw [if_neg q15]
    refine pe_blk mm_71 2 (s' := (341, [some (.ref 83), u1, u2, u3, u4, some (.int x5), some (.int x6), some (.int x7), some (.int s0)], [.int x5, .ref 83], _, _, _)) rfl ?_
    obtain ⟨e1, rfl⟩ : ∃ e1, e = e1 + 1 := ⟨e - 1, by omega⟩
    cases hc24 : F70 n x5 M with
    | none => rw [hc24] at h; cases h
    | some w =>
      obtain ⟨v22, M23⟩ := w
      rw [hc24] at h
      dsimp only at h
      refine pe_virt (al := [.int x5]) (a := 83) (L0 := [some (.ref 83), some (.int x5), none, none]) (r1 := (none, 129, 17845, hp M23)) mm_71 rfl rfl rfl mm_70 rfl (by decide) (by decide) rfl (Nat.le_of_ble_eq_true rfl) (Nat.le_of_ble_eq_true rfl) rfl rfl (F70_ev sc n x5 _ e1 (by omega) _ _ hc24) ?_
      show pm_ev _ _ _ _ _ (344, [some (.ref 83), u1, u2, u3, u4, some (.int x5), some (.int x6), some (.int x7), some (.int s0)], [], _, _, _) _
      exact J71_344_ev sc n (e1 + 1) he rec259 hr259 x5 x6 s0 _ _ _ _ _ _ _ _ h
def J71_326 (n : Nat) (rec259 : Int32 → Int32 → Mem → Option (Unit × Mem)) (x5 : Int32) (x6 : Int32) (x7 : Int32) (M : Mem) : Option (Unit × Mem) :=
  J71_331 n rec259 x5 x6 x7 1 M
set_option maxRecDepth 100000 in
set_option maxHeartbeats 4000000 in
theorem J71_326_ev (sc : Option (Nat × (Nat → Int32))) (n : Nat)  (e : Nat) (he : 3 ≤ e) (rec259 : Int32 → Int32 → Mem → Option (Unit × Mem)) (hr259 : ∀ (x5 : Int32) (x6 : Int32) (u1 : Option Value) (u2 : Option Value) (u3 : Option Value) (u4 : Option Value) (u7 : Option Value) (u8 : Option Value) (M : Mem) (r : Unit) (M' : Mem), rec259 x5 x6 M = some (r, M') → pm_ev pmT sc e 71 false (259, [some (.ref 83), u1, u2, u3, u4, some (.int x5), some (.int x6), u7, u8], [], 129, 17845, hp M) (none, 129, 17845, hp M')) : ∀ (x5 : Int32) (x6 : Int32) (x7 : Int32) (u1 : Option Value) (u2 : Option Value) (u3 : Option Value) (u4 : Option Value) (u8 : Option Value) (M : Mem) (r : Unit) (M' : Mem), J71_326 n rec259 x5 x6 x7 M = some (r, M') → pm_ev pmT sc e 71 false (326, [some (.ref 83), u1, u2, u3, u4, some (.int x5), some (.int x6), some (.int x7), u8], [], 129, 17845, hp M) (none, 129, 17845, hp M') := by
  intro x5 x6 x7 u1 u2 u3 u4 u8 M r M' h
  unfold J71_326 at h
  refine pe_blk mm_71 2 (s' := (331, [some (.ref 83), u1, u2, u3, u4, some (.int x5), some (.int x6), some (.int x7), u8], [.int 1], _, _, _)) rfl ?_
  exact J71_331_ev sc n e he rec259 hr259 x5 x6 x7 1 _ _ _ _ _ _ _ _ h
def J71_330 (n : Nat) (rec259 : Int32 → Int32 → Mem → Option (Unit × Mem)) (x5 : Int32) (x6 : Int32) (x7 : Int32) (M : Mem) : Option (Unit × Mem) :=
  J71_331 n rec259 x5 x6 x7 0 M
set_option maxRecDepth 100000 in
set_option maxHeartbeats 4000000 in
theorem J71_330_ev (sc : Option (Nat × (Nat → Int32))) (n : Nat)  (e : Nat) (he : 3 ≤ e) (rec259 : Int32 → Int32 → Mem → Option (Unit × Mem)) (hr259 : ∀ (x5 : Int32) (x6 : Int32) (u1 : Option Value) (u2 : Option Value) (u3 : Option Value) (u4 : Option Value) (u7 : Option Value) (u8 : Option Value) (M : Mem) (r : Unit) (M' : Mem), rec259 x5 x6 M = some (r, M') → pm_ev pmT sc e 71 false (259, [some (.ref 83), u1, u2, u3, u4, some (.int x5), some (.int x6), u7, u8], [], 129, 17845, hp M) (none, 129, 17845, hp M')) : ∀ (x5 : Int32) (x6 : Int32) (x7 : Int32) (u1 : Option Value) (u2 : Option Value) (u3 : Option Value) (u4 : Option Value) (u8 : Option Value) (M : Mem) (r : Unit) (M' : Mem), J71_330 n rec259 x5 x6 x7 M = some (r, M') → pm_ev pmT sc e 71 false (330, [some (.ref 83), u1, u2, u3, u4, some (.int x5), some (.int x6), some (.int x7), u8], [], 129, 17845, hp M) (none, 129, 17845, hp M') := by
  intro x5 x6 x7 u1 u2 u3 u4 u8 M r M' h
  unfold J71_330 at h
  refine pe_blk mm_71 1 (s' := (331, [some (.ref 83), u1, u2, u3, u4, some (.int x5), some (.int x6), some (.int x7), u8], [.int 0], _, _, _)) rfl ?_
  exact J71_331_ev sc n e he rec259 hr259 x5 x6 x7 0 _ _ _ _ _ _ _ _ h
def J71_294 (n : Nat) (rec259 : Int32 → Int32 → Mem → Option (Unit × Mem)) (x5 : Int32) (x6 : Int32) (s0 : Int32) (M : Mem) : Option (Unit × Mem) :=
  if x5 < 0 ∨ 128 ≤ (x5 : Int32).toNatClampNeg then none else (if (M.1 90 (x5 : Int32).toNatClampNeg) = 5 then (if x6 < 0 ∨ 128 ≤ (x6 : Int32).toNatClampNeg then none else (if x5 < 0 ∨ 128 ≤ (x5 : Int32).toNatClampNeg then none else (if (M.1 117 (x6 : Int32).toNatClampNeg) = ((M.1 92 (x5 : Int32).toNatClampNeg) + 1) then (J71_326 n rec259 x5 x6 s0 M) else (J71_330 n rec259 x5 x6 s0 M)))) else (J71_330 n rec259 x5 x6 s0 M))
set_option maxRecDepth 100000 in
set_option maxHeartbeats 4000000 in
theorem J71_294_ev (sc : Option (Nat × (Nat → Int32))) (n : Nat)  (e : Nat) (he : 3 ≤ e) (rec259 : Int32 → Int32 → Mem → Option (Unit × Mem)) (hr259 : ∀ (x5 : Int32) (x6 : Int32) (u1 : Option Value) (u2 : Option Value) (u3 : Option Value) (u4 : Option Value) (u7 : Option Value) (u8 : Option Value) (M : Mem) (r : Unit) (M' : Mem), rec259 x5 x6 M = some (r, M') → pm_ev pmT sc e 71 false (259, [some (.ref 83), u1, u2, u3, u4, some (.int x5), some (.int x6), u7, u8], [], 129, 17845, hp M) (none, 129, 17845, hp M')) : ∀ (x5 : Int32) (x6 : Int32) (s0 : Int32) (u1 : Option Value) (u2 : Option Value) (u3 : Option Value) (u4 : Option Value) (u7 : Option Value) (u8 : Option Value) (M : Mem) (r : Unit) (M' : Mem), J71_294 n rec259 x5 x6 s0 M = some (r, M') → pm_ev pmT sc e 71 false (294, [some (.ref 83), u1, u2, u3, u4, some (.int x5), some (.int x6), u7, u8], [.int s0], 129, 17845, hp M) (none, 129, 17845, hp M') := by
  intro x5 x6 s0 u1 u2 u3 u4 u7 u8 M r M' h
  unfold J71_294 at h
  refine pe_blk mm_71 2 (s' := (297, [some (.ref 83), u1, u2, u3, u4, some (.int x5), some (.int x6), some (.int s0), u8], [.ref 83], _, _, _)) rfl ?_
  refine pe_get mm_71 rfl rfl rfl (by decide) rfl ?_
  refine pe_blk mm_71 1 (s' := (302, [some (.ref 83), u1, u2, u3, u4, some (.int x5), some (.int x6), some (.int s0), u8], [.int x5, .ref 90], _, _, _)) rfl ?_
  by_cases q10 : x5 < 0 ∨ 128 ≤ (x5 : Int32).toNatClampNeg
  · rw [if_pos q10] at h
    cases h
  · rw [if_neg q10] at h
    refine pe_iald (f := M.1 90) mm_71 rfl rfl (by decide) q10 ?_
    refine pe_blk mm_71 1 (s' := (304, [some (.ref 83), u1, u2, u3, u4, some (.int x5), some (.int x6), some (.int s0), u8], [.int 5, .int (M.1 90 (x5 : Int32).toNatClampNeg)], _, _, _)) rfl ?_
    by_cases q11 : (M.1 90 (x5 : Int32).toNatClampNeg) = 5
    · rw [if_pos q11] at h
      refine pe_blk mm_71 1 (s' := (if (M.1 90 (x5 : Int32).toNatClampNeg) = 5 then 307 else 330, [some (.ref 83), u1, u2, u3, u4, some (.int x5), some (.int x6), some (.int s0), u8], [], _, _, _)) rfl ?_
      rw [if_pos q11]
      refine pe_blk mm_71 1 (s' := (308, [some (.ref 83), u1, u2, u3, u4, some (.int x5), some (.int x6), some (.int s0), u8], [.ref 83], _, _, _)) rfl ?_
      refine pe_get mm_71 rfl rfl rfl (by decide) rfl ?_
      refine pe_blk mm_71 1 (s' := (313, [some (.ref 83), u1, u2, u3, u4, some (.int x5), some (.int x6), some (.int s0), u8], [.int x6, .ref 117], _, _, _)) rfl ?_
      by_cases q12 : x6 < 0 ∨ 128 ≤ (x6 : Int32).toNatClampNeg
      · rw [if_pos q12] at h
        cases h
      · rw [if_neg q12] at h
        refine pe_iald (f := M.1 117) mm_71 rfl rfl (by decide) q12 ?_
        refine pe_blk mm_71 1 (s' := (315, [some (.ref 83), u1, u2, u3, u4, some (.int x5), some (.int x6), some (.int s0), u8], [.ref 83, .int (M.1 117 (x6 : Int32).toNatClampNeg)], _, _, _)) rfl ?_
        refine pe_get mm_71 rfl rfl rfl (by decide) rfl ?_
        refine pe_blk mm_71 1 (s' := (320, [some (.ref 83), u1, u2, u3, u4, some (.int x5), some (.int x6), some (.int s0), u8], [.int x5, .ref 92, .int (M.1 117 (x6 : Int32).toNatClampNeg)], _, _, _)) rfl ?_
        by_cases q13 : x5 < 0 ∨ 128 ≤ (x5 : Int32).toNatClampNeg
        · rw [if_pos q13] at h
          cases h
        · rw [if_neg q13] at h
          refine pe_iald (f := M.1 92) mm_71 rfl rfl (by decide) q13 ?_
          refine pe_blk mm_71 2 (s' := (323, [some (.ref 83), u1, u2, u3, u4, some (.int x5), some (.int x6), some (.int s0), u8], [.int ((M.1 92 (x5 : Int32).toNatClampNeg) + 1), .int (M.1 117 (x6 : Int32).toNatClampNeg)], _, _, _)) rfl ?_
          by_cases q14 : (M.1 117 (x6 : Int32).toNatClampNeg) = ((M.1 92 (x5 : Int32).toNatClampNeg) + 1)
          · rw [if_pos q14] at h
            refine pe_blk mm_71 1 (s' := (if (M.1 117 (x6 : Int32).toNatClampNeg) = ((M.1 92 (x5 : Int32).toNatClampNeg) + 1) then 326 else 330, [some (.ref 83), u1, u2, u3, u4, some (.int x5), some (.int x6), some (.int s0), u8], [], _, _, _)) rfl ?_
            rw [if_pos q14]
            exact J71_326_ev sc n e he rec259 hr259 x5 x6 s0 _ _ _ _ _ _ _ _ h
          · rw [if_neg q14] at h
            refine pe_blk mm_71 1 (s' := (if (M.1 117 (x6 : Int32).toNatClampNeg) = ((M.1 92 (x5 : Int32).toNatClampNeg) + 1) then 326 else 330, [some (.ref 83), u1, u2, u3, u4, some (.int x5), some (.int x6), some (.int s0), u8], [], _, _, _)) rfl ?_
            rw [if_neg q14]
            exact J71_330_ev sc n e he rec259 hr259 x5 x6 s0 _ _ _ _ _ _ _ _ h
    · rw [if_neg q11] at h
      refine pe_blk mm_71 1 (s' := (if (M.1 90 (x5 : Int32).toNatClampNeg) = 5 then 307 else 330, [some (.ref 83), u1, u2, u3, u4, some (.int x5), some (.int x6), some (.int s0), u8], [], _, _, _)) rfl ?_
      rw [if_neg q11]
      exact J71_330_ev sc n e he rec259 hr259 x5 x6 s0 _ _ _ _ _ _ _ _ h
def J71_289 (n : Nat) (rec259 : Int32 → Int32 → Mem → Option (Unit × Mem)) (x5 : Int32) (x6 : Int32) (M : Mem) : Option (Unit × Mem) :=
  J71_294 n rec259 x5 x6 1 M
set_option maxRecDepth 100000 in
set_option maxHeartbeats 4000000 in
theorem J71_289_ev (sc : Option (Nat × (Nat → Int32))) (n : Nat)  (e : Nat) (he : 3 ≤ e) (rec259 : Int32 → Int32 → Mem → Option (Unit × Mem)) (hr259 : ∀ (x5 : Int32) (x6 : Int32) (u1 : Option Value) (u2 : Option Value) (u3 : Option Value) (u4 : Option Value) (u7 : Option Value) (u8 : Option Value) (M : Mem) (r : Unit) (M' : Mem), rec259 x5 x6 M = some (r, M') → pm_ev pmT sc e 71 false (259, [some (.ref 83), u1, u2, u3, u4, some (.int x5), some (.int x6), u7, u8], [], 129, 17845, hp M) (none, 129, 17845, hp M')) : ∀ (x5 : Int32) (x6 : Int32) (u1 : Option Value) (u2 : Option Value) (u3 : Option Value) (u4 : Option Value) (u7 : Option Value) (u8 : Option Value) (M : Mem) (r : Unit) (M' : Mem), J71_289 n rec259 x5 x6 M = some (r, M') → pm_ev pmT sc e 71 false (289, [some (.ref 83), u1, u2, u3, u4, some (.int x5), some (.int x6), u7, u8], [], 129, 17845, hp M) (none, 129, 17845, hp M') := by
  intro x5 x6 u1 u2 u3 u4 u7 u8 M r M' h
  unfold J71_289 at h
  refine pe_blk mm_71 2 (s' := (294, [some (.ref 83), u1, u2, u3, u4, some (.int x5), some (.int x6), u7, u8], [.int 1], _, _, _)) rfl ?_
  exact J71_294_ev sc n e he rec259 hr259 x5 x6 1 _ _ _ _ _ _ _ _ _ h
def J71_293 (n : Nat) (rec259 : Int32 → Int32 → Mem → Option (Unit × Mem)) (x5 : Int32) (x6 : Int32) (M : Mem) : Option (Unit × Mem) :=
  J71_294 n rec259 x5 x6 0 M
set_option maxRecDepth 100000 in
set_option maxHeartbeats 4000000 in
theorem J71_293_ev (sc : Option (Nat × (Nat → Int32))) (n : Nat)  (e : Nat) (he : 3 ≤ e) (rec259 : Int32 → Int32 → Mem → Option (Unit × Mem)) (hr259 : ∀ (x5 : Int32) (x6 : Int32) (u1 : Option Value) (u2 : Option Value) (u3 : Option Value) (u4 : Option Value) (u7 : Option Value) (u8 : Option Value) (M : Mem) (r : Unit) (M' : Mem), rec259 x5 x6 M = some (r, M') → pm_ev pmT sc e 71 false (259, [some (.ref 83), u1, u2, u3, u4, some (.int x5), some (.int x6), u7, u8], [], 129, 17845, hp M) (none, 129, 17845, hp M')) : ∀ (x5 : Int32) (x6 : Int32) (u1 : Option Value) (u2 : Option Value) (u3 : Option Value) (u4 : Option Value) (u7 : Option Value) (u8 : Option Value) (M : Mem) (r : Unit) (M' : Mem), J71_293 n rec259 x5 x6 M = some (r, M') → pm_ev pmT sc e 71 false (293, [some (.ref 83), u1, u2, u3, u4, some (.int x5), some (.int x6), u7, u8], [], 129, 17845, hp M) (none, 129, 17845, hp M') := by
  intro x5 x6 u1 u2 u3 u4 u7 u8 M r M' h
  unfold J71_293 at h
  refine pe_blk mm_71 1 (s' := (294, [some (.ref 83), u1, u2, u3, u4, some (.int x5), some (.int x6), u7, u8], [.int 0], _, _, _)) rfl ?_
  exact J71_294_ev sc n e he rec259 hr259 x5 x6 0 _ _ _ _ _ _ _ _ _ h
def L71_259 (n : Nat) : Nat → Int32 → Int32 → Mem → Option (Unit × Mem)
  | 0, _, _, _ => none
  | k + 1, x5, x6, M => if x6 < 0 then (some ((), M)) else (if x5 < 0 ∨ 128 ≤ (x5 : Int32).toNatClampNeg then none else (if (M.1 90 (x5 : Int32).toNatClampNeg) = 4 then (if x6 < 0 ∨ 128 ≤ (x6 : Int32).toNatClampNeg then none else (if (M.1 117 (x6 : Int32).toNatClampNeg) = (x5 + 1) then (J71_289 n (L71_259 n k) x5 x6 M) else (J71_293 n (L71_259 n k) x5 x6 M))) else (J71_293 n (L71_259 n k) x5 x6 M)))
set_option maxRecDepth 100000 in
set_option maxHeartbeats 4000000 in
theorem L71_259_ev (sc : Option (Nat × (Nat → Int32))) (n : Nat)  (e : Nat) (he : 3 ≤ e) : ∀ k : Nat, ∀ (x5 : Int32) (x6 : Int32) (u1 : Option Value) (u2 : Option Value) (u3 : Option Value) (u4 : Option Value) (u7 : Option Value) (u8 : Option Value) (M : Mem) (r : Unit) (M' : Mem), L71_259 n k x5 x6 M = some (r, M') → pm_ev pmT sc e 71 false (259, [some (.ref 83), u1, u2, u3, u4, some (.int x5), some (.int x6), u7, u8], [], 129, 17845, hp M) (none, 129, 17845, hp M') := by
  intro k
  induction k with
  | zero => intro x5 x6 u1 u2 u3 u4 u7 u8 M r M' h; cases h
  | succ k hr259 =>
    intro x5 x6 u1 u2 u3 u4 u7 u8 M r M' h
    rw [L71_259] at h
    refine pe_blk mm_71 1 (s' := (261, [some (.ref 83), u1, u2, u3, u4, some (.int x5), some (.int x6), u7, u8], [.int x6], _, _, _)) rfl ?_
    by_cases q5 : x6 < 0
    · rw [if_pos q5] at h
      refine pe_blk mm_71 1 (s' := (if x6 < 0 then 375 else 264, [some (.ref 83), u1, u2, u3, u4, some (.int x5), some (.int x6), u7, u8], [], _, _, _)) rfl ?_
      rw [if_pos q5]
      cases h
      exact pe_ret mm_71 rfl rfl
    · rw [if_neg q5] at h
      refine pe_blk mm_71 1 (s' := (if x6 < 0 then 375 else 264, [some (.ref 83), u1, u2, u3, u4, some (.int x5), some (.int x6), u7, u8], [], _, _, _)) rfl ?_
      rw [if_neg q5]
      refine pe_blk mm_71 1 (s' := (265, [some (.ref 83), u1, u2, u3, u4, some (.int x5), some (.int x6), u7, u8], [.ref 83], _, _, _)) rfl ?_
      refine pe_get mm_71 rfl rfl rfl (by decide) rfl ?_
      refine pe_blk mm_71 1 (s' := (270, [some (.ref 83), u1, u2, u3, u4, some (.int x5), some (.int x6), u7, u8], [.int x5, .ref 90], _, _, _)) rfl ?_
      by_cases q6 : x5 < 0 ∨ 128 ≤ (x5 : Int32).toNatClampNeg
      · rw [if_pos q6] at h
        cases h
      · rw [if_neg q6] at h
        refine pe_iald (f := M.1 90) mm_71 rfl rfl (by decide) q6 ?_
        refine pe_blk mm_71 1 (s' := (272, [some (.ref 83), u1, u2, u3, u4, some (.int x5), some (.int x6), u7, u8], [.int 4, .int (M.1 90 (x5 : Int32).toNatClampNeg)], _, _, _)) rfl ?_
        by_cases q7 : (M.1 90 (x5 : Int32).toNatClampNeg) = 4
        · rw [if_pos q7] at h
          refine pe_blk mm_71 1 (s' := (if (M.1 90 (x5 : Int32).toNatClampNeg) = 4 then 275 else 293, [some (.ref 83), u1, u2, u3, u4, some (.int x5), some (.int x6), u7, u8], [], _, _, _)) rfl ?_
          rw [if_pos q7]
          refine pe_blk mm_71 1 (s' := (276, [some (.ref 83), u1, u2, u3, u4, some (.int x5), some (.int x6), u7, u8], [.ref 83], _, _, _)) rfl ?_
          refine pe_get mm_71 rfl rfl rfl (by decide) rfl ?_
          refine pe_blk mm_71 1 (s' := (281, [some (.ref 83), u1, u2, u3, u4, some (.int x5), some (.int x6), u7, u8], [.int x6, .ref 117], _, _, _)) rfl ?_
          by_cases q8 : x6 < 0 ∨ 128 ≤ (x6 : Int32).toNatClampNeg
          · rw [if_pos q8] at h
            cases h
          · rw [if_neg q8] at h
            refine pe_iald (f := M.1 117) mm_71 rfl rfl (by decide) q8 ?_
            refine pe_blk mm_71 3 (s' := (286, [some (.ref 83), u1, u2, u3, u4, some (.int x5), some (.int x6), u7, u8], [.int (x5 + 1), .int (M.1 117 (x6 : Int32).toNatClampNeg)], _, _, _)) rfl ?_
            by_cases q9 : (M.1 117 (x6 : Int32).toNatClampNeg) = (x5 + 1)
            · rw [if_pos q9] at h
              refine pe_blk mm_71 1 (s' := (if (M.1 117 (x6 : Int32).toNatClampNeg) = (x5 + 1) then 289 else 293, [some (.ref 83), u1, u2, u3, u4, some (.int x5), some (.int x6), u7, u8], [], _, _, _)) rfl ?_
              rw [if_pos q9]
              exact J71_289_ev sc n e he (L71_259 n k) hr259 x5 x6 _ _ _ _ _ _ _ _ _ h
            · rw [if_neg q9] at h
              refine pe_blk mm_71 1 (s' := (if (M.1 117 (x6 : Int32).toNatClampNeg) = (x5 + 1) then 289 else 293, [some (.ref 83), u1, u2, u3, u4, some (.int x5), some (.int x6), u7, u8], [], _, _, _)) rfl ?_
              rw [if_neg q9]
              exact J71_293_ev sc n e he (L71_259 n k) hr259 x5 x6 _ _ _ _ _ _ _ _ _ h
        · rw [if_neg q7] at h
          refine pe_blk mm_71 1 (s' := (if (M.1 90 (x5 : Int32).toNatClampNeg) = 4 then 275 else 293, [some (.ref 83), u1, u2, u3, u4, some (.int x5), some (.int x6), u7, u8], [], _, _, _)) rfl ?_
          rw [if_neg q7]
          exact J71_293_ev sc n e he (L71_259 n k) hr259 x5 x6 _ _ _ _ _ _ _ _ _ h
def L71_217 (n : Nat) : Nat → Int32 → Int32 → Int32 → Mem → Option (Unit × Mem)
  | 0, _, _, _, _ => none
  | k + 1, x1, x4, x5, M => if x5 = x1 then (L71_259 n n x1 (x4 - 1) M) else (if x4 < 0 ∨ 128 ≤ (x4 : Int32).toNatClampNeg then none else (mlet (m_i M 117 (x4 : Int32).toNatClampNeg x5) (fun M26 => if x5 < 0 ∨ 128 ≤ (x5 : Int32).toNatClampNeg then none else ((L71_217 n k) x1 (x4 + 1) (M26.1 115 (x5 : Int32).toNatClampNeg) M26))))
set_option maxRecDepth 100000 in
set_option maxHeartbeats 4000000 in
theorem L71_217_ev (sc : Option (Nat × (Nat → Int32))) (n : Nat)  (e : Nat) (he : 3 ≤ e) : ∀ k : Nat, ∀ (x1 : Int32) (x4 : Int32) (x5 : Int32) (u2 : Option Value) (u3 : Option Value) (u6 : Option Value) (u7 : Option Value) (u8 : Option Value) (M : Mem) (r : Unit) (M' : Mem), L71_217 n k x1 x4 x5 M = some (r, M') → pm_ev pmT sc e 71 false (217, [some (.ref 83), some (.int x1), u2, u3, some (.int x4), some (.int x5), u6, u7, u8], [], 129, 17845, hp M) (none, 129, 17845, hp M') := by
  intro k
  induction k with
  | zero => intro x1 x4 x5 u2 u3 u6 u7 u8 M r M' h; cases h
  | succ k hr217 =>
    intro x1 x4 x5 u2 u3 u6 u7 u8 M r M' h
    rw [L71_217] at h
    refine pe_blk mm_71 2 (s' := (220, [some (.ref 83), some (.int x1), u2, u3, some (.int x4), some (.int x5), u6, u7, u8], [.int x1, .int x5], _, _, _)) rfl ?_
    by_cases q4 : x5 = x1
    · rw [if_pos q4] at h
      refine pe_blk mm_71 1 (s' := (if x5 = x1 then 250 else 223, [some (.ref 83), some (.int x1), u2, u3, some (.int x4), some (.int x5), u6, u7, u8], [], _, _, _)) rfl ?_
      rw [if_pos q4]
      refine pe_blk mm_71 6 (s' := (259, [some (.ref 83), some (.int x1), u2, u3, some (.int x4), some (.int x1), some (.int (x4 - 1)), u7, u8], [], _, _, _)) rfl ?_
      exact L71_259_ev sc n e he n x1 (x4 - 1) _ _ _ _ _ _ _ _ _ h
    · rw [if_neg q4] at h
      refine pe_blk mm_71 1 (s' := (if x5 = x1 then 250 else 223, [some (.ref 83), some (.int x1), u2, u3, some (.int x4), some (.int x5), u6, u7, u8], [], _, _, _)) rfl ?_
      rw [if_neg q4]
      refine pe_blk mm_71 1 (s' := (224, [some (.ref 83), some (.int x1), u2, u3, some (.int x4), some (.int x5), u6, u7, u8], [.ref 83], _, _, _)) rfl ?_
      refine pe_get mm_71 rfl rfl rfl (by decide) rfl ?_
      refine pe_blk mm_71 2 (s' := (231, [some (.ref 83), some (.int x1), u2, u3, some (.int x4), some (.int x5), u6, u7, u8], [.int x5, .int x4, .ref 117], _, _, _)) rfl ?_
      by_cases q25 : x4 < 0 ∨ 128 ≤ (x4 : Int32).toNatClampNeg
      · rw [if_pos q25] at h
        cases h
      · rw [if_neg q25] at h
        refine pe_iasti mm_71 rfl rfl (by decide) q25 rfl ?_
        show pm_ev _ _ _ _ _ (232, [some (.ref 83), some (.int x1), u2, u3, some (.int x4), some (.int x5), u6, u7, u8], [], _, _, hp (m_i M 117 (x4 : Int32).toNatClampNeg x5)) _
        generalize m_i M 117 (x4 : Int32).toNatClampNeg x5 = M26 at h ⊢
        rw [mlet] at h
        refine pe_blk mm_71 5 (s' := (239, [some (.ref 83), some (.int x1), u2, u3, some (.int (x4 + 1)), some (.int x5), u6, u7, u8], [.ref 83], _, _, _)) rfl ?_
        refine pe_get mm_71 rfl rfl rfl (by decide) rfl ?_
        refine pe_blk mm_71 1 (s' := (244, [some (.ref 83), some (.int x1), u2, u3, some (.int (x4 + 1)), some (.int x5), u6, u7, u8], [.int x5, .ref 115], _, _, _)) rfl ?_
        by_cases q27 : x5 < 0 ∨ 128 ≤ (x5 : Int32).toNatClampNeg
        · rw [if_pos q27] at h
          cases h
        · rw [if_neg q27] at h
          refine pe_iald (f := M26.1 115) mm_71 rfl rfl (by decide) q27 ?_
          refine pe_blk mm_71 2 (s' := (217, [some (.ref 83), some (.int x1), u2, u3, some (.int (x4 + 1)), some (.int (M26.1 115 (x5 : Int32).toNatClampNeg)), u6, u7, u8], [], _, _, _)) rfl ?_
          exact hr217 x1 (x4 + 1) (M26.1 115 (x5 : Int32).toNatClampNeg) _ _ _ _ _ _ _ _ h
def J71_208 (n : Nat) (rec31 : Int32 → Int32 → Int32 → Mem → Option (Unit × Mem)) (x1 : Int32) (x2 : Int32) (x3 : Int32) (M : Mem) : Option (Unit × Mem) :=
  rec31 x1 x2 x3 M
set_option maxRecDepth 100000 in
set_option maxHeartbeats 4000000 in
theorem J71_208_ev (sc : Option (Nat × (Nat → Int32))) (n : Nat)  (e : Nat) (he : 3 ≤ e) (rec31 : Int32 → Int32 → Int32 → Mem → Option (Unit × Mem)) (hr31 : ∀ (x1 : Int32) (x2 : Int32) (x3 : Int32) (u4 : Option Value) (u5 : Option Value) (u6 : Option Value) (u7 : Option Value) (u8 : Option Value) (M : Mem) (r : Unit) (M' : Mem), rec31 x1 x2 x3 M = some (r, M') → pm_ev pmT sc e 71 false (31, [some (.ref 83), some (.int x1), some (.int x2), some (.int x3), u4, u5, u6, u7, u8], [], 129, 17845, hp M) (none, 129, 17845, hp M')) : ∀ (x1 : Int32) (x2 : Int32) (x3 : Int32) (u4 : Option Value) (u5 : Option Value) (u6 : Option Value) (u7 : Option Value) (u8 : Option Value) (M : Mem) (r : Unit) (M' : Mem), J71_208 n rec31 x1 x2 x3 M = some (r, M') → pm_ev pmT sc e 71 false (208, [some (.ref 83), some (.int x1), some (.int x2), some (.int x3), u4, u5, u6, u7, u8], [], 129, 17845, hp M) (none, 129, 17845, hp M') := by
  intro x1 x2 x3 u4 u5 u6 u7 u8 M r M' h
  unfold J71_208 at h
  refine pe_blk mm_71 1 (s' := (31, [some (.ref 83), some (.int x1), some (.int x2), some (.int x3), u4, u5, u6, u7, u8], [], _, _, _)) rfl ?_
  exact hr31 x1 x2 x3 _ _ _ _ _ _ _ _ h
def J71_196 (n : Nat) (rec31 : Int32 → Int32 → Int32 → Mem → Option (Unit × Mem)) (x1 : Int32) (x2 : Int32) (x3 : Int32) (x8 : Int32) (M : Mem) : Option (Unit × Mem) :=
  if x3 < 0 ∨ 512 ≤ (x3 : Int32).toNatClampNeg then none else (mlet (m_i M 114 (x3 : Int32).toNatClampNeg x8) (fun M43 => J71_208 n rec31 x1 x2 (x3 + 1) M43))
set_option maxRecDepth 100000 in
set_option maxHeartbeats 4000000 in
theorem J71_196_ev (sc : Option (Nat × (Nat → Int32))) (n : Nat)  (e : Nat) (he : 3 ≤ e) (rec31 : Int32 → Int32 → Int32 → Mem → Option (Unit × Mem)) (hr31 : ∀ (x1 : Int32) (x2 : Int32) (x3 : Int32) (u4 : Option Value) (u5 : Option Value) (u6 : Option Value) (u7 : Option Value) (u8 : Option Value) (M : Mem) (r : Unit) (M' : Mem), rec31 x1 x2 x3 M = some (r, M') → pm_ev pmT sc e 71 false (31, [some (.ref 83), some (.int x1), some (.int x2), some (.int x3), u4, u5, u6, u7, u8], [], 129, 17845, hp M) (none, 129, 17845, hp M')) : ∀ (x1 : Int32) (x2 : Int32) (x3 : Int32) (x8 : Int32) (u4 : Option Value) (u5 : Option Value) (u6 : Option Value) (u7 : Option Value) (M : Mem) (r : Unit) (M' : Mem), J71_196 n rec31 x1 x2 x3 x8 M = some (r, M') → pm_ev pmT sc e 71 false (196, [some (.ref 83), some (.int x1), some (.int x2), some (.int x3), u4, u5, u6, u7, some (.int x8)], [], 129, 17845, hp M) (none, 129, 17845, hp M') := by
  intro x1 x2 x3 x8 u4 u5 u6 u7 M r M' h
  unfold J71_196 at h
  refine pe_blk mm_71 1 (s' := (197, [some (.ref 83), some (.int x1), some (.int x2), some (.int x3), u4, u5, u6, u7, some (.int x8)], [.ref 83], _, _, _)) rfl ?_
  refine pe_get mm_71 rfl rfl rfl (by decide) rfl ?_
  refine pe_blk mm_71 2 (s' := (203, [some (.ref 83), some (.int x1), some (.int x2), some (.int x3), u4, u5, u6, u7, some (.int x8)], [.int x8, .int x3, .ref 114], _, _, _)) rfl ?_
  by_cases q42 : x3 < 0 ∨ 512 ≤ (x3 : Int32).toNatClampNeg
  · rw [if_pos q42] at h
    cases h
  · rw [if_neg q42] at h
    refine pe_iasti mm_71 rfl rfl (by decide) q42 rfl ?_
    show pm_ev _ _ _ _ _ (204, [some (.ref 83), some (.int x1), some (.int x2), some (.int x3), u4, u5, u6, u7, some (.int x8)], [], _, _, hp (m_i M 114 (x3 : Int32).toNatClampNeg x8)) _
    generalize m_i M 114 (x3 : Int32).toNatClampNeg x8 = M43 at h ⊢
    rw [mlet] at h
    refine pe_blk mm_71 4 (s' := (208, [some (.ref 83), some (.int x1), some (.int x2), some (.int (x3 + 1)), u4, u5, u6, u7, some (.int x8)], [], _, _, _)) rfl ?_
    exact J71_208_ev sc n e he rec31 hr31 x1 x2 (x3 + 1) _ _ _ _ _ _ _ _ h
def J71_172 (n : Nat) (rec31 : Int32 → Int32 → Int32 → Mem → Option (Unit × Mem)) (x1 : Int32) (x2 : Int32) (x3 : Int32) (x4 : Int32) (x8 : Int32) (M : Mem) : Option (Unit × Mem) :=
  if x8 < 0 then (J71_208 n rec31 x1 x2 x3 M) else (if x8 < 0 ∨ 128 ≤ (x8 : Int32).toNatClampNeg then none else (if 0 ≤ (M.1 115 (x8 : Int32).toNatClampNeg) then (J71_208 n rec31 x1 x2 x3 M) else (if x8 < 0 ∨ 128 ≤ (x8 : Int32).toNatClampNeg then none else (mlet (m_i M 115 (x8 : Int32).toNatClampNeg x4) (fun M41 => J71_196 n rec31 x1 x2 x3 x8 M41)))))
set_option maxRecDepth 100000 in
set_option maxHeartbeats 4000000 in
theorem J71_172_ev (sc : Option (Nat × (Nat → Int32))) (n : Nat)  (e : Nat) (he : 3 ≤ e) (rec31 : Int32 → Int32 → Int32 → Mem → Option (Unit × Mem)) (hr31 : ∀ (x1 : Int32) (x2 : Int32) (x3 : Int32) (u4 : Option Value) (u5 : Option Value) (u6 : Option Value) (u7 : Option Value) (u8 : Option Value) (M : Mem) (r : Unit) (M' : Mem), rec31 x1 x2 x3 M = some (r, M') → pm_ev pmT sc e 71 false (31, [some (.ref 83), some (.int x1), some (.int x2), some (.int x3), u4, u5, u6, u7, u8], [], 129, 17845, hp M) (none, 129, 17845, hp M')) : ∀ (x1 : Int32) (x2 : Int32) (x3 : Int32) (x4 : Int32) (x8 : Int32) (u5 : Option Value) (u6 : Option Value) (u7 : Option Value) (M : Mem) (r : Unit) (M' : Mem), J71_172 n rec31 x1 x2 x3 x4 x8 M = some (r, M') → pm_ev pmT sc e 71 false (172, [some (.ref 83), some (.int x1), some (.int x2), some (.int x3), some (.int x4), u5, u6, u7, some (.int x8)], [], 129, 17845, hp M) (none, 129, 17845, hp M') := by
  intro x1 x2 x3 x4 x8 u5 u6 u7 M r M' h
  unfold J71_172 at h
  refine pe_blk mm_71 1 (s' := (174, [some (.ref 83), some (.int x1), some (.int x2), some (.int x3), some (.int x4), u5, u6, u7, some (.int x8)], [.int x8], _, _, _)) rfl ?_
  by_cases q37 : x8 < 0
  · rw [if_pos q37] at h
    refine pe_blk mm_71 1 (s' := (if x8 < 0 then 208 else 177, [some (.ref 83), some (.int x1), some (.int x2), some (.int x3), some (.int x4), u5, u6, u7, some (.int x8)], [], _, _, _)) rfl ?_
    rw [if_pos q37]
    exact J71_208_ev sc n e he rec31 hr31 x1 x2 x3 _ _ _ _ _ _ _ _ h
  · rw [if_neg q37] at h
    refine pe_blk mm_71 1 (s' := (if x8 < 0 then 208 else 177, [some (.ref 83), some (.int x1), some (.int x2), some (.int x3), some (.int x4), u5, u6, u7, some (.int x8)], [], _, _, _)) rfl ?_
    rw [if_neg q37]
    refine pe_blk mm_71 1 (s' := (178, [some (.ref 83), some (.int x1), some (.int x2), some (.int x3), some (.int x4), u5, u6, u7, some (.int x8)], [.ref 83], _, _, _)) rfl ?_
    refine pe_get mm_71 rfl rfl rfl (by decide) rfl ?_
    refine pe_blk mm_71 1 (s' := (183, [some (.ref 83), some (.int x1), some (.int x2), some (.int x3), some (.int x4), u5, u6, u7, some (.int x8)], [.int x8, .ref 115], _, _, _)) rfl ?_
    by_cases q38 : x8 < 0 ∨ 128 ≤ (x8 : Int32).toNatClampNeg
    · rw [if_pos q38] at h
      cases h
    · rw [if_neg q38] at h
      refine pe_iald (f := M.1 115) mm_71 rfl rfl (by decide) q38 ?_
      by_cases q39 : 0 ≤ (M.1 115 (x8 : Int32).toNatClampNeg)
      · rw [if_pos q39] at h
        refine pe_blk mm_71 1 (s' := (if 0 ≤ (M.1 115 (x8 : Int32).toNatClampNeg) then 208 else 187, [some (.ref 83), some (.int x1), some (.int x2), some (.int x3), some (.int x4), u5, u6, u7, some (.int x8)], [], _, _, _)) rfl ?_
        rw [if_pos q39]
        exact J71_208_ev sc n e he rec31 hr31 x1 x2 x3 _ _ _ _ _ _ _ _ h
      · rw [if_neg q39] at h
        refine pe_blk mm_71 1 (s' := (if 0 ≤ (M.1 115 (x8 : Int32).toNatClampNeg) then 208 else 187, [some (.ref 83), some (.int x1), some (.int x2), some (.int x3), some (.int x4), u5, u6, u7, some (.int x8)], [], _, _, _)) rfl ?_
        rw [if_neg q39]
        refine pe_blk mm_71 1 (s' := (188, [some (.ref 83), some (.int x1), some (.int x2), some (.int x3), some (.int x4), u5, u6, u7, some (.int x8)], [.ref 83], _, _, _)) rfl ?_
        refine pe_get mm_71 rfl rfl rfl (by decide) rfl ?_
        refine pe_blk mm_71 2 (s' := (195, [some (.ref 83), some (.int x1), some (.int x2), some (.int x3), some (.int x4), u5, u6, u7, some (.int x8)], [.int x4, .int x8, .ref 115], _, _, _)) rfl ?_
        by_cases q40 : x8 < 0 ∨ 128 ≤ (x8 : Int32).toNatClampNeg
        · rw [if_pos q40] at h
          cases h
        · rw [if_neg q40] at h
          refine pe_iasti mm_71 rfl rfl (by decide) q40 rfl ?_
          show pm_ev _ _ _ _ _ (196, [some (.ref 83), some (.int x1), some (.int x2), some (.int x3), some (.int x4), u5, u6, u7, some (.int x8)], [], _, _, hp (m_i M 115 (x8 : Int32).toNatClampNeg x4)) _
          generalize m_i M 115 (x8 : Int32).toNatClampNeg x4 = M41 at h ⊢
          rw [mlet] at h
          exact J71_196_ev sc n e he rec31 hr31 x1 x2 x3 x8 _ _ _ _ _ _ _ h
def J71_160 (n : Nat) (rec31 : Int32 → Int32 → Int32 → Mem → Option (Unit × Mem)) (x1 : Int32) (x2 : Int32) (x3 : Int32) (x4 : Int32) (x7 : Int32) (x8 : Int32) (M : Mem) : Option (Unit × Mem) :=
  if x3 < 0 ∨ 512 ≤ (x3 : Int32).toNatClampNeg then none else (mlet (m_i M 114 (x3 : Int32).toNatClampNeg x7) (fun M49 => J71_172 n rec31 x1 x2 (x3 + 1) x4 x8 M49))
set_option maxRecDepth 100000 in
set_option maxHeartbeats 4000000 in
theorem J71_160_ev (sc : Option (Nat × (Nat → Int32))) (n : Nat)  (e : Nat) (he : 3 ≤ e) (rec31 : Int32 → Int32 → Int32 → Mem → Option (Unit × Mem)) (hr31 : ∀ (x1 : Int32) (x2 : Int32) (x3 : Int32) (u4 : Option Value) (u5 : Option Value) (u6 : Option Value) (u7 : Option Value) (u8 : Option Value) (M : Mem) (r : Unit) (M' : Mem), rec31 x1 x2 x3 M = some (r, M') → pm_ev pmT sc e 71 false (31, [some (.ref 83), some (.int x1), some (.int x2), some (.int x3), u4, u5, u6, u7, u8], [], 129, 17845, hp M) (none, 129, 17845, hp M')) : ∀ (x1 : Int32) (x2 : Int32) (x3 : Int32) (x4 : Int32) (x7 : Int32) (x8 : Int32) (u5 : Option Value) (u6 : Option Value) (M : Mem) (r : Unit) (M' : Mem), J71_160 n rec31 x1 x2 x3 x4 x7 x8 M = some (r, M') → pm_ev pmT sc e 71 false (160, [some (.ref 83), some (.int x1), some (.int x2), some (.int x3), some (.int x4), u5, u6, some (.int x7), some (.int x8)], [], 129, 17845, hp M) (none, 129, 17845, hp M') := by
  intro x1 x2 x3 x4 x7 x8 u5 u6 M r M' h
  unfold J71_160 at h
  refine pe_blk mm_71 1 (s' := (161, [some (.ref 83), some (.int x1), some (.int x2), some (.int x3), some (.int x4), u5, u6, some (.int x7), some (.int x8)], [.ref 83], _, _, _)) rfl ?_
  refine pe_get mm_71 rfl rfl rfl (by decide) rfl ?_
  refine pe_blk mm_71 2 (s' := (167, [some (.ref 83), some (.int x1), some (.int x2), some (.int x3), some (.int x4), u5, u6, some (.int x7), some (.int x8)], [.int x7, .int x3, .ref 114], _, _, _)) rfl ?_
  by_cases q48 : x3 < 0 ∨ 512 ≤ (x3 : Int32).toNatClampNeg
  · rw [if_pos q48] at h
    cases h
  · rw [if_neg q48] at h
    refine pe_iasti mm_71 rfl rfl (by decide) q48 rfl ?_
    show pm_ev _ _ _ _ _ (168, [some (.ref 83), some (.int x1), some (.int x2), some (.int x3), some (.int x4), u5, u6, some (.int x7), some (.int x8)], [], _, _, hp (m_i M 114 (x3 : Int32).toNatClampNeg x7)) _
    generalize m_i M 114 (x3 : Int32).toNatClampNeg x7 = M49 at h ⊢
    rw [mlet] at h
    refine pe_blk mm_71 4 (s' := (172, [some (.ref 83), some (.int x1), some (.int x2), some (.int (x3 + 1)), some (.int x4), u5, u6, some (.int x7), some (.int x8)], [], _, _, _)) rfl ?_
    exact J71_172_ev sc n e he rec31 hr31 x1 x2 (x3 + 1) x4 x8 _ _ _ _ _ _ h
def J71_134 (n : Nat) (rec31 : Int32 → Int32 → Int32 → Mem → Option (Unit × Mem)) (x1 : Int32) (x2 : Int32) (x3 : Int32) (x4 : Int32) (x7 : Int32) (s0 : Int32) (M : Mem) : Option (Unit × Mem) :=
  if x7 < 0 then (J71_172 n rec31 x1 x2 x3 x4 s0 M) else (if x7 < 0 ∨ 128 ≤ (x7 : Int32).toNatClampNeg then none else (if 0 ≤ (M.1 115 (x7 : Int32).toNatClampNeg) then (J71_172 n rec31 x1 x2 x3 x4 s0 M) else (if x7 < 0 ∨ 128 ≤ (x7 : Int32).toNatClampNeg then none else (mlet (m_i M 115 (x7 : Int32).toNatClampNeg x4) (fun M47 => J71_160 n rec31 x1 x2 x3 x4 x7 s0 M47)))))
set_option maxRecDepth 100000 in
set_option maxHeartbeats 4000000 in
theorem J71_134_ev (sc : Option (Nat × (Nat → Int32))) (n : Nat)  (e : Nat) (he : 3 ≤ e) (rec31 : Int32 → Int32 → Int32 → Mem → Option (Unit × Mem)) (hr31 : ∀ (x1 : Int32) (x2 : Int32) (x3 : Int32) (u4 : Option Value) (u5 : Option Value) (u6 : Option Value) (u7 : Option Value) (u8 : Option Value) (M : Mem) (r : Unit) (M' : Mem), rec31 x1 x2 x3 M = some (r, M') → pm_ev pmT sc e 71 false (31, [some (.ref 83), some (.int x1), some (.int x2), some (.int x3), u4, u5, u6, u7, u8], [], 129, 17845, hp M) (none, 129, 17845, hp M')) : ∀ (x1 : Int32) (x2 : Int32) (x3 : Int32) (x4 : Int32) (x7 : Int32) (s0 : Int32) (u5 : Option Value) (u6 : Option Value) (u8 : Option Value) (M : Mem) (r : Unit) (M' : Mem), J71_134 n rec31 x1 x2 x3 x4 x7 s0 M = some (r, M') → pm_ev pmT sc e 71 false (134, [some (.ref 83), some (.int x1), some (.int x2), some (.int x3), some (.int x4), u5, u6, some (.int x7), u8], [.int s0], 129, 17845, hp M) (none, 129, 17845, hp M') := by
  intro x1 x2 x3 x4 x7 s0 u5 u6 u8 M r M' h
  unfold J71_134 at h
  refine pe_blk mm_71 2 (s' := (138, [some (.ref 83), some (.int x1), some (.int x2), some (.int x3), some (.int x4), u5, u6, some (.int x7), some (.int s0)], [.int x7], _, _, _)) rfl ?_
  by_cases q36 : x7 < 0
  · rw [if_pos q36] at h
    refine pe_blk mm_71 1 (s' := (if x7 < 0 then 172 else 141, [some (.ref 83), some (.int x1), some (.int x2), some (.int x3), some (.int x4), u5, u6, some (.int x7), some (.int s0)], [], _, _, _)) rfl ?_
    rw [if_pos q36]
    exact J71_172_ev sc n e he rec31 hr31 x1 x2 x3 x4 s0 _ _ _ _ _ _ h
  · rw [if_neg q36] at h
    refine pe_blk mm_71 1 (s' := (if x7 < 0 then 172 else 141, [some (.ref 83), some (.int x1), some (.int x2), some (.int x3), some (.int x4), u5, u6, some (.int x7), some (.int s0)], [], _, _, _)) rfl ?_
    rw [if_neg q36]
    refine pe_blk mm_71 1 (s' := (142, [some (.ref 83), some (.int x1), some (.int x2), some (.int x3), some (.int x4), u5, u6, some (.int x7), some (.int s0)], [.ref 83], _, _, _)) rfl ?_
    refine pe_get mm_71 rfl rfl rfl (by decide) rfl ?_
    refine pe_blk mm_71 1 (s' := (147, [some (.ref 83), some (.int x1), some (.int x2), some (.int x3), some (.int x4), u5, u6, some (.int x7), some (.int s0)], [.int x7, .ref 115], _, _, _)) rfl ?_
    by_cases q44 : x7 < 0 ∨ 128 ≤ (x7 : Int32).toNatClampNeg
    · rw [if_pos q44] at h
      cases h
    · rw [if_neg q44] at h
      refine pe_iald (f := M.1 115) mm_71 rfl rfl (by decide) q44 ?_
      by_cases q45 : 0 ≤ (M.1 115 (x7 : Int32).toNatClampNeg)
      · rw [if_pos q45] at h
        refine pe_blk mm_71 1 (s' := (if 0 ≤ (M.1 115 (x7 : Int32).toNatClampNeg) then 172 else 151, [some (.ref 83), some (.int x1), some (.int x2), some (.int x3), some (.int x4), u5, u6, some (.int x7), some (.int s0)], [], _, _, _)) rfl ?_
        rw [if_pos q45]
        exact J71_172_ev sc n e he rec31 hr31 x1 x2 x3 x4 s0 _ _ _ _ _ _ h
      · rw [if_neg q45] at h
        refine pe_blk mm_71 1 (s' := (if 0 ≤ (M.1 115 (x7 : Int32).toNatClampNeg) then 172 else 151, [some (.ref 83), some (.int x1), some (.int x2), some (.int x3), some (.int x4), u5, u6, some (.int x7), some (.int s0)], [], _, _, _)) rfl ?_
        rw [if_neg q45]
        refine pe_blk mm_71 1 (s' := (152, [some (.ref 83), some (.int x1), some (.int x2), some (.int x3), some (.int x4), u5, u6, some (.int x7), some (.int s0)], [.ref 83], _, _, _)) rfl ?_
        refine pe_get mm_71 rfl rfl rfl (by decide) rfl ?_
        refine pe_blk mm_71 2 (s' := (159, [some (.ref 83), some (.int x1), some (.int x2), some (.int x3), some (.int x4), u5, u6, some (.int x7), some (.int s0)], [.int x4, .int x7, .ref 115], _, _, _)) rfl ?_
        by_cases q46 : x7 < 0 ∨ 128 ≤ (x7 : Int32).toNatClampNeg
        · rw [if_pos q46] at h
          cases h
        · rw [if_neg q46] at h
          refine pe_iasti mm_71 rfl rfl (by decide) q46 rfl ?_
          show pm_ev _ _ _ _ _ (160, [some (.ref 83), some (.int x1), some (.int x2), some (.int x3), some (.int x4), u5, u6, some (.int x7), some (.int s0)], [], _, _, hp (m_i M 115 (x7 : Int32).toNatClampNeg x4)) _
          generalize m_i M 115 (x7 : Int32).toNatClampNeg x4 = M47 at h ⊢
          rw [mlet] at h
          exact J71_160_ev sc n e he rec31 hr31 x1 x2 x3 x4 x7 s0 _ _ _ _ _ h
def J71_133 (n : Nat) (rec31 : Int32 → Int32 → Int32 → Mem → Option (Unit × Mem)) (x1 : Int32) (x2 : Int32) (x3 : Int32) (x4 : Int32) (x7 : Int32) (M : Mem) : Option (Unit × Mem) :=
  J71_134 n rec31 x1 x2 x3 x4 x7 (-1) M
set_option maxRecDepth 100000 in
set_option maxHeartbeats 4000000 in
theorem J71_133_ev (sc : Option (Nat × (Nat → Int32))) (n : Nat)  (e : Nat) (he : 3 ≤ e) (rec31 : Int32 → Int32 → Int32 → Mem → Option (Unit × Mem)) (hr31 : ∀ (x1 : Int32) (x2 : Int32) (x3 : Int32) (u4 : Option Value) (u5 : Option Value) (u6 : Option Value) (u7 : Option Value) (u8 : Option Value) (M : Mem) (r : Unit) (M' : Mem), rec31 x1 x2 x3 M = some (r, M') → pm_ev pmT sc e 71 false (31, [some (.ref 83), some (.int x1), some (.int x2), some (.int x3), u4, u5, u6, u7, u8], [], 129, 17845, hp M) (none, 129, 17845, hp M')) : ∀ (x1 : Int32) (x2 : Int32) (x3 : Int32) (x4 : Int32) (x7 : Int32) (u5 : Option Value) (u6 : Option Value) (u8 : Option Value) (M : Mem) (r : Unit) (M' : Mem), J71_133 n rec31 x1 x2 x3 x4 x7 M = some (r, M') → pm_ev pmT sc e 71 false (133, [some (.ref 83), some (.int x1), some (.int x2), some (.int x3), some (.int x4), u5, u6, some (.int x7), u8], [], 129, 17845, hp M) (none, 129, 17845, hp M') := by
  intro x1 x2 x3 x4 x7 u5 u6 u8 M r M' h
  unfold J71_133 at h
  refine pe_blk mm_71 1 (s' := (134, [some (.ref 83), some (.int x1), some (.int x2), some (.int x3), some (.int x4), u5, u6, some (.int x7), u8], [.int (-1)], _, _, _)) rfl ?_
  exact J71_134_ev sc n e he rec31 hr31 x1 x2 x3 x4 x7 (-1) _ _ _ _ _ _ h
def J71_121 (n : Nat) (rec31 : Int32 → Int32 → Int32 → Mem → Option (Unit × Mem)) (x1 : Int32) (x2 : Int32) (x3 : Int32) (x4 : Int32) (x7 : Int32) (M : Mem) : Option (Unit × Mem) :=
  if x4 < 0 ∨ 128 ≤ (x4 : Int32).toNatClampNeg then none else (J71_134 n rec31 x1 x2 x3 x4 x7 ((M.1 92 (x4 : Int32).toNatClampNeg) + 1) M)
set_option maxRecDepth 100000 in
set_option maxHeartbeats 4000000 in
theorem J71_121_ev (sc : Option (Nat × (Nat → Int32))) (n : Nat)  (e : Nat) (he : 3 ≤ e) (rec31 : Int32 → Int32 → Int32 → Mem → Option (Unit × Mem)) (hr31 : ∀ (x1 : Int32) (x2 : Int32) (x3 : Int32) (u4 : Option Value) (u5 : Option Value) (u6 : Option Value) (u7 : Option Value) (u8 : Option Value) (M : Mem) (r : Unit) (M' : Mem), rec31 x1 x2 x3 M = some (r, M') → pm_ev pmT sc e 71 false (31, [some (.ref 83), some (.int x1), some (.int x2), some (.int x3), u4, u5, u6, u7, u8], [], 129, 17845, hp M) (none, 129, 17845, hp M')) : ∀ (x1 : Int32) (x2 : Int32) (x3 : Int32) (x4 : Int32) (x7 : Int32) (u5 : Option Value) (u6 : Option Value) (u8 : Option Value) (M : Mem) (r : Unit) (M' : Mem), J71_121 n rec31 x1 x2 x3 x4 x7 M = some (r, M') → pm_ev pmT sc e 71 false (121, [some (.ref 83), some (.int x1), some (.int x2), some (.int x3), some (.int x4), u5, u6, some (.int x7), u8], [], 129, 17845, hp M) (none, 129, 17845, hp M') := by
  intro x1 x2 x3 x4 x7 u5 u6 u8 M r M' h
  unfold J71_121 at h
  refine pe_blk mm_71 1 (s' := (122, [some (.ref 83), some (.int x1), some (.int x2), some (.int x3), some (.int x4), u5, u6, some (.int x7), u8], [.ref 83], _, _, _)) rfl ?_
  refine pe_get mm_71 rfl rfl rfl (by decide) rfl ?_
  refine pe_blk mm_71 1 (s' := (127, [some (.ref 83), some (.int x1), some (.int x2), some (.int x3), some (.int x4), u5, u6, some (.int x7), u8], [.int x4, .ref 92], _, _, _)) rfl ?_
  by_cases q52 : x4 < 0 ∨ 128 ≤ (x4 : Int32).toNatClampNeg
  · rw [if_pos q52] at h
    cases h
  · rw [if_neg q52] at h
    refine pe_iald (f := M.1 92) mm_71 rfl rfl (by decide) q52 ?_
    refine pe_blk mm_71 3 (s' := (134, [some (.ref 83), some (.int x1), some (.int x2), some (.int x3), some (.int x4), u5, u6, some (.int x7), u8], [.int ((M.1 92 (x4 : Int32).toNatClampNeg) + 1)], _, _, _)) rfl ?_
    exact J71_134_ev sc n e he rec31 hr31 x1 x2 x3 x4 x7 ((M.1 92 (x4 : Int32).toNatClampNeg) + 1) _ _ _ _ _ _ h
def J71_99 (n : Nat) (rec31 : Int32 → Int32 → Int32 → Mem → Option (Unit × Mem)) (x1 : Int32) (x2 : Int32) (x3 : Int32) (x4 : Int32) (x5 : Int32) (x6 : Int32) (x7 : Int32) (M : Mem) : Option (Unit × Mem) :=
  if x5 = 5 then (if x6 = 3 then (J71_133 n rec31 x1 x2 x3 x4 x7 M) else (if x4 < 0 ∨ 128 ≤ (x4 : Int32).toNatClampNeg then none else (if (M.1 93 (x4 : Int32).toNatClampNeg) = 0 then (J71_121 n rec31 x1 x2 x3 x4 x7 M) else (J71_133 n rec31 x1 x2 x3 x4 x7 M)))) else (J71_133 n rec31 x1 x2 x3 x4 x7 M)
set_option maxRecDepth 100000 in
set_option maxHeartbeats 4000000 in
theorem J71_99_ev (sc : Option (Nat × (Nat → Int32))) (n : Nat)  (e : Nat) (he : 3 ≤ e) (rec31 : Int32 → Int32 → Int32 → Mem → Option (Unit × Mem)) (hr31 : ∀ (x1 : Int32) (x2 : Int32) (x3 : Int32) (u4 : Option Value) (u5 : Option Value) (u6 : Option Value) (u7 : Option Value) (u8 : Option Value) (M : Mem) (r : Unit) (M' : Mem), rec31 x1 x2 x3 M = some (r, M') → pm_ev pmT sc e 71 false (31, [some (.ref 83), some (.int x1), some (.int x2), some (.int x3), u4, u5, u6, u7, u8], [], 129, 17845, hp M) (none, 129, 17845, hp M')) : ∀ (x1 : Int32) (x2 : Int32) (x3 : Int32) (x4 : Int32) (x5 : Int32) (x6 : Int32) (x7 : Int32) (u8 : Option Value) (M : Mem) (r : Unit) (M' : Mem), J71_99 n rec31 x1 x2 x3 x4 x5 x6 x7 M = some (r, M') → pm_ev pmT sc e 71 false (99, [some (.ref 83), some (.int x1), some (.int x2), some (.int x3), some (.int x4), some (.int x5), some (.int x6), some (.int x7), u8], [], 129, 17845, hp M) (none, 129, 17845, hp M') := by
  intro x1 x2 x3 x4 x5 x6 x7 u8 M r M' h
  unfold J71_99 at h
  refine pe_blk mm_71 2 (s' := (102, [some (.ref 83), some (.int x1), some (.int x2), some (.int x3), some (.int x4), some (.int x5), some (.int x6), some (.int x7), u8], [.int 5, .int x5], _, _, _)) rfl ?_
  by_cases q34 : x5 = 5
  · rw [if_pos q34] at h
    refine pe_blk mm_71 1 (s' := (if x5 = 5 then 105 else 133, [some (.ref 83), some (.int x1), some (.int x2), some (.int x3), some (.int x4), some (.int x5), some (.int x6), some (.int x7), u8], [], _, _, _)) rfl ?_
    rw [if_pos q34]
    refine pe_blk mm_71 2 (s' := (108, [some (.ref 83), some (.int x1), some (.int x2), some (.int x3), some (.int x4), some (.int x5), some (.int x6), some (.int x7), u8], [.int 3, .int x6], _, _, _)) rfl ?_
    by_cases q35 : x6 = 3
    · rw [if_pos q35] at h
      refine pe_blk mm_71 1 (s' := (if x6 = 3 then 133 else 111, [some (.ref 83), some (.int x1), some (.int x2), some (.int x3), some (.int x4), some (.int x5), some (.int x6), some (.int x7), u8], [], _, _, _)) rfl ?_
      rw [if_pos q35]
      exact J71_133_ev sc n e he rec31 hr31 x1 x2 x3 x4 x7 _ _ _ _ _ _ h
    · rw [if_neg q35] at h
      refine pe_blk mm_71 1 (s' := (if x6 = 3 then 133 else 111, [some (.ref 83), some (.int x1), some (.int x2), some (.int x3), some (.int x4), some (.int x5), some (.int x6), some (.int x7), u8], [], _, _, _)) rfl ?_
      rw [if_neg q35]
      refine pe_blk mm_71 1 (s' := (112, [some (.ref 83), some (.int x1), some (.int x2), some (.int x3), some (.int x4), some (.int x5), some (.int x6), some (.int x7), u8], [.ref 83], _, _, _)) rfl ?_
      refine pe_get mm_71 rfl rfl rfl (by decide) rfl ?_
      refine pe_blk mm_71 1 (s' := (117, [some (.ref 83), some (.int x1), some (.int x2), some (.int x3), some (.int x4), some (.int x5), some (.int x6), some (.int x7), u8], [.int x4, .ref 93], _, _, _)) rfl ?_
      by_cases q50 : x4 < 0 ∨ 128 ≤ (x4 : Int32).toNatClampNeg
      · rw [if_pos q50] at h
        cases h
      · rw [if_neg q50] at h
        refine pe_iald (f := M.1 93) mm_71 rfl rfl (by decide) q50 ?_
        by_cases q51 : (M.1 93 (x4 : Int32).toNatClampNeg) = 0
        · rw [if_pos q51] at h
          refine pe_blk mm_71 1 (s' := (if (M.1 93 (x4 : Int32).toNatClampNeg) = 0 then 121 else 133, [some (.ref 83), some (.int x1), some (.int x2), some (.int x3), some (.int x4), some (.int x5), some (.int x6), some (.int x7), u8], [], _, _, _)) rfl ?_
          rw [if_pos q51]
          exact J71_121_ev sc n e he rec31 hr31 x1 x2 x3 x4 x7 _ _ _ _ _ _ h
        · rw [if_neg q51] at h
          refine pe_blk mm_71 1 (s' := (if (M.1 93 (x4 : Int32).toNatClampNeg) = 0 then 121 else 133, [some (.ref 83), some (.int x1), some (.int x2), some (.int x3), some (.int x4), some (.int x5), some (.int x6), some (.int x7), u8], [], _, _, _)) rfl ?_
          rw [if_neg q51]
          exact J71_133_ev sc n e he rec31 hr31 x1 x2 x3 x4 x7 _ _ _ _ _ _ h
  · rw [if_neg q34] at h
    refine pe_blk mm_71 1 (s' := (if x5 = 5 then 105 else 133, [some (.ref 83), some (.int x1), some (.int x2), some (.int x3), some (.int x4), some (.int x5), some (.int x6), some (.int x7), u8], [], _, _, _)) rfl ?_
    rw [if_neg q34]
    exact J71_133_ev sc n e he rec31 hr31 x1 x2 x3 x4 x7 _ _ _ _ _ _ h
def J71_85 (n : Nat) (rec31 : Int32 → Int32 → Int32 → Mem → Option (Unit × Mem)) (x1 : Int32) (x2 : Int32) (x3 : Int32) (x4 : Int32) (x5 : Int32) (x6 : Int32) (s0 : Int32) (M : Mem) : Option (Unit × Mem) :=
  if x5 = 4 then (if x6 = 2 then (J71_99 n rec31 x1 x2 x3 x4 x5 x6 s0 M) else (J71_121 n rec31 x1 x2 x3 x4 s0 M)) else (J71_99 n rec31 x1 x2 x3 x4 x5 x6 s0 M)
set_option maxRecDepth 100000 in
set_option maxHeartbeats 4000000 in
theorem J71_85_ev (sc : Option (Nat × (Nat → Int32))) (n : Nat)  (e : Nat) (he : 3 ≤ e) (rec31 : Int32 → Int32 → Int32 → Mem → Option (Unit × Mem)) (hr31 : ∀ (x1 : Int32) (x2 : Int32) (x3 : Int32) (u4 : Option Value) (u5 : Option Value) (u6 : Option Value) (u7 : Option Value) (u8 : Option Value) (M : Mem) (r : Unit) (M' : Mem), rec31 x1 x2 x3 M = some (r, M') → pm_ev pmT sc e 71 false (31, [some (.ref 83), some (.int x1), some (.int x2), some (.int x3), u4, u5, u6, u7, u8], [], 129, 17845, hp M) (none, 129, 17845, hp M')) : ∀ (x1 : Int32) (x2 : Int32) (x3 : Int32) (x4 : Int32) (x5 : Int32) (x6 : Int32) (s0 : Int32) (u7 : Option Value) (u8 : Option Value) (M : Mem) (r : Unit) (M' : Mem), J71_85 n rec31 x1 x2 x3 x4 x5 x6 s0 M = some (r, M') → pm_ev pmT sc e 71 false (85, [some (.ref 83), some (.int x1), some (.int x2), some (.int x3), some (.int x4), some (.int x5), some (.int x6), u7, u8], [.int s0], 129, 17845, hp M) (none, 129, 17845, hp M') := by
  intro x1 x2 x3 x4 x5 x6 s0 u7 u8 M r M' h
  unfold J71_85 at h
  refine pe_blk mm_71 3 (s' := (90, [some (.ref 83), some (.int x1), some (.int x2), some (.int x3), some (.int x4), some (.int x5), some (.int x6), some (.int s0), u8], [.int 4, .int x5], _, _, _)) rfl ?_
  by_cases q32 : x5 = 4
  · rw [if_pos q32] at h
    refine pe_blk mm_71 1 (s' := (if x5 = 4 then 93 else 99, [some (.ref 83), some (.int x1), some (.int x2), some (.int x3), some (.int x4), some (.int x5), some (.int x6), some (.int s0), u8], [], _, _, _)) rfl ?_
    rw [if_pos q32]
    refine pe_blk mm_71 2 (s' := (96, [some (.ref 83), some (.int x1), some (.int x2), some (.int x3), some (.int x4), some (.int x5), some (.int x6), some (.int s0), u8], [.int 2, .int x6], _, _, _)) rfl ?_
    by_cases q33 : x6 = 2
    · rw [if_pos q33] at h
      refine pe_blk mm_71 1 (s' := (if x6 = 2 then 99 else 121, [some (.ref 83), some (.int x1), some (.int x2), some (.int x3), some (.int x4), some (.int x5), some (.int x6), some (.int s0), u8], [], _, _, _)) rfl ?_
      rw [if_pos q33]
      exact J71_99_ev sc n e he rec31 hr31 x1 x2 x3 x4 x5 x6 s0 _ _ _ _ h
    · rw [if_neg q33] at h
      refine pe_blk mm_71 1 (s' := (if x6 = 2 then 99 else 121, [some (.ref 83), some (.int x1), some (.int x2), some (.int x3), some (.int x4), some (.int x5), some (.int x6), some (.int s0), u8], [], _, _, _)) rfl ?_
      rw [if_neg q33]
      exact J71_121_ev sc n e he rec31 hr31 x1 x2 x3 x4 s0 _ _ _ _ _ _ h
  · rw [if_neg q32] at h
    refine pe_blk mm_71 1 (s' := (if x5 = 4 then 93 else 99, [some (.ref 83), some (.int x1), some (.int x2), some (.int x3), some (.int x4), some (.int x5), some (.int x6), some (.int s0), u8], [], _, _, _)) rfl ?_
    rw [if_neg q32]
    exact J71_99_ev sc n e he rec31 hr31 x1 x2 x3 x4 x5 x6 s0 _ _ _ _ h
def J71_77 (n : Nat) (rec31 : Int32 → Int32 → Int32 → Mem → Option (Unit × Mem)) (x1 : Int32) (x2 : Int32) (x3 : Int32) (x4 : Int32) (x5 : Int32) (x6 : Int32) (M : Mem) : Option (Unit × Mem) :=
  J71_85 n rec31 x1 x2 x3 x4 x5 x6 (x4 + 1) M
set_option maxRecDepth 100000 in
set_option maxHeartbeats 4000000 in
theorem J71_77_ev (sc : Option (Nat × (Nat → Int32))) (n : Nat)  (e : Nat) (he : 3 ≤ e) (rec31 : Int32 → Int32 → Int32 → Mem → Option (Unit × Mem)) (hr31 : ∀ (x1 : Int32) (x2 : Int32) (x3 : Int32) (u4 : Option Value) (u5 : Option Value) (u6 : Option Value) (u7 : Option Value) (u8 : Option Value) (M : Mem) (r : Unit) (M' : Mem), rec31 x1 x2 x3 M = some (r, M') → pm_ev pmT sc e 71 false (31, [some (.ref 83), some (.int x1), some (.int x2), some (.int x3), u4, u5, u6, u7, u8], [], 129, 17845, hp M) (none, 129, 17845, hp M')) : ∀ (x1 : Int32) (x2 : Int32) (x3 : Int32) (x4 : Int32) (x5 : Int32) (x6 : Int32) (u7 : Option Value) (u8 : Option Value) (M : Mem) (r : Unit) (M' : Mem), J71_77 n rec31 x1 x2 x3 x4 x5 x6 M = some (r, M') → pm_ev pmT sc e 71 false (77, [some (.ref 83), some (.int x1), some (.int x2), some (.int x3), some (.int x4), some (.int x5), some (.int x6), u7, u8], [], 129, 17845, hp M) (none, 129, 17845, hp M') := by
  intro x1 x2 x3 x4 x5 x6 u7 u8 M r M' h
  unfold J71_77 at h
  refine pe_blk mm_71 4 (s' := (85, [some (.ref 83), some (.int x1), some (.int x2), some (.int x3), some (.int x4), some (.int x5), some (.int x6), u7, u8], [.int (x4 + 1)], _, _, _)) rfl ?_
  exact J71_85_ev sc n e he rec31 hr31 x1 x2 x3 x4 x5 x6 (x4 + 1) _ _ _ _ _ h
def J71_65 (n : Nat) (rec31 : Int32 → Int32 → Int32 → Mem → Option (Unit × Mem)) (x1 : Int32) (x2 : Int32) (x3 : Int32) (x4 : Int32) (x5 : Int32) (x6 : Int32) (M : Mem) : Option (Unit × Mem) :=
  if x5 = 4 then (J71_77 n rec31 x1 x2 x3 x4 x5 x6 M) else (if x5 = 5 then (J71_77 n rec31 x1 x2 x3 x4 x5 x6 M) else (J71_85 n rec31 x1 x2 x3 x4 x5 x6 (-1) M))
set_option maxRecDepth 100000 in
set_option maxHeartbeats 4000000 in
theorem J71_65_ev (sc : Option (Nat × (Nat → Int32))) (n : Nat)  (e : Nat) (he : 3 ≤ e) (rec31 : Int32 → Int32 → Int32 → Mem → Option (Unit × Mem)) (hr31 : ∀ (x1 : Int32) (x2 : Int32) (x3 : Int32) (u4 : Option Value) (u5 : Option Value) (u6 : Option Value) (u7 : Option Value) (u8 : Option Value) (M : Mem) (r : Unit) (M' : Mem), rec31 x1 x2 x3 M = some (r, M') → pm_ev pmT sc e 71 false (31, [some (.ref 83), some (.int x1), some (.int x2), some (.int x3), u4, u5, u6, u7, u8], [], 129, 17845, hp M) (none, 129, 17845, hp M')) : ∀ (x1 : Int32) (x2 : Int32) (x3 : Int32) (x4 : Int32) (x5 : Int32) (x6 : Int32) (u7 : Option Value) (u8 : Option Value) (M : Mem) (r : Unit) (M' : Mem), J71_65 n rec31 x1 x2 x3 x4 x5 x6 M = some (r, M') → pm_ev pmT sc e 71 false (65, [some (.ref 83), some (.int x1), some (.int x2), some (.int x3), some (.int x4), some (.int x5), some (.int x6), u7, u8], [], 129, 17845, hp M) (none, 129, 17845, hp M') := by
  intro x1 x2 x3 x4 x5 x6 u7 u8 M r M' h
  unfold J71_65 at h
  refine pe_blk mm_71 2 (s' := (68, [some (.ref 83), some (.int x1), some (.int x2), some (.int x3), some (.int x4), some (.int x5), some (.int x6), u7, u8], [.int 4, .int x5], _, _, _)) rfl ?_
  by_cases q31 : x5 = 4
  · rw [if_pos q31] at h
    refine pe_blk mm_71 1 (s' := (if x5 = 4 then 77 else 71, [some (.ref 83), some (.int x1), some (.int x2), some (.int x3), some (.int x4), some (.int x5), some (.int x6), u7, u8], [], _, _, _)) rfl ?_
    rw [if_pos q31]
    exact J71_77_ev sc n e he rec31 hr31 x1 x2 x3 x4 x5 x6 _ _ _ _ _ h
  · rw [if_neg q31] at h
    refine pe_blk mm_71 1 (s' := (if x5 = 4 then 77 else 71, [some (.ref 83), some (.int x1), some (.int x2), some (.int x3), some (.int x4), some (.int x5), some (.int x6), u7, u8], [], _, _, _)) rfl ?_
    rw [if_neg q31]
    refine pe_blk mm_71 2 (s' := (74, [some (.ref 83), some (.int x1), some (.int x2), some (.int x3), some (.int x4), some (.int x5), some (.int x6), u7, u8], [.int 5, .int x5], _, _, _)) rfl ?_
    by_cases q53 : x5 = 5
    · rw [if_pos q53] at h
      refine pe_blk mm_71 1 (s' := (if x5 = 5 then 77 else 84, [some (.ref 83), some (.int x1), some (.int x2), some (.int x3), some (.int x4), some (.int x5), some (.int x6), u7, u8], [], _, _, _)) rfl ?_
      rw [if_pos q53]
      exact J71_77_ev sc n e he rec31 hr31 x1 x2 x3 x4 x5 x6 _ _ _ _ _ h
    · rw [if_neg q53] at h
      refine pe_blk mm_71 1 (s' := (if x5 = 5 then 77 else 84, [some (.ref 83), some (.int x1), some (.int x2), some (.int x3), some (.int x4), some (.int x5), some (.int x6), u7, u8], [], _, _, _)) rfl ?_
      rw [if_neg q53]
      refine pe_blk mm_71 1 (s' := (85, [some (.ref 83), some (.int x1), some (.int x2), some (.int x3), some (.int x4), some (.int x5), some (.int x6), u7, u8], [.int (-1)], _, _, _)) rfl ?_
      exact J71_85_ev sc n e he rec31 hr31 x1 x2 x3 x4 x5 x6 (-1) _ _ _ _ _ h
def L71_31 (n : Nat) : Nat → Int32 → Int32 → Int32 → Mem → Option (Unit × Mem)
  | 0, _, _, _, _ => none
  | k + 1, x1, x2, x3, M => if x3 ≤ 0 then (L71_217 n n x1 0 x2 M) else (if (x3 - 1) < 0 ∨ 512 ≤ (x3 - 1 : Int32).toNatClampNeg then none else (if (M.1 114 (x3 - 1 : Int32).toNatClampNeg) < 0 ∨ 128 ≤ (M.1 114 (x3 - 1 : Int32).toNatClampNeg : Int32).toNatClampNeg then none else (if (M.1 114 (x3 - 1 : Int32).toNatClampNeg) < 0 ∨ 128 ≤ (M.1 114 (x3 - 1 : Int32).toNatClampNeg : Int32).toNatClampNeg then none else (J71_65 n (L71_31 n k) x1 x2 (x3 - 1) (M.1 114 (x3 - 1 : Int32).toNatClampNeg) (M.1 90 (M.1 114 (x3 - 1 : Int32).toNatClampNeg : Int32).toNatClampNeg) (M.1 94 (M.1 114 (x3 - 1 : Int32).toNatClampNeg : Int32).toNatClampNeg) M))))
set_option maxRecDepth 100000 in
set_option maxHeartbeats 4000000 in
theorem L71_31_ev (sc : Option (Nat × (Nat → Int32))) (n : Nat)  (e : Nat) (he : 3 ≤ e) : ∀ k : Nat, ∀ (x1 : Int32) (x2 : Int32) (x3 : Int32) (u4 : Option Value) (u5 : Option Value) (u6 : Option Value) (u7 : Option Value) (u8 : Option Value) (M : Mem) (r : Unit) (M' : Mem), L71_31 n k x1 x2 x3 M = some (r, M') → pm_ev pmT sc e 71 false (31, [some (.ref 83), some (.int x1), some (.int x2), some (.int x3), u4, u5, u6, u7, u8], [], 129, 17845, hp M) (none, 129, 17845, hp M') := by
  intro k
  induction k with
  | zero => intro x1 x2 x3 u4 u5 u6 u7 u8 M r M' h; cases h
  | succ k hr31 =>
    intro x1 x2 x3 u4 u5 u6 u7 u8 M r M' h
    rw [L71_31] at h
    refine pe_blk mm_71 1 (s' := (32, [some (.ref 83), some (.int x1), some (.int x2), some (.int x3), u4, u5, u6, u7, u8], [.int x3], _, _, _)) rfl ?_
    by_cases q3 : x3 ≤ 0
    · rw [if_pos q3] at h
      refine pe_blk mm_71 1 (s' := (if x3 ≤ 0 then 211 else 35, [some (.ref 83), some (.int x1), some (.int x2), some (.int x3), u4, u5, u6, u7, u8], [], _, _, _)) rfl ?_
      rw [if_pos q3]
      refine pe_blk mm_71 4 (s' := (217, [some (.ref 83), some (.int x1), some (.int x2), some (.int x3), some (.int 0), some (.int x2), u6, u7, u8], [], _, _, _)) rfl ?_
      exact L71_217_ev sc n e he n x1 0 x2 _ _ _ _ _ _ _ _ h
    · rw [if_neg q3] at h
      refine pe_blk mm_71 1 (s' := (if x3 ≤ 0 then 211 else 35, [some (.ref 83), some (.int x1), some (.int x2), some (.int x3), u4, u5, u6, u7, u8], [], _, _, _)) rfl ?_
      rw [if_neg q3]
      refine pe_blk mm_71 5 (s' := (40, [some (.ref 83), some (.int x1), some (.int x2), some (.int (x3 - 1)), u4, u5, u6, u7, u8], [.ref 83], _, _, _)) rfl ?_
      refine pe_get mm_71 rfl rfl rfl (by decide) rfl ?_
      refine pe_blk mm_71 1 (s' := (44, [some (.ref 83), some (.int x1), some (.int x2), some (.int (x3 - 1)), u4, u5, u6, u7, u8], [.int (x3 - 1), .ref 114], _, _, _)) rfl ?_
      by_cases q28 : (x3 - 1) < 0 ∨ 512 ≤ (x3 - 1 : Int32).toNatClampNeg
      · rw [if_pos q28] at h
        cases h
      · rw [if_neg q28] at h
        refine pe_iald (f := M.1 114) mm_71 rfl rfl (by decide) q28 ?_
        refine pe_blk mm_71 2 (s' := (48, [some (.ref 83), some (.int x1), some (.int x2), some (.int (x3 - 1)), some (.int (M.1 114 (x3 - 1 : Int32).toNatClampNeg)), u5, u6, u7, u8], [.ref 83], _, _, _)) rfl ?_
        refine pe_get mm_71 rfl rfl rfl (by decide) rfl ?_
        refine pe_blk mm_71 1 (s' := (53, [some (.ref 83), some (.int x1), some (.int x2), some (.int (x3 - 1)), some (.int (M.1 114 (x3 - 1 : Int32).toNatClampNeg)), u5, u6, u7, u8], [.int (M.1 114 (x3 - 1 : Int32).toNatClampNeg), .ref 90], _, _, _)) rfl ?_
        by_cases q29 : (M.1 114 (x3 - 1 : Int32).toNatClampNeg) < 0 ∨ 128 ≤ (M.1 114 (x3 - 1 : Int32).toNatClampNeg : Int32).toNatClampNeg
        · rw [if_pos q29] at h
          cases h
        · rw [if_neg q29] at h
          refine pe_iald (f := M.1 90) mm_71 rfl rfl (by decide) q29 ?_
          refine pe_blk mm_71 2 (s' := (57, [some (.ref 83), some (.int x1), some (.int x2), some (.int (x3 - 1)), some (.int (M.1 114 (x3 - 1 : Int32).toNatClampNeg)), some (.int (M.1 90 (M.1 114 (x3 - 1 : Int32).toNatClampNeg : Int32).toNatClampNeg)), u6, u7, u8], [.ref 83], _, _, _)) rfl ?_
          refine pe_get mm_71 rfl rfl rfl (by decide) rfl ?_
          refine pe_blk mm_71 1 (s' := (62, [some (.ref 83), some (.int x1), some (.int x2), some (.int (x3 - 1)), some (.int (M.1 114 (x3 - 1 : Int32).toNatClampNeg)), some (.int (M.1 90 (M.1 114 (x3 - 1 : Int32).toNatClampNeg : Int32).toNatClampNeg)), u6, u7, u8], [.int (M.1 114 (x3 - 1 : Int32).toNatClampNeg), .ref 94], _, _, _)) rfl ?_
          by_cases q30 : (M.1 114 (x3 - 1 : Int32).toNatClampNeg) < 0 ∨ 128 ≤ (M.1 114 (x3 - 1 : Int32).toNatClampNeg : Int32).toNatClampNeg
          · rw [if_pos q30] at h
            cases h
          · rw [if_neg q30] at h
            refine pe_iald (f := M.1 94) mm_71 rfl rfl (by decide) q30 ?_
            refine pe_blk mm_71 1 (s' := (65, [some (.ref 83), some (.int x1), some (.int x2), some (.int (x3 - 1)), some (.int (M.1 114 (x3 - 1 : Int32).toNatClampNeg)), some (.int (M.1 90 (M.1 114 (x3 - 1 : Int32).toNatClampNeg : Int32).toNatClampNeg)), some (.int (M.1 94 (M.1 114 (x3 - 1 : Int32).toNatClampNeg : Int32).toNatClampNeg)), u7, u8], [], _, _, _)) rfl ?_
            exact J71_65_ev sc n e he (L71_31 n k) hr31 x1 x2 (x3 - 1) (M.1 114 (x3 - 1 : Int32).toNatClampNeg) (M.1 90 (M.1 114 (x3 - 1 : Int32).toNatClampNeg : Int32).toNatClampNeg) (M.1 94 (M.1 114 (x3 - 1 : Int32).toNatClampNeg : Int32).toNatClampNeg) _ _ _ _ _ h
def L71_2 (n : Nat) : Nat → Int32 → Int32 → Int32 → Mem → Option (Unit × Mem)
  | 0, _, _, _, _ => none
  | k + 1, x1, x2, x3, M => if 128 ≤ x3 then (mlet (m_i M 114 0 x1) (fun M2 => L71_31 n n x1 x2 1 M2)) else (if x3 < 0 ∨ 128 ≤ (x3 : Int32).toNatClampNeg then none else (mlet (m_i M 115 (x3 : Int32).toNatClampNeg (-1)) (fun M55 => (L71_2 n k) x1 x2 (x3 + 1) M55)))
set_option maxRecDepth 100000 in
set_option maxHeartbeats 4000000 in
theorem L71_2_ev (sc : Option (Nat × (Nat → Int32))) (n : Nat)  (e : Nat) (he : 3 ≤ e) : ∀ k : Nat, ∀ (x1 : Int32) (x2 : Int32) (x3 : Int32) (u4 : Option Value) (u5 : Option Value) (u6 : Option Value) (u7 : Option Value) (u8 : Option Value) (M : Mem) (r : Unit) (M' : Mem), L71_2 n k x1 x2 x3 M = some (r, M') → pm_ev pmT sc e 71 false (2, [some (.ref 83), some (.int x1), some (.int x2), some (.int x3), u4, u5, u6, u7, u8], [], 129, 17845, hp M) (none, 129, 17845, hp M') := by
  intro k
  induction k with
  | zero => intro x1 x2 x3 u4 u5 u6 u7 u8 M r M' h; cases h
  | succ k hr2 =>
    intro x1 x2 x3 u4 u5 u6 u7 u8 M r M' h
    rw [L71_2] at h
    refine pe_blk mm_71 2 (s' := (6, [some (.ref 83), some (.int x1), some (.int x2), some (.int x3), u4, u5, u6, u7, u8], [.int 128, .int x3], _, _, _)) rfl ?_
    by_cases q1 : 128 ≤ x3
    · rw [if_pos q1] at h
      refine pe_blk mm_71 1 (s' := (if 128 ≤ x3 then 22 else 9, [some (.ref 83), some (.int x1), some (.int x2), some (.int x3), u4, u5, u6, u7, u8], [], _, _, _)) rfl ?_
      rw [if_pos q1]
      refine pe_blk mm_71 3 (s' := (25, [some (.ref 83), some (.int x1), some (.int x2), some (.int 1), u4, u5, u6, u7, u8], [.ref 83], _, _, _)) rfl ?_
      refine pe_get mm_71 rfl rfl rfl (by decide) rfl ?_
      refine pe_blk mm_71 2 (s' := (30, [some (.ref 83), some (.int x1), some (.int x2), some (.int 1), u4, u5, u6, u7, u8], [.int x1, .int 0, .ref 114], _, _, _)) rfl ?_
      refine pe_iasti mm_71 rfl rfl (by decide) (by decide) rfl ?_
      show pm_ev _ _ _ _ _ (31, [some (.ref 83), some (.int x1), some (.int x2), some (.int 1), u4, u5, u6, u7, u8], [], _, _, hp (m_i M 114 0 x1)) _
      generalize m_i M 114 0 x1 = M2 at h ⊢
      rw [mlet] at h
      exact L71_31_ev sc n e he n x1 x2 1 _ _ _ _ _ _ _ _ h
    · rw [if_neg q1] at h
      refine pe_blk mm_71 1 (s' := (if 128 ≤ x3 then 22 else 9, [some (.ref 83), some (.int x1), some (.int x2), some (.int x3), u4, u5, u6, u7, u8], [], _, _, _)) rfl ?_
      rw [if_neg q1]
      refine pe_blk mm_71 1 (s' := (10, [some (.ref 83), some (.int x1), some (.int x2), some (.int x3), u4, u5, u6, u7, u8], [.ref 83], _, _, _)) rfl ?_
      refine pe_get mm_71 rfl rfl rfl (by decide) rfl ?_
      refine pe_blk mm_71 2 (s' := (15, [some (.ref 83), some (.int x1), some (.int x2), some (.int x3), u4, u5, u6, u7, u8], [.int (-1), .int x3, .ref 115], _, _, _)) rfl ?_
      by_cases q54 : x3 < 0 ∨ 128 ≤ (x3 : Int32).toNatClampNeg
      · rw [if_pos q54] at h
        cases h
      · rw [if_neg q54] at h
        refine pe_iasti mm_71 rfl rfl (by decide) q54 rfl ?_
        show pm_ev _ _ _ _ _ (16, [some (.ref 83), some (.int x1), some (.int x2), some (.int x3), u4, u5, u6, u7, u8], [], _, _, hp (m_i M 115 (x3 : Int32).toNatClampNeg (-1))) _
        generalize m_i M 115 (x3 : Int32).toNatClampNeg (-1) = M55 at h ⊢
        rw [mlet] at h
        refine pe_blk mm_71 2 (s' := (2, [some (.ref 83), some (.int x1), some (.int x2), some (.int (x3 + 1)), u4, u5, u6, u7, u8], [], _, _, _)) rfl ?_
        exact hr2 x1 x2 (x3 + 1) _ _ _ _ _ _ _ _ h
/-- ArmExpanderModel.goTo -/
def F71 (n : Nat) (a0 : Int32) (a1 : Int32) (M : Mem) : Option (Unit × Mem) :=
  L71_2 n n a0 a1 0 M
set_option maxRecDepth 100000 in
set_option maxHeartbeats 4000000 in
theorem F71_ev (sc : Option (Nat × (Nat → Int32))) (n : Nat) (a0 : Int32) (a1 : Int32)  (M : Mem) (e : Nat) (he : 3 ≤ e) (r : Unit) (M' : Mem) (h : F71 n a0 a1 M = some (r, M')) : pm_ev pmT sc e 71 false (0, [some (.ref 83), some (.int a0), some (.int a1), none, none, none, none, none, none], [], 129, 17845, hp M) (none, 129, 17845, hp M') := by
  unfold F71 at h
  refine pe_blk mm_71 2 (s' := (2, [some (.ref 83), some (.int a0), some (.int a1), some (.int 0), none, none, none, none, none], [], _, _, _)) rfl ?_
  exact L71_2_ev sc n e he n a0 a1 0 _ _ _ _ _ _ _ _ h
def J72_42 (n : Nat) (s0 : Int32) (M : Mem) : Option (Int32 × Mem) :=
  some (s0 - 1, M)
set_option maxRecDepth 100000 in
set_option maxHeartbeats 4000000 in
theorem J72_42_ev (sc : Option (Nat × (Nat → Int32))) (n : Nat)  (e : Nat) (he : 3 ≤ e) : ∀ (s0 : Int32) (u0 : Option Value) (u1 : Option Value) (M : Mem) (r : Int32) (M' : Mem), J72_42 n s0 M = some (r, M') → pm_ev pmT sc e 72 false (42, [u0, u1], [.int s0], 129, 17845, hp M) (some (.int r), 129, 17845, hp M') := by
  intro s0 u0 u1 M r M' h
  unfold J72_42 at h
  refine pe_blk mm_72 2 (s' := (44, [u0, u1], [.int (s0 - 1)], _, _, _)) rfl ?_
  cases h
  exact pe_ret mm_72 rfl rfl
/-- ArmExpanderModel.present -/
def F72 (n : Nat) (a0 : Int32) (M : Mem) : Option (Int32 × Mem) :=
  if 0 ≤ a0 then (if a0 < 0 ∨ 128 ≤ (a0 : Int32).toNatClampNeg then none else (if 0 ≤ (M.1 95 (a0 : Int32).toNatClampNeg) then (if a0 < 0 ∨ 128 ≤ (a0 : Int32).toNatClampNeg then none else (if (M.1 95 (a0 : Int32).toNatClampNeg) < 0 ∨ 128 ≤ (M.1 95 (a0 : Int32).toNatClampNeg : Int32).toNatClampNeg then none else (match F69 n a0 ((M.1 118 (M.1 95 (a0 : Int32).toNatClampNeg : Int32).toNatClampNeg) - 1) M with | some (v6, M7) => (J72_42 n v6 M7) | none => none))) else (if a0 < 0 ∨ 128 ≤ (a0 : Int32).toNatClampNeg then none else (J72_42 n (M.1 118 (a0 : Int32).toNatClampNeg) M)))) else (some (0, M))
set_option maxRecDepth 100000 in
set_option maxHeartbeats 4000000 in
theorem F72_ev (sc : Option (Nat × (Nat → Int32))) (n : Nat) (a0 : Int32)  (M : Mem) (e : Nat) (he : 3 ≤ e) (r : Int32) (M' : Mem) (h : F72 n a0 M = some (r, M')) : pm_ev pmT sc e 72 false (0, [some (.ref 83), some (.int a0)], [], 129, 17845, hp M) (some (.int r), 129, 17845, hp M') := by
  unfold F72 at h
  refine pe_blk mm_72 1 (s' := (1, [some (.ref 83), some (.int a0)], [.int a0], _, _, _)) rfl ?_
  by_cases q1 : 0 ≤ a0
  · rw [if_pos q1] at h
    refine pe_blk mm_72 1 (s' := (if 0 ≤ a0 then 6 else 4, [some (.ref 83), some (.int a0)], [], _, _, _)) rfl ?_
    rw [if_pos q1]
    refine pe_blk mm_72 1 (s' := (7, [some (.ref 83), some (.int a0)], [.ref 83], _, _, _)) rfl ?_
    refine pe_get mm_72 rfl rfl rfl (by decide) rfl ?_
    refine pe_blk mm_72 1 (s' := (11, [some (.ref 83), some (.int a0)], [.int a0, .ref 95], _, _, _)) rfl ?_
    by_cases q2 : a0 < 0 ∨ 128 ≤ (a0 : Int32).toNatClampNeg
    · rw [if_pos q2] at h
      cases h
    · rw [if_neg q2] at h
      refine pe_iald (f := M.1 95) mm_72 rfl rfl (by decide) q2 ?_
      by_cases q3 : 0 ≤ (M.1 95 (a0 : Int32).toNatClampNeg)
      · rw [if_pos q3] at h
        refine pe_blk mm_72 1 (s' := (if 0 ≤ (M.1 95 (a0 : Int32).toNatClampNeg) then 24 else 15, [some (.ref 83), some (.int a0)], [], _, _, _)) rfl ?_
        rw [if_pos q3]
        refine pe_blk mm_72 3 (s' := (27, [some (.ref 83), some (.int a0)], [.ref 83, .int a0, .ref 83], _, _, _)) rfl ?_
        refine pe_get mm_72 rfl rfl rfl (by decide) rfl ?_
        refine pe_blk mm_72 1 (s' := (31, [some (.ref 83), some (.int a0)], [.ref 83, .ref 118, .int a0, .ref 83], _, _, _)) rfl ?_
        refine pe_get mm_72 rfl rfl rfl (by decide) rfl ?_
        refine pe_blk mm_72 1 (s' := (35, [some (.ref 83), some (.int a0)], [.int a0, .ref 95, .ref 118, .int a0, .ref 83], _, _, _)) rfl ?_
        by_cases q4 : a0 < 0 ∨ 128 ≤ (a0 : Int32).toNatClampNeg
        · rw [if_pos q4] at h
          cases h
        · rw [if_neg q4] at h
          refine pe_iald (f := M.1 95) mm_72 rfl rfl (by decide) q4 ?_
          by_cases q5 : (M.1 95 (a0 : Int32).toNatClampNeg) < 0 ∨ 128 ≤ (M.1 95 (a0 : Int32).toNatClampNeg : Int32).toNatClampNeg
          · rw [if_pos q5] at h
            cases h
          · rw [if_neg q5] at h
            refine pe_iald (f := M.1 118) mm_72 rfl rfl (by decide) q5 ?_
            refine pe_blk mm_72 2 (s' := (39, [some (.ref 83), some (.int a0)], [.int ((M.1 118 (M.1 95 (a0 : Int32).toNatClampNeg : Int32).toNatClampNeg) - 1), .int a0, .ref 83], _, _, _)) rfl ?_
            obtain ⟨e1, rfl⟩ : ∃ e1, e = e1 + 1 := ⟨e - 1, by omega⟩
            cases hc8 : F69 n a0 ((M.1 118 (M.1 95 (a0 : Int32).toNatClampNeg : Int32).toNatClampNeg) - 1) M with
            | none => rw [hc8] at h; cases h
            | some w =>
              obtain ⟨v6, M7⟩ := w
              rw [hc8] at h
              dsimp only at h
              refine pe_virt (al := [.int ((M.1 118 (M.1 95 (a0 : Int32).toNatClampNeg : Int32).toNatClampNeg) - 1), .int a0]) (a := 83) (L0 := [some (.ref 83), some (.int a0), some (.int ((M.1 118 (M.1 95 (a0 : Int32).toNatClampNeg : Int32).toNatClampNeg) - 1)), none]) (r1 := (some (.int v6), 129, 17845, hp M7)) mm_72 rfl rfl rfl mm_69 rfl (by decide) (by decide) rfl (Nat.le_of_ble_eq_true rfl) (Nat.le_of_ble_eq_true rfl) rfl rfl (F69_ev sc n a0 ((M.1 118 (M.1 95 (a0 : Int32).toNatClampNeg : Int32).toNatClampNeg) - 1) _ e1 (by omega) _ _ hc8) ?_
              show pm_ev _ _ _ _ _ (42, [some (.ref 83), some (.int a0)], [.int v6], _, _, _) _
              exact J72_42_ev sc n (e1 + 1) he v6 _ _ _ _ _ h
      · rw [if_neg q3] at h
        refine pe_blk mm_72 1 (s' := (if 0 ≤ (M.1 95 (a0 : Int32).toNatClampNeg) then 24 else 15, [some (.ref 83), some (.int a0)], [], _, _, _)) rfl ?_
        rw [if_neg q3]
        refine pe_blk mm_72 1 (s' := (16, [some (.ref 83), some (.int a0)], [.ref 83], _, _, _)) rfl ?_
        refine pe_get mm_72 rfl rfl rfl (by decide) rfl ?_
        refine pe_blk mm_72 1 (s' := (20, [some (.ref 83), some (.int a0)], [.int a0, .ref 118], _, _, _)) rfl ?_
        by_cases q9 : a0 < 0 ∨ 128 ≤ (a0 : Int32).toNatClampNeg
        · rw [if_pos q9] at h
          cases h
        · rw [if_neg q9] at h
          refine pe_iald (f := M.1 118) mm_72 rfl rfl (by decide) q9 ?_
          refine pe_blk mm_72 1 (s' := (42, [some (.ref 83), some (.int a0)], [.int (M.1 118 (a0 : Int32).toNatClampNeg)], _, _, _)) rfl ?_
          exact J72_42_ev sc n e he (M.1 118 (a0 : Int32).toNatClampNeg) _ _ _ _ _ h
  · rw [if_neg q1] at h
    refine pe_blk mm_72 1 (s' := (if 0 ≤ a0 then 6 else 4, [some (.ref 83), some (.int a0)], [], _, _, _)) rfl ?_
    rw [if_neg q1]
    refine pe_blk mm_72 1 (s' := (5, [some (.ref 83), some (.int a0)], [.int 0], _, _, _)) rfl ?_
    cases h
    exact pe_ret mm_72 rfl rfl
def J73_206 (n : Nat) (rec36 : Int32 → Int32 → Mem → Option (Unit × Mem)) (x2 : Int32) (s0 : Int32) (M : Mem) : Option (Unit × Mem) :=
  rec36 s0 (x2 + 1) M
set_option maxRecDepth 100000 in
set_option maxHeartbeats 4000000 in
theorem J73_206_ev (sc : Option (Nat × (Nat → Int32))) (n : Nat)  (e : Nat) (he : 4 ≤ e) (rec36 : Int32 → Int32 → Mem → Option (Unit × Mem)) (hr36 : ∀ (x1 : Int32) (x2 : Int32) (u3 : Option Value) (u4 : Option Value) (M : Mem) (r : Unit) (M' : Mem), rec36 x1 x2 M = some (r, M') → pm_ev pmT sc e 73 false (36, [some (.ref 83), some (.int x1), some (.int x2), u3, u4], [], 129, 17845, hp M) (none, 129, 17845, hp M')) : ∀ (x2 : Int32) (s0 : Int32) (u1 : Option Value) (u3 : Option Value) (u4 : Option Value) (M : Mem) (r : Unit) (M' : Mem), J73_206 n rec36 x2 s0 M = some (r, M') → pm_ev pmT sc e 73 false (206, [some (.ref 83), u1, some (.int x2), u3, u4], [.int s0], 129, 17845, hp M) (none, 129, 17845, hp M') := by
  intro x2 s0 u1 u3 u4 M r M' h
  unfold J73_206 at h
  refine pe_blk mm_73 3 (s' := (36, [some (.ref 83), some (.int s0), some (.int (x2 + 1)), u3, u4], [], _, _, _)) rfl ?_
  exact hr36 s0 (x2 + 1) _ _ _ _ _ h
def J73_187 (n : Nat) (rec36 : Int32 → Int32 → Mem → Option (Unit × Mem)) (x2 : Int32) (x3 : Int32) (x4 : Int32) (M : Mem) : Option (Unit × Mem) :=
  if x4 = 0 then (J73_206 n rec36 x2 (x3 + 1) M) else (if x3 < 0 ∨ 128 ≤ (x3 : Int32).toNatClampNeg then none else (J73_206 n rec36 x2 ((M.1 92 (x3 : Int32).toNatClampNeg) + 1) M))
set_option maxRecDepth 100000 in
set_option maxHeartbeats 4000000 in
theorem J73_187_ev (sc : Option (Nat × (Nat → Int32))) (n : Nat)  (e : Nat) (he : 4 ≤ e) (rec36 : Int32 → Int32 → Mem → Option (Unit × Mem)) (hr36 : ∀ (x1 : Int32) (x2 : Int32) (u3 : Option Value) (u4 : Option Value) (M : Mem) (r : Unit) (M' : Mem), rec36 x1 x2 M = some (r, M') → pm_ev pmT sc e 73 false (36, [some (.ref 83), some (.int x1), some (.int x2), u3, u4], [], 129, 17845, hp M) (none, 129, 17845, hp M')) : ∀ (x2 : Int32) (x3 : Int32) (x4 : Int32) (u1 : Option Value) (M : Mem) (r : Unit) (M' : Mem), J73_187 n rec36 x2 x3 x4 M = some (r, M') → pm_ev pmT sc e 73 false (187, [some (.ref 83), u1, some (.int x2), some (.int x3), some (.int x4)], [], 129, 17845, hp M) (none, 129, 17845, hp M') := by
  intro x2 x3 x4 u1 M r M' h
  unfold J73_187 at h
  refine pe_blk mm_73 1 (s' := (189, [some (.ref 83), u1, some (.int x2), some (.int x3), some (.int x4)], [.int x4], _, _, _)) rfl ?_
  by_cases q35 : x4 = 0
  · rw [if_pos q35] at h
    refine pe_blk mm_73 1 (s' := (if x4 = 0 then 203 else 192, [some (.ref 83), u1, some (.int x2), some (.int x3), some (.int x4)], [], _, _, _)) rfl ?_
    rw [if_pos q35]
    refine pe_blk mm_73 3 (s' := (206, [some (.ref 83), u1, some (.int x2), some (.int x3), some (.int x4)], [.int (x3 + 1)], _, _, _)) rfl ?_
    exact J73_206_ev sc n e he rec36 hr36 x2 (x3 + 1) _ _ _ _ _ _ h
  · rw [if_neg q35] at h
    refine pe_blk mm_73 1 (s' := (if x4 = 0 then 203 else 192, [some (.ref 83), u1, some (.int x2), some (.int x3), some (.int x4)], [], _, _, _)) rfl ?_
    rw [if_neg q35]
    refine pe_blk mm_73 1 (s' := (193, [some (.ref 83), u1, some (.int x2), some (.int x3), some (.int x4)], [.ref 83], _, _, _)) rfl ?_
    refine pe_get mm_73 rfl rfl rfl (by decide) rfl ?_
    refine pe_blk mm_73 1 (s' := (197, [some (.ref 83), u1, some (.int x2), some (.int x3), some (.int x4)], [.int x3, .ref 92], _, _, _)) rfl ?_
    by_cases q36 : x3 < 0 ∨ 128 ≤ (x3 : Int32).toNatClampNeg
    · rw [if_pos q36] at h
      cases h
    · rw [if_neg q36] at h
      refine pe_iald (f := M.1 92) mm_73 rfl rfl (by decide) q36 ?_
      refine pe_blk mm_73 3 (s' := (206, [some (.ref 83), u1, some (.int x2), some (.int x3), some (.int x4)], [.int ((M.1 92 (x3 : Int32).toNatClampNeg) + 1)], _, _, _)) rfl ?_
      exact J73_206_ev sc n e he rec36 hr36 x2 ((M.1 92 (x3 : Int32).toNatClampNeg) + 1) _ _ _ _ _ _ h
def J73_170 (n : Nat) (rec36 : Int32 → Int32 → Mem → Option (Unit × Mem)) (x2 : Int32) (x3 : Int32) (s0 : Int32) (M : Mem) : Option (Unit × Mem) :=
  if s0 = 0 then (J73_187 n rec36 x2 x3 s0 M) else (if x3 < 0 ∨ 128 ≤ (x3 : Int32).toNatClampNeg then none else (match F70 n (M.1 92 (x3 : Int32).toNatClampNeg) M with | some (v38, M39) => (J73_187 n rec36 x2 x3 s0 M39) | none => none))
set_option maxRecDepth 100000 in
set_option maxHeartbeats 4000000 in
theorem J73_170_ev (sc : Option (Nat × (Nat → Int32))) (n : Nat)  (e : Nat) (he : 4 ≤ e) (rec36 : Int32 → Int32 → Mem → Option (Unit × Mem)) (hr36 : ∀ (x1 : Int32) (x2 : Int32) (u3 : Option Value) (u4 : Option Value) (M : Mem) (r : Unit) (M' : Mem), rec36 x1 x2 M = some (r, M') → pm_ev pmT sc e 73 false (36, [some (.ref 83), some (.int x1), some (.int x2), u3, u4], [], 129, 17845, hp M) (none, 129, 17845, hp M')) : ∀ (x2 : Int32) (x3 : Int32) (s0 : Int32) (u1 : Option Value) (u4 : Option Value) (M : Mem) (r : Unit) (M' : Mem), J73_170 n rec36 x2 x3 s0 M = some (r, M') → pm_ev pmT sc e 73 false (170, [some (.ref 83), u1, some (.int x2), some (.int x3), u4], [.int s0], 129, 17845, hp M) (none, 129, 17845, hp M') := by
  intro x2 x3 s0 u1 u4 M r M' h
  unfold J73_170 at h
  refine pe_blk mm_73 2 (s' := (174, [some (.ref 83), u1, some (.int x2), some (.int x3), some (.int s0)], [.int s0], _, _, _)) rfl ?_
  by_cases q34 : s0 = 0
  · rw [if_pos q34] at h
    refine pe_blk mm_73 1 (s' := (if s0 = 0 then 187 else 177, [some (.ref 83), u1, some (.int x2), some (.int x3), some (.int s0)], [], _, _, _)) rfl ?_
    rw [if_pos q34]
    exact J73_187_ev sc n e he rec36 hr36 x2 x3 s0 _ _ _ _ h
  · rw [if_neg q34] at h
    refine pe_blk mm_73 1 (s' := (if s0 = 0 then 187 else 177, [some (.ref 83), u1, some (.int x2), some (.int x3), some (.int s0)], [], _, _, _)) rfl ?_
    rw [if_neg q34]
    refine pe_blk mm_73 2 (s' := (179, [some (.ref 83), u1, some (.int x2), some (.int x3), some (.int s0)], [.ref 83, .ref 83], _, _, _)) rfl ?_
    refine pe_get mm_73 rfl rfl rfl (by decide) rfl ?_
    refine pe_blk mm_73 1 (s' := (183, [some (.ref 83), u1, some (.int x2), some (.int x3), some (.int s0)], [.int x3, .ref 92, .ref 83], _, _, _)) rfl ?_
    by_cases q37 : x3 < 0 ∨ 128 ≤ (x3 : Int32).toNatClampNeg
    · rw [if_pos q37] at h
      cases h
    · rw [if_neg q37] at h
      refine pe_iald (f := M.1 92) mm_73 rfl rfl (by decide) q37 ?_
      obtain ⟨e1, rfl⟩ : ∃ e1, e = e1 + 1 := ⟨e - 1, by omega⟩
      cases hc40 : F70 n (M.1 92 (x3 : Int32).toNatClampNeg) M with
      | none => rw [hc40] at h; cases h
      | some w =>
        obtain ⟨v38, M39⟩ := w
        rw [hc40] at h
        dsimp only at h
        refine pe_virt (al := [.int (M.1 92 (x3 : Int32).toNatClampNeg)]) (a := 83) (L0 := [some (.ref 83), some (.int (M.1 92 (x3 : Int32).toNatClampNeg)), none, none]) (r1 := (none, 129, 17845, hp M39)) mm_73 rfl rfl rfl mm_70 rfl (by decide) (by decide) rfl (Nat.le_of_ble_eq_true rfl) (Nat.le_of_ble_eq_true rfl) rfl rfl (F70_ev sc n (M.1 92 (x3 : Int32).toNatClampNeg) _ e1 (by omega) _ _ hc40) ?_
        show pm_ev _ _ _ _ _ (187, [some (.ref 83), u1, some (.int x2), some (.int x3), some (.int s0)], [], _, _, _) _
        exact J73_187_ev sc n (e1 + 1) he rec36 hr36 x2 x3 s0 _ _ _ _ h
def J73_155 (n : Nat) (rec36 : Int32 → Int32 → Mem → Option (Unit × Mem)) (x2 : Int32) (x3 : Int32) (M : Mem) : Option (Unit × Mem) :=
  if x3 < 0 ∨ 128 ≤ (x3 : Int32).toNatClampNeg then none else (if (M.1 90 (x3 : Int32).toNatClampNeg) = 5 then (J73_170 n rec36 x2 x3 1 M) else (J73_170 n rec36 x2 x3 0 M))
set_option maxRecDepth 100000 in
set_option maxHeartbeats 4000000 in
theorem J73_155_ev (sc : Option (Nat × (Nat → Int32))) (n : Nat)  (e : Nat) (he : 4 ≤ e) (rec36 : Int32 → Int32 → Mem → Option (Unit × Mem)) (hr36 : ∀ (x1 : Int32) (x2 : Int32) (u3 : Option Value) (u4 : Option Value) (M : Mem) (r : Unit) (M' : Mem), rec36 x1 x2 M = some (r, M') → pm_ev pmT sc e 73 false (36, [some (.ref 83), some (.int x1), some (.int x2), u3, u4], [], 129, 17845, hp M) (none, 129, 17845, hp M')) : ∀ (x2 : Int32) (x3 : Int32) (u1 : Option Value) (u4 : Option Value) (M : Mem) (r : Unit) (M' : Mem), J73_155 n rec36 x2 x3 M = some (r, M') → pm_ev pmT sc e 73 false (155, [some (.ref 83), u1, some (.int x2), some (.int x3), u4], [], 129, 17845, hp M) (none, 129, 17845, hp M') := by
  intro x2 x3 u1 u4 M r M' h
  unfold J73_155 at h
  refine pe_blk mm_73 1 (s' := (156, [some (.ref 83), u1, some (.int x2), some (.int x3), u4], [.ref 83], _, _, _)) rfl ?_
  refine pe_get mm_73 rfl rfl rfl (by decide) rfl ?_
  refine pe_blk mm_73 1 (s' := (160, [some (.ref 83), u1, some (.int x2), some (.int x3), u4], [.int x3, .ref 90], _, _, _)) rfl ?_
  by_cases q32 : x3 < 0 ∨ 128 ≤ (x3 : Int32).toNatClampNeg
  · rw [if_pos q32] at h
    cases h
  · rw [if_neg q32] at h
    refine pe_iald (f := M.1 90) mm_73 rfl rfl (by decide) q32 ?_
    refine pe_blk mm_73 1 (s' := (162, [some (.ref 83), u1, some (.int x2), some (.int x3), u4], [.int 5, .int (M.1 90 (x3 : Int32).toNatClampNeg)], _, _, _)) rfl ?_
    by_cases q33 : (M.1 90 (x3 : Int32).toNatClampNeg) = 5
    · rw [if_pos q33] at h
      refine pe_blk mm_73 1 (s' := (if (M.1 90 (x3 : Int32).toNatClampNeg) = 5 then 165 else 169, [some (.ref 83), u1, some (.int x2), some (.int x3), u4], [], _, _, _)) rfl ?_
      rw [if_pos q33]
      refine pe_blk mm_73 2 (s' := (170, [some (.ref 83), u1, some (.int x2), some (.int x3), u4], [.int 1], _, _, _)) rfl ?_
      exact J73_170_ev sc n e he rec36 hr36 x2 x3 1 _ _ _ _ _ h
    · rw [if_neg q33] at h
      refine pe_blk mm_73 1 (s' := (if (M.1 90 (x3 : Int32).toNatClampNeg) = 5 then 165 else 169, [some (.ref 83), u1, some (.int x2), some (.int x3), u4], [], _, _, _)) rfl ?_
      rw [if_neg q33]
      refine pe_blk mm_73 1 (s' := (170, [some (.ref 83), u1, some (.int x2), some (.int x3), u4], [.int 0], _, _, _)) rfl ?_
      exact J73_170_ev sc n e he rec36 hr36 x2 x3 0 _ _ _ _ _ h
def J73_145 (n : Nat) (rec36 : Int32 → Int32 → Mem → Option (Unit × Mem)) (x2 : Int32) (x3 : Int32) (M : Mem) : Option (Unit × Mem) :=
  mlet (m_i M 83 56 ((M.1 83 56) + 1)) (fun M31 => J73_155 n rec36 x2 x3 M31)
set_option maxRecDepth 100000 in
set_option maxHeartbeats 4000000 in
theorem J73_145_ev (sc : Option (Nat × (Nat → Int32))) (n : Nat)  (e : Nat) (he : 4 ≤ e) (rec36 : Int32 → Int32 → Mem → Option (Unit × Mem)) (hr36 : ∀ (x1 : Int32) (x2 : Int32) (u3 : Option Value) (u4 : Option Value) (M : Mem) (r : Unit) (M' : Mem), rec36 x1 x2 M = some (r, M') → pm_ev pmT sc e 73 false (36, [some (.ref 83), some (.int x1), some (.int x2), u3, u4], [], 129, 17845, hp M) (none, 129, 17845, hp M')) : ∀ (x2 : Int32) (x3 : Int32) (u1 : Option Value) (u4 : Option Value) (M : Mem) (r : Unit) (M' : Mem), J73_145 n rec36 x2 x3 M = some (r, M') → pm_ev pmT sc e 73 false (145, [some (.ref 83), u1, some (.int x2), some (.int x3), u4], [], 129, 17845, hp M) (none, 129, 17845, hp M') := by
  intro x2 x3 u1 u4 M r M' h
  unfold J73_145 at h
  refine pe_blk mm_73 2 (s' := (147, [some (.ref 83), u1, some (.int x2), some (.int x3), u4], [.ref 83, .ref 83], _, _, _)) rfl ?_
  refine pe_get mm_73 rfl rfl rfl (by decide) rfl ?_
  refine pe_blk mm_73 2 (s' := (152, [some (.ref 83), u1, some (.int x2), some (.int x3), u4], [.int ((M.1 83 56) + 1), .ref 83], _, _, _)) rfl ?_
  refine pe_puti mm_73 rfl rfl rfl (by decide) (Nat.le_of_ble_eq_true rfl) rfl rfl ?_
  show pm_ev _ _ _ _ _ (155, [some (.ref 83), u1, some (.int x2), some (.int x3), u4], [], _, _, hp (m_i M 83 56 ((M.1 83 56) + 1))) _
  generalize m_i M 83 56 ((M.1 83 56) + 1) = M31 at h ⊢
  rw [mlet] at h
  exact J73_155_ev sc n e he rec36 hr36 x2 x3 _ _ _ _ _ h
def J73_115 (n : Nat) (rec36 : Int32 → Int32 → Mem → Option (Unit × Mem)) (x2 : Int32) (x3 : Int32) (M : Mem) : Option (Unit × Mem) :=
  if x2 < 0 ∨ 161 ≤ (x2 : Int32).toNatClampNeg then none else (if (M.1 83 56) < 0 ∨ 160 ≤ (M.1 83 56 : Int32).toNatClampNeg then none else (mlet (m_i M 125 (M.1 83 56 : Int32).toNatClampNeg (M.1 112 (x2 : Int32).toNatClampNeg)) (fun M27 => if x2 < 0 ∨ 161 ≤ (x2 : Int32).toNatClampNeg then none else (if (M27.1 83 56) < 0 ∨ 160 ≤ (M27.1 83 56 : Int32).toNatClampNeg then none else (mlet (m_i M27 126 (M27.1 83 56 : Int32).toNatClampNeg (M27.1 113 (x2 : Int32).toNatClampNeg)) (fun M30 => J73_145 n rec36 x2 x3 M30))))))
set_option maxRecDepth 100000 in
set_option maxHeartbeats 4000000 in
theorem J73_115_ev (sc : Option (Nat × (Nat → Int32))) (n : Nat)  (e : Nat) (he : 4 ≤ e) (rec36 : Int32 → Int32 → Mem → Option (Unit × Mem)) (hr36 : ∀ (x1 : Int32) (x2 : Int32) (u3 : Option Value) (u4 : Option Value) (M : Mem) (r : Unit) (M' : Mem), rec36 x1 x2 M = some (r, M') → pm_ev pmT sc e 73 false (36, [some (.ref 83), some (.int x1), some (.int x2), u3, u4], [], 129, 17845, hp M) (none, 129, 17845, hp M')) : ∀ (x2 : Int32) (x3 : Int32) (u1 : Option Value) (u4 : Option Value) (M : Mem) (r : Unit) (M' : Mem), J73_115 n rec36 x2 x3 M = some (r, M') → pm_ev pmT sc e 73 false (115, [some (.ref 83), u1, some (.int x2), some (.int x3), u4], [], 129, 17845, hp M) (none, 129, 17845, hp M') := by
  intro x2 x3 u1 u4 M r M' h
  unfold J73_115 at h
  refine pe_blk mm_73 1 (s' := (116, [some (.ref 83), u1, some (.int x2), some (.int x3), u4], [.ref 83], _, _, _)) rfl ?_
  refine pe_get mm_73 rfl rfl rfl (by decide) rfl ?_
  refine pe_blk mm_73 1 (s' := (120, [some (.ref 83), u1, some (.int x2), some (.int x3), u4], [.ref 83, .ref 125], _, _, _)) rfl ?_
  refine pe_get mm_73 rfl rfl rfl (by decide) rfl ?_
  refine pe_blk mm_73 1 (s' := (124, [some (.ref 83), u1, some (.int x2), some (.int x3), u4], [.ref 83, .int (M.1 83 56), .ref 125], _, _, _)) rfl ?_
  refine pe_get mm_73 rfl rfl rfl (by decide) rfl ?_
  refine pe_blk mm_73 1 (s' := (128, [some (.ref 83), u1, some (.int x2), some (.int x3), u4], [.int x2, .ref 112, .int (M.1 83 56), .ref 125], _, _, _)) rfl ?_
  by_cases q25 : x2 < 0 ∨ 161 ≤ (x2 : Int32).toNatClampNeg
  · rw [if_pos q25] at h
    cases h
  · rw [if_neg q25] at h
    refine pe_iald (f := M.1 112) mm_73 rfl rfl (by decide) q25 ?_
    by_cases q26 : (M.1 83 56) < 0 ∨ 160 ≤ (M.1 83 56 : Int32).toNatClampNeg
    · rw [if_pos q26] at h
      cases h
    · rw [if_neg q26] at h
      refine pe_iasti mm_73 rfl rfl (by decide) q26 rfl ?_
      show pm_ev _ _ _ _ _ (130, [some (.ref 83), u1, some (.int x2), some (.int x3), u4], [], _, _, hp (m_i M 125 (M.1 83 56 : Int32).toNatClampNeg (M.1 112 (x2 : Int32).toNatClampNeg))) _
      generalize m_i M 125 (M.1 83 56 : Int32).toNatClampNeg (M.1 112 (x2 : Int32).toNatClampNeg) = M27 at h ⊢
      rw [mlet] at h
      refine pe_blk mm_73 1 (s' := (131, [some (.ref 83), u1, some (.int x2), some (.int x3), u4], [.ref 83], _, _, _)) rfl ?_
      refine pe_get mm_73 rfl rfl rfl (by decide) rfl ?_
      refine pe_blk mm_73 1 (s' := (135, [some (.ref 83), u1, some (.int x2), some (.int x3), u4], [.ref 83, .ref 126], _, _, _)) rfl ?_
      refine pe_get mm_73 rfl rfl rfl (by decide) rfl ?_
      refine pe_blk mm_73 1 (s' := (139, [some (.ref 83), u1, some (.int x2), some (.int x3), u4], [.ref 83, .int (M27.1 83 56), .ref 126], _, _, _)) rfl ?_
      refine pe_get mm_73 rfl rfl rfl (by decide) rfl ?_
      refine pe_blk mm_73 1 (s' := (143, [some (.ref 83), u1, some (.int x2), some (.int x3), u4], [.int x2, .ref 113, .int (M27.1 83 56), .ref 126], _, _, _)) rfl ?_
      by_cases q28 : x2 < 0 ∨ 161 ≤ (x2 : Int32).toNatClampNeg
      · rw [if_pos q28] at h
        cases h
      · rw [if_neg q28] at h
        refine pe_iald (f := M27.1 113) mm_73 rfl rfl (by decide) q28 ?_
        by_cases q29 : (M27.1 83 56) < 0 ∨ 160 ≤ (M27.1 83 56 : Int32).toNatClampNeg
        · rw [if_pos q29] at h
          cases h
        · rw [if_neg q29] at h
          refine pe_iasti mm_73 rfl rfl (by decide) q29 rfl ?_
          show pm_ev _ _ _ _ _ (145, [some (.ref 83), u1, some (.int x2), some (.int x3), u4], [], _, _, hp (m_i M27 126 (M27.1 83 56 : Int32).toNatClampNeg (M27.1 113 (x2 : Int32).toNatClampNeg))) _
          generalize m_i M27 126 (M27.1 83 56 : Int32).toNatClampNeg (M27.1 113 (x2 : Int32).toNatClampNeg) = M30 at h ⊢
          rw [mlet] at h
          exact J73_145_ev sc n e he rec36 hr36 x2 x3 _ _ _ _ _ h
def J73_96 (n : Nat) (rec36 : Int32 → Int32 → Mem → Option (Unit × Mem)) (x2 : Int32) (x3 : Int32) (M : Mem) : Option (Unit × Mem) :=
  if x3 < 0 ∨ 128 ≤ (x3 : Int32).toNatClampNeg then none else (match F72 n (M.1 96 (x3 : Int32).toNatClampNeg) M with | some (v20, M21) => (if (M.1 83 56) < 0 ∨ 160 ≤ (M.1 83 56 : Int32).toNatClampNeg then none else (mlet (m_i M21 124 (M.1 83 56 : Int32).toNatClampNeg v20) (fun M24 => J73_115 n rec36 x2 x3 M24))) | none => none)
set_option maxRecDepth 100000 in
set_option maxHeartbeats 4000000 in
theorem J73_96_ev (sc : Option (Nat × (Nat → Int32))) (n : Nat)  (e : Nat) (he : 4 ≤ e) (rec36 : Int32 → Int32 → Mem → Option (Unit × Mem)) (hr36 : ∀ (x1 : Int32) (x2 : Int32) (u3 : Option Value) (u4 : Option Value) (M : Mem) (r : Unit) (M' : Mem), rec36 x1 x2 M = some (r, M') → pm_ev pmT sc e 73 false (36, [some (.ref 83), some (.int x1), some (.int x2), u3, u4], [], 129, 17845, hp M) (none, 129, 17845, hp M')) : ∀ (x2 : Int32) (x3 : Int32) (u1 : Option Value) (u4 : Option Value) (M : Mem) (r : Unit) (M' : Mem), J73_96 n rec36 x2 x3 M = some (r, M') → pm_ev pmT sc e 73 false (96, [some (.ref 83), u1, some (.int x2), some (.int x3), u4], [], 129, 17845, hp M) (none, 129, 17845, hp M') := by
  intro x2 x3 u1 u4 M r M' h
  unfold J73_96 at h
  refine pe_blk mm_73 1 (s' := (97, [some (.ref 83), u1, some (.int x2), some (.int x3), u4], [.ref 83], _, _, _)) rfl ?_
  refine pe_get mm_73 rfl rfl rfl (by decide) rfl ?_
  refine pe_blk mm_73 1 (s' := (101, [some (.ref 83), u1, some (.int x2), some (.int x3), u4], [.ref 83, .ref 124], _, _, _)) rfl ?_
  refine pe_get mm_73 rfl rfl rfl (by decide) rfl ?_
  refine pe_blk mm_73 2 (s' := (106, [some (.ref 83), u1, some (.int x2), some (.int x3), u4], [.ref 83, .ref 83, .int (M.1 83 56), .ref 124], _, _, _)) rfl ?_
  refine pe_get mm_73 rfl rfl rfl (by decide) rfl ?_
  refine pe_blk mm_73 1 (s' := (110, [some (.ref 83), u1, some (.int x2), some (.int x3), u4], [.int x3, .ref 96, .ref 83, .int (M.1 83 56), .ref 124], _, _, _)) rfl ?_
  by_cases q19 : x3 < 0 ∨ 128 ≤ (x3 : Int32).toNatClampNeg
  · rw [if_pos q19] at h
    cases h
  · rw [if_neg q19] at h
    refine pe_iald (f := M.1 96) mm_73 rfl rfl (by decide) q19 ?_
    obtain ⟨e1, rfl⟩ : ∃ e1, e = e1 + 1 := ⟨e - 1, by omega⟩
    cases hc22 : F72 n (M.1 96 (x3 : Int32).toNatClampNeg) M with
    | none => rw [hc22] at h; cases h
    | some w =>
      obtain ⟨v20, M21⟩ := w
      rw [hc22] at h
      dsimp only at h
      refine pe_virt (al := [.int (M.1 96 (x3 : Int32).toNatClampNeg)]) (a := 83) (L0 := [some (.ref 83), some (.int (M.1 96 (x3 : Int32).toNatClampNeg))]) (r1 := (some (.int v20), 129, 17845, hp M21)) mm_73 rfl rfl rfl mm_72 rfl (by decide) (by decide) rfl (Nat.le_of_ble_eq_true rfl) (Nat.le_of_ble_eq_true rfl) rfl rfl (F72_ev sc n (M.1 96 (x3 : Int32).toNatClampNeg) _ e1 (by omega) _ _ hc22) ?_
      show pm_ev _ _ _ _ _ (114, [some (.ref 83), u1, some (.int x2), some (.int x3), u4], [.int v20, .int (M.1 83 56), .ref 124], _, _, _) _
      by_cases q23 : (M.1 83 56) < 0 ∨ 160 ≤ (M.1 83 56 : Int32).toNatClampNeg
      · rw [if_pos q23] at h
        cases h
      · rw [if_neg q23] at h
        refine pe_iasti mm_73 rfl rfl (by decide) q23 rfl ?_
        show pm_ev _ _ _ _ _ (115, [some (.ref 83), u1, some (.int x2), some (.int x3), u4], [], _, _, hp (m_i M21 124 (M.1 83 56 : Int32).toNatClampNeg v20)) _
        generalize m_i M21 124 (M.1 83 56 : Int32).toNatClampNeg v20 = M24 at h ⊢
        rw [mlet] at h
        exact J73_115_ev sc n (e1 + 1) he rec36 hr36 x2 x3 _ _ _ _ _ h
def J73_77 (n : Nat) (rec36 : Int32 → Int32 → Mem → Option (Unit × Mem)) (x2 : Int32) (x3 : Int32) (M : Mem) : Option (Unit × Mem) :=
  if x3 < 0 ∨ 128 ≤ (x3 : Int32).toNatClampNeg then none else (match F72 n (M.1 95 (x3 : Int32).toNatClampNeg) M with | some (v14, M15) => (if (M.1 83 56) < 0 ∨ 160 ≤ (M.1 83 56 : Int32).toNatClampNeg then none else (mlet (m_i M15 123 (M.1 83 56 : Int32).toNatClampNeg v14) (fun M18 => J73_96 n rec36 x2 x3 M18))) | none => none)
set_option maxRecDepth 100000 in
set_option maxHeartbeats 4000000 in
theorem J73_77_ev (sc : Option (Nat × (Nat → Int32))) (n : Nat)  (e : Nat) (he : 4 ≤ e) (rec36 : Int32 → Int32 → Mem → Option (Unit × Mem)) (hr36 : ∀ (x1 : Int32) (x2 : Int32) (u3 : Option Value) (u4 : Option Value) (M : Mem) (r : Unit) (M' : Mem), rec36 x1 x2 M = some (r, M') → pm_ev pmT sc e 73 false (36, [some (.ref 83), some (.int x1), some (.int x2), u3, u4], [], 129, 17845, hp M) (none, 129, 17845, hp M')) : ∀ (x2 : Int32) (x3 : Int32) (u1 : Option Value) (u4 : Option Value) (M : Mem) (r : Unit) (M' : Mem), J73_77 n rec36 x2 x3 M = some (r, M') → pm_ev pmT sc e 73 false (77, [some (.ref 83), u1, some (.int x2), some (.int x3), u4], [], 129, 17845, hp M) (none, 129, 17845, hp M') := by
  intro x2 x3 u1 u4 M r M' h
  unfold J73_77 at h
  refine pe_blk mm_73 1 (s' := (78, [some (.ref 83), u1, some (.int x2), some (.int x3), u4], [.ref 83], _, _, _)) rfl ?_
  refine pe_get mm_73 rfl rfl rfl (by decide) rfl ?_
  refine pe_blk mm_73 1 (s' := (82, [some (.ref 83), u1, some (.int x2), some (.int x3), u4], [.ref 83, .ref 123], _, _, _)) rfl ?_
  refine pe_get mm_73 rfl rfl rfl (by decide) rfl ?_
  refine pe_blk mm_73 2 (s' := (87, [some (.ref 83), u1, some (.int x2), some (.int x3), u4], [.ref 83, .ref 83, .int (M.1 83 56), .ref 123], _, _, _)) rfl ?_
  refine pe_get mm_73 rfl rfl rfl (by decide) rfl ?_
  refine pe_blk mm_73 1 (s' := (91, [some (.ref 83), u1, some (.int x2), some (.int x3), u4], [.int x3, .ref 95, .ref 83, .int (M.1 83 56), .ref 123], _, _, _)) rfl ?_
  by_cases q13 : x3 < 0 ∨ 128 ≤ (x3 : Int32).toNatClampNeg
  · rw [if_pos q13] at h
    cases h
  · rw [if_neg q13] at h
    refine pe_iald (f := M.1 95) mm_73 rfl rfl (by decide) q13 ?_
    obtain ⟨e1, rfl⟩ : ∃ e1, e = e1 + 1 := ⟨e - 1, by omega⟩
    cases hc16 : F72 n (M.1 95 (x3 : Int32).toNatClampNeg) M with
    | none => rw [hc16] at h; cases h
    | some w =>
      obtain ⟨v14, M15⟩ := w
      rw [hc16] at h
      dsimp only at h
      refine pe_virt (al := [.int (M.1 95 (x3 : Int32).toNatClampNeg)]) (a := 83) (L0 := [some (.ref 83), some (.int (M.1 95 (x3 : Int32).toNatClampNeg))]) (r1 := (some (.int v14), 129, 17845, hp M15)) mm_73 rfl rfl rfl mm_72 rfl (by decide) (by decide) rfl (Nat.le_of_ble_eq_true rfl) (Nat.le_of_ble_eq_true rfl) rfl rfl (F72_ev sc n (M.1 95 (x3 : Int32).toNatClampNeg) _ e1 (by omega) _ _ hc16) ?_
      show pm_ev _ _ _ _ _ (95, [some (.ref 83), u1, some (.int x2), some (.int x3), u4], [.int v14, .int (M.1 83 56), .ref 123], _, _, _) _
      by_cases q17 : (M.1 83 56) < 0 ∨ 160 ≤ (M.1 83 56 : Int32).toNatClampNeg
      · rw [if_pos q17] at h
        cases h
      · rw [if_neg q17] at h
        refine pe_iasti mm_73 rfl rfl (by decide) q17 rfl ?_
        show pm_ev _ _ _ _ _ (96, [some (.ref 83), u1, some (.int x2), some (.int x3), u4], [], _, _, hp (m_i M15 123 (M.1 83 56 : Int32).toNatClampNeg v14)) _
        generalize m_i M15 123 (M.1 83 56 : Int32).toNatClampNeg v14 = M18 at h ⊢
        rw [mlet] at h
        exact J73_96_ev sc n (e1 + 1) he rec36 hr36 x2 x3 _ _ _ _ _ h
def J73_57 (n : Nat) (rec36 : Int32 → Int32 → Mem → Option (Unit × Mem)) (x2 : Int32) (x3 : Int32) (M : Mem) : Option (Unit × Mem) :=
  if x3 < 0 ∨ 128 ≤ (x3 : Int32).toNatClampNeg then none else (if (M.1 90 (x3 : Int32).toNatClampNeg) = 3 then (if (M.1 83 56) < 0 ∨ 160 ≤ (M.1 83 56 : Int32).toNatClampNeg then none else (mlet (m_i M 122 (M.1 83 56 : Int32).toNatClampNeg x3) (fun M12 => J73_77 n rec36 x2 x3 M12))) else (J73_155 n rec36 x2 x3 M))
set_option maxRecDepth 100000 in
set_option maxHeartbeats 4000000 in
theorem J73_57_ev (sc : Option (Nat × (Nat → Int32))) (n : Nat)  (e : Nat) (he : 4 ≤ e) (rec36 : Int32 → Int32 → Mem → Option (Unit × Mem)) (hr36 : ∀ (x1 : Int32) (x2 : Int32) (u3 : Option Value) (u4 : Option Value) (M : Mem) (r : Unit) (M' : Mem), rec36 x1 x2 M = some (r, M') → pm_ev pmT sc e 73 false (36, [some (.ref 83), some (.int x1), some (.int x2), u3, u4], [], 129, 17845, hp M) (none, 129, 17845, hp M')) : ∀ (x2 : Int32) (x3 : Int32) (u1 : Option Value) (u4 : Option Value) (M : Mem) (r : Unit) (M' : Mem), J73_57 n rec36 x2 x3 M = some (r, M') → pm_ev pmT sc e 73 false (57, [some (.ref 83), u1, some (.int x2), some (.int x3), u4], [], 129, 17845, hp M) (none, 129, 17845, hp M') := by
  intro x2 x3 u1 u4 M r M' h
  unfold J73_57 at h
  refine pe_blk mm_73 1 (s' := (58, [some (.ref 83), u1, some (.int x2), some (.int x3), u4], [.ref 83], _, _, _)) rfl ?_
  refine pe_get mm_73 rfl rfl rfl (by decide) rfl ?_
  refine pe_blk mm_73 1 (s' := (62, [some (.ref 83), u1, some (.int x2), some (.int x3), u4], [.int x3, .ref 90], _, _, _)) rfl ?_
  by_cases q9 : x3 < 0 ∨ 128 ≤ (x3 : Int32).toNatClampNeg
  · rw [if_pos q9] at h
    cases h
  · rw [if_neg q9] at h
    refine pe_iald (f := M.1 90) mm_73 rfl rfl (by decide) q9 ?_
    refine pe_blk mm_73 1 (s' := (64, [some (.ref 83), u1, some (.int x2), some (.int x3), u4], [.int 3, .int (M.1 90 (x3 : Int32).toNatClampNeg)], _, _, _)) rfl ?_
    by_cases q10 : (M.1 90 (x3 : Int32).toNatClampNeg) = 3
    · rw [if_pos q10] at h
      refine pe_blk mm_73 1 (s' := (if (M.1 90 (x3 : Int32).toNatClampNeg) = 3 then 67 else 155, [some (.ref 83), u1, some (.int x2), some (.int x3), u4], [], _, _, _)) rfl ?_
      rw [if_pos q10]
      refine pe_blk mm_73 1 (s' := (68, [some (.ref 83), u1, some (.int x2), some (.int x3), u4], [.ref 83], _, _, _)) rfl ?_
      refine pe_get mm_73 rfl rfl rfl (by decide) rfl ?_
      refine pe_blk mm_73 1 (s' := (72, [some (.ref 83), u1, some (.int x2), some (.int x3), u4], [.ref 83, .ref 122], _, _, _)) rfl ?_
      refine pe_get mm_73 rfl rfl rfl (by decide) rfl ?_
      refine pe_blk mm_73 1 (s' := (76, [some (.ref 83), u1, some (.int x2), some (.int x3), u4], [.int x3, .int (M.1 83 56), .ref 122], _, _, _)) rfl ?_
      by_cases q11 : (M.1 83 56) < 0 ∨ 160 ≤ (M.1 83 56 : Int32).toNatClampNeg
      · rw [if_pos q11] at h
        cases h
      · rw [if_neg q11] at h
        refine pe_iasti mm_73 rfl rfl (by decide) q11 rfl ?_
        show pm_ev _ _ _ _ _ (77, [some (.ref 83), u1, some (.int x2), some (.int x3), u4], [], _, _, hp (m_i M 122 (M.1 83 56 : Int32).toNatClampNeg x3)) _
        generalize m_i M 122 (M.1 83 56 : Int32).toNatClampNeg x3 = M12 at h ⊢
        rw [mlet] at h
        exact J73_77_ev sc n e he rec36 hr36 x2 x3 _ _ _ _ _ h
    · rw [if_neg q10] at h
      refine pe_blk mm_73 1 (s' := (if (M.1 90 (x3 : Int32).toNatClampNeg) = 3 then 67 else 155, [some (.ref 83), u1, some (.int x2), some (.int x3), u4], [], _, _, _)) rfl ?_
      rw [if_neg q10]
      exact J73_155_ev sc n e he rec36 hr36 x2 x3 _ _ _ _ _ h
def L73_36 (n : Nat) : Nat → Int32 → Int32 → Mem → Option (Unit × Mem)
  | 0, _, _, _ => none
  | k + 1, x1, x2, M => if (M.1 83 40) < x2 then (some ((), M)) else (if x2 < 0 ∨ 162 ≤ (x2 : Int32).toNatClampNeg then none else (match F71 n x1 (M.1 116 (x2 : Int32).toNatClampNeg) M with | some (v6, M7) => (J73_57 n (L73_36 n k) x2 (M.1 116 (x2 : Int32).toNatClampNeg) M7) | none => none))
set_option maxRecDepth 100000 in
set_option maxHeartbeats 4000000 in
theorem L73_36_ev (sc : Option (Nat × (Nat → Int32))) (n : Nat)  (e : Nat) (he : 4 ≤ e) : ∀ k : Nat, ∀ (x1 : Int32) (x2 : Int32) (u3 : Option Value) (u4 : Option Value) (M : Mem) (r : Unit) (M' : Mem), L73_36 n k x1 x2 M = some (r, M') → pm_ev pmT sc e 73 false (36, [some (.ref 83), some (.int x1), some (.int x2), u3, u4], [], 129, 17845, hp M) (none, 129, 17845, hp M') := by
  intro k
  induction k with
  | zero => intro x1 x2 u3 u4 M r M' h; cases h
  | succ k hr36 =>
    intro x1 x2 u3 u4 M r M' h
    rw [L73_36] at h
    refine pe_blk mm_73 2 (s' := (38, [some (.ref 83), some (.int x1), some (.int x2), u3, u4], [.ref 83, .int x2], _, _, _)) rfl ?_
    refine pe_get mm_73 rfl rfl rfl (by decide) rfl ?_
    by_cases q4 : (M.1 83 40) < x2
    · rw [if_pos q4] at h
      refine pe_blk mm_73 1 (s' := (if (M.1 83 40) < x2 then 213 else 44, [some (.ref 83), some (.int x1), some (.int x2), u3, u4], [], _, _, _)) rfl ?_
      rw [if_pos q4]
      cases h
      exact pe_ret mm_73 rfl rfl
    · rw [if_neg q4] at h
      refine pe_blk mm_73 1 (s' := (if (M.1 83 40) < x2 then 213 else 44, [some (.ref 83), some (.int x1), some (.int x2), u3, u4], [], _, _, _)) rfl ?_
      rw [if_neg q4]
      refine pe_blk mm_73 1 (s' := (45, [some (.ref 83), some (.int x1), some (.int x2), u3, u4], [.ref 83], _, _, _)) rfl ?_
      refine pe_get mm_73 rfl rfl rfl (by decide) rfl ?_
      refine pe_blk mm_73 1 (s' := (49, [some (.ref 83), some (.int x1), some (.int x2), u3, u4], [.int x2, .ref 116], _, _, _)) rfl ?_
      by_cases q5 : x2 < 0 ∨ 162 ≤ (x2 : Int32).toNatClampNeg
      · rw [if_pos q5] at h
        cases h
      · rw [if_neg q5] at h
        refine pe_iald (f := M.1 116) mm_73 rfl rfl (by decide) q5 ?_
        refine pe_blk mm_73 4 (s' := (54, [some (.ref 83), some (.int x1), some (.int x2), some (.int (M.1 116 (x2 : Int32).toNatClampNeg)), u4], [.int (M.1 116 (x2 : Int32).toNatClampNeg), .int x1, .ref 83], _, _, _)) rfl ?_
        obtain ⟨e1, rfl⟩ : ∃ e1, e = e1 + 1 := ⟨e - 1, by omega⟩
        cases hc8 : F71 n x1 (M.1 116 (x2 : Int32).toNatClampNeg) M with
        | none => rw [hc8] at h; cases h
        | some w =>
          obtain ⟨v6, M7⟩ := w
          rw [hc8] at h
          dsimp only at h
          refine pe_virt (al := [.int (M.1 116 (x2 : Int32).toNatClampNeg), .int x1]) (a := 83) (L0 := [some (.ref 83), some (.int x1), some (.int (M.1 116 (x2 : Int32).toNatClampNeg)), none, none, none, none, none, none]) (r1 := (none, 129, 17845, hp M7)) mm_73 rfl rfl rfl mm_71 rfl (by decide) (by decide) rfl (Nat.le_of_ble_eq_true rfl) (Nat.le_of_ble_eq_true rfl) rfl rfl (F71_ev sc n x1 (M.1 116 (x2 : Int32).toNatClampNeg) _ e1 (by omega) _ _ hc8) ?_
          show pm_ev _ _ _ _ _ (57, [some (.ref 83), some (.int x1), some (.int x2), some (.int (M.1 116 (x2 : Int32).toNatClampNeg)), u4], [], _, _, _) _
          exact J73_57_ev sc n (e1 + 1) he (L73_36 n k) hr36 x2 (M.1 116 (x2 : Int32).toNatClampNeg) _ _ _ _ _ h
def L73_2 (n : Nat) : Nat → Int32 → Mem → Option (Unit × Mem)
  | 0, _, _ => none
  | k + 1, x1, M => if 128 ≤ x1 then (mlet (m_i M 83 52 0) (fun M2 => mlet (m_i M2 83 56 0) (fun M3 => L73_36 n n 0 0 M3))) else (if x1 < 0 ∨ 128 ≤ (x1 : Int32).toNatClampNeg then none else (mlet (m_i M 118 (x1 : Int32).toNatClampNeg 0) (fun M42 => (L73_2 n k) (x1 + 1) M42)))
set_option maxRecDepth 100000 in
set_option maxHeartbeats 4000000 in
theorem L73_2_ev (sc : Option (Nat × (Nat → Int32))) (n : Nat)  (e : Nat) (he : 4 ≤ e) : ∀ k : Nat, ∀ (x1 : Int32) (u2 : Option Value) (u3 : Option Value) (u4 : Option Value) (M : Mem) (r : Unit) (M' : Mem), L73_2 n k x1 M = some (r, M') → pm_ev pmT sc e 73 false (2, [some (.ref 83), some (.int x1), u2, u3, u4], [], 129, 17845, hp M) (none, 129, 17845, hp M') := by
  intro k
  induction k with
  | zero => intro x1 u2 u3 u4 M r M' h; cases h
  | succ k hr2 =>
    intro x1 u2 u3 u4 M r M' h
    rw [L73_2] at h
    refine pe_blk mm_73 2 (s' := (6, [some (.ref 83), some (.int x1), u2, u3, u4], [.int 128, .int x1], _, _, _)) rfl ?_
    by_cases q1 : 128 ≤ x1
    · rw [if_pos q1] at h
      refine pe_blk mm_73 1 (s' := (if 128 ≤ x1 then 22 else 9, [some (.ref 83), some (.int x1), u2, u3, u4], [], _, _, _)) rfl ?_
      rw [if_pos q1]
      refine pe_blk mm_73 2 (s' := (24, [some (.ref 83), some (.int x1), u2, u3, u4], [.int 0, .ref 83], _, _, _)) rfl ?_
      refine pe_puti mm_73 rfl rfl rfl (by decide) (Nat.le_of_ble_eq_true rfl) rfl rfl ?_
      show pm_ev _ _ _ _ _ (27, [some (.ref 83), some (.int x1), u2, u3, u4], [], _, _, hp (m_i M 83 52 0)) _
      generalize m_i M 83 52 0 = M2 at h ⊢
      rw [mlet] at h
      refine pe_blk mm_73 2 (s' := (29, [some (.ref 83), some (.int x1), u2, u3, u4], [.int 0, .ref 83], _, _, _)) rfl ?_
      refine pe_puti mm_73 rfl rfl rfl (by decide) (Nat.le_of_ble_eq_true rfl) rfl rfl ?_
      show pm_ev _ _ _ _ _ (32, [some (.ref 83), some (.int x1), u2, u3, u4], [], _, _, hp (m_i M2 83 56 0)) _
      generalize m_i M2 83 56 0 = M3 at h ⊢
      rw [mlet] at h
      refine pe_blk mm_73 4 (s' := (36, [some (.ref 83), some (.int 0), some (.int 0), u3, u4], [], _, _, _)) rfl ?_
      exact L73_36_ev sc n e he n 0 0 _ _ _ _ _ h
    · rw [if_neg q1] at h
      refine pe_blk mm_73 1 (s' := (if 128 ≤ x1 then 22 else 9, [some (.ref 83), some (.int x1), u2, u3, u4], [], _, _, _)) rfl ?_
      rw [if_neg q1]
      refine pe_blk mm_73 1 (s' := (10, [some (.ref 83), some (.int x1), u2, u3, u4], [.ref 83], _, _, _)) rfl ?_
      refine pe_get mm_73 rfl rfl rfl (by decide) rfl ?_
      refine pe_blk mm_73 2 (s' := (15, [some (.ref 83), some (.int x1), u2, u3, u4], [.int 0, .int x1, .ref 118], _, _, _)) rfl ?_
      by_cases q41 : x1 < 0 ∨ 128 ≤ (x1 : Int32).toNatClampNeg
      · rw [if_pos q41] at h
        cases h
      · rw [if_neg q41] at h
        refine pe_iasti mm_73 rfl rfl (by decide) q41 rfl ?_
        show pm_ev _ _ _ _ _ (16, [some (.ref 83), some (.int x1), u2, u3, u4], [], _, _, hp (m_i M 118 (x1 : Int32).toNatClampNeg 0)) _
        generalize m_i M 118 (x1 : Int32).toNatClampNeg 0 = M42 at h ⊢
        rw [mlet] at h
        refine pe_blk mm_73 2 (s' := (2, [some (.ref 83), some (.int (x1 + 1)), u2, u3, u4], [], _, _, _)) rfl ?_
        exact hr2 (x1 + 1) _ _ _ _ _ _ h
/-- ArmExpanderModel.follow -/
def F73 (n : Nat) (M : Mem) : Option (Unit × Mem) :=
  L73_2 n n 0 M
set_option maxRecDepth 100000 in
set_option maxHeartbeats 4000000 in
theorem F73_ev (sc : Option (Nat × (Nat → Int32))) (n : Nat)  (M : Mem) (e : Nat) (he : 4 ≤ e) (r : Unit) (M' : Mem) (h : F73 n M = some (r, M')) : pm_ev pmT sc e 73 false (0, [some (.ref 83), none, none, none, none], [], 129, 17845, hp M) (none, 129, 17845, hp M') := by
  unfold F73 at h
  refine pe_blk mm_73 2 (s' := (2, [some (.ref 83), some (.int 0), none, none, none], [], _, _, _)) rfl ?_
  exact L73_2_ev sc n e he n 0 _ _ _ _ _ _ h
def J74_30 (n : Nat) (M : Mem) : Option (Unit × Mem) :=
  mlet (m_i M 83 62 ((M.1 83 62) + 1)) (fun M2 => some ((), M2))
set_option maxRecDepth 100000 in
set_option maxHeartbeats 4000000 in
theorem J74_30_ev (sc : Option (Nat × (Nat → Int32))) (n : Nat)  (e : Nat) (he : 1 ≤ e) : ∀ (u1 : Option Value) (u2 : Option Value) (M : Mem) (r : Unit) (M' : Mem), J74_30 n  M = some (r, M') → pm_ev pmT sc e 74 false (30, [some (.ref 83), u1, u2], [], 129, 17845, hp M) (none, 129, 17845, hp M') := by
  intro u1 u2 M r M' h
  unfold J74_30 at h
  refine pe_blk mm_74 2 (s' := (32, [some (.ref 83), u1, u2], [.ref 83, .ref 83], _, _, _)) rfl ?_
  refine pe_get mm_74 rfl rfl rfl (by decide) rfl ?_
  refine pe_blk mm_74 2 (s' := (37, [some (.ref 83), u1, u2], [.int ((M.1 83 62) + 1), .ref 83], _, _, _)) rfl ?_
  refine pe_puti mm_74 rfl rfl rfl (by decide) (Nat.le_of_ble_eq_true rfl) rfl rfl ?_
  show pm_ev _ _ _ _ _ (40, [some (.ref 83), u1, u2], [], _, _, hp (m_i M 83 62 ((M.1 83 62) + 1))) _
  generalize m_i M 83 62 ((M.1 83 62) + 1) = M2 at h ⊢
  rw [mlet] at h
  cases h
  exact pe_ret mm_74 rfl rfl
def J74_20 (n : Nat) (x2 : Int32) (M : Mem) : Option (Unit × Mem) :=
  if (M.1 83 62) < 0 ∨ 160 ≤ (M.1 83 62 : Int32).toNatClampNeg then none else (mlet (m_i M 128 (M.1 83 62 : Int32).toNatClampNeg x2) (fun M6 => J74_30 n M6))
set_option maxRecDepth 100000 in
set_option maxHeartbeats 4000000 in
theorem J74_20_ev (sc : Option (Nat × (Nat → Int32))) (n : Nat)  (e : Nat) (he : 1 ≤ e) : ∀ (x2 : Int32) (u1 : Option Value) (M : Mem) (r : Unit) (M' : Mem), J74_20 n x2 M = some (r, M') → pm_ev pmT sc e 74 false (20, [some (.ref 83), u1, some (.int x2)], [], 129, 17845, hp M) (none, 129, 17845, hp M') := by
  intro x2 u1 M r M' h
  unfold J74_20 at h
  refine pe_blk mm_74 1 (s' := (21, [some (.ref 83), u1, some (.int x2)], [.ref 83], _, _, _)) rfl ?_
  refine pe_get mm_74 rfl rfl rfl (by decide) rfl ?_
  refine pe_blk mm_74 1 (s' := (25, [some (.ref 83), u1, some (.int x2)], [.ref 83, .ref 128], _, _, _)) rfl ?_
  refine pe_get mm_74 rfl rfl rfl (by decide) rfl ?_
  refine pe_blk mm_74 1 (s' := (29, [some (.ref 83), u1, some (.int x2)], [.int x2, .int (M.1 83 62), .ref 128], _, _, _)) rfl ?_
  by_cases q5 : (M.1 83 62) < 0 ∨ 160 ≤ (M.1 83 62 : Int32).toNatClampNeg
  · rw [if_pos q5] at h
    cases h
  · rw [if_neg q5] at h
    refine pe_iasti mm_74 rfl rfl (by decide) q5 rfl ?_
    show pm_ev _ _ _ _ _ (30, [some (.ref 83), u1, some (.int x2)], [], _, _, hp (m_i M 128 (M.1 83 62 : Int32).toNatClampNeg x2)) _
    generalize m_i M 128 (M.1 83 62 : Int32).toNatClampNeg x2 = M6 at h ⊢
    rw [mlet] at h
    exact J74_30_ev sc n e he _ _ _ _ _ h
/-- ArmExpanderModel.make -/
def F74 (n : Nat) (a0 : Int32) (a1 : Int32) (M : Mem) : Option (Unit × Mem) :=
  if 160 ≤ (M.1 83 62) then (J74_30 n M) else (if (M.1 83 62) < 0 ∨ 160 ≤ (M.1 83 62 : Int32).toNatClampNeg then none else (mlet (m_i M 127 (M.1 83 62 : Int32).toNatClampNeg a0) (fun M4 => J74_20 n a1 M4)))
set_option maxRecDepth 100000 in
set_option maxHeartbeats 4000000 in
theorem F74_ev (sc : Option (Nat × (Nat → Int32))) (n : Nat) (a0 : Int32) (a1 : Int32)  (M : Mem) (e : Nat) (he : 1 ≤ e) (r : Unit) (M' : Mem) (h : F74 n a0 a1 M = some (r, M')) : pm_ev pmT sc e 74 false (0, [some (.ref 83), some (.int a0), some (.int a1)], [], 129, 17845, hp M) (none, 129, 17845, hp M') := by
  unfold F74 at h
  refine pe_blk mm_74 1 (s' := (1, [some (.ref 83), some (.int a0), some (.int a1)], [.ref 83], _, _, _)) rfl ?_
  refine pe_get mm_74 rfl rfl rfl (by decide) rfl ?_
  refine pe_blk mm_74 1 (s' := (7, [some (.ref 83), some (.int a0), some (.int a1)], [.int 160, .int (M.1 83 62)], _, _, _)) rfl ?_
  by_cases q1 : 160 ≤ (M.1 83 62)
  · rw [if_pos q1] at h
    refine pe_blk mm_74 1 (s' := (if 160 ≤ (M.1 83 62) then 30 else 10, [some (.ref 83), some (.int a0), some (.int a1)], [], _, _, _)) rfl ?_
    rw [if_pos q1]
    exact J74_30_ev sc n e he _ _ _ _ _ h
  · rw [if_neg q1] at h
    refine pe_blk mm_74 1 (s' := (if 160 ≤ (M.1 83 62) then 30 else 10, [some (.ref 83), some (.int a0), some (.int a1)], [], _, _, _)) rfl ?_
    rw [if_neg q1]
    refine pe_blk mm_74 1 (s' := (11, [some (.ref 83), some (.int a0), some (.int a1)], [.ref 83], _, _, _)) rfl ?_
    refine pe_get mm_74 rfl rfl rfl (by decide) rfl ?_
    refine pe_blk mm_74 1 (s' := (15, [some (.ref 83), some (.int a0), some (.int a1)], [.ref 83, .ref 127], _, _, _)) rfl ?_
    refine pe_get mm_74 rfl rfl rfl (by decide) rfl ?_
    refine pe_blk mm_74 1 (s' := (19, [some (.ref 83), some (.int a0), some (.int a1)], [.int a0, .int (M.1 83 62), .ref 127], _, _, _)) rfl ?_
    by_cases q3 : (M.1 83 62) < 0 ∨ 160 ≤ (M.1 83 62 : Int32).toNatClampNeg
    · rw [if_pos q3] at h
      cases h
    · rw [if_neg q3] at h
      refine pe_iasti mm_74 rfl rfl (by decide) q3 rfl ?_
      show pm_ev _ _ _ _ _ (20, [some (.ref 83), some (.int a0), some (.int a1)], [], _, _, hp (m_i M 127 (M.1 83 62 : Int32).toNatClampNeg a0)) _
      generalize m_i M 127 (M.1 83 62 : Int32).toNatClampNeg a0 = M4 at h ⊢
      rw [mlet] at h
      exact J74_20_ev sc n e he a1 _ _ _ _ h
