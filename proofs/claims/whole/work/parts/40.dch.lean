/-! The methods as functions over Mem; written by program. -/
def J75_192 (n : Nat) (rec3 : Int32 → Int32 → Int32 → Int32 → Int32 → Mem → Option (Unit × Mem)) (x1 : Int32) (x2 : Int32) (x3 : Int32) (x4 : Int32) (x5 : Int32) (M : Mem) : Option (Unit × Mem) :=
  rec3 x1 x2 x3 x4 (x5 + 1) M
set_option maxRecDepth 100000 in
set_option maxHeartbeats 4000000 in
theorem J75_192_ev (sc : Option (Nat × (Nat → Int32))) (n : Nat)  (e : Nat) (he : 2 ≤ e) (rec3 : Int32 → Int32 → Int32 → Int32 → Int32 → Mem → Option (Unit × Mem)) (hr3 : ∀ (x1 : Int32) (x2 : Int32) (x3 : Int32) (x4 : Int32) (x5 : Int32) (u6 : Option Value) (u7 : Option Value) (u8 : Option Value) (M : Mem) (r : Unit) (M' : Mem), rec3 x1 x2 x3 x4 x5 M = some (r, M') → pm_ev pmT sc e 75 false (3, [some (.ref 83), some (.int x1), some (.int x2), some (.int x3), some (.int x4), some (.int x5), u6, u7, u8], [], 129, 17845, hp M) (none, 129, 17845, hp M')) : ∀ (x1 : Int32) (x2 : Int32) (x3 : Int32) (x4 : Int32) (x5 : Int32) (u6 : Option Value) (u7 : Option Value) (u8 : Option Value) (M : Mem) (r : Unit) (M' : Mem), J75_192 n rec3 x1 x2 x3 x4 x5 M = some (r, M') → pm_ev pmT sc e 75 false (192, [some (.ref 83), some (.int x1), some (.int x2), some (.int x3), some (.int x4), some (.int x5), u6, u7, u8], [], 129, 17845, hp M) (none, 129, 17845, hp M') := by
  intro x1 x2 x3 x4 x5 u6 u7 u8 M r M' h
  unfold J75_192 at h
  refine pe_blk mm_75 2 (s' := (3, [some (.ref 83), some (.int x1), some (.int x2), some (.int x3), some (.int x4), some (.int (x5 + 1)), u6, u7, u8], [], _, _, _)) rfl ?_
  exact hr3 x1 x2 x3 x4 (x5 + 1) _ _ _ _ _ _ h
def J75_174 (n : Nat) (rec3 : Int32 → Int32 → Int32 → Int32 → Int32 → Mem → Option (Unit × Mem)) (x1 : Int32) (x2 : Int32) (x3 : Int32) (x4 : Int32) (x5 : Int32) (x6 : Int32) (x7 : Int32) (M : Mem) : Option (Unit × Mem) :=
  if x6 = 0 then (J75_192 n rec3 x1 x2 x3 x4 x5 M) else (if x7 = 0 then (J75_192 n rec3 x1 x2 x3 x4 x5 M) else (match F74 n 41 x4 M with | some (v19, M20) => (J75_192 n rec3 x1 x2 x3 x4 x5 M20) | none => none))
set_option maxRecDepth 100000 in
set_option maxHeartbeats 4000000 in
theorem J75_174_ev (sc : Option (Nat × (Nat → Int32))) (n : Nat)  (e : Nat) (he : 2 ≤ e) (rec3 : Int32 → Int32 → Int32 → Int32 → Int32 → Mem → Option (Unit × Mem)) (hr3 : ∀ (x1 : Int32) (x2 : Int32) (x3 : Int32) (x4 : Int32) (x5 : Int32) (u6 : Option Value) (u7 : Option Value) (u8 : Option Value) (M : Mem) (r : Unit) (M' : Mem), rec3 x1 x2 x3 x4 x5 M = some (r, M') → pm_ev pmT sc e 75 false (3, [some (.ref 83), some (.int x1), some (.int x2), some (.int x3), some (.int x4), some (.int x5), u6, u7, u8], [], 129, 17845, hp M) (none, 129, 17845, hp M')) : ∀ (x1 : Int32) (x2 : Int32) (x3 : Int32) (x4 : Int32) (x5 : Int32) (x6 : Int32) (x7 : Int32) (u8 : Option Value) (M : Mem) (r : Unit) (M' : Mem), J75_174 n rec3 x1 x2 x3 x4 x5 x6 x7 M = some (r, M') → pm_ev pmT sc e 75 false (174, [some (.ref 83), some (.int x1), some (.int x2), some (.int x3), some (.int x4), some (.int x5), some (.int x6), some (.int x7), u8], [], 129, 17845, hp M) (none, 129, 17845, hp M') := by
  intro x1 x2 x3 x4 x5 x6 x7 u8 M r M' h
  unfold J75_174 at h
  refine pe_blk mm_75 1 (s' := (176, [some (.ref 83), some (.int x1), some (.int x2), some (.int x3), some (.int x4), some (.int x5), some (.int x6), some (.int x7), u8], [.int x6], _, _, _)) rfl ?_
  by_cases q17 : x6 = 0
  · rw [if_pos q17] at h
    refine pe_blk mm_75 1 (s' := (if x6 = 0 then 192 else 179, [some (.ref 83), some (.int x1), some (.int x2), some (.int x3), some (.int x4), some (.int x5), some (.int x6), some (.int x7), u8], [], _, _, _)) rfl ?_
    rw [if_pos q17]
    exact J75_192_ev sc n e he rec3 hr3 x1 x2 x3 x4 x5 _ _ _ _ _ _ h
  · rw [if_neg q17] at h
    refine pe_blk mm_75 1 (s' := (if x6 = 0 then 192 else 179, [some (.ref 83), some (.int x1), some (.int x2), some (.int x3), some (.int x4), some (.int x5), some (.int x6), some (.int x7), u8], [], _, _, _)) rfl ?_
    rw [if_neg q17]
    refine pe_blk mm_75 1 (s' := (181, [some (.ref 83), some (.int x1), some (.int x2), some (.int x3), some (.int x4), some (.int x5), some (.int x6), some (.int x7), u8], [.int x7], _, _, _)) rfl ?_
    by_cases q18 : x7 = 0
    · rw [if_pos q18] at h
      refine pe_blk mm_75 1 (s' := (if x7 = 0 then 192 else 184, [some (.ref 83), some (.int x1), some (.int x2), some (.int x3), some (.int x4), some (.int x5), some (.int x6), some (.int x7), u8], [], _, _, _)) rfl ?_
      rw [if_pos q18]
      exact J75_192_ev sc n e he rec3 hr3 x1 x2 x3 x4 x5 _ _ _ _ _ _ h
    · rw [if_neg q18] at h
      refine pe_blk mm_75 1 (s' := (if x7 = 0 then 192 else 184, [some (.ref 83), some (.int x1), some (.int x2), some (.int x3), some (.int x4), some (.int x5), some (.int x6), some (.int x7), u8], [], _, _, _)) rfl ?_
      rw [if_neg q18]
      refine pe_blk mm_75 3 (s' := (189, [some (.ref 83), some (.int x1), some (.int x2), some (.int x3), some (.int x4), some (.int x5), some (.int x6), some (.int x7), u8], [.int x4, .int 41, .ref 83], _, _, _)) rfl ?_
      obtain ⟨e1, rfl⟩ : ∃ e1, e = e1 + 1 := ⟨e - 1, by omega⟩
      cases hc21 : F74 n 41 x4 M with
      | none => rw [hc21] at h; cases h
      | some w =>
        obtain ⟨v19, M20⟩ := w
        rw [hc21] at h
        dsimp only at h
        refine pe_virt (al := [.int x4, .int 41]) (a := 83) (L0 := [some (.ref 83), some (.int 41), some (.int x4)]) (r1 := (none, 129, 17845, hp M20)) mm_75 rfl rfl rfl mm_74 rfl (by decide) (by decide) rfl (Nat.le_of_ble_eq_true rfl) (Nat.le_of_ble_eq_true rfl) rfl rfl (F74_ev sc n 41 x4 _ e1 (by omega) _ _ hc21) ?_
        show pm_ev _ _ _ _ _ (192, [some (.ref 83), some (.int x1), some (.int x2), some (.int x3), some (.int x4), some (.int x5), some (.int x6), some (.int x7), u8], [], _, _, _) _
        exact J75_192_ev sc n (e1 + 1) he rec3 hr3 x1 x2 x3 x4 x5 _ _ _ _ _ _ h
def J75_168 (n : Nat) (rec3 : Int32 → Int32 → Int32 → Int32 → Int32 → Mem → Option (Unit × Mem)) (rec133 : Int32 → Int32 → Int32 → Int32 → Int32 → Int32 → Int32 → Int32 → Mem → Option (Unit × Mem)) (x1 : Int32) (x2 : Int32) (x3 : Int32) (x4 : Int32) (x5 : Int32) (x6 : Int32) (x7 : Int32) (x8 : Int32) (M : Mem) : Option (Unit × Mem) :=
  rec133 x1 x2 x3 x4 x5 x6 x7 (x8 + 1) M
set_option maxRecDepth 100000 in
set_option maxHeartbeats 4000000 in
theorem J75_168_ev (sc : Option (Nat × (Nat → Int32))) (n : Nat)  (e : Nat) (he : 2 ≤ e) (rec3 : Int32 → Int32 → Int32 → Int32 → Int32 → Mem → Option (Unit × Mem)) (rec133 : Int32 → Int32 → Int32 → Int32 → Int32 → Int32 → Int32 → Int32 → Mem → Option (Unit × Mem)) (hr3 : ∀ (x1 : Int32) (x2 : Int32) (x3 : Int32) (x4 : Int32) (x5 : Int32) (u6 : Option Value) (u7 : Option Value) (u8 : Option Value) (M : Mem) (r : Unit) (M' : Mem), rec3 x1 x2 x3 x4 x5 M = some (r, M') → pm_ev pmT sc e 75 false (3, [some (.ref 83), some (.int x1), some (.int x2), some (.int x3), some (.int x4), some (.int x5), u6, u7, u8], [], 129, 17845, hp M) (none, 129, 17845, hp M')) (hr133 : ∀ (x1 : Int32) (x2 : Int32) (x3 : Int32) (x4 : Int32) (x5 : Int32) (x6 : Int32) (x7 : Int32) (x8 : Int32) (M : Mem) (r : Unit) (M' : Mem), rec133 x1 x2 x3 x4 x5 x6 x7 x8 M = some (r, M') → pm_ev pmT sc e 75 false (133, [some (.ref 83), some (.int x1), some (.int x2), some (.int x3), some (.int x4), some (.int x5), some (.int x6), some (.int x7), some (.int x8)], [], 129, 17845, hp M) (none, 129, 17845, hp M')) : ∀ (x1 : Int32) (x2 : Int32) (x3 : Int32) (x4 : Int32) (x5 : Int32) (x6 : Int32) (x7 : Int32) (x8 : Int32) (M : Mem) (r : Unit) (M' : Mem), J75_168 n rec3 rec133 x1 x2 x3 x4 x5 x6 x7 x8 M = some (r, M') → pm_ev pmT sc e 75 false (168, [some (.ref 83), some (.int x1), some (.int x2), some (.int x3), some (.int x4), some (.int x5), some (.int x6), some (.int x7), some (.int x8)], [], 129, 17845, hp M) (none, 129, 17845, hp M') := by
  intro x1 x2 x3 x4 x5 x6 x7 x8  M r M' h
  unfold J75_168 at h
  refine pe_blk mm_75 2 (s' := (133, [some (.ref 83), some (.int x1), some (.int x2), some (.int x3), some (.int x4), some (.int x5), some (.int x6), some (.int x7), some (.int (x8 + 1))], [], _, _, _)) rfl ?_
  exact hr133 x1 x2 x3 x4 x5 x6 x7 (x8 + 1) _ _ _ h
def L75_133 (n : Nat) (rec3 : Int32 → Int32 → Int32 → Int32 → Int32 → Mem → Option (Unit × Mem)) : Nat → Int32 → Int32 → Int32 → Int32 → Int32 → Int32 → Int32 → Int32 → Mem → Option (Unit × Mem)
  | 0, _, _, _, _, _, _, _, _, _ => none
  | k + 1, x1, x2, x3, x4, x5, x6, x7, x8, M => if x5 < 0 ∨ 160 ≤ (x5 : Int32).toNatClampNeg then none else (if (M.1 126 (x5 : Int32).toNatClampNeg) ≤ x8 then (J75_174 n rec3 x1 x2 x3 x4 x5 x6 x7 M) else (if x6 = 0 then (J75_174 n rec3 x1 x2 x3 x4 x5 x6 x7 M) else (if x8 < 0 ∨ 320 ≤ (x8 : Int32).toNatClampNeg then none else (if x8 < 0 ∨ 320 ≤ (x8 : Int32).toNatClampNeg then none else (match F74 n (M.1 105 (x8 : Int32).toNatClampNeg) (M.1 106 (x8 : Int32).toNatClampNeg) M with | some (v25, M26) => (J75_168 n rec3 (L75_133 n rec3 k) x1 x2 x3 x4 x5 x6 x7 x8 M26) | none => none)))))
set_option maxRecDepth 100000 in
set_option maxHeartbeats 4000000 in
theorem L75_133_ev (sc : Option (Nat × (Nat → Int32))) (n : Nat)  (e : Nat) (he : 2 ≤ e) (rec3 : Int32 → Int32 → Int32 → Int32 → Int32 → Mem → Option (Unit × Mem)) (hr3 : ∀ (x1 : Int32) (x2 : Int32) (x3 : Int32) (x4 : Int32) (x5 : Int32) (u6 : Option Value) (u7 : Option Value) (u8 : Option Value) (M : Mem) (r : Unit) (M' : Mem), rec3 x1 x2 x3 x4 x5 M = some (r, M') → pm_ev pmT sc e 75 false (3, [some (.ref 83), some (.int x1), some (.int x2), some (.int x3), some (.int x4), some (.int x5), u6, u7, u8], [], 129, 17845, hp M) (none, 129, 17845, hp M')) : ∀ k : Nat, ∀ (x1 : Int32) (x2 : Int32) (x3 : Int32) (x4 : Int32) (x5 : Int32) (x6 : Int32) (x7 : Int32) (x8 : Int32) (M : Mem) (r : Unit) (M' : Mem), L75_133 n rec3 k x1 x2 x3 x4 x5 x6 x7 x8 M = some (r, M') → pm_ev pmT sc e 75 false (133, [some (.ref 83), some (.int x1), some (.int x2), some (.int x3), some (.int x4), some (.int x5), some (.int x6), some (.int x7), some (.int x8)], [], 129, 17845, hp M) (none, 129, 17845, hp M') := by
  intro k
  induction k with
  | zero => intro x1 x2 x3 x4 x5 x6 x7 x8  M r M' h; cases h
  | succ k hr133 =>
    intro x1 x2 x3 x4 x5 x6 x7 x8  M r M' h
    rw [L75_133] at h
    refine pe_blk mm_75 2 (s' := (136, [some (.ref 83), some (.int x1), some (.int x2), some (.int x3), some (.int x4), some (.int x5), some (.int x6), some (.int x7), some (.int x8)], [.ref 83, .int x8], _, _, _)) rfl ?_
    refine pe_get mm_75 rfl rfl rfl (by decide) rfl ?_
    refine pe_blk mm_75 1 (s' := (141, [some (.ref 83), some (.int x1), some (.int x2), some (.int x3), some (.int x4), some (.int x5), some (.int x6), some (.int x7), some (.int x8)], [.int x5, .ref 126, .int x8], _, _, _)) rfl ?_
    by_cases q15 : x5 < 0 ∨ 160 ≤ (x5 : Int32).toNatClampNeg
    · rw [if_pos q15] at h
      cases h
    · rw [if_neg q15] at h
      refine pe_iald (f := M.1 126) mm_75 rfl rfl (by decide) q15 ?_
      by_cases q16 : (M.1 126 (x5 : Int32).toNatClampNeg) ≤ x8
      · rw [if_pos q16] at h
        refine pe_blk mm_75 1 (s' := (if (M.1 126 (x5 : Int32).toNatClampNeg) ≤ x8 then 174 else 145, [some (.ref 83), some (.int x1), some (.int x2), some (.int x3), some (.int x4), some (.int x5), some (.int x6), some (.int x7), some (.int x8)], [], _, _, _)) rfl ?_
        rw [if_pos q16]
        exact J75_174_ev sc n e he rec3 hr3 x1 x2 x3 x4 x5 x6 x7 _ _ _ _ h
      · rw [if_neg q16] at h
        refine pe_blk mm_75 1 (s' := (if (M.1 126 (x5 : Int32).toNatClampNeg) ≤ x8 then 174 else 145, [some (.ref 83), some (.int x1), some (.int x2), some (.int x3), some (.int x4), some (.int x5), some (.int x6), some (.int x7), some (.int x8)], [], _, _, _)) rfl ?_
        rw [if_neg q16]
        refine pe_blk mm_75 1 (s' := (147, [some (.ref 83), some (.int x1), some (.int x2), some (.int x3), some (.int x4), some (.int x5), some (.int x6), some (.int x7), some (.int x8)], [.int x6], _, _, _)) rfl ?_
        by_cases q22 : x6 = 0
        · rw [if_pos q22] at h
          refine pe_blk mm_75 1 (s' := (if x6 = 0 then 174 else 150, [some (.ref 83), some (.int x1), some (.int x2), some (.int x3), some (.int x4), some (.int x5), some (.int x6), some (.int x7), some (.int x8)], [], _, _, _)) rfl ?_
          rw [if_pos q22]
          exact J75_174_ev sc n e he rec3 hr3 x1 x2 x3 x4 x5 x6 x7 _ _ _ _ h
        · rw [if_neg q22] at h
          refine pe_blk mm_75 1 (s' := (if x6 = 0 then 174 else 150, [some (.ref 83), some (.int x1), some (.int x2), some (.int x3), some (.int x4), some (.int x5), some (.int x6), some (.int x7), some (.int x8)], [], _, _, _)) rfl ?_
          rw [if_neg q22]
          refine pe_blk mm_75 2 (s' := (152, [some (.ref 83), some (.int x1), some (.int x2), some (.int x3), some (.int x4), some (.int x5), some (.int x6), some (.int x7), some (.int x8)], [.ref 83, .ref 83], _, _, _)) rfl ?_
          refine pe_get mm_75 rfl rfl rfl (by decide) rfl ?_
          refine pe_blk mm_75 1 (s' := (157, [some (.ref 83), some (.int x1), some (.int x2), some (.int x3), some (.int x4), some (.int x5), some (.int x6), some (.int x7), some (.int x8)], [.int x8, .ref 105, .ref 83], _, _, _)) rfl ?_
          by_cases q23 : x8 < 0 ∨ 320 ≤ (x8 : Int32).toNatClampNeg
          · rw [if_pos q23] at h
            cases h
          · rw [if_neg q23] at h
            refine pe_iald (f := M.1 105) mm_75 rfl rfl (by decide) q23 ?_
            refine pe_blk mm_75 1 (s' := (159, [some (.ref 83), some (.int x1), some (.int x2), some (.int x3), some (.int x4), some (.int x5), some (.int x6), some (.int x7), some (.int x8)], [.ref 83, .int (M.1 105 (x8 : Int32).toNatClampNeg), .ref 83], _, _, _)) rfl ?_
            refine pe_get mm_75 rfl rfl rfl (by decide) rfl ?_
            refine pe_blk mm_75 1 (s' := (164, [some (.ref 83), some (.int x1), some (.int x2), some (.int x3), some (.int x4), some (.int x5), some (.int x6), some (.int x7), some (.int x8)], [.int x8, .ref 106, .int (M.1 105 (x8 : Int32).toNatClampNeg), .ref 83], _, _, _)) rfl ?_
            by_cases q24 : x8 < 0 ∨ 320 ≤ (x8 : Int32).toNatClampNeg
            · rw [if_pos q24] at h
              cases h
            · rw [if_neg q24] at h
              refine pe_iald (f := M.1 106) mm_75 rfl rfl (by decide) q24 ?_
              obtain ⟨e1, rfl⟩ : ∃ e1, e = e1 + 1 := ⟨e - 1, by omega⟩
              cases hc27 : F74 n (M.1 105 (x8 : Int32).toNatClampNeg) (M.1 106 (x8 : Int32).toNatClampNeg) M with
              | none => rw [hc27] at h; cases h
              | some w =>
                obtain ⟨v25, M26⟩ := w
                rw [hc27] at h
                dsimp only at h
                refine pe_virt (al := [.int (M.1 106 (x8 : Int32).toNatClampNeg), .int (M.1 105 (x8 : Int32).toNatClampNeg)]) (a := 83) (L0 := [some (.ref 83), some (.int (M.1 105 (x8 : Int32).toNatClampNeg)), some (.int (M.1 106 (x8 : Int32).toNatClampNeg))]) (r1 := (none, 129, 17845, hp M26)) mm_75 rfl rfl rfl mm_74 rfl (by decide) (by decide) rfl (Nat.le_of_ble_eq_true rfl) (Nat.le_of_ble_eq_true rfl) rfl rfl (F74_ev sc n (M.1 105 (x8 : Int32).toNatClampNeg) (M.1 106 (x8 : Int32).toNatClampNeg) _ e1 (by omega) _ _ hc27) ?_
                show pm_ev _ _ _ _ _ (168, [some (.ref 83), some (.int x1), some (.int x2), some (.int x3), some (.int x4), some (.int x5), some (.int x6), some (.int x7), some (.int x8)], [], _, _, _) _
                exact J75_168_ev sc n (e1 + 1) he rec3 (L75_133 n rec3 k) hr3 hr133 x1 x2 x3 x4 x5 x6 x7 x8 _ _ _ h
def J75_124 (n : Nat) (rec3 : Int32 → Int32 → Int32 → Int32 → Int32 → Mem → Option (Unit × Mem)) (x1 : Int32) (x2 : Int32) (x3 : Int32) (x4 : Int32) (x5 : Int32) (x6 : Int32) (x7 : Int32) (M : Mem) : Option (Unit × Mem) :=
  if x5 < 0 ∨ 160 ≤ (x5 : Int32).toNatClampNeg then none else (L75_133 n rec3 n x1 x2 x3 x4 x5 x6 x7 (M.1 125 (x5 : Int32).toNatClampNeg) M)
set_option maxRecDepth 100000 in
set_option maxHeartbeats 4000000 in
theorem J75_124_ev (sc : Option (Nat × (Nat → Int32))) (n : Nat)  (e : Nat) (he : 2 ≤ e) (rec3 : Int32 → Int32 → Int32 → Int32 → Int32 → Mem → Option (Unit × Mem)) (hr3 : ∀ (x1 : Int32) (x2 : Int32) (x3 : Int32) (x4 : Int32) (x5 : Int32) (u6 : Option Value) (u7 : Option Value) (u8 : Option Value) (M : Mem) (r : Unit) (M' : Mem), rec3 x1 x2 x3 x4 x5 M = some (r, M') → pm_ev pmT sc e 75 false (3, [some (.ref 83), some (.int x1), some (.int x2), some (.int x3), some (.int x4), some (.int x5), u6, u7, u8], [], 129, 17845, hp M) (none, 129, 17845, hp M')) : ∀ (x1 : Int32) (x2 : Int32) (x3 : Int32) (x4 : Int32) (x5 : Int32) (x6 : Int32) (x7 : Int32) (u8 : Option Value) (M : Mem) (r : Unit) (M' : Mem), J75_124 n rec3 x1 x2 x3 x4 x5 x6 x7 M = some (r, M') → pm_ev pmT sc e 75 false (124, [some (.ref 83), some (.int x1), some (.int x2), some (.int x3), some (.int x4), some (.int x5), some (.int x6), some (.int x7), u8], [], 129, 17845, hp M) (none, 129, 17845, hp M') := by
  intro x1 x2 x3 x4 x5 x6 x7 u8 M r M' h
  unfold J75_124 at h
  refine pe_blk mm_75 1 (s' := (125, [some (.ref 83), some (.int x1), some (.int x2), some (.int x3), some (.int x4), some (.int x5), some (.int x6), some (.int x7), u8], [.ref 83], _, _, _)) rfl ?_
  refine pe_get mm_75 rfl rfl rfl (by decide) rfl ?_
  refine pe_blk mm_75 1 (s' := (130, [some (.ref 83), some (.int x1), some (.int x2), some (.int x3), some (.int x4), some (.int x5), some (.int x6), some (.int x7), u8], [.int x5, .ref 125], _, _, _)) rfl ?_
  by_cases q14 : x5 < 0 ∨ 160 ≤ (x5 : Int32).toNatClampNeg
  · rw [if_pos q14] at h
    cases h
  · rw [if_neg q14] at h
    refine pe_iald (f := M.1 125) mm_75 rfl rfl (by decide) q14 ?_
    refine pe_blk mm_75 1 (s' := (133, [some (.ref 83), some (.int x1), some (.int x2), some (.int x3), some (.int x4), some (.int x5), some (.int x6), some (.int x7), some (.int (M.1 125 (x5 : Int32).toNatClampNeg))], [], _, _, _)) rfl ?_
    exact L75_133_ev sc n e he rec3 hr3 n x1 x2 x3 x4 x5 x6 x7 (M.1 125 (x5 : Int32).toNatClampNeg) _ _ _ h
def J75_104 (n : Nat) (rec3 : Int32 → Int32 → Int32 → Int32 → Int32 → Mem → Option (Unit × Mem)) (x1 : Int32) (x2 : Int32) (x3 : Int32) (x4 : Int32) (x5 : Int32) (x6 : Int32) (s0 : Int32) (M : Mem) : Option (Unit × Mem) :=
  if x6 = 0 then (J75_124 n rec3 x1 x2 x3 x4 x5 x6 s0 M) else (if s0 = 0 then (J75_124 n rec3 x1 x2 x3 x4 x5 x6 s0 M) else (match F74 n 40 x4 M with | some (v29, M30) => (J75_124 n rec3 x1 x2 x3 x4 x5 x6 s0 M30) | none => none))
set_option maxRecDepth 100000 in
set_option maxHeartbeats 4000000 in
theorem J75_104_ev (sc : Option (Nat × (Nat → Int32))) (n : Nat)  (e : Nat) (he : 2 ≤ e) (rec3 : Int32 → Int32 → Int32 → Int32 → Int32 → Mem → Option (Unit × Mem)) (hr3 : ∀ (x1 : Int32) (x2 : Int32) (x3 : Int32) (x4 : Int32) (x5 : Int32) (u6 : Option Value) (u7 : Option Value) (u8 : Option Value) (M : Mem) (r : Unit) (M' : Mem), rec3 x1 x2 x3 x4 x5 M = some (r, M') → pm_ev pmT sc e 75 false (3, [some (.ref 83), some (.int x1), some (.int x2), some (.int x3), some (.int x4), some (.int x5), u6, u7, u8], [], 129, 17845, hp M) (none, 129, 17845, hp M')) : ∀ (x1 : Int32) (x2 : Int32) (x3 : Int32) (x4 : Int32) (x5 : Int32) (x6 : Int32) (s0 : Int32) (u7 : Option Value) (u8 : Option Value) (M : Mem) (r : Unit) (M' : Mem), J75_104 n rec3 x1 x2 x3 x4 x5 x6 s0 M = some (r, M') → pm_ev pmT sc e 75 false (104, [some (.ref 83), some (.int x1), some (.int x2), some (.int x3), some (.int x4), some (.int x5), some (.int x6), u7, u8], [.int s0], 129, 17845, hp M) (none, 129, 17845, hp M') := by
  intro x1 x2 x3 x4 x5 x6 s0 u7 u8 M r M' h
  unfold J75_104 at h
  refine pe_blk mm_75 2 (s' := (108, [some (.ref 83), some (.int x1), some (.int x2), some (.int x3), some (.int x4), some (.int x5), some (.int x6), some (.int s0), u8], [.int x6], _, _, _)) rfl ?_
  by_cases q13 : x6 = 0
  · rw [if_pos q13] at h
    refine pe_blk mm_75 1 (s' := (if x6 = 0 then 124 else 111, [some (.ref 83), some (.int x1), some (.int x2), some (.int x3), some (.int x4), some (.int x5), some (.int x6), some (.int s0), u8], [], _, _, _)) rfl ?_
    rw [if_pos q13]
    exact J75_124_ev sc n e he rec3 hr3 x1 x2 x3 x4 x5 x6 s0 _ _ _ _ h
  · rw [if_neg q13] at h
    refine pe_blk mm_75 1 (s' := (if x6 = 0 then 124 else 111, [some (.ref 83), some (.int x1), some (.int x2), some (.int x3), some (.int x4), some (.int x5), some (.int x6), some (.int s0), u8], [], _, _, _)) rfl ?_
    rw [if_neg q13]
    refine pe_blk mm_75 1 (s' := (113, [some (.ref 83), some (.int x1), some (.int x2), some (.int x3), some (.int x4), some (.int x5), some (.int x6), some (.int s0), u8], [.int s0], _, _, _)) rfl ?_
    by_cases q28 : s0 = 0
    · rw [if_pos q28] at h
      refine pe_blk mm_75 1 (s' := (if s0 = 0 then 124 else 116, [some (.ref 83), some (.int x1), some (.int x2), some (.int x3), some (.int x4), some (.int x5), some (.int x6), some (.int s0), u8], [], _, _, _)) rfl ?_
      rw [if_pos q28]
      exact J75_124_ev sc n e he rec3 hr3 x1 x2 x3 x4 x5 x6 s0 _ _ _ _ h
    · rw [if_neg q28] at h
      refine pe_blk mm_75 1 (s' := (if s0 = 0 then 124 else 116, [some (.ref 83), some (.int x1), some (.int x2), some (.int x3), some (.int x4), some (.int x5), some (.int x6), some (.int s0), u8], [], _, _, _)) rfl ?_
      rw [if_neg q28]
      refine pe_blk mm_75 3 (s' := (121, [some (.ref 83), some (.int x1), some (.int x2), some (.int x3), some (.int x4), some (.int x5), some (.int x6), some (.int s0), u8], [.int x4, .int 40, .ref 83], _, _, _)) rfl ?_
      obtain ⟨e1, rfl⟩ : ∃ e1, e = e1 + 1 := ⟨e - 1, by omega⟩
      cases hc31 : F74 n 40 x4 M with
      | none => rw [hc31] at h; cases h
      | some w =>
        obtain ⟨v29, M30⟩ := w
        rw [hc31] at h
        dsimp only at h
        refine pe_virt (al := [.int x4, .int 40]) (a := 83) (L0 := [some (.ref 83), some (.int 40), some (.int x4)]) (r1 := (none, 129, 17845, hp M30)) mm_75 rfl rfl rfl mm_74 rfl (by decide) (by decide) rfl (Nat.le_of_ble_eq_true rfl) (Nat.le_of_ble_eq_true rfl) rfl rfl (F74_ev sc n 40 x4 _ e1 (by omega) _ _ hc31) ?_
        show pm_ev _ _ _ _ _ (124, [some (.ref 83), some (.int x1), some (.int x2), some (.int x3), some (.int x4), some (.int x5), some (.int x6), some (.int s0), u8], [], _, _, _) _
        exact J75_124_ev sc n (e1 + 1) he rec3 hr3 x1 x2 x3 x4 x5 x6 s0 _ _ _ _ h
def J75_103 (n : Nat) (rec3 : Int32 → Int32 → Int32 → Int32 → Int32 → Mem → Option (Unit × Mem)) (x1 : Int32) (x2 : Int32) (x3 : Int32) (x4 : Int32) (x5 : Int32) (x6 : Int32) (M : Mem) : Option (Unit × Mem) :=
  J75_104 n rec3 x1 x2 x3 x4 x5 x6 0 M
set_option maxRecDepth 100000 in
set_option maxHeartbeats 4000000 in
theorem J75_103_ev (sc : Option (Nat × (Nat → Int32))) (n : Nat)  (e : Nat) (he : 2 ≤ e) (rec3 : Int32 → Int32 → Int32 → Int32 → Int32 → Mem → Option (Unit × Mem)) (hr3 : ∀ (x1 : Int32) (x2 : Int32) (x3 : Int32) (x4 : Int32) (x5 : Int32) (u6 : Option Value) (u7 : Option Value) (u8 : Option Value) (M : Mem) (r : Unit) (M' : Mem), rec3 x1 x2 x3 x4 x5 M = some (r, M') → pm_ev pmT sc e 75 false (3, [some (.ref 83), some (.int x1), some (.int x2), some (.int x3), some (.int x4), some (.int x5), u6, u7, u8], [], 129, 17845, hp M) (none, 129, 17845, hp M')) : ∀ (x1 : Int32) (x2 : Int32) (x3 : Int32) (x4 : Int32) (x5 : Int32) (x6 : Int32) (u7 : Option Value) (u8 : Option Value) (M : Mem) (r : Unit) (M' : Mem), J75_103 n rec3 x1 x2 x3 x4 x5 x6 M = some (r, M') → pm_ev pmT sc e 75 false (103, [some (.ref 83), some (.int x1), some (.int x2), some (.int x3), some (.int x4), some (.int x5), some (.int x6), u7, u8], [], 129, 17845, hp M) (none, 129, 17845, hp M') := by
  intro x1 x2 x3 x4 x5 x6 u7 u8 M r M' h
  unfold J75_103 at h
  refine pe_blk mm_75 1 (s' := (104, [some (.ref 83), some (.int x1), some (.int x2), some (.int x3), some (.int x4), some (.int x5), some (.int x6), u7, u8], [.int 0], _, _, _)) rfl ?_
  exact J75_104_ev sc n e he rec3 hr3 x1 x2 x3 x4 x5 x6 0 _ _ _ _ _ h
def J75_99 (n : Nat) (rec3 : Int32 → Int32 → Int32 → Int32 → Int32 → Mem → Option (Unit × Mem)) (x1 : Int32) (x2 : Int32) (x3 : Int32) (x4 : Int32) (x5 : Int32) (x6 : Int32) (M : Mem) : Option (Unit × Mem) :=
  J75_104 n rec3 x1 x2 x3 x4 x5 x6 1 M
set_option maxRecDepth 100000 in
set_option maxHeartbeats 4000000 in
theorem J75_99_ev (sc : Option (Nat × (Nat → Int32))) (n : Nat)  (e : Nat) (he : 2 ≤ e) (rec3 : Int32 → Int32 → Int32 → Int32 → Int32 → Mem → Option (Unit × Mem)) (hr3 : ∀ (x1 : Int32) (x2 : Int32) (x3 : Int32) (x4 : Int32) (x5 : Int32) (u6 : Option Value) (u7 : Option Value) (u8 : Option Value) (M : Mem) (r : Unit) (M' : Mem), rec3 x1 x2 x3 x4 x5 M = some (r, M') → pm_ev pmT sc e 75 false (3, [some (.ref 83), some (.int x1), some (.int x2), some (.int x3), some (.int x4), some (.int x5), u6, u7, u8], [], 129, 17845, hp M) (none, 129, 17845, hp M')) : ∀ (x1 : Int32) (x2 : Int32) (x3 : Int32) (x4 : Int32) (x5 : Int32) (x6 : Int32) (u7 : Option Value) (u8 : Option Value) (M : Mem) (r : Unit) (M' : Mem), J75_99 n rec3 x1 x2 x3 x4 x5 x6 M = some (r, M') → pm_ev pmT sc e 75 false (99, [some (.ref 83), some (.int x1), some (.int x2), some (.int x3), some (.int x4), some (.int x5), some (.int x6), u7, u8], [], 129, 17845, hp M) (none, 129, 17845, hp M') := by
  intro x1 x2 x3 x4 x5 x6 u7 u8 M r M' h
  unfold J75_99 at h
  refine pe_blk mm_75 2 (s' := (104, [some (.ref 83), some (.int x1), some (.int x2), some (.int x3), some (.int x4), some (.int x5), some (.int x6), u7, u8], [.int 1], _, _, _)) rfl ?_
  exact J75_104_ev sc n e he rec3 hr3 x1 x2 x3 x4 x5 x6 1 _ _ _ _ _ h
def J75_68 (n : Nat) (rec3 : Int32 → Int32 → Int32 → Int32 → Int32 → Mem → Option (Unit × Mem)) (x1 : Int32) (x2 : Int32) (x3 : Int32) (x4 : Int32) (x5 : Int32) (s0 : Int32) (M : Mem) : Option (Unit × Mem) :=
  if x1 < 0 ∨ 128 ≤ (x1 : Int32).toNatClampNeg then none else (if (M.1 94 (x1 : Int32).toNatClampNeg) = 4 then (if x5 < 0 ∨ 160 ≤ (x5 : Int32).toNatClampNeg then none else (if x5 < 0 ∨ 160 ≤ (x5 : Int32).toNatClampNeg then none else (if ((M.1 126 (x5 : Int32).toNatClampNeg) - (M.1 125 (x5 : Int32).toNatClampNeg)) ≤ 1 then (J75_103 n rec3 x1 x2 x3 x4 x5 s0 M) else (J75_99 n rec3 x1 x2 x3 x4 x5 s0 M)))) else (J75_103 n rec3 x1 x2 x3 x4 x5 s0 M))
set_option maxRecDepth 100000 in
set_option maxHeartbeats 4000000 in
theorem J75_68_ev (sc : Option (Nat × (Nat → Int32))) (n : Nat)  (e : Nat) (he : 2 ≤ e) (rec3 : Int32 → Int32 → Int32 → Int32 → Int32 → Mem → Option (Unit × Mem)) (hr3 : ∀ (x1 : Int32) (x2 : Int32) (x3 : Int32) (x4 : Int32) (x5 : Int32) (u6 : Option Value) (u7 : Option Value) (u8 : Option Value) (M : Mem) (r : Unit) (M' : Mem), rec3 x1 x2 x3 x4 x5 M = some (r, M') → pm_ev pmT sc e 75 false (3, [some (.ref 83), some (.int x1), some (.int x2), some (.int x3), some (.int x4), some (.int x5), u6, u7, u8], [], 129, 17845, hp M) (none, 129, 17845, hp M')) : ∀ (x1 : Int32) (x2 : Int32) (x3 : Int32) (x4 : Int32) (x5 : Int32) (s0 : Int32) (u6 : Option Value) (u7 : Option Value) (u8 : Option Value) (M : Mem) (r : Unit) (M' : Mem), J75_68 n rec3 x1 x2 x3 x4 x5 s0 M = some (r, M') → pm_ev pmT sc e 75 false (68, [some (.ref 83), some (.int x1), some (.int x2), some (.int x3), some (.int x4), some (.int x5), u6, u7, u8], [.int s0], 129, 17845, hp M) (none, 129, 17845, hp M') := by
  intro x1 x2 x3 x4 x5 s0 u6 u7 u8 M r M' h
  unfold J75_68 at h
  refine pe_blk mm_75 2 (s' := (71, [some (.ref 83), some (.int x1), some (.int x2), some (.int x3), some (.int x4), some (.int x5), some (.int s0), u7, u8], [.ref 83], _, _, _)) rfl ?_
  refine pe_get mm_75 rfl rfl rfl (by decide) rfl ?_
  refine pe_blk mm_75 1 (s' := (75, [some (.ref 83), some (.int x1), some (.int x2), some (.int x3), some (.int x4), some (.int x5), some (.int s0), u7, u8], [.int x1, .ref 94], _, _, _)) rfl ?_
  by_cases q8 : x1 < 0 ∨ 128 ≤ (x1 : Int32).toNatClampNeg
  · rw [if_pos q8] at h
    cases h
  · rw [if_neg q8] at h
    refine pe_iald (f := M.1 94) mm_75 rfl rfl (by decide) q8 ?_
    refine pe_blk mm_75 1 (s' := (77, [some (.ref 83), some (.int x1), some (.int x2), some (.int x3), some (.int x4), some (.int x5), some (.int s0), u7, u8], [.int 4, .int (M.1 94 (x1 : Int32).toNatClampNeg)], _, _, _)) rfl ?_
    by_cases q9 : (M.1 94 (x1 : Int32).toNatClampNeg) = 4
    · rw [if_pos q9] at h
      refine pe_blk mm_75 1 (s' := (if (M.1 94 (x1 : Int32).toNatClampNeg) = 4 then 80 else 103, [some (.ref 83), some (.int x1), some (.int x2), some (.int x3), some (.int x4), some (.int x5), some (.int s0), u7, u8], [], _, _, _)) rfl ?_
      rw [if_pos q9]
      refine pe_blk mm_75 1 (s' := (81, [some (.ref 83), some (.int x1), some (.int x2), some (.int x3), some (.int x4), some (.int x5), some (.int s0), u7, u8], [.ref 83], _, _, _)) rfl ?_
      refine pe_get mm_75 rfl rfl rfl (by decide) rfl ?_
      refine pe_blk mm_75 1 (s' := (86, [some (.ref 83), some (.int x1), some (.int x2), some (.int x3), some (.int x4), some (.int x5), some (.int s0), u7, u8], [.int x5, .ref 126], _, _, _)) rfl ?_
      by_cases q10 : x5 < 0 ∨ 160 ≤ (x5 : Int32).toNatClampNeg
      · rw [if_pos q10] at h
        cases h
      · rw [if_neg q10] at h
        refine pe_iald (f := M.1 126) mm_75 rfl rfl (by decide) q10 ?_
        refine pe_blk mm_75 1 (s' := (88, [some (.ref 83), some (.int x1), some (.int x2), some (.int x3), some (.int x4), some (.int x5), some (.int s0), u7, u8], [.ref 83, .int (M.1 126 (x5 : Int32).toNatClampNeg)], _, _, _)) rfl ?_
        refine pe_get mm_75 rfl rfl rfl (by decide) rfl ?_
        refine pe_blk mm_75 1 (s' := (93, [some (.ref 83), some (.int x1), some (.int x2), some (.int x3), some (.int x4), some (.int x5), some (.int s0), u7, u8], [.int x5, .ref 125, .int (M.1 126 (x5 : Int32).toNatClampNeg)], _, _, _)) rfl ?_
        by_cases q11 : x5 < 0 ∨ 160 ≤ (x5 : Int32).toNatClampNeg
        · rw [if_pos q11] at h
          cases h
        · rw [if_neg q11] at h
          refine pe_iald (f := M.1 125) mm_75 rfl rfl (by decide) q11 ?_
          refine pe_blk mm_75 2 (s' := (96, [some (.ref 83), some (.int x1), some (.int x2), some (.int x3), some (.int x4), some (.int x5), some (.int s0), u7, u8], [.int 1, .int ((M.1 126 (x5 : Int32).toNatClampNeg) - (M.1 125 (x5 : Int32).toNatClampNeg))], _, _, _)) rfl ?_
          by_cases q12 : ((M.1 126 (x5 : Int32).toNatClampNeg) - (M.1 125 (x5 : Int32).toNatClampNeg)) ≤ 1
          · rw [if_pos q12] at h
            refine pe_blk mm_75 1 (s' := (if ((M.1 126 (x5 : Int32).toNatClampNeg) - (M.1 125 (x5 : Int32).toNatClampNeg)) ≤ 1 then 103 else 99, [some (.ref 83), some (.int x1), some (.int x2), some (.int x3), some (.int x4), some (.int x5), some (.int s0), u7, u8], [], _, _, _)) rfl ?_
            rw [if_pos q12]
            exact J75_103_ev sc n e he rec3 hr3 x1 x2 x3 x4 x5 s0 _ _ _ _ _ h
          · rw [if_neg q12] at h
            refine pe_blk mm_75 1 (s' := (if ((M.1 126 (x5 : Int32).toNatClampNeg) - (M.1 125 (x5 : Int32).toNatClampNeg)) ≤ 1 then 103 else 99, [some (.ref 83), some (.int x1), some (.int x2), some (.int x3), some (.int x4), some (.int x5), some (.int s0), u7, u8], [], _, _, _)) rfl ?_
            rw [if_neg q12]
            exact J75_99_ev sc n e he rec3 hr3 x1 x2 x3 x4 x5 s0 _ _ _ _ _ h
    · rw [if_neg q9] at h
      refine pe_blk mm_75 1 (s' := (if (M.1 94 (x1 : Int32).toNatClampNeg) = 4 then 80 else 103, [some (.ref 83), some (.int x1), some (.int x2), some (.int x3), some (.int x4), some (.int x5), some (.int s0), u7, u8], [], _, _, _)) rfl ?_
      rw [if_neg q9]
      exact J75_103_ev sc n e he rec3 hr3 x1 x2 x3 x4 x5 s0 _ _ _ _ _ h
def J75_63 (n : Nat) (rec3 : Int32 → Int32 → Int32 → Int32 → Int32 → Mem → Option (Unit × Mem)) (x1 : Int32) (x2 : Int32) (x3 : Int32) (x4 : Int32) (x5 : Int32) (M : Mem) : Option (Unit × Mem) :=
  J75_68 n rec3 x1 x2 x3 x4 x5 1 M
set_option maxRecDepth 100000 in
set_option maxHeartbeats 4000000 in
theorem J75_63_ev (sc : Option (Nat × (Nat → Int32))) (n : Nat)  (e : Nat) (he : 2 ≤ e) (rec3 : Int32 → Int32 → Int32 → Int32 → Int32 → Mem → Option (Unit × Mem)) (hr3 : ∀ (x1 : Int32) (x2 : Int32) (x3 : Int32) (x4 : Int32) (x5 : Int32) (u6 : Option Value) (u7 : Option Value) (u8 : Option Value) (M : Mem) (r : Unit) (M' : Mem), rec3 x1 x2 x3 x4 x5 M = some (r, M') → pm_ev pmT sc e 75 false (3, [some (.ref 83), some (.int x1), some (.int x2), some (.int x3), some (.int x4), some (.int x5), u6, u7, u8], [], 129, 17845, hp M) (none, 129, 17845, hp M')) : ∀ (x1 : Int32) (x2 : Int32) (x3 : Int32) (x4 : Int32) (x5 : Int32) (u6 : Option Value) (u7 : Option Value) (u8 : Option Value) (M : Mem) (r : Unit) (M' : Mem), J75_63 n rec3 x1 x2 x3 x4 x5 M = some (r, M') → pm_ev pmT sc e 75 false (63, [some (.ref 83), some (.int x1), some (.int x2), some (.int x3), some (.int x4), some (.int x5), u6, u7, u8], [], 129, 17845, hp M) (none, 129, 17845, hp M') := by
  intro x1 x2 x3 x4 x5 u6 u7 u8 M r M' h
  unfold J75_63 at h
  refine pe_blk mm_75 2 (s' := (68, [some (.ref 83), some (.int x1), some (.int x2), some (.int x3), some (.int x4), some (.int x5), u6, u7, u8], [.int 1], _, _, _)) rfl ?_
  exact J75_68_ev sc n e he rec3 hr3 x1 x2 x3 x4 x5 1 _ _ _ _ _ _ h
def J75_67 (n : Nat) (rec3 : Int32 → Int32 → Int32 → Int32 → Int32 → Mem → Option (Unit × Mem)) (x1 : Int32) (x2 : Int32) (x3 : Int32) (x4 : Int32) (x5 : Int32) (M : Mem) : Option (Unit × Mem) :=
  J75_68 n rec3 x1 x2 x3 x4 x5 0 M
set_option maxRecDepth 100000 in
set_option maxHeartbeats 4000000 in
theorem J75_67_ev (sc : Option (Nat × (Nat → Int32))) (n : Nat)  (e : Nat) (he : 2 ≤ e) (rec3 : Int32 → Int32 → Int32 → Int32 → Int32 → Mem → Option (Unit × Mem)) (hr3 : ∀ (x1 : Int32) (x2 : Int32) (x3 : Int32) (x4 : Int32) (x5 : Int32) (u6 : Option Value) (u7 : Option Value) (u8 : Option Value) (M : Mem) (r : Unit) (M' : Mem), rec3 x1 x2 x3 x4 x5 M = some (r, M') → pm_ev pmT sc e 75 false (3, [some (.ref 83), some (.int x1), some (.int x2), some (.int x3), some (.int x4), some (.int x5), u6, u7, u8], [], 129, 17845, hp M) (none, 129, 17845, hp M')) : ∀ (x1 : Int32) (x2 : Int32) (x3 : Int32) (x4 : Int32) (x5 : Int32) (u6 : Option Value) (u7 : Option Value) (u8 : Option Value) (M : Mem) (r : Unit) (M' : Mem), J75_67 n rec3 x1 x2 x3 x4 x5 M = some (r, M') → pm_ev pmT sc e 75 false (67, [some (.ref 83), some (.int x1), some (.int x2), some (.int x3), some (.int x4), some (.int x5), u6, u7, u8], [], 129, 17845, hp M) (none, 129, 17845, hp M') := by
  intro x1 x2 x3 x4 x5 u6 u7 u8 M r M' h
  unfold J75_67 at h
  refine pe_blk mm_75 1 (s' := (68, [some (.ref 83), some (.int x1), some (.int x2), some (.int x3), some (.int x4), some (.int x5), u6, u7, u8], [.int 0], _, _, _)) rfl ?_
  exact J75_68_ev sc n e he rec3 hr3 x1 x2 x3 x4 x5 0 _ _ _ _ _ _ h
def J75_43 (n : Nat) (rec3 : Int32 → Int32 → Int32 → Int32 → Int32 → Mem → Option (Unit × Mem)) (x1 : Int32) (x2 : Int32) (x3 : Int32) (x4 : Int32) (x5 : Int32) (M : Mem) : Option (Unit × Mem) :=
  if x1 < 0 ∨ 128 ≤ (x1 : Int32).toNatClampNeg then none else (if (M.1 96 (x1 : Int32).toNatClampNeg) < 0 then (J75_63 n rec3 x1 x2 x3 x4 x5 M) else (if x5 < 0 ∨ 160 ≤ (x5 : Int32).toNatClampNeg then none else (if (M.1 124 (x5 : Int32).toNatClampNeg) = x3 then (J75_63 n rec3 x1 x2 x3 x4 x5 M) else (J75_67 n rec3 x1 x2 x3 x4 x5 M))))
set_option maxRecDepth 100000 in
set_option maxHeartbeats 4000000 in
theorem J75_43_ev (sc : Option (Nat × (Nat → Int32))) (n : Nat)  (e : Nat) (he : 2 ≤ e) (rec3 : Int32 → Int32 → Int32 → Int32 → Int32 → Mem → Option (Unit × Mem)) (hr3 : ∀ (x1 : Int32) (x2 : Int32) (x3 : Int32) (x4 : Int32) (x5 : Int32) (u6 : Option Value) (u7 : Option Value) (u8 : Option Value) (M : Mem) (r : Unit) (M' : Mem), rec3 x1 x2 x3 x4 x5 M = some (r, M') → pm_ev pmT sc e 75 false (3, [some (.ref 83), some (.int x1), some (.int x2), some (.int x3), some (.int x4), some (.int x5), u6, u7, u8], [], 129, 17845, hp M) (none, 129, 17845, hp M')) : ∀ (x1 : Int32) (x2 : Int32) (x3 : Int32) (x4 : Int32) (x5 : Int32) (u6 : Option Value) (u7 : Option Value) (u8 : Option Value) (M : Mem) (r : Unit) (M' : Mem), J75_43 n rec3 x1 x2 x3 x4 x5 M = some (r, M') → pm_ev pmT sc e 75 false (43, [some (.ref 83), some (.int x1), some (.int x2), some (.int x3), some (.int x4), some (.int x5), u6, u7, u8], [], 129, 17845, hp M) (none, 129, 17845, hp M') := by
  intro x1 x2 x3 x4 x5 u6 u7 u8 M r M' h
  unfold J75_43 at h
  refine pe_blk mm_75 1 (s' := (44, [some (.ref 83), some (.int x1), some (.int x2), some (.int x3), some (.int x4), some (.int x5), u6, u7, u8], [.ref 83], _, _, _)) rfl ?_
  refine pe_get mm_75 rfl rfl rfl (by decide) rfl ?_
  refine pe_blk mm_75 1 (s' := (48, [some (.ref 83), some (.int x1), some (.int x2), some (.int x3), some (.int x4), some (.int x5), u6, u7, u8], [.int x1, .ref 96], _, _, _)) rfl ?_
  by_cases q6 : x1 < 0 ∨ 128 ≤ (x1 : Int32).toNatClampNeg
  · rw [if_pos q6] at h
    cases h
  · rw [if_neg q6] at h
    refine pe_iald (f := M.1 96) mm_75 rfl rfl (by decide) q6 ?_
    by_cases q7 : (M.1 96 (x1 : Int32).toNatClampNeg) < 0
    · rw [if_pos q7] at h
      refine pe_blk mm_75 1 (s' := (if (M.1 96 (x1 : Int32).toNatClampNeg) < 0 then 63 else 52, [some (.ref 83), some (.int x1), some (.int x2), some (.int x3), some (.int x4), some (.int x5), u6, u7, u8], [], _, _, _)) rfl ?_
      rw [if_pos q7]
      exact J75_63_ev sc n e he rec3 hr3 x1 x2 x3 x4 x5 _ _ _ _ _ _ h
    · rw [if_neg q7] at h
      refine pe_blk mm_75 1 (s' := (if (M.1 96 (x1 : Int32).toNatClampNeg) < 0 then 63 else 52, [some (.ref 83), some (.int x1), some (.int x2), some (.int x3), some (.int x4), some (.int x5), u6, u7, u8], [], _, _, _)) rfl ?_
      rw [if_neg q7]
      refine pe_blk mm_75 1 (s' := (53, [some (.ref 83), some (.int x1), some (.int x2), some (.int x3), some (.int x4), some (.int x5), u6, u7, u8], [.ref 83], _, _, _)) rfl ?_
      refine pe_get mm_75 rfl rfl rfl (by decide) rfl ?_
      refine pe_blk mm_75 1 (s' := (58, [some (.ref 83), some (.int x1), some (.int x2), some (.int x3), some (.int x4), some (.int x5), u6, u7, u8], [.int x5, .ref 124], _, _, _)) rfl ?_
      by_cases q32 : x5 < 0 ∨ 160 ≤ (x5 : Int32).toNatClampNeg
      · rw [if_pos q32] at h
        cases h
      · rw [if_neg q32] at h
        refine pe_iald (f := M.1 124) mm_75 rfl rfl (by decide) q32 ?_
        refine pe_blk mm_75 1 (s' := (60, [some (.ref 83), some (.int x1), some (.int x2), some (.int x3), some (.int x4), some (.int x5), u6, u7, u8], [.int x3, .int (M.1 124 (x5 : Int32).toNatClampNeg)], _, _, _)) rfl ?_
        by_cases q33 : (M.1 124 (x5 : Int32).toNatClampNeg) = x3
        · rw [if_pos q33] at h
          refine pe_blk mm_75 1 (s' := (if (M.1 124 (x5 : Int32).toNatClampNeg) = x3 then 63 else 67, [some (.ref 83), some (.int x1), some (.int x2), some (.int x3), some (.int x4), some (.int x5), u6, u7, u8], [], _, _, _)) rfl ?_
          rw [if_pos q33]
          exact J75_63_ev sc n e he rec3 hr3 x1 x2 x3 x4 x5 _ _ _ _ _ _ h
        · rw [if_neg q33] at h
          refine pe_blk mm_75 1 (s' := (if (M.1 124 (x5 : Int32).toNatClampNeg) = x3 then 63 else 67, [some (.ref 83), some (.int x1), some (.int x2), some (.int x3), some (.int x4), some (.int x5), u6, u7, u8], [], _, _, _)) rfl ?_
          rw [if_neg q33]
          exact J75_67_ev sc n e he rec3 hr3 x1 x2 x3 x4 x5 _ _ _ _ _ _ h
def J75_32 (n : Nat) (rec3 : Int32 → Int32 → Int32 → Int32 → Int32 → Mem → Option (Unit × Mem)) (x1 : Int32) (x2 : Int32) (x3 : Int32) (x4 : Int32) (x5 : Int32) (M : Mem) : Option (Unit × Mem) :=
  if x5 < 0 ∨ 160 ≤ (x5 : Int32).toNatClampNeg then none else (if (M.1 123 (x5 : Int32).toNatClampNeg) = x2 then (J75_43 n rec3 x1 x2 x3 x4 x5 M) else (J75_67 n rec3 x1 x2 x3 x4 x5 M))
set_option maxRecDepth 100000 in
set_option maxHeartbeats 4000000 in
theorem J75_32_ev (sc : Option (Nat × (Nat → Int32))) (n : Nat)  (e : Nat) (he : 2 ≤ e) (rec3 : Int32 → Int32 → Int32 → Int32 → Int32 → Mem → Option (Unit × Mem)) (hr3 : ∀ (x1 : Int32) (x2 : Int32) (x3 : Int32) (x4 : Int32) (x5 : Int32) (u6 : Option Value) (u7 : Option Value) (u8 : Option Value) (M : Mem) (r : Unit) (M' : Mem), rec3 x1 x2 x3 x4 x5 M = some (r, M') → pm_ev pmT sc e 75 false (3, [some (.ref 83), some (.int x1), some (.int x2), some (.int x3), some (.int x4), some (.int x5), u6, u7, u8], [], 129, 17845, hp M) (none, 129, 17845, hp M')) : ∀ (x1 : Int32) (x2 : Int32) (x3 : Int32) (x4 : Int32) (x5 : Int32) (u6 : Option Value) (u7 : Option Value) (u8 : Option Value) (M : Mem) (r : Unit) (M' : Mem), J75_32 n rec3 x1 x2 x3 x4 x5 M = some (r, M') → pm_ev pmT sc e 75 false (32, [some (.ref 83), some (.int x1), some (.int x2), some (.int x3), some (.int x4), some (.int x5), u6, u7, u8], [], 129, 17845, hp M) (none, 129, 17845, hp M') := by
  intro x1 x2 x3 x4 x5 u6 u7 u8 M r M' h
  unfold J75_32 at h
  refine pe_blk mm_75 1 (s' := (33, [some (.ref 83), some (.int x1), some (.int x2), some (.int x3), some (.int x4), some (.int x5), u6, u7, u8], [.ref 83], _, _, _)) rfl ?_
  refine pe_get mm_75 rfl rfl rfl (by decide) rfl ?_
  refine pe_blk mm_75 1 (s' := (38, [some (.ref 83), some (.int x1), some (.int x2), some (.int x3), some (.int x4), some (.int x5), u6, u7, u8], [.int x5, .ref 123], _, _, _)) rfl ?_
  by_cases q34 : x5 < 0 ∨ 160 ≤ (x5 : Int32).toNatClampNeg
  · rw [if_pos q34] at h
    cases h
  · rw [if_neg q34] at h
    refine pe_iald (f := M.1 123) mm_75 rfl rfl (by decide) q34 ?_
    refine pe_blk mm_75 1 (s' := (40, [some (.ref 83), some (.int x1), some (.int x2), some (.int x3), some (.int x4), some (.int x5), u6, u7, u8], [.int x2, .int (M.1 123 (x5 : Int32).toNatClampNeg)], _, _, _)) rfl ?_
    by_cases q35 : (M.1 123 (x5 : Int32).toNatClampNeg) = x2
    · rw [if_pos q35] at h
      refine pe_blk mm_75 1 (s' := (if (M.1 123 (x5 : Int32).toNatClampNeg) = x2 then 43 else 67, [some (.ref 83), some (.int x1), some (.int x2), some (.int x3), some (.int x4), some (.int x5), u6, u7, u8], [], _, _, _)) rfl ?_
      rw [if_pos q35]
      exact J75_43_ev sc n e he rec3 hr3 x1 x2 x3 x4 x5 _ _ _ _ _ _ h
    · rw [if_neg q35] at h
      refine pe_blk mm_75 1 (s' := (if (M.1 123 (x5 : Int32).toNatClampNeg) = x2 then 43 else 67, [some (.ref 83), some (.int x1), some (.int x2), some (.int x3), some (.int x4), some (.int x5), u6, u7, u8], [], _, _, _)) rfl ?_
      rw [if_neg q35]
      exact J75_67_ev sc n e he rec3 hr3 x1 x2 x3 x4 x5 _ _ _ _ _ _ h
def L75_3 (n : Nat) : Nat → Int32 → Int32 → Int32 → Int32 → Int32 → Mem → Option (Unit × Mem)
  | 0, _, _, _, _, _, _ => none
  | k + 1, x1, x2, x3, x4, x5, M => if (M.1 83 56) ≤ x5 then (some ((), M)) else (if x5 < 0 ∨ 160 ≤ (x5 : Int32).toNatClampNeg then none else (if (M.1 122 (x5 : Int32).toNatClampNeg) = x1 then (if x1 < 0 ∨ 128 ≤ (x1 : Int32).toNatClampNeg then none else (if (M.1 95 (x1 : Int32).toNatClampNeg) < 0 then (J75_43 n (L75_3 n k) x1 x2 x3 x4 x5 M) else (J75_32 n (L75_3 n k) x1 x2 x3 x4 x5 M))) else (J75_67 n (L75_3 n k) x1 x2 x3 x4 x5 M)))
set_option maxRecDepth 100000 in
set_option maxHeartbeats 4000000 in
theorem L75_3_ev (sc : Option (Nat × (Nat → Int32))) (n : Nat)  (e : Nat) (he : 2 ≤ e) : ∀ k : Nat, ∀ (x1 : Int32) (x2 : Int32) (x3 : Int32) (x4 : Int32) (x5 : Int32) (u6 : Option Value) (u7 : Option Value) (u8 : Option Value) (M : Mem) (r : Unit) (M' : Mem), L75_3 n k x1 x2 x3 x4 x5 M = some (r, M') → pm_ev pmT sc e 75 false (3, [some (.ref 83), some (.int x1), some (.int x2), some (.int x3), some (.int x4), some (.int x5), u6, u7, u8], [], 129, 17845, hp M) (none, 129, 17845, hp M') := by
  intro k
  induction k with
  | zero => intro x1 x2 x3 x4 x5 u6 u7 u8 M r M' h; cases h
  | succ k hr3 =>
    intro x1 x2 x3 x4 x5 u6 u7 u8 M r M' h
    rw [L75_3] at h
    refine pe_blk mm_75 2 (s' := (6, [some (.ref 83), some (.int x1), some (.int x2), some (.int x3), some (.int x4), some (.int x5), u6, u7, u8], [.ref 83, .int x5], _, _, _)) rfl ?_
    refine pe_get mm_75 rfl rfl rfl (by decide) rfl ?_
    by_cases q1 : (M.1 83 56) ≤ x5
    · rw [if_pos q1] at h
      refine pe_blk mm_75 1 (s' := (if (M.1 83 56) ≤ x5 then 198 else 12, [some (.ref 83), some (.int x1), some (.int x2), some (.int x3), some (.int x4), some (.int x5), u6, u7, u8], [], _, _, _)) rfl ?_
      rw [if_pos q1]
      cases h
      exact pe_ret mm_75 rfl rfl
    · rw [if_neg q1] at h
      refine pe_blk mm_75 1 (s' := (if (M.1 83 56) ≤ x5 then 198 else 12, [some (.ref 83), some (.int x1), some (.int x2), some (.int x3), some (.int x4), some (.int x5), u6, u7, u8], [], _, _, _)) rfl ?_
      rw [if_neg q1]
      refine pe_blk mm_75 1 (s' := (13, [some (.ref 83), some (.int x1), some (.int x2), some (.int x3), some (.int x4), some (.int x5), u6, u7, u8], [.ref 83], _, _, _)) rfl ?_
      refine pe_get mm_75 rfl rfl rfl (by decide) rfl ?_
      refine pe_blk mm_75 1 (s' := (18, [some (.ref 83), some (.int x1), some (.int x2), some (.int x3), some (.int x4), some (.int x5), u6, u7, u8], [.int x5, .ref 122], _, _, _)) rfl ?_
      by_cases q2 : x5 < 0 ∨ 160 ≤ (x5 : Int32).toNatClampNeg
      · rw [if_pos q2] at h
        cases h
      · rw [if_neg q2] at h
        refine pe_iald (f := M.1 122) mm_75 rfl rfl (by decide) q2 ?_
        refine pe_blk mm_75 1 (s' := (20, [some (.ref 83), some (.int x1), some (.int x2), some (.int x3), some (.int x4), some (.int x5), u6, u7, u8], [.int x1, .int (M.1 122 (x5 : Int32).toNatClampNeg)], _, _, _)) rfl ?_
        by_cases q3 : (M.1 122 (x5 : Int32).toNatClampNeg) = x1
        · rw [if_pos q3] at h
          refine pe_blk mm_75 1 (s' := (if (M.1 122 (x5 : Int32).toNatClampNeg) = x1 then 23 else 67, [some (.ref 83), some (.int x1), some (.int x2), some (.int x3), some (.int x4), some (.int x5), u6, u7, u8], [], _, _, _)) rfl ?_
          rw [if_pos q3]
          refine pe_blk mm_75 1 (s' := (24, [some (.ref 83), some (.int x1), some (.int x2), some (.int x3), some (.int x4), some (.int x5), u6, u7, u8], [.ref 83], _, _, _)) rfl ?_
          refine pe_get mm_75 rfl rfl rfl (by decide) rfl ?_
          refine pe_blk mm_75 1 (s' := (28, [some (.ref 83), some (.int x1), some (.int x2), some (.int x3), some (.int x4), some (.int x5), u6, u7, u8], [.int x1, .ref 95], _, _, _)) rfl ?_
          by_cases q4 : x1 < 0 ∨ 128 ≤ (x1 : Int32).toNatClampNeg
          · rw [if_pos q4] at h
            cases h
          · rw [if_neg q4] at h
            refine pe_iald (f := M.1 95) mm_75 rfl rfl (by decide) q4 ?_
            by_cases q5 : (M.1 95 (x1 : Int32).toNatClampNeg) < 0
            · rw [if_pos q5] at h
              refine pe_blk mm_75 1 (s' := (if (M.1 95 (x1 : Int32).toNatClampNeg) < 0 then 43 else 32, [some (.ref 83), some (.int x1), some (.int x2), some (.int x3), some (.int x4), some (.int x5), u6, u7, u8], [], _, _, _)) rfl ?_
              rw [if_pos q5]
              exact J75_43_ev sc n e he (L75_3 n k) hr3 x1 x2 x3 x4 x5 _ _ _ _ _ _ h
            · rw [if_neg q5] at h
              refine pe_blk mm_75 1 (s' := (if (M.1 95 (x1 : Int32).toNatClampNeg) < 0 then 43 else 32, [some (.ref 83), some (.int x1), some (.int x2), some (.int x3), some (.int x4), some (.int x5), u6, u7, u8], [], _, _, _)) rfl ?_
              rw [if_neg q5]
              exact J75_32_ev sc n e he (L75_3 n k) hr3 x1 x2 x3 x4 x5 _ _ _ _ _ _ h
        · rw [if_neg q3] at h
          refine pe_blk mm_75 1 (s' := (if (M.1 122 (x5 : Int32).toNatClampNeg) = x1 then 23 else 67, [some (.ref 83), some (.int x1), some (.int x2), some (.int x3), some (.int x4), some (.int x5), u6, u7, u8], [], _, _, _)) rfl ?_
          rw [if_neg q3]
          exact J75_67_ev sc n e he (L75_3 n k) hr3 x1 x2 x3 x4 x5 _ _ _ _ _ _ h
/-- ArmExpanderModel.makeUse -/
def F75 (n : Nat) (a0 : Int32) (a1 : Int32) (a2 : Int32) (a3 : Int32) (M : Mem) : Option (Unit × Mem) :=
  L75_3 n n a0 a1 a2 a3 0 M
set_option maxRecDepth 100000 in
set_option maxHeartbeats 4000000 in
theorem F75_ev (sc : Option (Nat × (Nat → Int32))) (n : Nat) (a0 : Int32) (a1 : Int32) (a2 : Int32) (a3 : Int32)  (M : Mem) (e : Nat) (he : 2 ≤ e) (r : Unit) (M' : Mem) (h : F75 n a0 a1 a2 a3 M = some (r, M')) : pm_ev pmT sc e 75 false (0, [some (.ref 83), some (.int a0), some (.int a1), some (.int a2), some (.int a3), none, none, none, none], [], 129, 17845, hp M) (none, 129, 17845, hp M') := by
  unfold F75 at h
  refine pe_blk mm_75 2 (s' := (3, [some (.ref 83), some (.int a0), some (.int a1), some (.int a2), some (.int a3), some (.int 0), none, none, none], [], _, _, _)) rfl ?_
  exact L75_3_ev sc n e he n a0 a1 a2 a3 0 _ _ _ _ _ _ h
def J76_123 (n : Nat) (s0 : Int32) (M : Mem) : Option (Int32 × Mem) :=
  some (s0, M)
set_option maxRecDepth 100000 in
set_option maxHeartbeats 4000000 in
theorem J76_123_ev (sc : Option (Nat × (Nat → Int32))) (n : Nat)  (e : Nat) (he : 3 ≤ e) : ∀ (s0 : Int32) (u0 : Option Value) (u1 : Option Value) (u2 : Option Value) (u3 : Option Value) (u4 : Option Value) (u5 : Option Value) (u6 : Option Value) (u7 : Option Value) (M : Mem) (r : Int32) (M' : Mem), J76_123 n s0 M = some (r, M') → pm_ev pmT sc e 76 false (123, [u0, u1, u2, u3, u4, u5, u6, u7], [.int s0], 129, 17845, hp M) (some (.int r), 129, 17845, hp M') := by
  intro s0 u0 u1 u2 u3 u4 u5 u6 u7 M r M' h
  unfold J76_123 at h
  cases h
  exact pe_ret mm_76 rfl rfl
def J76_107 (n : Nat) (rec8 : Int32 → Int32 → Int32 → Int32 → Int32 → Mem → Option (Int32 × Mem)) (x1 : Int32) (x2 : Int32) (x3 : Int32) (x4 : Int32) (x5 : Int32) (M : Mem) : Option (Int32 × Mem) :=
  rec8 x1 x2 x3 x4 (x5 + 1) M
set_option maxRecDepth 100000 in
set_option maxHeartbeats 4000000 in
theorem J76_107_ev (sc : Option (Nat × (Nat → Int32))) (n : Nat)  (e : Nat) (he : 3 ≤ e) (rec8 : Int32 → Int32 → Int32 → Int32 → Int32 → Mem → Option (Int32 × Mem)) (hr8 : ∀ (x1 : Int32) (x2 : Int32) (x3 : Int32) (x4 : Int32) (x5 : Int32) (u6 : Option Value) (u7 : Option Value) (M : Mem) (r : Int32) (M' : Mem), rec8 x1 x2 x3 x4 x5 M = some (r, M') → pm_ev pmT sc e 76 false (8, [some (.ref 83), some (.int x1), some (.int x2), some (.int x3), some (.int x4), some (.int x5), u6, u7], [], 129, 17845, hp M) (some (.int r), 129, 17845, hp M')) : ∀ (x1 : Int32) (x2 : Int32) (x3 : Int32) (x4 : Int32) (x5 : Int32) (u6 : Option Value) (u7 : Option Value) (M : Mem) (r : Int32) (M' : Mem), J76_107 n rec8 x1 x2 x3 x4 x5 M = some (r, M') → pm_ev pmT sc e 76 false (107, [some (.ref 83), some (.int x1), some (.int x2), some (.int x3), some (.int x4), some (.int x5), u6, u7], [], 129, 17845, hp M) (some (.int r), 129, 17845, hp M') := by
  intro x1 x2 x3 x4 x5 u6 u7 M r M' h
  unfold J76_107 at h
  refine pe_blk mm_76 2 (s' := (8, [some (.ref 83), some (.int x1), some (.int x2), some (.int x3), some (.int x4), some (.int (x5 + 1)), u6, u7], [], _, _, _)) rfl ?_
  exact hr8 x1 x2 x3 x4 (x5 + 1) _ _ _ _ _ h
def J76_102 (n : Nat) (rec8 : Int32 → Int32 → Int32 → Int32 → Int32 → Mem → Option (Int32 × Mem)) (x1 : Int32) (x2 : Int32) (x5 : Int32) (x7 : Int32) (s0 : Int32) (M : Mem) : Option (Int32 × Mem) :=
  J76_107 n rec8 x1 x2 x7 s0 x5 M
set_option maxRecDepth 100000 in
set_option maxHeartbeats 4000000 in
theorem J76_102_ev (sc : Option (Nat × (Nat → Int32))) (n : Nat)  (e : Nat) (he : 3 ≤ e) (rec8 : Int32 → Int32 → Int32 → Int32 → Int32 → Mem → Option (Int32 × Mem)) (hr8 : ∀ (x1 : Int32) (x2 : Int32) (x3 : Int32) (x4 : Int32) (x5 : Int32) (u6 : Option Value) (u7 : Option Value) (M : Mem) (r : Int32) (M' : Mem), rec8 x1 x2 x3 x4 x5 M = some (r, M') → pm_ev pmT sc e 76 false (8, [some (.ref 83), some (.int x1), some (.int x2), some (.int x3), some (.int x4), some (.int x5), u6, u7], [], 129, 17845, hp M) (some (.int r), 129, 17845, hp M')) : ∀ (x1 : Int32) (x2 : Int32) (x5 : Int32) (x7 : Int32) (s0 : Int32) (u3 : Option Value) (u4 : Option Value) (u6 : Option Value) (M : Mem) (r : Int32) (M' : Mem), J76_102 n rec8 x1 x2 x5 x7 s0 M = some (r, M') → pm_ev pmT sc e 76 false (102, [some (.ref 83), some (.int x1), some (.int x2), u3, u4, some (.int x5), u6, some (.int x7)], [.int s0], 129, 17845, hp M) (some (.int r), 129, 17845, hp M') := by
  intro x1 x2 x5 x7 s0 u3 u4 u6 M r M' h
  unfold J76_102 at h
  refine pe_blk mm_76 3 (s' := (107, [some (.ref 83), some (.int x1), some (.int x2), some (.int x7), some (.int s0), some (.int x5), u6, some (.int x7)], [], _, _, _)) rfl ?_
  exact J76_107_ev sc n e he rec8 hr8 x1 x2 x7 s0 x5 _ _ _ _ _ h
def J76_101 (n : Nat) (rec8 : Int32 → Int32 → Int32 → Int32 → Int32 → Mem → Option (Int32 × Mem)) (x1 : Int32) (x2 : Int32) (x5 : Int32) (x7 : Int32) (M : Mem) : Option (Int32 × Mem) :=
  J76_102 n rec8 x1 x2 x5 x7 0 M
set_option maxRecDepth 100000 in
set_option maxHeartbeats 4000000 in
theorem J76_101_ev (sc : Option (Nat × (Nat → Int32))) (n : Nat)  (e : Nat) (he : 3 ≤ e) (rec8 : Int32 → Int32 → Int32 → Int32 → Int32 → Mem → Option (Int32 × Mem)) (hr8 : ∀ (x1 : Int32) (x2 : Int32) (x3 : Int32) (x4 : Int32) (x5 : Int32) (u6 : Option Value) (u7 : Option Value) (M : Mem) (r : Int32) (M' : Mem), rec8 x1 x2 x3 x4 x5 M = some (r, M') → pm_ev pmT sc e 76 false (8, [some (.ref 83), some (.int x1), some (.int x2), some (.int x3), some (.int x4), some (.int x5), u6, u7], [], 129, 17845, hp M) (some (.int r), 129, 17845, hp M')) : ∀ (x1 : Int32) (x2 : Int32) (x5 : Int32) (x7 : Int32) (u3 : Option Value) (u4 : Option Value) (u6 : Option Value) (M : Mem) (r : Int32) (M' : Mem), J76_101 n rec8 x1 x2 x5 x7 M = some (r, M') → pm_ev pmT sc e 76 false (101, [some (.ref 83), some (.int x1), some (.int x2), u3, u4, some (.int x5), u6, some (.int x7)], [], 129, 17845, hp M) (some (.int r), 129, 17845, hp M') := by
  intro x1 x2 x5 x7 u3 u4 u6 M r M' h
  unfold J76_101 at h
  refine pe_blk mm_76 1 (s' := (102, [some (.ref 83), some (.int x1), some (.int x2), u3, u4, some (.int x5), u6, some (.int x7)], [.int 0], _, _, _)) rfl ?_
  exact J76_102_ev sc n e he rec8 hr8 x1 x2 x5 x7 0 _ _ _ _ _ _ h
def J76_97 (n : Nat) (rec8 : Int32 → Int32 → Int32 → Int32 → Int32 → Mem → Option (Int32 × Mem)) (x1 : Int32) (x2 : Int32) (x5 : Int32) (x7 : Int32) (M : Mem) : Option (Int32 × Mem) :=
  J76_102 n rec8 x1 x2 x5 x7 1 M
set_option maxRecDepth 100000 in
set_option maxHeartbeats 4000000 in
theorem J76_97_ev (sc : Option (Nat × (Nat → Int32))) (n : Nat)  (e : Nat) (he : 3 ≤ e) (rec8 : Int32 → Int32 → Int32 → Int32 → Int32 → Mem → Option (Int32 × Mem)) (hr8 : ∀ (x1 : Int32) (x2 : Int32) (x3 : Int32) (x4 : Int32) (x5 : Int32) (u6 : Option Value) (u7 : Option Value) (M : Mem) (r : Int32) (M' : Mem), rec8 x1 x2 x3 x4 x5 M = some (r, M') → pm_ev pmT sc e 76 false (8, [some (.ref 83), some (.int x1), some (.int x2), some (.int x3), some (.int x4), some (.int x5), u6, u7], [], 129, 17845, hp M) (some (.int r), 129, 17845, hp M')) : ∀ (x1 : Int32) (x2 : Int32) (x5 : Int32) (x7 : Int32) (u3 : Option Value) (u4 : Option Value) (u6 : Option Value) (M : Mem) (r : Int32) (M' : Mem), J76_97 n rec8 x1 x2 x5 x7 M = some (r, M') → pm_ev pmT sc e 76 false (97, [some (.ref 83), some (.int x1), some (.int x2), u3, u4, some (.int x5), u6, some (.int x7)], [], 129, 17845, hp M) (some (.int r), 129, 17845, hp M') := by
  intro x1 x2 x5 x7 u3 u4 u6 M r M' h
  unfold J76_97 at h
  refine pe_blk mm_76 2 (s' := (102, [some (.ref 83), some (.int x1), some (.int x2), u3, u4, some (.int x5), u6, some (.int x7)], [.int 1], _, _, _)) rfl ?_
  exact J76_102_ev sc n e he rec8 hr8 x1 x2 x5 x7 1 _ _ _ _ _ _ h
def J76_80 (n : Nat) (rec8 : Int32 → Int32 → Int32 → Int32 → Int32 → Mem → Option (Int32 × Mem)) (x1 : Int32) (x2 : Int32) (x3 : Int32) (x4 : Int32) (x5 : Int32) (s0 : Int32) (M : Mem) : Option (Int32 × Mem) :=
  if x4 = 0 then (J76_101 n rec8 x1 x2 x5 s0 M) else (if x3 < 0 then (J76_97 n rec8 x1 x2 x5 s0 M) else (if x3 = s0 then (J76_97 n rec8 x1 x2 x5 s0 M) else (J76_101 n rec8 x1 x2 x5 s0 M)))
set_option maxRecDepth 100000 in
set_option maxHeartbeats 4000000 in
theorem J76_80_ev (sc : Option (Nat × (Nat → Int32))) (n : Nat)  (e : Nat) (he : 3 ≤ e) (rec8 : Int32 → Int32 → Int32 → Int32 → Int32 → Mem → Option (Int32 × Mem)) (hr8 : ∀ (x1 : Int32) (x2 : Int32) (x3 : Int32) (x4 : Int32) (x5 : Int32) (u6 : Option Value) (u7 : Option Value) (M : Mem) (r : Int32) (M' : Mem), rec8 x1 x2 x3 x4 x5 M = some (r, M') → pm_ev pmT sc e 76 false (8, [some (.ref 83), some (.int x1), some (.int x2), some (.int x3), some (.int x4), some (.int x5), u6, u7], [], 129, 17845, hp M) (some (.int r), 129, 17845, hp M')) : ∀ (x1 : Int32) (x2 : Int32) (x3 : Int32) (x4 : Int32) (x5 : Int32) (s0 : Int32) (u6 : Option Value) (u7 : Option Value) (M : Mem) (r : Int32) (M' : Mem), J76_80 n rec8 x1 x2 x3 x4 x5 s0 M = some (r, M') → pm_ev pmT sc e 76 false (80, [some (.ref 83), some (.int x1), some (.int x2), some (.int x3), some (.int x4), some (.int x5), u6, u7], [.int s0], 129, 17845, hp M) (some (.int r), 129, 17845, hp M') := by
  intro x1 x2 x3 x4 x5 s0 u6 u7 M r M' h
  unfold J76_80 at h
  refine pe_blk mm_76 2 (s' := (84, [some (.ref 83), some (.int x1), some (.int x2), some (.int x3), some (.int x4), some (.int x5), u6, some (.int s0)], [.int x4], _, _, _)) rfl ?_
  by_cases q16 : x4 = 0
  · rw [if_pos q16] at h
    refine pe_blk mm_76 1 (s' := (if x4 = 0 then 101 else 87, [some (.ref 83), some (.int x1), some (.int x2), some (.int x3), some (.int x4), some (.int x5), u6, some (.int s0)], [], _, _, _)) rfl ?_
    rw [if_pos q16]
    exact J76_101_ev sc n e he rec8 hr8 x1 x2 x5 s0 _ _ _ _ _ _ h
  · rw [if_neg q16] at h
    refine pe_blk mm_76 1 (s' := (if x4 = 0 then 101 else 87, [some (.ref 83), some (.int x1), some (.int x2), some (.int x3), some (.int x4), some (.int x5), u6, some (.int s0)], [], _, _, _)) rfl ?_
    rw [if_neg q16]
    refine pe_blk mm_76 1 (s' := (88, [some (.ref 83), some (.int x1), some (.int x2), some (.int x3), some (.int x4), some (.int x5), u6, some (.int s0)], [.int x3], _, _, _)) rfl ?_
    by_cases q17 : x3 < 0
    · rw [if_pos q17] at h
      refine pe_blk mm_76 1 (s' := (if x3 < 0 then 97 else 91, [some (.ref 83), some (.int x1), some (.int x2), some (.int x3), some (.int x4), some (.int x5), u6, some (.int s0)], [], _, _, _)) rfl ?_
      rw [if_pos q17]
      exact J76_97_ev sc n e he rec8 hr8 x1 x2 x5 s0 _ _ _ _ _ _ h
    · rw [if_neg q17] at h
      refine pe_blk mm_76 1 (s' := (if x3 < 0 then 97 else 91, [some (.ref 83), some (.int x1), some (.int x2), some (.int x3), some (.int x4), some (.int x5), u6, some (.int s0)], [], _, _, _)) rfl ?_
      rw [if_neg q17]
      refine pe_blk mm_76 2 (s' := (94, [some (.ref 83), some (.int x1), some (.int x2), some (.int x3), some (.int x4), some (.int x5), u6, some (.int s0)], [.int s0, .int x3], _, _, _)) rfl ?_
      by_cases q18 : x3 = s0
      · rw [if_pos q18] at h
        refine pe_blk mm_76 1 (s' := (if x3 = s0 then 97 else 101, [some (.ref 83), some (.int x1), some (.int x2), some (.int x3), some (.int x4), some (.int x5), u6, some (.int s0)], [], _, _, _)) rfl ?_
        rw [if_pos q18]
        exact J76_97_ev sc n e he rec8 hr8 x1 x2 x5 s0 _ _ _ _ _ _ h
      · rw [if_neg q18] at h
        refine pe_blk mm_76 1 (s' := (if x3 = s0 then 97 else 101, [some (.ref 83), some (.int x1), some (.int x2), some (.int x3), some (.int x4), some (.int x5), u6, some (.int s0)], [], _, _, _)) rfl ?_
        rw [if_neg q18]
        exact J76_101_ev sc n e he rec8 hr8 x1 x2 x5 s0 _ _ _ _ _ _ h
def J76_68 (n : Nat) (rec8 : Int32 → Int32 → Int32 → Int32 → Int32 → Mem → Option (Int32 × Mem)) (x1 : Int32) (x2 : Int32) (x3 : Int32) (x4 : Int32) (x5 : Int32) (x6 : Int32) (M : Mem) : Option (Int32 × Mem) :=
  if x6 < 0 ∨ 128 ≤ (x6 : Int32).toNatClampNeg then none else (match F69 n (M.1 96 (x6 : Int32).toNatClampNeg) x2 M with | some (v13, M14) => (J76_80 n rec8 x1 x2 x3 x4 x5 v13 M14) | none => none)
set_option maxRecDepth 100000 in
set_option maxHeartbeats 4000000 in
theorem J76_68_ev (sc : Option (Nat × (Nat → Int32))) (n : Nat)  (e : Nat) (he : 3 ≤ e) (rec8 : Int32 → Int32 → Int32 → Int32 → Int32 → Mem → Option (Int32 × Mem)) (hr8 : ∀ (x1 : Int32) (x2 : Int32) (x3 : Int32) (x4 : Int32) (x5 : Int32) (u6 : Option Value) (u7 : Option Value) (M : Mem) (r : Int32) (M' : Mem), rec8 x1 x2 x3 x4 x5 M = some (r, M') → pm_ev pmT sc e 76 false (8, [some (.ref 83), some (.int x1), some (.int x2), some (.int x3), some (.int x4), some (.int x5), u6, u7], [], 129, 17845, hp M) (some (.int r), 129, 17845, hp M')) : ∀ (x1 : Int32) (x2 : Int32) (x3 : Int32) (x4 : Int32) (x5 : Int32) (x6 : Int32) (u7 : Option Value) (M : Mem) (r : Int32) (M' : Mem), J76_68 n rec8 x1 x2 x3 x4 x5 x6 M = some (r, M') → pm_ev pmT sc e 76 false (68, [some (.ref 83), some (.int x1), some (.int x2), some (.int x3), some (.int x4), some (.int x5), some (.int x6), u7], [], 129, 17845, hp M) (some (.int r), 129, 17845, hp M') := by
  intro x1 x2 x3 x4 x5 x6 u7 M r M' h
  unfold J76_68 at h
  refine pe_blk mm_76 2 (s' := (70, [some (.ref 83), some (.int x1), some (.int x2), some (.int x3), some (.int x4), some (.int x5), some (.int x6), u7], [.ref 83, .ref 83], _, _, _)) rfl ?_
  refine pe_get mm_76 rfl rfl rfl (by decide) rfl ?_
  refine pe_blk mm_76 1 (s' := (75, [some (.ref 83), some (.int x1), some (.int x2), some (.int x3), some (.int x4), some (.int x5), some (.int x6), u7], [.int x6, .ref 96, .ref 83], _, _, _)) rfl ?_
  by_cases q12 : x6 < 0 ∨ 128 ≤ (x6 : Int32).toNatClampNeg
  · rw [if_pos q12] at h
    cases h
  · rw [if_neg q12] at h
    refine pe_iald (f := M.1 96) mm_76 rfl rfl (by decide) q12 ?_
    refine pe_blk mm_76 1 (s' := (77, [some (.ref 83), some (.int x1), some (.int x2), some (.int x3), some (.int x4), some (.int x5), some (.int x6), u7], [.int x2, .int (M.1 96 (x6 : Int32).toNatClampNeg), .ref 83], _, _, _)) rfl ?_
    obtain ⟨e1, rfl⟩ : ∃ e1, e = e1 + 1 := ⟨e - 1, by omega⟩
    cases hc15 : F69 n (M.1 96 (x6 : Int32).toNatClampNeg) x2 M with
    | none => rw [hc15] at h; cases h
    | some w =>
      obtain ⟨v13, M14⟩ := w
      rw [hc15] at h
      dsimp only at h
      refine pe_virt (al := [.int x2, .int (M.1 96 (x6 : Int32).toNatClampNeg)]) (a := 83) (L0 := [some (.ref 83), some (.int (M.1 96 (x6 : Int32).toNatClampNeg)), some (.int x2), none]) (r1 := (some (.int v13), 129, 17845, hp M14)) mm_76 rfl rfl rfl mm_69 rfl (by decide) (by decide) rfl (Nat.le_of_ble_eq_true rfl) (Nat.le_of_ble_eq_true rfl) rfl rfl (F69_ev sc n (M.1 96 (x6 : Int32).toNatClampNeg) x2 _ e1 (by omega) _ _ hc15) ?_
      show pm_ev _ _ _ _ _ (80, [some (.ref 83), some (.int x1), some (.int x2), some (.int x3), some (.int x4), some (.int x5), some (.int x6), u7], [.int v13], _, _, _) _
      exact J76_80_ev sc n (e1 + 1) he rec8 hr8 x1 x2 x3 x4 x5 v13 _ _ _ _ _ h
def J76_53 (n : Nat) (rec8 : Int32 → Int32 → Int32 → Int32 → Int32 → Mem → Option (Int32 × Mem)) (x1 : Int32) (x2 : Int32) (x3 : Int32) (x4 : Int32) (x5 : Int32) (x6 : Int32) (M : Mem) : Option (Int32 × Mem) :=
  if x6 < 0 ∨ 128 ≤ (x6 : Int32).toNatClampNeg then none else (if (M.1 95 (x6 : Int32).toNatClampNeg) < 0 ∨ 128 ≤ (M.1 95 (x6 : Int32).toNatClampNeg : Int32).toNatClampNeg then none else (J76_80 n rec8 x1 x2 x3 x4 x5 (M.1 118 (M.1 95 (x6 : Int32).toNatClampNeg : Int32).toNatClampNeg) M))
set_option maxRecDepth 100000 in
set_option maxHeartbeats 4000000 in
theorem J76_53_ev (sc : Option (Nat × (Nat → Int32))) (n : Nat)  (e : Nat) (he : 3 ≤ e) (rec8 : Int32 → Int32 → Int32 → Int32 → Int32 → Mem → Option (Int32 × Mem)) (hr8 : ∀ (x1 : Int32) (x2 : Int32) (x3 : Int32) (x4 : Int32) (x5 : Int32) (u6 : Option Value) (u7 : Option Value) (M : Mem) (r : Int32) (M' : Mem), rec8 x1 x2 x3 x4 x5 M = some (r, M') → pm_ev pmT sc e 76 false (8, [some (.ref 83), some (.int x1), some (.int x2), some (.int x3), some (.int x4), some (.int x5), u6, u7], [], 129, 17845, hp M) (some (.int r), 129, 17845, hp M')) : ∀ (x1 : Int32) (x2 : Int32) (x3 : Int32) (x4 : Int32) (x5 : Int32) (x6 : Int32) (u7 : Option Value) (M : Mem) (r : Int32) (M' : Mem), J76_53 n rec8 x1 x2 x3 x4 x5 x6 M = some (r, M') → pm_ev pmT sc e 76 false (53, [some (.ref 83), some (.int x1), some (.int x2), some (.int x3), some (.int x4), some (.int x5), some (.int x6), u7], [], 129, 17845, hp M) (some (.int r), 129, 17845, hp M') := by
  intro x1 x2 x3 x4 x5 x6 u7 M r M' h
  unfold J76_53 at h
  refine pe_blk mm_76 1 (s' := (54, [some (.ref 83), some (.int x1), some (.int x2), some (.int x3), some (.int x4), some (.int x5), some (.int x6), u7], [.ref 83], _, _, _)) rfl ?_
  refine pe_get mm_76 rfl rfl rfl (by decide) rfl ?_
  refine pe_blk mm_76 1 (s' := (58, [some (.ref 83), some (.int x1), some (.int x2), some (.int x3), some (.int x4), some (.int x5), some (.int x6), u7], [.ref 83, .ref 118], _, _, _)) rfl ?_
  refine pe_get mm_76 rfl rfl rfl (by decide) rfl ?_
  refine pe_blk mm_76 1 (s' := (63, [some (.ref 83), some (.int x1), some (.int x2), some (.int x3), some (.int x4), some (.int x5), some (.int x6), u7], [.int x6, .ref 95, .ref 118], _, _, _)) rfl ?_
  by_cases q19 : x6 < 0 ∨ 128 ≤ (x6 : Int32).toNatClampNeg
  · rw [if_pos q19] at h
    cases h
  · rw [if_neg q19] at h
    refine pe_iald (f := M.1 95) mm_76 rfl rfl (by decide) q19 ?_
    by_cases q20 : (M.1 95 (x6 : Int32).toNatClampNeg) < 0 ∨ 128 ≤ (M.1 95 (x6 : Int32).toNatClampNeg : Int32).toNatClampNeg
    · rw [if_pos q20] at h
      cases h
    · rw [if_neg q20] at h
      refine pe_iald (f := M.1 118) mm_76 rfl rfl (by decide) q20 ?_
      refine pe_blk mm_76 1 (s' := (80, [some (.ref 83), some (.int x1), some (.int x2), some (.int x3), some (.int x4), some (.int x5), some (.int x6), u7], [.int (M.1 118 (M.1 95 (x6 : Int32).toNatClampNeg : Int32).toNatClampNeg)], _, _, _)) rfl ?_
      exact J76_80_ev sc n e he rec8 hr8 x1 x2 x3 x4 x5 (M.1 118 (M.1 95 (x6 : Int32).toNatClampNeg : Int32).toNatClampNeg) _ _ _ _ _ h
def J76_31 (n : Nat) (rec8 : Int32 → Int32 → Int32 → Int32 → Int32 → Mem → Option (Int32 × Mem)) (x1 : Int32) (x2 : Int32) (x3 : Int32) (x4 : Int32) (x5 : Int32) (M : Mem) : Option (Int32 × Mem) :=
  if x5 < 0 ∨ 128 ≤ (x5 : Int32).toNatClampNeg then none else (match F46 n (M.1 98 (x5 : Int32).toNatClampNeg) M with | some (v7, M8) => (if x1 < 0 ∨ 128 ≤ (x1 : Int32).toNatClampNeg then none else (if 0 ≤ (M8.1 101 (x1 : Int32).toNatClampNeg) then (J76_68 n rec8 x1 x2 x3 x4 x5 v7 M8) else (J76_53 n rec8 x1 x2 x3 x4 x5 v7 M8))) | none => none)
set_option maxRecDepth 100000 in
set_option maxHeartbeats 4000000 in
theorem J76_31_ev (sc : Option (Nat × (Nat → Int32))) (n : Nat)  (e : Nat) (he : 3 ≤ e) (rec8 : Int32 → Int32 → Int32 → Int32 → Int32 → Mem → Option (Int32 × Mem)) (hr8 : ∀ (x1 : Int32) (x2 : Int32) (x3 : Int32) (x4 : Int32) (x5 : Int32) (u6 : Option Value) (u7 : Option Value) (M : Mem) (r : Int32) (M' : Mem), rec8 x1 x2 x3 x4 x5 M = some (r, M') → pm_ev pmT sc e 76 false (8, [some (.ref 83), some (.int x1), some (.int x2), some (.int x3), some (.int x4), some (.int x5), u6, u7], [], 129, 17845, hp M) (some (.int r), 129, 17845, hp M')) : ∀ (x1 : Int32) (x2 : Int32) (x3 : Int32) (x4 : Int32) (x5 : Int32) (u6 : Option Value) (u7 : Option Value) (M : Mem) (r : Int32) (M' : Mem), J76_31 n rec8 x1 x2 x3 x4 x5 M = some (r, M') → pm_ev pmT sc e 76 false (31, [some (.ref 83), some (.int x1), some (.int x2), some (.int x3), some (.int x4), some (.int x5), u6, u7], [], 129, 17845, hp M) (some (.int r), 129, 17845, hp M') := by
  intro x1 x2 x3 x4 x5 u6 u7 M r M' h
  unfold J76_31 at h
  refine pe_blk mm_76 2 (s' := (33, [some (.ref 83), some (.int x1), some (.int x2), some (.int x3), some (.int x4), some (.int x5), u6, u7], [.ref 83, .ref 83], _, _, _)) rfl ?_
  refine pe_get mm_76 rfl rfl rfl (by decide) rfl ?_
  refine pe_blk mm_76 1 (s' := (38, [some (.ref 83), some (.int x1), some (.int x2), some (.int x3), some (.int x4), some (.int x5), u6, u7], [.int x5, .ref 98, .ref 83], _, _, _)) rfl ?_
  by_cases q6 : x5 < 0 ∨ 128 ≤ (x5 : Int32).toNatClampNeg
  · rw [if_pos q6] at h
    cases h
  · rw [if_neg q6] at h
    refine pe_iald (f := M.1 98) mm_76 rfl rfl (by decide) q6 ?_
    obtain ⟨e1, rfl⟩ : ∃ e1, e = e1 + 1 := ⟨e - 1, by omega⟩
    cases hc9 : F46 n (M.1 98 (x5 : Int32).toNatClampNeg) M with
    | none => rw [hc9] at h; cases h
    | some w =>
      obtain ⟨v7, M8⟩ := w
      rw [hc9] at h
      dsimp only at h
      refine pe_virt (al := [.int (M.1 98 (x5 : Int32).toNatClampNeg)]) (a := 83) (L0 := [some (.ref 83), some (.int (M.1 98 (x5 : Int32).toNatClampNeg)), none, none]) (r1 := (some (.int v7), 129, 17845, hp M8)) mm_76 rfl rfl rfl mm_46 rfl (by decide) (by decide) rfl (Nat.le_of_ble_eq_true rfl) (Nat.le_of_ble_eq_true rfl) rfl rfl (F46_ev sc n (M.1 98 (x5 : Int32).toNatClampNeg) _ e1 (by omega) _ _ hc9) ?_
      show pm_ev _ _ _ _ _ (42, [some (.ref 83), some (.int x1), some (.int x2), some (.int x3), some (.int x4), some (.int x5), u6, u7], [.int v7], _, _, _) _
      refine pe_blk mm_76 2 (s' := (45, [some (.ref 83), some (.int x1), some (.int x2), some (.int x3), some (.int x4), some (.int x5), some (.int v7), u7], [.ref 83], _, _, _)) rfl ?_
      refine pe_get mm_76 rfl rfl rfl (by decide) rfl ?_
      refine pe_blk mm_76 1 (s' := (49, [some (.ref 83), some (.int x1), some (.int x2), some (.int x3), some (.int x4), some (.int x5), some (.int v7), u7], [.int x1, .ref 101], _, _, _)) rfl ?_
      by_cases q10 : x1 < 0 ∨ 128 ≤ (x1 : Int32).toNatClampNeg
      · rw [if_pos q10] at h
        cases h
      · rw [if_neg q10] at h
        refine pe_iald (f := M8.1 101) mm_76 rfl rfl (by decide) q10 ?_
        by_cases q11 : 0 ≤ (M8.1 101 (x1 : Int32).toNatClampNeg)
        · rw [if_pos q11] at h
          refine pe_blk mm_76 1 (s' := (if 0 ≤ (M8.1 101 (x1 : Int32).toNatClampNeg) then 68 else 53, [some (.ref 83), some (.int x1), some (.int x2), some (.int x3), some (.int x4), some (.int x5), some (.int v7), u7], [], _, _, _)) rfl ?_
          rw [if_pos q11]
          exact J76_68_ev sc n (e1 + 1) he rec8 hr8 x1 x2 x3 x4 x5 v7 _ _ _ _ h
        · rw [if_neg q11] at h
          refine pe_blk mm_76 1 (s' := (if 0 ≤ (M8.1 101 (x1 : Int32).toNatClampNeg) then 68 else 53, [some (.ref 83), some (.int x1), some (.int x2), some (.int x3), some (.int x4), some (.int x5), some (.int v7), u7], [], _, _, _)) rfl ?_
          rw [if_neg q11]
          exact J76_53_ev sc n (e1 + 1) he rec8 hr8 x1 x2 x3 x4 x5 v7 _ _ _ _ h
def L76_8 (n : Nat) : Nat → Int32 → Int32 → Int32 → Int32 → Int32 → Mem → Option (Int32 × Mem)
  | 0, _, _, _, _, _, _ => none
  | k + 1, x1, x2, x3, x4, x5, M => if x1 < 0 ∨ 128 ≤ (x1 : Int32).toNatClampNeg then none else (if (M.1 99 (x1 : Int32).toNatClampNeg) ≤ x5 then (if x4 = 0 then (J76_123 n (-1) M) else (J76_123 n x3 M)) else (if x5 < 0 ∨ 128 ≤ (x5 : Int32).toNatClampNeg then none else (if (M.1 97 (x5 : Int32).toNatClampNeg) = 7 then (J76_31 n (L76_8 n k) x1 x2 x3 x4 x5 M) else (J76_107 n (L76_8 n k) x1 x2 x3 x4 x5 M))))
set_option maxRecDepth 100000 in
set_option maxHeartbeats 4000000 in
theorem L76_8_ev (sc : Option (Nat × (Nat → Int32))) (n : Nat)  (e : Nat) (he : 3 ≤ e) : ∀ k : Nat, ∀ (x1 : Int32) (x2 : Int32) (x3 : Int32) (x4 : Int32) (x5 : Int32) (u6 : Option Value) (u7 : Option Value) (M : Mem) (r : Int32) (M' : Mem), L76_8 n k x1 x2 x3 x4 x5 M = some (r, M') → pm_ev pmT sc e 76 false (8, [some (.ref 83), some (.int x1), some (.int x2), some (.int x3), some (.int x4), some (.int x5), u6, u7], [], 129, 17845, hp M) (some (.int r), 129, 17845, hp M') := by
  intro k
  induction k with
  | zero => intro x1 x2 x3 x4 x5 u6 u7 M r M' h; cases h
  | succ k hr8 =>
    intro x1 x2 x3 x4 x5 u6 u7 M r M' h
    rw [L76_8] at h
    refine pe_blk mm_76 2 (s' := (11, [some (.ref 83), some (.int x1), some (.int x2), some (.int x3), some (.int x4), some (.int x5), u6, u7], [.ref 83, .int x5], _, _, _)) rfl ?_
    refine pe_get mm_76 rfl rfl rfl (by decide) rfl ?_
    refine pe_blk mm_76 1 (s' := (15, [some (.ref 83), some (.int x1), some (.int x2), some (.int x3), some (.int x4), some (.int x5), u6, u7], [.int x1, .ref 99, .int x5], _, _, _)) rfl ?_
    by_cases q1 : x1 < 0 ∨ 128 ≤ (x1 : Int32).toNatClampNeg
    · rw [if_pos q1] at h
      cases h
    · rw [if_neg q1] at h
      refine pe_iald (f := M.1 99) mm_76 rfl rfl (by decide) q1 ?_
      by_cases q2 : (M.1 99 (x1 : Int32).toNatClampNeg) ≤ x5
      · rw [if_pos q2] at h
        refine pe_blk mm_76 1 (s' := (if (M.1 99 (x1 : Int32).toNatClampNeg) ≤ x5 then 113 else 19, [some (.ref 83), some (.int x1), some (.int x2), some (.int x3), some (.int x4), some (.int x5), u6, u7], [], _, _, _)) rfl ?_
        rw [if_pos q2]
        refine pe_blk mm_76 1 (s' := (115, [some (.ref 83), some (.int x1), some (.int x2), some (.int x3), some (.int x4), some (.int x5), u6, u7], [.int x4], _, _, _)) rfl ?_
        by_cases q3 : x4 = 0
        · rw [if_pos q3] at h
          refine pe_blk mm_76 1 (s' := (if x4 = 0 then 122 else 118, [some (.ref 83), some (.int x1), some (.int x2), some (.int x3), some (.int x4), some (.int x5), u6, u7], [], _, _, _)) rfl ?_
          rw [if_pos q3]
          refine pe_blk mm_76 1 (s' := (123, [some (.ref 83), some (.int x1), some (.int x2), some (.int x3), some (.int x4), some (.int x5), u6, u7], [.int (-1)], _, _, _)) rfl ?_
          exact J76_123_ev sc n e he (-1) _ _ _ _ _ _ _ _ _ _ _ h
        · rw [if_neg q3] at h
          refine pe_blk mm_76 1 (s' := (if x4 = 0 then 122 else 118, [some (.ref 83), some (.int x1), some (.int x2), some (.int x3), some (.int x4), some (.int x5), u6, u7], [], _, _, _)) rfl ?_
          rw [if_neg q3]
          refine pe_blk mm_76 2 (s' := (123, [some (.ref 83), some (.int x1), some (.int x2), some (.int x3), some (.int x4), some (.int x5), u6, u7], [.int x3], _, _, _)) rfl ?_
          exact J76_123_ev sc n e he x3 _ _ _ _ _ _ _ _ _ _ _ h
      · rw [if_neg q2] at h
        refine pe_blk mm_76 1 (s' := (if (M.1 99 (x1 : Int32).toNatClampNeg) ≤ x5 then 113 else 19, [some (.ref 83), some (.int x1), some (.int x2), some (.int x3), some (.int x4), some (.int x5), u6, u7], [], _, _, _)) rfl ?_
        rw [if_neg q2]
        refine pe_blk mm_76 1 (s' := (20, [some (.ref 83), some (.int x1), some (.int x2), some (.int x3), some (.int x4), some (.int x5), u6, u7], [.ref 83], _, _, _)) rfl ?_
        refine pe_get mm_76 rfl rfl rfl (by decide) rfl ?_
        refine pe_blk mm_76 1 (s' := (25, [some (.ref 83), some (.int x1), some (.int x2), some (.int x3), some (.int x4), some (.int x5), u6, u7], [.int x5, .ref 97], _, _, _)) rfl ?_
        by_cases q4 : x5 < 0 ∨ 128 ≤ (x5 : Int32).toNatClampNeg
        · rw [if_pos q4] at h
          cases h
        · rw [if_neg q4] at h
          refine pe_iald (f := M.1 97) mm_76 rfl rfl (by decide) q4 ?_
          refine pe_blk mm_76 1 (s' := (28, [some (.ref 83), some (.int x1), some (.int x2), some (.int x3), some (.int x4), some (.int x5), u6, u7], [.int 7, .int (M.1 97 (x5 : Int32).toNatClampNeg)], _, _, _)) rfl ?_
          by_cases q5 : (M.1 97 (x5 : Int32).toNatClampNeg) = 7
          · rw [if_pos q5] at h
            refine pe_blk mm_76 1 (s' := (if (M.1 97 (x5 : Int32).toNatClampNeg) = 7 then 31 else 107, [some (.ref 83), some (.int x1), some (.int x2), some (.int x3), some (.int x4), some (.int x5), u6, u7], [], _, _, _)) rfl ?_
            rw [if_pos q5]
            exact J76_31_ev sc n e he (L76_8 n k) hr8 x1 x2 x3 x4 x5 _ _ _ _ _ h
          · rw [if_neg q5] at h
            refine pe_blk mm_76 1 (s' := (if (M.1 97 (x5 : Int32).toNatClampNeg) = 7 then 31 else 107, [some (.ref 83), some (.int x1), some (.int x2), some (.int x3), some (.int x4), some (.int x5), u6, u7], [], _, _, _)) rfl ?_
            rw [if_neg q5]
            exact J76_107_ev sc n e he (L76_8 n k) hr8 x1 x2 x3 x4 x5 _ _ _ _ _ h
/-- ArmExpanderModel.roundsOf -/
def F76 (n : Nat) (a0 : Int32) (a1 : Int32) (M : Mem) : Option (Int32 × Mem) :=
  L76_8 n n a0 a1 (-1) 1 a0 M
set_option maxRecDepth 100000 in
set_option maxHeartbeats 4000000 in
theorem F76_ev (sc : Option (Nat × (Nat → Int32))) (n : Nat) (a0 : Int32) (a1 : Int32)  (M : Mem) (e : Nat) (he : 3 ≤ e) (r : Int32) (M' : Mem) (h : F76 n a0 a1 M = some (r, M')) : pm_ev pmT sc e 76 false (0, [some (.ref 83), some (.int a0), some (.int a1), none, none, none, none, none], [], 129, 17845, hp M) (some (.int r), 129, 17845, hp M') := by
  unfold F76 at h
  refine pe_blk mm_76 6 (s' := (8, [some (.ref 83), some (.int a0), some (.int a1), some (.int (-1)), some (.int 1), some (.int a0), none, none], [], _, _, _)) rfl ?_
  exact L76_8_ev sc n e he n a0 a1 (-1) 1 a0 _ _ _ _ _ h
