/-! The methods as functions over Mem; written by program. -/
def J73_206 (n : Nat) (rec36 : Int32 → Int32 → Mem → Option (Unit × Mem)) (x2 : Int32) (s0 : Int32) (M : Mem) : Option (Unit × Mem) :=
  rec36 s0 (x2 + 1) M
set_option maxRecDepth 100000 in
set_option maxHeartbeats 4000000 in
theorem J73_206_ev (sc : Option (Nat × (Nat → Int32))) (n : Nat)  (e : Nat) (he : 4 ≤ e) (rec36 : Int32 → Int32 → Mem → Option (Unit × Mem)) (hr36 : ∀ (x1 : Int32) (x2 : Int32) (u3 : Option Value) (u4 : Option Value) (M : Mem) (r : Unit) (M' : Mem), rec36 x1 x2 M = some (r, M') → pm_ev pmT sc e 73 false (36, [some (.ref 83), some (.int x1), some (.int x2), u3, u4], [], 129, 17845, hp M) (none, 129, 17845, hp M')) : ∀ (x2 : Int32) (s0 : Int32) (u1 : Option Value) (u3 : Option Value) (u4 : Option Value) (M : Mem) (r : Unit) (M' : Mem), J73_206 n rec36 x2 s0 M = some (r, M') → pm_ev pmT sc e 73 false (206, [some (.ref 83), u1, some (.int x2), u3, u4], [.int s0], 129, 17845, hp M) (none, 129, 17845, hp M') := by
  intro x2 s0 u1 u3 u4 M r M' h
  unfold J73_206 at h
  refine pe_blk mm_73 3 (s' := (36, [some (.ref 83), some (.int s0), some (.int (x2 + 1)), u3, u4], [], _, _, _)) rfl ?_
  exact hr36 s0 (x2 + 1) _ _ _ _ _ h
def J73_187 (n : Nat) (rec36 : Int32 → Int32 → Mem → Option (Unit × Mem)) (x2 : Int32) (x3 : Int32) (x4 : Int32) (M : Mem) : Option (Unit × Mem) :=
  if x4 = 0 then (J73_206 n rec36 x2 (x3 + 1) M) else (if x3 < 0 ∨ 128 ≤ (x3 : Int32).toNatClampNeg then none else (J73_206 n rec36 x2 ((M.1 92 (x3 : Int32).toNatClampNeg) + 1) M))
set_option maxRecDepth 100000 in
set_option maxHeartbeats 4000000 in
theorem J73_187_ev (sc : Option (Nat × (Nat → Int32))) (n : Nat)  (e : Nat) (he : 4 ≤ e) (rec36 : Int32 → Int32 → Mem → Option (Unit × Mem)) (hr36 : ∀ (x1 : Int32) (x2 : Int32) (u3 : Option Value) (u4 : Option Value) (M : Mem) (r : Unit) (M' : Mem), rec36 x1 x2 M = some (r, M') → pm_ev pmT sc e 73 false (36, [some (.ref 83), some (.int x1), some (.int x2), u3, u4], [], 129, 17845, hp M) (none, 129, 17845, hp M')) : ∀ (x2 : Int32) (x3 : Int32) (x4 : Int32) (u1 : Option Value) (M : Mem) (r : Unit) (M' : Mem), J73_187 n rec36 x2 x3 x4 M = some (r, M') → pm_ev pmT sc e 73 false (187, [some (.ref 83), u1, some (.int x2), some (.int x3), some (.int x4)], [], 129, 17845, hp M) (none, 129, 17845, hp M') := by
  intro x2 x3 x4 u1 M r M' h
  unfold J73_187 at h
  refine pe_blk mm_73 1 (s' := (189, [some (.ref 83), u1, some (.int x2), some (.int x3), some (.int x4)], [.int x4], _, _, _)) rfl ?_
  by_cases q35 : x4 = 0
  · rw [if_pos q35] at h
    refine pe_blk mm_73 1 (s' := (if x4 = 0 then 203 else 192, [some (.ref 83), u1, some (.int x2), some (.int x3), some (.int x4)], [], _, _, _)) rfl ?_
    rw [if_pos q35]
    refine pe_blk mm_73 3 (s' := (206, [some (.ref 83), u1, some (.int x2), some (.int x3), some (.int x4)], [.int (x3 + 1)], _, _, _)) rfl ?_
    exact J73_206_ev sc n e he rec36 hr36 x2 (x3 + 1) _ _ _ _ _ _ h
  · rw [if_neg q35] at h
    refine pe_blk mm_73 1 (s' := (if x4 = 0 then 203 else 192, [some (.ref 83), u1, some (.int x2), some (.int x3), some (.int x4)], [], _, _, _)) rfl ?_
    rw [if_neg q35]
    refine pe_blk mm_73 1 (s' := (193, [some (.ref 83), u1, some (.int x2), some (.int x3), some (.int x4)], [.ref 83], _, _, _)) rfl ?_
    refine pe_get mm_73 rfl rfl rfl (by decide) rfl ?_
    refine pe_blk mm_73 1 (s' := (197, [some (.ref 83), u1, some (.int x2), some (.int x3), some (.int x4)], [.int x3, .ref 92], _, _, _)) rfl ?_
    by_cases q36 : x3 < 0 ∨ 128 ≤ (x3 : Int32).toNatClampNeg
    · rw [if_pos q36] at h
      cases h
    · rw [if_neg q36] at h
      refine pe_iald (f := M.1 92) mm_73 rfl rfl (by decide) q36 ?_
      refine pe_blk mm_73 3 (s' := (206, [some (.ref 83), u1, some (.int x2), some (.int x3), some (.int x4)], [.int ((M.1 92 (x3 : Int32).toNatClampNeg) + 1)], _, _, _)) rfl ?_
      exact J73_206_ev sc n e he rec36 hr36 x2 ((M.1 92 (x3 : Int32).toNatClampNeg) + 1) _ _ _ _ _ _ h
def J73_170 (n : Nat) (rec36 : Int32 → Int32 → Mem → Option (Unit × Mem)) (x2 : Int32) (x3 : Int32) (s0 : Int32) (M : Mem) : Option (Unit × Mem) :=
  if s0 = 0 then (J73_187 n rec36 x2 x3 s0 M) else (if x3 < 0 ∨ 128 ≤ (x3 : Int32).toNatClampNeg then none else (match F70 n (M.1 92 (x3 : Int32).toNatClampNeg) M with | some (v38, M39) => (J73_187 n rec36 x2 x3 s0 M39) | none => none))
set_option maxRecDepth 100000 in
set_option maxHeartbeats 4000000 in
theorem J73_170_ev (sc : Option (Nat × (Nat → Int32))) (n : Nat)  (e : Nat) (he : 4 ≤ e) (rec36 : Int32 → Int32 → Mem → Option (Unit × Mem)) (hr36 : ∀ (x1 : Int32) (x2 : Int32) (u3 : Option Value) (u4 : Option Value) (M : Mem) (r : Unit) (M' : Mem), rec36 x1 x2 M = some (r, M') → pm_ev pmT sc e 73 false (36, [some (.ref 83), some (.int x1), some (.int x2), u3, u4], [], 129, 17845, hp M) (none, 129, 17845, hp M')) : ∀ (x2 : Int32) (x3 : Int32) (s0 : Int32) (u1 : Option Value) (u4 : Option Value) (M : Mem) (r : Unit) (M' : Mem), J73_170 n rec36 x2 x3 s0 M = some (r, M') → pm_ev pmT sc e 73 false (170, [some (.ref 83), u1, some (.int x2), some (.int x3), u4], [.int s0], 129, 17845, hp M) (none, 129, 17845, hp M') := by
  intro x2 x3 s0 u1 u4 M r M' h
  unfold J73_170 at h
  refine pe_blk mm_73 2 (s' := (174, [some (.ref 83), u1, some (.int x2), some (.int x3), some (.int s0)], [.int s0], _, _, _)) rfl ?_
  by_cases q34 : s0 = 0
  · rw [if_pos q34] at h
    refine pe_blk mm_73 1 (s' := (if s0 = 0 then 187 else 177, [some (.ref 83), u1, some (.int x2), some (.int x3), some (.int s0)], [], _, _, _)) rfl ?_
    rw [if_pos q34]
    exact J73_187_ev sc n e he rec36 hr36 x2 x3 s0 _ _ _ _ h
  · rw [if_neg q34] at h
    refine pe_blk mm_73 1 (s' := (if s0 = 0 then 187 else 177, [some (.ref 83), u1, some (.int x2), some (.int x3), some (.int s0)], [], _, _, _)) rfl ?_
    rw [if_neg q34]
    refine pe_blk mm_73 2 (s' := (179, [some (.ref 83), u1, some (.int x2), some (.int x3), some (.int s0)], [.ref 83, .ref 83], _, _, _)) rfl ?_
    refine pe_get mm_73 rfl rfl rfl (by decide) rfl ?_
    refine pe_blk mm_73 1 (s' := (183, [some (.ref 83), u1, some (.int x2), some (.int x3), some (.int s0)], [.int x3, .ref 92, .ref 83], _, _, _)) rfl ?_
    by_cases q37 : x3 < 0 ∨ 128 ≤ (x3 : Int32).toNatClampNeg
    · rw [if_pos q37] at h
      cases h
    · rw [if_neg q37] at h
      refine pe_iald (f := M.1 92) mm_73 rfl rfl (by decide) q37 ?_
      obtain ⟨e1, rfl⟩ : ∃ e1, e = e1 + 1 := ⟨e - 1, by omega⟩
      cases hc40 : F70 n (M.1 92 (x3 : Int32).toNatClampNeg) M with
      | none => rw [hc40] at h; cases h
      | some w =>
        obtain ⟨v38, M39⟩ := w
        rw [hc40] at h
        dsimp only at h
        refine pe_virt (al := [.int (M.1 92 (x3 : Int32).toNatClampNeg)]) (a := 83) (L0 := [some (.ref 83), some (.int (M.1 92 (x3 : Int32).toNatClampNeg)), none, none]) (r1 := (none, 129, 17845, hp M39)) mm_73 rfl rfl rfl mm_70 rfl (by decide) (by decide) rfl (Nat.le_of_ble_eq_true rfl) (Nat.le_of_ble_eq_true rfl) rfl rfl (F70_ev sc n (M.1 92 (x3 : Int32).toNatClampNeg) _ e1 (by omega) _ _ hc40) ?_
        show pm_ev _ _ _ _ _ (187, [some (.ref 83), u1, some (.int x2), some (.int x3), some (.int s0)], [], _, _, _) _
        exact J73_187_ev sc n (e1 + 1) he rec36 hr36 x2 x3 s0 _ _ _ _ h
def J73_155 (n : Nat) (rec36 : Int32 → Int32 → Mem → Option (Unit × Mem)) (x2 : Int32) (x3 : Int32) (M : Mem) : Option (Unit × Mem) :=
  if x3 < 0 ∨ 128 ≤ (x3 : Int32).toNatClampNeg then none else (if (M.1 90 (x3 : Int32).toNatClampNeg) = 5 then (J73_170 n rec36 x2 x3 1 M) else (J73_170 n rec36 x2 x3 0 M))
set_option maxRecDepth 100000 in
set_option maxHeartbeats 4000000 in
theorem J73_155_ev (sc : Option (Nat × (Nat → Int32))) (n : Nat)  (e : Nat) (he : 4 ≤ e) (rec36 : Int32 → Int32 → Mem → Option (Unit × Mem)) (hr36 : ∀ (x1 : Int32) (x2 : Int32) (u3 : Option Value) (u4 : Option Value) (M : Mem) (r : Unit) (M' : Mem), rec36 x1 x2 M = some (r, M') → pm_ev pmT sc e 73 false (36, [some (.ref 83), some (.int x1), some (.int x2), u3, u4], [], 129, 17845, hp M) (none, 129, 17845, hp M')) : ∀ (x2 : Int32) (x3 : Int32) (u1 : Option Value) (u4 : Option Value) (M : Mem) (r : Unit) (M' : Mem), J73_155 n rec36 x2 x3 M = some (r, M') → pm_ev pmT sc e 73 false (155, [some (.ref 83), u1, some (.int x2), some (.int x3), u4], [], 129, 17845, hp M) (none, 129, 17845, hp M') := by
  intro x2 x3 u1 u4 M r M' h
  unfold J73_155 at h
  refine pe_blk mm_73 1 (s' := (156, [some (.ref 83), u1, some (.int x2), some (.int x3), u4], [.ref 83], _, _, _)) rfl ?_
  refine pe_get mm_73 rfl rfl rfl (by decide) rfl ?_
  refine pe_blk mm_73 1 (s' := (160, [some (.ref 83), u1, some (.int x2), some (.int x3), u4], [.int x3, .ref 90], _, _, _)) rfl ?_
  by_cases q32 : x3 < 0 ∨ 128 ≤ (x3 : Int32).toNatClampNeg
  · rw [if_pos q32] at h
    cases h
  · rw [if_neg q32] at h
    refine pe_iald (f := M.1 90) mm_73 rfl rfl (by decide) q32 ?_
    refine pe_blk mm_73 1 (s' := (162, [some (.ref 83), u1, some (.int x2), some (.int x3), u4], [.int 5, .int (M.1 90 (x3 : Int32).toNatClampNeg)], _, _, _)) rfl ?_
    by_cases q33 : (M.1 90 (x3 : Int32).toNatClampNeg) = 5
    · rw [if_pos q33] at h
      refine pe_blk mm_73 1 (s' := (if (M.1 90 (x3 : Int32).toNatClampNeg) = 5 then 165 else 169, [some (.ref 83), u1, some (.int x2), some (.int x3), u4], [], _, _, _)) rfl ?_
      rw [if_pos q33]
      refine pe_blk mm_73 2 (s' := (170, [some (.ref 83), u1, some (.int x2), some (.int x3), u4], [.int 1], _, _, _)) rfl ?_
      exact J73_170_ev sc n e he rec36 hr36 x2 x3 1 _ _ _ _ _ h
    · rw [if_neg q33] at h
      refine pe_blk mm_73 1 (s' := (if (M.1 90 (x3 : Int32).toNatClampNeg) = 5 then 165 else 169, [some (.ref 83), u1, some (.int x2), some (.int x3), u4], [], _, _, _)) rfl ?_
      rw [if_neg q33]
      refine pe_blk mm_73 1 (s' := (170, [some (.ref 83), u1, some (.int x2), some (.int x3), u4], [.int 0], _, _, _)) rfl ?_
      exact J73_170_ev sc n e he rec36 hr36 x2 x3 0 _ _ _ _ _ h
def L73_36 (n : Nat) : Nat → Int32 → Int32 → Mem → Option (Unit × Mem)
  | 0, _, _, _ => none
  | k + 1, x1, x2, M => if (M.1 83 40) < x2 then (some ((), M)) else (if x2 < 0 ∨ 162 ≤ (x2 : Int32).toNatClampNeg then none else (match F71 n x1 (M.1 116 (x2 : Int32).toNatClampNeg) M with | some (v6, M7) => (if (M.1 116 (x2 : Int32).toNatClampNeg) < 0 ∨ 128 ≤ (M.1 116 (x2 : Int32).toNatClampNeg : Int32).toNatClampNeg then none else (if (M7.1 90 (M.1 116 (x2 : Int32).toNatClampNeg : Int32).toNatClampNeg) = 3 then (if (M7.1 83 56) < 0 ∨ 160 ≤ (M7.1 83 56 : Int32).toNatClampNeg then none else (mlet (m_i M7 122 (M7.1 83 56 : Int32).toNatClampNeg (M.1 116 (x2 : Int32).toNatClampNeg)) (fun M12 => if (M.1 116 (x2 : Int32).toNatClampNeg) < 0 ∨ 128 ≤ (M.1 116 (x2 : Int32).toNatClampNeg : Int32).toNatClampNeg then none else (match F72 n (M12.1 95 (M.1 116 (x2 : Int32).toNatClampNeg : Int32).toNatClampNeg) M12 with | some (v14, M15) => (if (M12.1 83 56) < 0 ∨ 160 ≤ (M12.1 83 56 : Int32).toNatClampNeg then none else (mlet (m_i M15 123 (M12.1 83 56 : Int32).toNatClampNeg v14) (fun M18 => if (M.1 116 (x2 : Int32).toNatClampNeg) < 0 ∨ 128 ≤ (M.1 116 (x2 : Int32).toNatClampNeg : Int32).toNatClampNeg then none else (match F72 n (M18.1 96 (M.1 116 (x2 : Int32).toNatClampNeg : Int32).toNatClampNeg) M18 with | some (v20, M21) => (if (M18.1 83 56) < 0 ∨ 160 ≤ (M18.1 83 56 : Int32).toNatClampNeg then none else (mlet (m_i M21 124 (M18.1 83 56 : Int32).toNatClampNeg v20) (fun M24 => if x2 < 0 ∨ 161 ≤ (x2 : Int32).toNatClampNeg then none else (if (M24.1 83 56) < 0 ∨ 160 ≤ (M24.1 83 56 : Int32).toNatClampNeg then none else (mlet (m_i M24 125 (M24.1 83 56 : Int32).toNatClampNeg (M24.1 112 (x2 : Int32).toNatClampNeg)) (fun M27 => if x2 < 0 ∨ 161 ≤ (x2 : Int32).toNatClampNeg then none else (if (M27.1 83 56) < 0 ∨ 160 ≤ (M27.1 83 56 : Int32).toNatClampNeg then none else (mlet (m_i M27 126 (M27.1 83 56 : Int32).toNatClampNeg (M27.1 113 (x2 : Int32).toNatClampNeg)) (fun M30 => mlet (m_i M30 83 56 ((M30.1 83 56) + 1)) (fun M31 => J73_155 n (L73_36 n k) x2 (M.1 116 (x2 : Int32).toNatClampNeg) M31)))))))))) | none => none)))) | none => none)))) else (J73_155 n (L73_36 n k) x2 (M.1 116 (x2 : Int32).toNatClampNeg) M7))) | none => none))
set_option maxRecDepth 100000 in
set_option maxHeartbeats 4000000 in
theorem L73_36_ev (sc : Option (Nat × (Nat → Int32))) (n : Nat)  (e : Nat) (he : 4 ≤ e) : ∀ k : Nat, ∀ (x1 : Int32) (x2 : Int32) (u3 : Option Value) (u4 : Option Value) (M : Mem) (r : Unit) (M' : Mem), L73_36 n k x1 x2 M = some (r, M') → pm_ev pmT sc e 73 false (36, [some (.ref 83), some (.int x1), some (.int x2), u3, u4], [], 129, 17845, hp M) (none, 129, 17845, hp M') := by
  intro k
  induction k with
  | zero => intro x1 x2 u3 u4 M r M' h; cases h
  | succ k hr36 =>
    intro x1 x2 u3 u4 M r M' h
    rw [L73_36] at h
    refine pe_blk mm_73 2 (s' := (38, [some (.ref 83), some (.int x1), some (.int x2), u3, u4], [.ref 83, .int x2], _, _, _)) rfl ?_
    refine pe_get mm_73 rfl rfl rfl (by decide) rfl ?_
    by_cases q4 : (M.1 83 40) < x2
    · rw [if_pos q4] at h
      refine pe_blk mm_73 1 (s' := (if (M.1 83 40) < x2 then 213 else 44, [some (.ref 83), some (.int x1), some (.int x2), u3, u4], [], _, _, _)) rfl ?_
      rw [if_pos q4]
      cases h
      exact pe_ret mm_73 rfl rfl
    · rw [if_neg q4] at h
      refine pe_blk mm_73 1 (s' := (if (M.1 83 40) < x2 then 213 else 44, [some (.ref 83), some (.int x1), some (.int x2), u3, u4], [], _, _, _)) rfl ?_
      rw [if_neg q4]
      refine pe_blk mm_73 1 (s' := (45, [some (.ref 83), some (.int x1), some (.int x2), u3, u4], [.ref 83], _, _, _)) rfl ?_
      refine pe_get mm_73 rfl rfl rfl (by decide) rfl ?_
      refine pe_blk mm_73 1 (s' := (49, [some (.ref 83), some (.int x1), some (.int x2), u3, u4], [.int x2, .ref 116], _, _, _)) rfl ?_
      by_cases q5 : x2 < 0 ∨ 162 ≤ (x2 : Int32).toNatClampNeg
      · rw [if_pos q5] at h
        cases h
      · rw [if_neg q5] at h
        refine pe_iald (f := M.1 116) mm_73 rfl rfl (by decide) q5 ?_
        refine pe_blk mm_73 4 (s' := (54, [some (.ref 83), some (.int x1), some (.int x2), some (.int (M.1 116 (x2 : Int32).toNatClampNeg)), u4], [.int (M.1 116 (x2 : Int32).toNatClampNeg), .int x1, .ref 83], _, _, _)) rfl ?_
        obtain ⟨e1, rfl⟩ : ∃ e1, e = e1 + 1 := ⟨e - 1, by omega⟩
        cases hc8 : F71 n x1 (M.1 116 (x2 : Int32).toNatClampNeg) M with
        | none => rw [hc8] at h; cases h
        | some w =>
          obtain ⟨v6, M7⟩ := w
          rw [hc8] at h
          dsimp only at h
          refine pe_virt (al := [.int (M.1 116 (x2 : Int32).toNatClampNeg), .int x1]) (a := 83) (L0 := [some (.ref 83), some (.int x1), some (.int (M.1 116 (x2 : Int32).toNatClampNeg)), none, none, none, none, none, none]) (r1 := (none, 129, 17845, hp M7)) mm_73 rfl rfl rfl mm_71 rfl (by decide) (by decide) rfl (Nat.le_of_ble_eq_true rfl) (Nat.le_of_ble_eq_true rfl) rfl rfl (F71_ev sc n x1 (M.1 116 (x2 : Int32).toNatClampNeg) _ e1 (by omega) _ _ hc8) ?_
          show pm_ev _ _ _ _ _ (57, [some (.ref 83), some (.int x1), some (.int x2), some (.int (M.1 116 (x2 : Int32).toNatClampNeg)), u4], [], _, _, _) _
          refine pe_blk mm_73 1 (s' := (58, [some (.ref 83), some (.int x1), some (.int x2), some (.int (M.1 116 (x2 : Int32).toNatClampNeg)), u4], [.ref 83], _, _, _)) rfl ?_
          refine pe_get mm_73 rfl rfl rfl (by decide) rfl ?_
          refine pe_blk mm_73 1 (s' := (62, [some (.ref 83), some (.int x1), some (.int x2), some (.int (M.1 116 (x2 : Int32).toNatClampNeg)), u4], [.int (M.1 116 (x2 : Int32).toNatClampNeg), .ref 90], _, _, _)) rfl ?_
          by_cases q9 : (M.1 116 (x2 : Int32).toNatClampNeg) < 0 ∨ 128 ≤ (M.1 116 (x2 : Int32).toNatClampNeg : Int32).toNatClampNeg
          · rw [if_pos q9] at h
            cases h
          · rw [if_neg q9] at h
            refine pe_iald (f := M7.1 90) mm_73 rfl rfl (by decide) q9 ?_
            refine pe_blk mm_73 1 (s' := (64, [some (.ref 83), some (.int x1), some (.int x2), some (.int (M.1 116 (x2 : Int32).toNatClampNeg)), u4], [.int 3, .int (M7.1 90 (M.1 116 (x2 : Int32).toNatClampNeg : Int32).toNatClampNeg)], _, _, _)) rfl ?_
            by_cases q10 : (M7.1 90 (M.1 116 (x2 : Int32).toNatClampNeg : Int32).toNatClampNeg) = 3
            · rw [if_pos q10] at h
              refine pe_blk mm_73 1 (s' := (if (M7.1 90 (M.1 116 (x2 : Int32).toNatClampNeg : Int32).toNatClampNeg) = 3 then 67 else 155, [some (.ref 83), some (.int x1), some (.int x2), some (.int (M.1 116 (x2 : Int32).toNatClampNeg)), u4], [], _, _, _)) rfl ?_
              rw [if_pos q10]
              refine pe_blk mm_73 1 (s' := (68, [some (.ref 83), some (.int x1), some (.int x2), some (.int (M.1 116 (x2 : Int32).toNatClampNeg)), u4], [.ref 83], _, _, _)) rfl ?_
              refine pe_get mm_73 rfl rfl rfl (by decide) rfl ?_
              refine pe_blk mm_73 1 (s' := (72, [some (.ref 83), some (.int x1), some (.int x2), some (.int (M.1 116 (x2 : Int32).toNatClampNeg)), u4], [.ref 83, .ref 122], _, _, _)) rfl ?_
              refine pe_get mm_73 rfl rfl rfl (by decide) rfl ?_
              refine pe_blk mm_73 1 (s' := (76, [some (.ref 83), some (.int x1), some (.int x2), some (.int (M.1 116 (x2 : Int32).toNatClampNeg)), u4], [.int (M.1 116 (x2 : Int32).toNatClampNeg), .int (M7.1 83 56), .ref 122], _, _, _)) rfl ?_
              by_cases q11 : (M7.1 83 56) < 0 ∨ 160 ≤ (M7.1 83 56 : Int32).toNatClampNeg
              · rw [if_pos q11] at h
                cases h
              · rw [if_neg q11] at h
                refine pe_iasti mm_73 rfl rfl (by decide) q11 rfl ?_
                show pm_ev _ _ _ _ _ (77, [some (.ref 83), some (.int x1), some (.int x2), some (.int (M.1 116 (x2 : Int32).toNatClampNeg)), u4], [], _, _, hp (m_i M7 122 (M7.1 83 56 : Int32).toNatClampNeg (M.1 116 (x2 : Int32).toNatClampNeg))) _
                generalize m_i M7 122 (M7.1 83 56 : Int32).toNatClampNeg (M.1 116 (x2 : Int32).toNatClampNeg) = M12 at h ⊢
                rw [mlet] at h
                refine pe_blk mm_73 1 (s' := (78, [some (.ref 83), some (.int x1), some (.int x2), some (.int (M.1 116 (x2 : Int32).toNatClampNeg)), u4], [.ref 83], _, _, _)) rfl ?_
                refine pe_get mm_73 rfl rfl rfl (by decide) rfl ?_
                refine pe_blk mm_73 1 (s' := (82, [some (.ref 83), some (.int x1), some (.int x2), some (.int (M.1 116 (x2 : Int32).toNatClampNeg)), u4], [.ref 83, .ref 123], _, _, _)) rfl ?_
                refine pe_get mm_73 rfl rfl rfl (by decide) rfl ?_
                refine pe_blk mm_73 2 (s' := (87, [some (.ref 83), some (.int x1), some (.int x2), some (.int (M.1 116 (x2 : Int32).toNatClampNeg)), u4], [.ref 83, .ref 83, .int (M12.1 83 56), .ref 123], _, _, _)) rfl ?_
                refine pe_get mm_73 rfl rfl rfl (by decide) rfl ?_
                refine pe_blk mm_73 1 (s' := (91, [some (.ref 83), some (.int x1), some (.int x2), some (.int (M.1 116 (x2 : Int32).toNatClampNeg)), u4], [.int (M.1 116 (x2 : Int32).toNatClampNeg), .ref 95, .ref 83, .int (M12.1 83 56), .ref 123], _, _, _)) rfl ?_
                by_cases q13 : (M.1 116 (x2 : Int32).toNatClampNeg) < 0 ∨ 128 ≤ (M.1 116 (x2 : Int32).toNatClampNeg : Int32).toNatClampNeg
                · rw [if_pos q13] at h
                  cases h
                · rw [if_neg q13] at h
                  refine pe_iald (f := M12.1 95) mm_73 rfl rfl (by decide) q13 ?_
                  skip
                  cases hc16 : F72 n (M12.1 95 (M.1 116 (x2 : Int32).toNatClampNeg : Int32).toNatClampNeg) M12 with
                  | none => rw [hc16] at h; cases h
                  | some w =>
                    obtain ⟨v14, M15⟩ := w
                    rw [hc16] at h
                    dsimp only at h
                    refine pe_virt (al := [.int (M12.1 95 (M.1 116 (x2 : Int32).toNatClampNeg : Int32).toNatClampNeg)]) (a := 83) (L0 := [some (.ref 83), some (.int (M12.1 95 (M.1 116 (x2 : Int32).toNatClampNeg : Int32).toNatClampNeg))]) (r1 := (some (.int v14), 129, 17845, hp M15)) mm_73 rfl rfl rfl mm_72 rfl (by decide) (by decide) rfl (Nat.le_of_ble_eq_true rfl) (Nat.le_of_ble_eq_true rfl) rfl rfl (F72_ev sc n (M12.1 95 (M.1 116 (x2 : Int32).toNatClampNeg : Int32).toNatClampNeg) _ e1 (by omega) _ _ hc16) ?_
                    show pm_ev _ _ _ _ _ (95, [some (.ref 83), some (.int x1), some (.int x2), some (.int (M.1 116 (x2 : Int32).toNatClampNeg)), u4], [.int v14, .int (M12.1 83 56), .ref 123], _, _, _) _
                    by_cases q17 : (M12.1 83 56) < 0 ∨ 160 ≤ (M12.1 83 56 : Int32).toNatClampNeg
                    · rw [if_pos q17] at h
                      cases h
                    · rw [if_neg q17] at h
                      refine pe_iasti mm_73 rfl rfl (by decide) q17 rfl ?_
                      show pm_ev _ _ _ _ _ (96, [some (.ref 83), some (.int x1), some (.int x2), some (.int (M.1 116 (x2 : Int32).toNatClampNeg)), u4], [], _, _, hp (m_i M15 123 (M12.1 83 56 : Int32).toNatClampNeg v14)) _
                      generalize m_i M15 123 (M12.1 83 56 : Int32).toNatClampNeg v14 = M18 at h ⊢
                      rw [mlet] at h
                      refine pe_blk mm_73 1 (s' := (97, [some (.ref 83), some (.int x1), some (.int x2), some (.int (M.1 116 (x2 : Int32).toNatClampNeg)), u4], [.ref 83], _, _, _)) rfl ?_
                      refine pe_get mm_73 rfl rfl rfl (by decide) rfl ?_
                      refine pe_blk mm_73 1 (s' := (101, [some (.ref 83), some (.int x1), some (.int x2), some (.int (M.1 116 (x2 : Int32).toNatClampNeg)), u4], [.ref 83, .ref 124], _, _, _)) rfl ?_
                      refine pe_get mm_73 rfl rfl rfl (by decide) rfl ?_
                      refine pe_blk mm_73 2 (s' := (106, [some (.ref 83), some (.int x1), some (.int x2), some (.int (M.1 116 (x2 : Int32).toNatClampNeg)), u4], [.ref 83, .ref 83, .int (M18.1 83 56), .ref 124], _, _, _)) rfl ?_
                      refine pe_get mm_73 rfl rfl rfl (by decide) rfl ?_
                      refine pe_blk mm_73 1 (s' := (110, [some (.ref 83), some (.int x1), some (.int x2), some (.int (M.1 116 (x2 : Int32).toNatClampNeg)), u4], [.int (M.1 116 (x2 : Int32).toNatClampNeg), .ref 96, .ref 83, .int (M18.1 83 56), .ref 124], _, _, _)) rfl ?_
                      by_cases q19 : (M.1 116 (x2 : Int32).toNatClampNeg) < 0 ∨ 128 ≤ (M.1 116 (x2 : Int32).toNatClampNeg : Int32).toNatClampNeg
                      · rw [if_pos q19] at h
                        cases h
                      · rw [if_neg q19] at h
                        refine pe_iald (f := M18.1 96) mm_73 rfl rfl (by decide) q19 ?_
                        skip
                        cases hc22 : F72 n (M18.1 96 (M.1 116 (x2 : Int32).toNatClampNeg : Int32).toNatClampNeg) M18 with
                        | none => rw [hc22] at h; cases h
                        | some w =>
                          obtain ⟨v20, M21⟩ := w
                          rw [hc22] at h
                          dsimp only at h
                          refine pe_virt (al := [.int (M18.1 96 (M.1 116 (x2 : Int32).toNatClampNeg : Int32).toNatClampNeg)]) (a := 83) (L0 := [some (.ref 83), some (.int (M18.1 96 (M.1 116 (x2 : Int32).toNatClampNeg : Int32).toNatClampNeg))]) (r1 := (some (.int v20), 129, 17845, hp M21)) mm_73 rfl rfl rfl mm_72 rfl (by decide) (by decide) rfl (Nat.le_of_ble_eq_true rfl) (Nat.le_of_ble_eq_true rfl) rfl rfl (F72_ev sc n (M18.1 96 (M.1 116 (x2 : Int32).toNatClampNeg : Int32).toNatClampNeg) _ e1 (by omega) _ _ hc22) ?_
                          show pm_ev _ _ _ _ _ (114, [some (.ref 83), some (.int x1), some (.int x2), some (.int (M.1 116 (x2 : Int32).toNatClampNeg)), u4], [.int v20, .int (M18.1 83 56), .ref 124], _, _, _) _
                          by_cases q23 : (M18.1 83 56) < 0 ∨ 160 ≤ (M18.1 83 56 : Int32).toNatClampNeg
                          · rw [if_pos q23] at h
                            cases h
                          · rw [if_neg q23] at h
                            refine pe_iasti mm_73 rfl rfl (by decide) q23 rfl ?_
                            show pm_ev _ _ _ _ _ (115, [some (.ref 83), some (.int x1), some (.int x2), some (.int (M.1 116 (x2 : Int32).toNatClampNeg)), u4], [], _, _, hp (m_i M21 124 (M18.1 83 56 : Int32).toNatClampNeg v20)) _
                            generalize m_i M21 124 (M18.1 83 56 : Int32).toNatClampNeg v20 = M24 at h ⊢
                            rw [mlet] at h
                            refine pe_blk mm_73 1 (s' := (116, [some (.ref 83), some (.int x1), some (.int x2), some (.int (M.1 116 (x2 : Int32).toNatClampNeg)), u4], [.ref 83], _, _, _)) rfl ?_
                            refine pe_get mm_73 rfl rfl rfl (by decide) rfl ?_
                            refine pe_blk mm_73 1 (s' := (120, [some (.ref 83), some (.int x1), some (.int x2), some (.int (M.1 116 (x2 : Int32).toNatClampNeg)), u4], [.ref 83, .ref 125], _, _, _)) rfl ?_
                            refine pe_get mm_73 rfl rfl rfl (by decide) rfl ?_
                            refine pe_blk mm_73 1 (s' := (124, [some (.ref 83), some (.int x1), some (.int x2), some (.int (M.1 116 (x2 : Int32).toNatClampNeg)), u4], [.ref 83, .int (M24.1 83 56), .ref 125], _, _, _)) rfl ?_
                            refine pe_get mm_73 rfl rfl rfl (by decide) rfl ?_
                            refine pe_blk mm_73 1 (s' := (128, [some (.ref 83), some (.int x1), some (.int x2), some (.int (M.1 116 (x2 : Int32).toNatClampNeg)), u4], [.int x2, .ref 112, .int (M24.1 83 56), .ref 125], _, _, _)) rfl ?_
                            by_cases q25 : x2 < 0 ∨ 161 ≤ (x2 : Int32).toNatClampNeg
                            · rw [if_pos q25] at h
                              cases h
                            · rw [if_neg q25] at h
                              refine pe_iald (f := M24.1 112) mm_73 rfl rfl (by decide) q25 ?_
                              by_cases q26 : (M24.1 83 56) < 0 ∨ 160 ≤ (M24.1 83 56 : Int32).toNatClampNeg
                              · rw [if_pos q26] at h
                                cases h
                              · rw [if_neg q26] at h
                                refine pe_iasti mm_73 rfl rfl (by decide) q26 rfl ?_
                                show pm_ev _ _ _ _ _ (130, [some (.ref 83), some (.int x1), some (.int x2), some (.int (M.1 116 (x2 : Int32).toNatClampNeg)), u4], [], _, _, hp (m_i M24 125 (M24.1 83 56 : Int32).toNatClampNeg (M24.1 112 (x2 : Int32).toNatClampNeg))) _
                                generalize m_i M24 125 (M24.1 83 56 : Int32).toNatClampNeg (M24.1 112 (x2 : Int32).toNatClampNeg) = M27 at h ⊢
                                rw [mlet] at h
                                refine pe_blk mm_73 1 (s' := (131, [some (.ref 83), some (.int x1), some (.int x2), some (.int (M.1 116 (x2 : Int32).toNatClampNeg)), u4], [.ref 83], _, _, _)) rfl ?_
                                refine pe_get mm_73 rfl rfl rfl (by decide) rfl ?_
                                refine pe_blk mm_73 1 (s' := (135, [some (.ref 83), some (.int x1), some (.int x2), some (.int (M.1 116 (x2 : Int32).toNatClampNeg)), u4], [.ref 83, .ref 126], _, _, _)) rfl ?_
                                refine pe_get mm_73 rfl rfl rfl (by decide) rfl ?_
                                refine pe_blk mm_73 1 (s' := (139, [some (.ref 83), some (.int x1), some (.int x2), some (.int (M.1 116 (x2 : Int32).toNatClampNeg)), u4], [.ref 83, .int (M27.1 83 56), .ref 126], _, _, _)) rfl ?_
                                refine pe_get mm_73 rfl rfl rfl (by decide) rfl ?_
                                refine pe_blk mm_73 1 (s' := (143, [some (.ref 83), some (.int x1), some (.int x2), some (.int (M.1 116 (x2 : Int32).toNatClampNeg)), u4], [.int x2, .ref 113, .int (M27.1 83 56), .ref 126], _, _, _)) rfl ?_
                                by_cases q28 : x2 < 0 ∨ 161 ≤ (x2 : Int32).toNatClampNeg
                                · rw [if_pos q28] at h
                                  cases h
                                · rw [if_neg q28] at h
                                  refine pe_iald (f := M27.1 113) mm_73 rfl rfl (by decide) q28 ?_
                                  by_cases q29 : (M27.1 83 56) < 0 ∨ 160 ≤ (M27.1 83 56 : Int32).toNatClampNeg
                                  · rw [if_pos q29] at h
                                    cases h
                                  · rw [if_neg q29] at h
                                    refine pe_iasti mm_73 rfl rfl (by decide) q29 rfl ?_
                                    show pm_ev _ _ _ _ _ (145, [some (.ref 83), some (.int x1), some (.int x2), some (.int (M.1 116 (x2 : Int32).toNatClampNeg)), u4], [], _, _, hp (m_i M27 126 (M27.1 83 56 : Int32).toNatClampNeg (M27.1 113 (x2 : Int32).toNatClampNeg))) _
                                    generalize m_i M27 126 (M27.1 83 56 : Int32).toNatClampNeg (M27.1 113 (x2 : Int32).toNatClampNeg) = M30 at h ⊢
                                    rw [mlet] at h
                                    refine pe_blk mm_73 2 (s' := (147, [some (.ref 83), some (.int x1), some (.int x2), some (.int (M.1 116 (x2 : Int32).toNatClampNeg)), u4], [.ref 83, .ref 83], _, _, _)) rfl ?_
                                    refine pe_get mm_73 rfl rfl rfl (by decide) rfl ?_
                                    refine pe_blk mm_73 2 (s' := (152, [some (.ref 83), some (.int x1), some (.int x2), some (.int (M.1 116 (x2 : Int32).toNatClampNeg)), u4], [.int ((M30.1 83 56) + 1), .ref 83], _, _, _)) rfl ?_
                                    refine pe_puti mm_73 rfl rfl rfl (by decide) (Nat.le_of_ble_eq_true rfl) rfl rfl ?_
                                    show pm_ev _ _ _ _ _ (155, [some (.ref 83), some (.int x1), some (.int x2), some (.int (M.1 116 (x2 : Int32).toNatClampNeg)), u4], [], _, _, hp (m_i M30 83 56 ((M30.1 83 56) + 1))) _
                                    generalize m_i M30 83 56 ((M30.1 83 56) + 1) = M31 at h ⊢
                                    rw [mlet] at h
                                    exact J73_155_ev sc n (e1 + 1) he (L73_36 n k) hr36 x2 (M.1 116 (x2 : Int32).toNatClampNeg) _ _ _ _ _ h
            · rw [if_neg q10] at h
              refine pe_blk mm_73 1 (s' := (if (M7.1 90 (M.1 116 (x2 : Int32).toNatClampNeg : Int32).toNatClampNeg) = 3 then 67 else 155, [some (.ref 83), some (.int x1), some (.int x2), some (.int (M.1 116 (x2 : Int32).toNatClampNeg)), u4], [], _, _, _)) rfl ?_
              rw [if_neg q10]
              exact J73_155_ev sc n (e1 + 1) he (L73_36 n k) hr36 x2 (M.1 116 (x2 : Int32).toNatClampNeg) _ _ _ _ _ h
def L73_2 (n : Nat) : Nat → Int32 → Mem → Option (Unit × Mem)
  | 0, _, _ => none
  | k + 1, x1, M => if 128 ≤ x1 then (mlet (m_i M 83 52 0) (fun M2 => mlet (m_i M2 83 56 0) (fun M3 => L73_36 n n 0 0 M3))) else (if x1 < 0 ∨ 128 ≤ (x1 : Int32).toNatClampNeg then none else (mlet (m_i M 118 (x1 : Int32).toNatClampNeg 0) (fun M42 => (L73_2 n k) (x1 + 1) M42)))
set_option maxRecDepth 100000 in
set_option maxHeartbeats 4000000 in
theorem L73_2_ev (sc : Option (Nat × (Nat → Int32))) (n : Nat)  (e : Nat) (he : 4 ≤ e) : ∀ k : Nat, ∀ (x1 : Int32) (u2 : Option Value) (u3 : Option Value) (u4 : Option Value) (M : Mem) (r : Unit) (M' : Mem), L73_2 n k x1 M = some (r, M') → pm_ev pmT sc e 73 false (2, [some (.ref 83), some (.int x1), u2, u3, u4], [], 129, 17845, hp M) (none, 129, 17845, hp M') := by
  intro k
  induction k with
  | zero => intro x1 u2 u3 u4 M r M' h; cases h
  | succ k hr2 =>
    intro x1 u2 u3 u4 M r M' h
    rw [L73_2] at h
    refine pe_blk mm_73 2 (s' := (6, [some (.ref 83), some (.int x1), u2, u3, u4], [.int 128, .int x1], _, _, _)) rfl ?_
    by_cases q1 : 128 ≤ x1
    · rw [if_pos q1] at h
      refine pe_blk mm_73 1 (s' := (if 128 ≤ x1 then 22 else 9, [some (.ref 83), some (.int x1), u2, u3, u4], [], _, _, _)) rfl ?_
      rw [if_pos q1]
      refine pe_blk mm_73 2 (s' := (24, [some (.ref 83), some (.int x1), u2, u3, u4], [.int 0, .ref 83], _, _, _)) rfl ?_
      refine pe_puti mm_73 rfl rfl rfl (by decide) (Nat.le_of_ble_eq_true rfl) rfl rfl ?_
      show pm_ev _ _ _ _ _ (27, [some (.ref 83), some (.int x1), u2, u3, u4], [], _, _, hp (m_i M 83 52 0)) _
      generalize m_i M 83 52 0 = M2 at h ⊢
      rw [mlet] at h
      refine pe_blk mm_73 2 (s' := (29, [some (.ref 83), some (.int x1), u2, u3, u4], [.int 0, .ref 83], _, _, _)) rfl ?_
      refine pe_puti mm_73 rfl rfl rfl (by decide) (Nat.le_of_ble_eq_true rfl) rfl rfl ?_
      show pm_ev _ _ _ _ _ (32, [some (.ref 83), some (.int x1), u2, u3, u4], [], _, _, hp (m_i M2 83 56 0)) _
      generalize m_i M2 83 56 0 = M3 at h ⊢
      rw [mlet] at h
      refine pe_blk mm_73 4 (s' := (36, [some (.ref 83), some (.int 0), some (.int 0), u3, u4], [], _, _, _)) rfl ?_
      exact L73_36_ev sc n e he n 0 0 _ _ _ _ _ h
    · rw [if_neg q1] at h
      refine pe_blk mm_73 1 (s' := (if 128 ≤ x1 then 22 else 9, [some (.ref 83), some (.int x1), u2, u3, u4], [], _, _, _)) rfl ?_
      rw [if_neg q1]
      refine pe_blk mm_73 1 (s' := (10, [some (.ref 83), some (.int x1), u2, u3, u4], [.ref 83], _, _, _)) rfl ?_
      refine pe_get mm_73 rfl rfl rfl (by decide) rfl ?_
      refine pe_blk mm_73 2 (s' := (15, [some (.ref 83), some (.int x1), u2, u3, u4], [.int 0, .int x1, .ref 118], _, _, _)) rfl ?_
      by_cases q41 : x1 < 0 ∨ 128 ≤ (x1 : Int32).toNatClampNeg
      · rw [if_pos q41] at h
        cases h
      · rw [if_neg q41] at h
        refine pe_iasti mm_73 rfl rfl (by decide) q41 rfl ?_
        show pm_ev _ _ _ _ _ (16, [some (.ref 83), some (.int x1), u2, u3, u4], [], _, _, hp (m_i M 118 (x1 : Int32).toNatClampNeg 0)) _
        generalize m_i M 118 (x1 : Int32).toNatClampNeg 0 = M42 at h ⊢
        rw [mlet] at h
        refine pe_blk mm_73 2 (s' := (2, [some (.ref 83), some (.int (x1 + 1)), u2, u3, u4], [], _, _, _)) rfl ?_
        exact hr2 (x1 + 1) _ _ _ _ _ _ h
/-- ArmExpanderModel.follow -/
def F73 (n : Nat) (M : Mem) : Option (Unit × Mem) :=
  L73_2 n n 0 M
set_option maxRecDepth 100000 in
set_option maxHeartbeats 4000000 in
theorem F73_ev (sc : Option (Nat × (Nat → Int32))) (n : Nat)  (M : Mem) (e : Nat) (he : 4 ≤ e) (r : Unit) (M' : Mem) (h : F73 n M = some (r, M')) : pm_ev pmT sc e 73 false (0, [some (.ref 83), none, none, none, none], [], 129, 17845, hp M) (none, 129, 17845, hp M') := by
  unfold F73 at h
  refine pe_blk mm_73 2 (s' := (2, [some (.ref 83), some (.int 0), none, none, none], [], _, _, _)) rfl ?_
  exact L73_2_ev sc n e he n 0 _ _ _ _ _ _ h
def J74_30 (n : Nat) (M : Mem) : Option (Unit × Mem) :=
  mlet (m_i M 83 62 ((M.1 83 62) + 1)) (fun M2 => some ((), M2))
set_option maxRecDepth 100000 in
set_option maxHeartbeats 4000000 in
theorem J74_30_ev (sc : Option (Nat × (Nat → Int32))) (n : Nat)  (e : Nat) (he : 1 ≤ e) : ∀ (u1 : Option Value) (u2 : Option Value) (M : Mem) (r : Unit) (M' : Mem), J74_30 n  M = some (r, M') → pm_ev pmT sc e 74 false (30, [some (.ref 83), u1, u2], [], 129, 17845, hp M) (none, 129, 17845, hp M') := by
  intro u1 u2 M r M' h
  unfold J74_30 at h
  refine pe_blk mm_74 2 (s' := (32, [some (.ref 83), u1, u2], [.ref 83, .ref 83], _, _, _)) rfl ?_
  refine pe_get mm_74 rfl rfl rfl (by decide) rfl ?_
  refine pe_blk mm_74 2 (s' := (37, [some (.ref 83), u1, u2], [.int ((M.1 83 62) + 1), .ref 83], _, _, _)) rfl ?_
  refine pe_puti mm_74 rfl rfl rfl (by decide) (Nat.le_of_ble_eq_true rfl) rfl rfl ?_
  show pm_ev _ _ _ _ _ (40, [some (.ref 83), u1, u2], [], _, _, hp (m_i M 83 62 ((M.1 83 62) + 1))) _
  generalize m_i M 83 62 ((M.1 83 62) + 1) = M2 at h ⊢
  rw [mlet] at h
  cases h
  exact pe_ret mm_74 rfl rfl
/-- ArmExpanderModel.make -/
def F74 (n : Nat) (a0 : Int32) (a1 : Int32) (M : Mem) : Option (Unit × Mem) :=
  if 160 ≤ (M.1 83 62) then (J74_30 n M) else (if (M.1 83 62) < 0 ∨ 160 ≤ (M.1 83 62 : Int32).toNatClampNeg then none else (mlet (m_i M 127 (M.1 83 62 : Int32).toNatClampNeg a0) (fun M4 => if (M4.1 83 62) < 0 ∨ 160 ≤ (M4.1 83 62 : Int32).toNatClampNeg then none else (mlet (m_i M4 128 (M4.1 83 62 : Int32).toNatClampNeg a1) (fun M6 => J74_30 n M6)))))
set_option maxRecDepth 100000 in
set_option maxHeartbeats 4000000 in
theorem F74_ev (sc : Option (Nat × (Nat → Int32))) (n : Nat) (a0 : Int32) (a1 : Int32)  (M : Mem) (e : Nat) (he : 1 ≤ e) (r : Unit) (M' : Mem) (h : F74 n a0 a1 M = some (r, M')) : pm_ev pmT sc e 74 false (0, [some (.ref 83), some (.int a0), some (.int a1)], [], 129, 17845, hp M) (none, 129, 17845, hp M') := by
  unfold F74 at h
  refine pe_blk mm_74 1 (s' := (1, [some (.ref 83), some (.int a0), some (.int a1)], [.ref 83], _, _, _)) rfl ?_
  refine pe_get mm_74 rfl rfl rfl (by decide) rfl ?_
  refine pe_blk mm_74 1 (s' := (7, [some (.ref 83), some (.int a0), some (.int a1)], [.int 160, .int (M.1 83 62)], _, _, _)) rfl ?_
  by_cases q1 : 160 ≤ (M.1 83 62)
  · rw [if_pos q1] at h
    refine pe_blk mm_74 1 (s' := (if 160 ≤ (M.1 83 62) then 30 else 10, [some (.ref 83), some (.int a0), some (.int a1)], [], _, _, _)) rfl ?_
    rw [if_pos q1]
    exact J74_30_ev sc n e he _ _ _ _ _ h
  · rw [if_neg q1] at h
    refine pe_blk mm_74 1 (s' := (if 160 ≤ (M.1 83 62) then 30 else 10, [some (.ref 83), some (.int a0), some (.int a1)], [], _, _, _)) rfl ?_
    rw [if_neg q1]
    refine pe_blk mm_74 1 (s' := (11, [some (.ref 83), some (.int a0), some (.int a1)], [.ref 83], _, _, _)) rfl ?_
    refine pe_get mm_74 rfl rfl rfl (by decide) rfl ?_
    refine pe_blk mm_74 1 (s' := (15, [some (.ref 83), some (.int a0), some (.int a1)], [.ref 83, .ref 127], _, _, _)) rfl ?_
    refine pe_get mm_74 rfl rfl rfl (by decide) rfl ?_
    refine pe_blk mm_74 1 (s' := (19, [some (.ref 83), some (.int a0), some (.int a1)], [.int a0, .int (M.1 83 62), .ref 127], _, _, _)) rfl ?_
    by_cases q3 : (M.1 83 62) < 0 ∨ 160 ≤ (M.1 83 62 : Int32).toNatClampNeg
    · rw [if_pos q3] at h
      cases h
    · rw [if_neg q3] at h
      refine pe_iasti mm_74 rfl rfl (by decide) q3 rfl ?_
      show pm_ev _ _ _ _ _ (20, [some (.ref 83), some (.int a0), some (.int a1)], [], _, _, hp (m_i M 127 (M.1 83 62 : Int32).toNatClampNeg a0)) _
      generalize m_i M 127 (M.1 83 62 : Int32).toNatClampNeg a0 = M4 at h ⊢
      rw [mlet] at h
      refine pe_blk mm_74 1 (s' := (21, [some (.ref 83), some (.int a0), some (.int a1)], [.ref 83], _, _, _)) rfl ?_
      refine pe_get mm_74 rfl rfl rfl (by decide) rfl ?_
      refine pe_blk mm_74 1 (s' := (25, [some (.ref 83), some (.int a0), some (.int a1)], [.ref 83, .ref 128], _, _, _)) rfl ?_
      refine pe_get mm_74 rfl rfl rfl (by decide) rfl ?_
      refine pe_blk mm_74 1 (s' := (29, [some (.ref 83), some (.int a0), some (.int a1)], [.int a1, .int (M4.1 83 62), .ref 128], _, _, _)) rfl ?_
      by_cases q5 : (M4.1 83 62) < 0 ∨ 160 ≤ (M4.1 83 62 : Int32).toNatClampNeg
      · rw [if_pos q5] at h
        cases h
      · rw [if_neg q5] at h
        refine pe_iasti mm_74 rfl rfl (by decide) q5 rfl ?_
        show pm_ev _ _ _ _ _ (30, [some (.ref 83), some (.int a0), some (.int a1)], [], _, _, hp (m_i M4 128 (M4.1 83 62 : Int32).toNatClampNeg a1)) _
        generalize m_i M4 128 (M4.1 83 62 : Int32).toNatClampNeg a1 = M6 at h ⊢
        rw [mlet] at h
        exact J74_30_ev sc n e he _ _ _ _ _ h
def J75_192 (n : Nat) (rec3 : Int32 → Int32 → Int32 → Int32 → Int32 → Mem → Option (Unit × Mem)) (x1 : Int32) (x2 : Int32) (x3 : Int32) (x4 : Int32) (x5 : Int32) (M : Mem) : Option (Unit × Mem) :=
  rec3 x1 x2 x3 x4 (x5 + 1) M
set_option maxRecDepth 100000 in
set_option maxHeartbeats 4000000 in
theorem J75_192_ev (sc : Option (Nat × (Nat → Int32))) (n : Nat)  (e : Nat) (he : 2 ≤ e) (rec3 : Int32 → Int32 → Int32 → Int32 → Int32 → Mem → Option (Unit × Mem)) (hr3 : ∀ (x1 : Int32) (x2 : Int32) (x3 : Int32) (x4 : Int32) (x5 : Int32) (u6 : Option Value) (u7 : Option Value) (u8 : Option Value) (M : Mem) (r : Unit) (M' : Mem), rec3 x1 x2 x3 x4 x5 M = some (r, M') → pm_ev pmT sc e 75 false (3, [some (.ref 83), some (.int x1), some (.int x2), some (.int x3), some (.int x4), some (.int x5), u6, u7, u8], [], 129, 17845, hp M) (none, 129, 17845, hp M')) : ∀ (x1 : Int32) (x2 : Int32) (x3 : Int32) (x4 : Int32) (x5 : Int32) (u6 : Option Value) (u7 : Option Value) (u8 : Option Value) (M : Mem) (r : Unit) (M' : Mem), J75_192 n rec3 x1 x2 x3 x4 x5 M = some (r, M') → pm_ev pmT sc e 75 false (192, [some (.ref 83), some (.int x1), some (.int x2), some (.int x3), some (.int x4), some (.int x5), u6, u7, u8], [], 129, 17845, hp M) (none, 129, 17845, hp M') := by
  intro x1 x2 x3 x4 x5 u6 u7 u8 M r M' h
  unfold J75_192 at h
  refine pe_blk mm_75 2 (s' := (3, [some (.ref 83), some (.int x1), some (.int x2), some (.int x3), some (.int x4), some (.int (x5 + 1)), u6, u7, u8], [], _, _, _)) rfl ?_
  exact hr3 x1 x2 x3 x4 (x5 + 1) _ _ _ _ _ _ h
def J75_174 (n : Nat) (rec3 : Int32 → Int32 → Int32 → Int32 → Int32 → Mem → Option (Unit × Mem)) (x1 : Int32) (x2 : Int32) (x3 : Int32) (x4 : Int32) (x5 : Int32) (x6 : Int32) (x7 : Int32) (M : Mem) : Option (Unit × Mem) :=
  if x6 = 0 then (J75_192 n rec3 x1 x2 x3 x4 x5 M) else (if x7 = 0 then (J75_192 n rec3 x1 x2 x3 x4 x5 M) else (match F74 n 41 x4 M with | some (v19, M20) => (J75_192 n rec3 x1 x2 x3 x4 x5 M20) | none => none))
set_option maxRecDepth 100000 in
set_option maxHeartbeats 4000000 in
theorem J75_174_ev (sc : Option (Nat × (Nat → Int32))) (n : Nat)  (e : Nat) (he : 2 ≤ e) (rec3 : Int32 → Int32 → Int32 → Int32 → Int32 → Mem → Option (Unit × Mem)) (hr3 : ∀ (x1 : Int32) (x2 : Int32) (x3 : Int32) (x4 : Int32) (x5 : Int32) (u6 : Option Value) (u7 : Option Value) (u8 : Option Value) (M : Mem) (r : Unit) (M' : Mem), rec3 x1 x2 x3 x4 x5 M = some (r, M') → pm_ev pmT sc e 75 false (3, [some (.ref 83), some (.int x1), some (.int x2), some (.int x3), some (.int x4), some (.int x5), u6, u7, u8], [], 129, 17845, hp M) (none, 129, 17845, hp M')) : ∀ (x1 : Int32) (x2 : Int32) (x3 : Int32) (x4 : Int32) (x5 : Int32) (x6 : Int32) (x7 : Int32) (u8 : Option Value) (M : Mem) (r : Unit) (M' : Mem), J75_174 n rec3 x1 x2 x3 x4 x5 x6 x7 M = some (r, M') → pm_ev pmT sc e 75 false (174, [some (.ref 83), some (.int x1), some (.int x2), some (.int x3), some (.int x4), some (.int x5), some (.int x6), some (.int x7), u8], [], 129, 17845, hp M) (none, 129, 17845, hp M') := by
  intro x1 x2 x3 x4 x5 x6 x7 u8 M r M' h
  unfold J75_174 at h
  refine pe_blk mm_75 1 (s' := (176, [some (.ref 83), some (.int x1), some (.int x2), some (.int x3), some (.int x4), some (.int x5), some (.int x6), some (.int x7), u8], [.int x6], _, _, _)) rfl ?_
  by_cases q17 : x6 = 0
  · rw [if_pos q17] at h
    refine pe_blk mm_75 1 (s' := (if x6 = 0 then 192 else 179, [some (.ref 83), some (.int x1), some (.int x2), some (.int x3), some (.int x4), some (.int x5), some (.int x6), some (.int x7), u8], [], _, _, _)) rfl ?_
    rw [if_pos q17]
    exact J75_192_ev sc n e he rec3 hr3 x1 x2 x3 x4 x5 _ _ _ _ _ _ h
  · rw [if_neg q17] at h
    refine pe_blk mm_75 1 (s' := (if x6 = 0 then 192 else 179, [some (.ref 83), some (.int x1), some (.int x2), some (.int x3), some (.int x4), some (.int x5), some (.int x6), some (.int x7), u8], [], _, _, _)) rfl ?_
    rw [if_neg q17]
    refine pe_blk mm_75 1 (s' := (181, [some (.ref 83), some (.int x1), some (.int x2), some (.int x3), some (.int x4), some (.int x5), some (.int x6), some (.int x7), u8], [.int x7], _, _, _)) rfl ?_
    by_cases q18 : x7 = 0
    · rw [if_pos q18] at h
      refine pe_blk mm_75 1 (s' := (if x7 = 0 then 192 else 184, [some (.ref 83), some (.int x1), some (.int x2), some (.int x3), some (.int x4), some (.int x5), some (.int x6), some (.int x7), u8], [], _, _, _)) rfl ?_
      rw [if_pos q18]
      exact J75_192_ev sc n e he rec3 hr3 x1 x2 x3 x4 x5 _ _ _ _ _ _ h
    · rw [if_neg q18] at h
      refine pe_blk mm_75 1 (s' := (if x7 = 0 then 192 else 184, [some (.ref 83), some (.int x1), some (.int x2), some (.int x3), some (.int x4), some (.int x5), some (.int x6), some (.int x7), u8], [], _, _, _)) rfl ?_
      rw [if_neg q18]
      refine pe_blk mm_75 3 (s' := (189, [some (.ref 83), some (.int x1), some (.int x2), some (.int x3), some (.int x4), some (.int x5), some (.int x6), some (.int x7), u8], [.int x4, .int 41, .ref 83], _, _, _)) rfl ?_
      obtain ⟨e1, rfl⟩ : ∃ e1, e = e1 + 1 := ⟨e - 1, by omega⟩
      cases hc21 : F74 n 41 x4 M with
      | none => rw [hc21] at h; cases h
      | some w =>
        obtain ⟨v19, M20⟩ := w
        rw [hc21] at h
        dsimp only at h
        refine pe_virt (al := [.int x4, .int 41]) (a := 83) (L0 := [some (.ref 83), some (.int 41), some (.int x4)]) (r1 := (none, 129, 17845, hp M20)) mm_75 rfl rfl rfl mm_74 rfl (by decide) (by decide) rfl (Nat.le_of_ble_eq_true rfl) (Nat.le_of_ble_eq_true rfl) rfl rfl (F74_ev sc n 41 x4 _ e1 (by omega) _ _ hc21) ?_
        show pm_ev _ _ _ _ _ (192, [some (.ref 83), some (.int x1), some (.int x2), some (.int x3), some (.int x4), some (.int x5), some (.int x6), some (.int x7), u8], [], _, _, _) _
        exact J75_192_ev sc n (e1 + 1) he rec3 hr3 x1 x2 x3 x4 x5 _ _ _ _ _ _ h
def L75_133 (n : Nat) (rec3 : Int32 → Int32 → Int32 → Int32 → Int32 → Mem → Option (Unit × Mem)) : Nat → Int32 → Int32 → Int32 → Int32 → Int32 → Int32 → Int32 → Int32 → Mem → Option (Unit × Mem)
  | 0, _, _, _, _, _, _, _, _, _ => none
  | k + 1, x1, x2, x3, x4, x5, x6, x7, x8, M => if x5 < 0 ∨ 160 ≤ (x5 : Int32).toNatClampNeg then none else (if (M.1 126 (x5 : Int32).toNatClampNeg) ≤ x8 then (J75_174 n rec3 x1 x2 x3 x4 x5 x6 x7 M) else (if x6 = 0 then (J75_174 n rec3 x1 x2 x3 x4 x5 x6 x7 M) else (if x8 < 0 ∨ 320 ≤ (x8 : Int32).toNatClampNeg then none else (if x8 < 0 ∨ 320 ≤ (x8 : Int32).toNatClampNeg then none else (match F74 n (M.1 105 (x8 : Int32).toNatClampNeg) (M.1 106 (x8 : Int32).toNatClampNeg) M with | some (v25, M26) => ((L75_133 n rec3 k) x1 x2 x3 x4 x5 x6 x7 (x8 + 1) M26) | none => none)))))
set_option maxRecDepth 100000 in
set_option maxHeartbeats 4000000 in
theorem L75_133_ev (sc : Option (Nat × (Nat → Int32))) (n : Nat)  (e : Nat) (he : 2 ≤ e) (rec3 : Int32 → Int32 → Int32 → Int32 → Int32 → Mem → Option (Unit × Mem)) (hr3 : ∀ (x1 : Int32) (x2 : Int32) (x3 : Int32) (x4 : Int32) (x5 : Int32) (u6 : Option Value) (u7 : Option Value) (u8 : Option Value) (M : Mem) (r : Unit) (M' : Mem), rec3 x1 x2 x3 x4 x5 M = some (r, M') → pm_ev pmT sc e 75 false (3, [some (.ref 83), some (.int x1), some (.int x2), some (.int x3), some (.int x4), some (.int x5), u6, u7, u8], [], 129, 17845, hp M) (none, 129, 17845, hp M')) : ∀ k : Nat, ∀ (x1 : Int32) (x2 : Int32) (x3 : Int32) (x4 : Int32) (x5 : Int32) (x6 : Int32) (x7 : Int32) (x8 : Int32) (M : Mem) (r : Unit) (M' : Mem), L75_133 n rec3 k x1 x2 x3 x4 x5 x6 x7 x8 M = some (r, M') → pm_ev pmT sc e 75 false (133, [some (.ref 83), some (.int x1), some (.int x2), some (.int x3), some (.int x4), some (.int x5), some (.int x6), some (.int x7), some (.int x8)], [], 129, 17845, hp M) (none, 129, 17845, hp M') := by
  intro k
  induction k with
  | zero => intro x1 x2 x3 x4 x5 x6 x7 x8  M r M' h; cases h
  | succ k hr133 =>
    intro x1 x2 x3 x4 x5 x6 x7 x8  M r M' h
    rw [L75_133] at h
    refine pe_blk mm_75 2 (s' := (136, [some (.ref 83), some (.int x1), some (.int x2), some (.int x3), some (.int x4), some (.int x5), some (.int x6), some (.int x7), some (.int x8)], [.ref 83, .int x8], _, _, _)) rfl ?_
    refine pe_get mm_75 rfl rfl rfl (by decide) rfl ?_
    refine pe_blk mm_75 1 (s' := (141, [some (.ref 83), some (.int x1), some (.int x2), some (.int x3), some (.int x4), some (.int x5), some (.int x6), some (.int x7), some (.int x8)], [.int x5, .ref 126, .int x8], _, _, _)) rfl ?_
    by_cases q15 : x5 < 0 ∨ 160 ≤ (x5 : Int32).toNatClampNeg
    · rw [if_pos q15] at h
      cases h
    · rw [if_neg q15] at h
      refine pe_iald (f := M.1 126) mm_75 rfl rfl (by decide) q15 ?_
      by_cases q16 : (M.1 126 (x5 : Int32).toNatClampNeg) ≤ x8
      · rw [if_pos q16] at h
        refine pe_blk mm_75 1 (s' := (if (M.1 126 (x5 : Int32).toNatClampNeg) ≤ x8 then 174 else 145, [some (.ref 83), some (.int x1), some (.int x2), some (.int x3), some (.int x4), some (.int x5), some (.int x6), some (.int x7), some (.int x8)], [], _, _, _)) rfl ?_
        rw [if_pos q16]
        exact J75_174_ev sc n e he rec3 hr3 x1 x2 x3 x4 x5 x6 x7 _ _ _ _ h
      · rw [if_neg q16] at h
        refine pe_blk mm_75 1 (s' := (if (M.1 126 (x5 : Int32).toNatClampNeg) ≤ x8 then 174 else 145, [some (.ref 83), some (.int x1), some (.int x2), some (.int x3), some (.int x4), some (.int x5), some (.int x6), some (.int x7), some (.int x8)], [], _, _, _)) rfl ?_
        rw [if_neg q16]
        refine pe_blk mm_75 1 (s' := (147, [some (.ref 83), some (.int x1), some (.int x2), some (.int x3), some (.int x4), some (.int x5), some (.int x6), some (.int x7), some (.int x8)], [.int x6], _, _, _)) rfl ?_
        by_cases q22 : x6 = 0
        · rw [if_pos q22] at h
          refine pe_blk mm_75 1 (s' := (if x6 = 0 then 174 else 150, [some (.ref 83), some (.int x1), some (.int x2), some (.int x3), some (.int x4), some (.int x5), some (.int x6), some (.int x7), some (.int x8)], [], _, _, _)) rfl ?_
          rw [if_pos q22]
          exact J75_174_ev sc n e he rec3 hr3 x1 x2 x3 x4 x5 x6 x7 _ _ _ _ h
        · rw [if_neg q22] at h
          refine pe_blk mm_75 1 (s' := (if x6 = 0 then 174 else 150, [some (.ref 83), some (.int x1), some (.int x2), some (.int x3), some (.int x4), some (.int x5), some (.int x6), some (.int x7), some (.int x8)], [], _, _, _)) rfl ?_
          rw [if_neg q22]
          refine pe_blk mm_75 2 (s' := (152, [some (.ref 83), some (.int x1), some (.int x2), some (.int x3), some (.int x4), some (.int x5), some (.int x6), some (.int x7), some (.int x8)], [.ref 83, .ref 83], _, _, _)) rfl ?_
          refine pe_get mm_75 rfl rfl rfl (by decide) rfl ?_
          refine pe_blk mm_75 1 (s' := (157, [some (.ref 83), some (.int x1), some (.int x2), some (.int x3), some (.int x4), some (.int x5), some (.int x6), some (.int x7), some (.int x8)], [.int x8, .ref 105, .ref 83], _, _, _)) rfl ?_
          by_cases q23 : x8 < 0 ∨ 320 ≤ (x8 : Int32).toNatClampNeg
          · rw [if_pos q23] at h
            cases h
          · rw [if_neg q23] at h
            refine pe_iald (f := M.1 105) mm_75 rfl rfl (by decide) q23 ?_
            refine pe_blk mm_75 1 (s' := (159, [some (.ref 83), some (.int x1), some (.int x2), some (.int x3), some (.int x4), some (.int x5), some (.int x6), some (.int x7), some (.int x8)], [.ref 83, .int (M.1 105 (x8 : Int32).toNatClampNeg), .ref 83], _, _, _)) rfl ?_
            refine pe_get mm_75 rfl rfl rfl (by decide) rfl ?_
            refine pe_blk mm_75 1 (s' := (164, [some (.ref 83), some (.int x1), some (.int x2), some (.int x3), some (.int x4), some (.int x5), some (.int x6), some (.int x7), some (.int x8)], [.int x8, .ref 106, .int (M.1 105 (x8 : Int32).toNatClampNeg), .ref 83], _, _, _)) rfl ?_
            by_cases q24 : x8 < 0 ∨ 320 ≤ (x8 : Int32).toNatClampNeg
            · rw [if_pos q24] at h
              cases h
            · rw [if_neg q24] at h
              refine pe_iald (f := M.1 106) mm_75 rfl rfl (by decide) q24 ?_
              obtain ⟨e1, rfl⟩ : ∃ e1, e = e1 + 1 := ⟨e - 1, by omega⟩
              cases hc27 : F74 n (M.1 105 (x8 : Int32).toNatClampNeg) (M.1 106 (x8 : Int32).toNatClampNeg) M with
              | none => rw [hc27] at h; cases h
              | some w =>
                obtain ⟨v25, M26⟩ := w
                rw [hc27] at h
                dsimp only at h
                refine pe_virt (al := [.int (M.1 106 (x8 : Int32).toNatClampNeg), .int (M.1 105 (x8 : Int32).toNatClampNeg)]) (a := 83) (L0 := [some (.ref 83), some (.int (M.1 105 (x8 : Int32).toNatClampNeg)), some (.int (M.1 106 (x8 : Int32).toNatClampNeg))]) (r1 := (none, 129, 17845, hp M26)) mm_75 rfl rfl rfl mm_74 rfl (by decide) (by decide) rfl (Nat.le_of_ble_eq_true rfl) (Nat.le_of_ble_eq_true rfl) rfl rfl (F74_ev sc n (M.1 105 (x8 : Int32).toNatClampNeg) (M.1 106 (x8 : Int32).toNatClampNeg) _ e1 (by omega) _ _ hc27) ?_
                show pm_ev _ _ _ _ _ (168, [some (.ref 83), some (.int x1), some (.int x2), some (.int x3), some (.int x4), some (.int x5), some (.int x6), some (.int x7), some (.int x8)], [], _, _, _) _
                refine pe_blk mm_75 2 (s' := (133, [some (.ref 83), some (.int x1), some (.int x2), some (.int x3), some (.int x4), some (.int x5), some (.int x6), some (.int x7), some (.int (x8 + 1))], [], _, _, _)) rfl ?_
                exact hr133 x1 x2 x3 x4 x5 x6 x7 (x8 + 1) _ _ _ h
def J75_124 (n : Nat) (rec3 : Int32 → Int32 → Int32 → Int32 → Int32 → Mem → Option (Unit × Mem)) (x1 : Int32) (x2 : Int32) (x3 : Int32) (x4 : Int32) (x5 : Int32) (x6 : Int32) (x7 : Int32) (M : Mem) : Option (Unit × Mem) :=
  if x5 < 0 ∨ 160 ≤ (x5 : Int32).toNatClampNeg then none else (L75_133 n rec3 n x1 x2 x3 x4 x5 x6 x7 (M.1 125 (x5 : Int32).toNatClampNeg) M)
set_option maxRecDepth 100000 in
set_option maxHeartbeats 4000000 in
theorem J75_124_ev (sc : Option (Nat × (Nat → Int32))) (n : Nat)  (e : Nat) (he : 2 ≤ e) (rec3 : Int32 → Int32 → Int32 → Int32 → Int32 → Mem → Option (Unit × Mem)) (hr3 : ∀ (x1 : Int32) (x2 : Int32) (x3 : Int32) (x4 : Int32) (x5 : Int32) (u6 : Option Value) (u7 : Option Value) (u8 : Option Value) (M : Mem) (r : Unit) (M' : Mem), rec3 x1 x2 x3 x4 x5 M = some (r, M') → pm_ev pmT sc e 75 false (3, [some (.ref 83), some (.int x1), some (.int x2), some (.int x3), some (.int x4), some (.int x5), u6, u7, u8], [], 129, 17845, hp M) (none, 129, 17845, hp M')) : ∀ (x1 : Int32) (x2 : Int32) (x3 : Int32) (x4 : Int32) (x5 : Int32) (x6 : Int32) (x7 : Int32) (u8 : Option Value) (M : Mem) (r : Unit) (M' : Mem), J75_124 n rec3 x1 x2 x3 x4 x5 x6 x7 M = some (r, M') → pm_ev pmT sc e 75 false (124, [some (.ref 83), some (.int x1), some (.int x2), some (.int x3), some (.int x4), some (.int x5), some (.int x6), some (.int x7), u8], [], 129, 17845, hp M) (none, 129, 17845, hp M') := by
  intro x1 x2 x3 x4 x5 x6 x7 u8 M r M' h
  unfold J75_124 at h
  refine pe_blk mm_75 1 (s' := (125, [some (.ref 83), some (.int x1), some (.int x2), some (.int x3), some (.int x4), some (.int x5), some (.int x6), some (.int x7), u8], [.ref 83], _, _, _)) rfl ?_
  refine pe_get mm_75 rfl rfl rfl (by decide) rfl ?_
  refine pe_blk mm_75 1 (s' := (130, [some (.ref 83), some (.int x1), some (.int x2), some (.int x3), some (.int x4), some (.int x5), some (.int x6), some (.int x7), u8], [.int x5, .ref 125], _, _, _)) rfl ?_
  by_cases q14 : x5 < 0 ∨ 160 ≤ (x5 : Int32).toNatClampNeg
  · rw [if_pos q14] at h
    cases h
  · rw [if_neg q14] at h
    refine pe_iald (f := M.1 125) mm_75 rfl rfl (by decide) q14 ?_
    refine pe_blk mm_75 1 (s' := (133, [some (.ref 83), some (.int x1), some (.int x2), some (.int x3), some (.int x4), some (.int x5), some (.int x6), some (.int x7), some (.int (M.1 125 (x5 : Int32).toNatClampNeg))], [], _, _, _)) rfl ?_
    exact L75_133_ev sc n e he rec3 hr3 n x1 x2 x3 x4 x5 x6 x7 (M.1 125 (x5 : Int32).toNatClampNeg) _ _ _ h
def J75_104 (n : Nat) (rec3 : Int32 → Int32 → Int32 → Int32 → Int32 → Mem → Option (Unit × Mem)) (x1 : Int32) (x2 : Int32) (x3 : Int32) (x4 : Int32) (x5 : Int32) (x6 : Int32) (s0 : Int32) (M : Mem) : Option (Unit × Mem) :=
  if x6 = 0 then (J75_124 n rec3 x1 x2 x3 x4 x5 x6 s0 M) else (if s0 = 0 then (J75_124 n rec3 x1 x2 x3 x4 x5 x6 s0 M) else (match F74 n 40 x4 M with | some (v29, M30) => (J75_124 n rec3 x1 x2 x3 x4 x5 x6 s0 M30) | none => none))
set_option maxRecDepth 100000 in
set_option maxHeartbeats 4000000 in
theorem J75_104_ev (sc : Option (Nat × (Nat → Int32))) (n : Nat)  (e : Nat) (he : 2 ≤ e) (rec3 : Int32 → Int32 → Int32 → Int32 → Int32 → Mem → Option (Unit × Mem)) (hr3 : ∀ (x1 : Int32) (x2 : Int32) (x3 : Int32) (x4 : Int32) (x5 : Int32) (u6 : Option Value) (u7 : Option Value) (u8 : Option Value) (M : Mem) (r : Unit) (M' : Mem), rec3 x1 x2 x3 x4 x5 M = some (r, M') → pm_ev pmT sc e 75 false (3, [some (.ref 83), some (.int x1), some (.int x2), some (.int x3), some (.int x4), some (.int x5), u6, u7, u8], [], 129, 17845, hp M) (none, 129, 17845, hp M')) : ∀ (x1 : Int32) (x2 : Int32) (x3 : Int32) (x4 : Int32) (x5 : Int32) (x6 : Int32) (s0 : Int32) (u7 : Option Value) (u8 : Option Value) (M : Mem) (r : Unit) (M' : Mem), J75_104 n rec3 x1 x2 x3 x4 x5 x6 s0 M = some (r, M') → pm_ev pmT sc e 75 false (104, [some (.ref 83), some (.int x1), some (.int x2), some (.int x3), some (.int x4), some (.int x5), some (.int x6), u7, u8], [.int s0], 129, 17845, hp M) (none, 129, 17845, hp M') := by
  intro x1 x2 x3 x4 x5 x6 s0 u7 u8 M r M' h
  unfold J75_104 at h
  refine pe_blk mm_75 2 (s' := (108, [some (.ref 83), some (.int x1), some (.int x2), some (.int x3), some (.int x4), some (.int x5), some (.int x6), some (.int s0), u8], [.int x6], _, _, _)) rfl ?_
  by_cases q13 : x6 = 0
  · rw [if_pos q13] at h
    refine pe_blk mm_75 1 (s' := (if x6 = 0 then 124 else 111, [some (.ref 83), some (.int x1), some (.int x2), some (.int x3), some (.int x4), some (.int x5), some (.int x6), some (.int s0), u8], [], _, _, _)) rfl ?_
    rw [if_pos q13]
    exact J75_124_ev sc n e he rec3 hr3 x1 x2 x3 x4 x5 x6 s0 _ _ _ _ h
  · rw [if_neg q13] at h
    refine pe_blk mm_75 1 (s' := (if x6 = 0 then 124 else 111, [some (.ref 83), some (.int x1), some (.int x2), some (.int x3), some (.int x4), some (.int x5), some (.int x6), some (.int s0), u8], [], _, _, _)) rfl ?_
    rw [if_neg q13]
    refine pe_blk mm_75 1 (s' := (113, [some (.ref 83), some (.int x1), some (.int x2), some (.int x3), some (.int x4), some (.int x5), some (.int x6), some (.int s0), u8], [.int s0], _, _, _)) rfl ?_
    by_cases q28 : s0 = 0
    · rw [if_pos q28] at h
      refine pe_blk mm_75 1 (s' := (if s0 = 0 then 124 else 116, [some (.ref 83), some (.int x1), some (.int x2), some (.int x3), some (.int x4), some (.int x5), some (.int x6), some (.int s0), u8], [], _, _, _)) rfl ?_
      rw [if_pos q28]
      exact J75_124_ev sc n e he rec3 hr3 x1 x2 x3 x4 x5 x6 s0 _ _ _ _ h
    · rw [if_neg q28] at h
      refine pe_blk mm_75 1 (s' := (if s0 = 0 then 124 else 116, [some (.ref 83), some (.int x1), some (.int x2), some (.int x3), some (.int x4), some (.int x5), some (.int x6), some (.int s0), u8], [], _, _, _)) rfl ?_
      rw [if_neg q28]
      refine pe_blk mm_75 3 (s' := (121, [some (.ref 83), some (.int x1), some (.int x2), some (.int x3), some (.int x4), some (.int x5), some (.int x6), some (.int s0), u8], [.int x4, .int 40, .ref 83], _, _, _)) rfl ?_
      obtain ⟨e1, rfl⟩ : ∃ e1, e = e1 + 1 := ⟨e - 1, by omega⟩
      cases hc31 : F74 n 40 x4 M with
      | none => rw [hc31] at h; cases h
      | some w =>
        obtain ⟨v29, M30⟩ := w
        rw [hc31] at h
        dsimp only at h
        refine pe_virt (al := [.int x4, .int 40]) (a := 83) (L0 := [some (.ref 83), some (.int 40), some (.int x4)]) (r1 := (none, 129, 17845, hp M30)) mm_75 rfl rfl rfl mm_74 rfl (by decide) (by decide) rfl (Nat.le_of_ble_eq_true rfl) (Nat.le_of_ble_eq_true rfl) rfl rfl (F74_ev sc n 40 x4 _ e1 (by omega) _ _ hc31) ?_
        show pm_ev _ _ _ _ _ (124, [some (.ref 83), some (.int x1), some (.int x2), some (.int x3), some (.int x4), some (.int x5), some (.int x6), some (.int s0), u8], [], _, _, _) _
        exact J75_124_ev sc n (e1 + 1) he rec3 hr3 x1 x2 x3 x4 x5 x6 s0 _ _ _ _ h
def J75_103 (n : Nat) (rec3 : Int32 → Int32 → Int32 → Int32 → Int32 → Mem → Option (Unit × Mem)) (x1 : Int32) (x2 : Int32) (x3 : Int32) (x4 : Int32) (x5 : Int32) (x6 : Int32) (M : Mem) : Option (Unit × Mem) :=
  J75_104 n rec3 x1 x2 x3 x4 x5 x6 0 M
set_option maxRecDepth 100000 in
set_option maxHeartbeats 4000000 in
theorem J75_103_ev (sc : Option (Nat × (Nat → Int32))) (n : Nat)  (e : Nat) (he : 2 ≤ e) (rec3 : Int32 → Int32 → Int32 → Int32 → Int32 → Mem → Option (Unit × Mem)) (hr3 : ∀ (x1 : Int32) (x2 : Int32) (x3 : Int32) (x4 : Int32) (x5 : Int32) (u6 : Option Value) (u7 : Option Value) (u8 : Option Value) (M : Mem) (r : Unit) (M' : Mem), rec3 x1 x2 x3 x4 x5 M = some (r, M') → pm_ev pmT sc e 75 false (3, [some (.ref 83), some (.int x1), some (.int x2), some (.int x3), some (.int x4), some (.int x5), u6, u7, u8], [], 129, 17845, hp M) (none, 129, 17845, hp M')) : ∀ (x1 : Int32) (x2 : Int32) (x3 : Int32) (x4 : Int32) (x5 : Int32) (x6 : Int32) (u7 : Option Value) (u8 : Option Value) (M : Mem) (r : Unit) (M' : Mem), J75_103 n rec3 x1 x2 x3 x4 x5 x6 M = some (r, M') → pm_ev pmT sc e 75 false (103, [some (.ref 83), some (.int x1), some (.int x2), some (.int x3), some (.int x4), some (.int x5), some (.int x6), u7, u8], [], 129, 17845, hp M) (none, 129, 17845, hp M') := by
  intro x1 x2 x3 x4 x5 x6 u7 u8 M r M' h
  unfold J75_103 at h
  refine pe_blk mm_75 1 (s' := (104, [some (.ref 83), some (.int x1), some (.int x2), some (.int x3), some (.int x4), some (.int x5), some (.int x6), u7, u8], [.int 0], _, _, _)) rfl ?_
  exact J75_104_ev sc n e he rec3 hr3 x1 x2 x3 x4 x5 x6 0 _ _ _ _ _ h
def J75_68 (n : Nat) (rec3 : Int32 → Int32 → Int32 → Int32 → Int32 → Mem → Option (Unit × Mem)) (x1 : Int32) (x2 : Int32) (x3 : Int32) (x4 : Int32) (x5 : Int32) (s0 : Int32) (M : Mem) : Option (Unit × Mem) :=
  if x1 < 0 ∨ 128 ≤ (x1 : Int32).toNatClampNeg then none else (if (M.1 94 (x1 : Int32).toNatClampNeg) = 4 then (if x5 < 0 ∨ 160 ≤ (x5 : Int32).toNatClampNeg then none else (if x5 < 0 ∨ 160 ≤ (x5 : Int32).toNatClampNeg then none else (if ((M.1 126 (x5 : Int32).toNatClampNeg) - (M.1 125 (x5 : Int32).toNatClampNeg)) ≤ 1 then (J75_103 n rec3 x1 x2 x3 x4 x5 s0 M) else (J75_104 n rec3 x1 x2 x3 x4 x5 s0 1 M)))) else (J75_103 n rec3 x1 x2 x3 x4 x5 s0 M))
set_option maxRecDepth 100000 in
set_option maxHeartbeats 4000000 in
theorem J75_68_ev (sc : Option (Nat × (Nat → Int32))) (n : Nat)  (e : Nat) (he : 2 ≤ e) (rec3 : Int32 → Int32 → Int32 → Int32 → Int32 → Mem → Option (Unit × Mem)) (hr3 : ∀ (x1 : Int32) (x2 : Int32) (x3 : Int32) (x4 : Int32) (x5 : Int32) (u6 : Option Value) (u7 : Option Value) (u8 : Option Value) (M : Mem) (r : Unit) (M' : Mem), rec3 x1 x2 x3 x4 x5 M = some (r, M') → pm_ev pmT sc e 75 false (3, [some (.ref 83), some (.int x1), some (.int x2), some (.int x3), some (.int x4), some (.int x5), u6, u7, u8], [], 129, 17845, hp M) (none, 129, 17845, hp M')) : ∀ (x1 : Int32) (x2 : Int32) (x3 : Int32) (x4 : Int32) (x5 : Int32) (s0 : Int32) (u6 : Option Value) (u7 : Option Value) (u8 : Option Value) (M : Mem) (r : Unit) (M' : Mem), J75_68 n rec3 x1 x2 x3 x4 x5 s0 M = some (r, M') → pm_ev pmT sc e 75 false (68, [some (.ref 83), some (.int x1), some (.int x2), some (.int x3), some (.int x4), some (.int x5), u6, u7, u8], [.int s0], 129, 17845, hp M) (none, 129, 17845, hp M') := by
  intro x1 x2 x3 x4 x5 s0 u6 u7 u8 M r M' h
  unfold J75_68 at h
  refine pe_blk mm_75 2 (s' := (71, [some (.ref 83), some (.int x1), some (.int x2), some (.int x3), some (.int x4), some (.int x5), some (.int s0), u7, u8], [.ref 83], _, _, _)) rfl ?_
  refine pe_get mm_75 rfl rfl rfl (by decide) rfl ?_
  refine pe_blk mm_75 1 (s' := (75, [some (.ref 83), some (.int x1), some (.int x2), some (.int x3), some (.int x4), some (.int x5), some (.int s0), u7, u8], [.int x1, .ref 94], _, _, _)) rfl ?_
  by_cases q8 : x1 < 0 ∨ 128 ≤ (x1 : Int32).toNatClampNeg
  · rw [if_pos q8] at h
    cases h
  · rw [if_neg q8] at h
    refine pe_iald (f := M.1 94) mm_75 rfl rfl (by decide) q8 ?_
    refine pe_blk mm_75 1 (s' := (77, [some (.ref 83), some (.int x1), some (.int x2), some (.int x3), some (.int x4), some (.int x5), some (.int s0), u7, u8], [.int 4, .int (M.1 94 (x1 : Int32).toNatClampNeg)], _, _, _)) rfl ?_
    by_cases q9 : (M.1 94 (x1 : Int32).toNatClampNeg) = 4
    · rw [if_pos q9] at h
      refine pe_blk mm_75 1 (s' := (if (M.1 94 (x1 : Int32).toNatClampNeg) = 4 then 80 else 103, [some (.ref 83), some (.int x1), some (.int x2), some (.int x3), some (.int x4), some (.int x5), some (.int s0), u7, u8], [], _, _, _)) rfl ?_
      rw [if_pos q9]
      refine pe_blk mm_75 1 (s' := (81, [some (.ref 83), some (.int x1), some (.int x2), some (.int x3), some (.int x4), some (.int x5), some (.int s0), u7, u8], [.ref 83], _, _, _)) rfl ?_
      refine pe_get mm_75 rfl rfl rfl (by decide) rfl ?_
      refine pe_blk mm_75 1 (s' := (86, [some (.ref 83), some (.int x1), some (.int x2), some (.int x3), some (.int x4), some (.int x5), some (.int s0), u7, u8], [.int x5, .ref 126], _, _, _)) rfl ?_
      by_cases q10 : x5 < 0 ∨ 160 ≤ (x5 : Int32).toNatClampNeg
      · rw [if_pos q10] at h
        cases h
      · rw [if_neg q10] at h
        refine pe_iald (f := M.1 126) mm_75 rfl rfl (by decide) q10 ?_
        refine pe_blk mm_75 1 (s' := (88, [some (.ref 83), some (.int x1), some (.int x2), some (.int x3), some (.int x4), some (.int x5), some (.int s0), u7, u8], [.ref 83, .int (M.1 126 (x5 : Int32).toNatClampNeg)], _, _, _)) rfl ?_
        refine pe_get mm_75 rfl rfl rfl (by decide) rfl ?_
        refine pe_blk mm_75 1 (s' := (93, [some (.ref 83), some (.int x1), some (.int x2), some (.int x3), some (.int x4), some (.int x5), some (.int s0), u7, u8], [.int x5, .ref 125, .int (M.1 126 (x5 : Int32).toNatClampNeg)], _, _, _)) rfl ?_
        by_cases q11 : x5 < 0 ∨ 160 ≤ (x5 : Int32).toNatClampNeg
        · rw [if_pos q11] at h
          cases h
        · rw [if_neg q11] at h
          refine pe_iald (f := M.1 125) mm_75 rfl rfl (by decide) q11 ?_
          refine pe_blk mm_75 2 (s' := (96, [some (.ref 83), some (.int x1), some (.int x2), some (.int x3), some (.int x4), some (.int x5), some (.int s0), u7, u8], [.int 1, .int ((M.1 126 (x5 : Int32).toNatClampNeg) - (M.1 125 (x5 : Int32).toNatClampNeg))], _, _, _)) rfl ?_
          by_cases q12 : ((M.1 126 (x5 : Int32).toNatClampNeg) - (M.1 125 (x5 : Int32).toNatClampNeg)) ≤ 1
          · rw [if_pos q12] at h
            refine pe_blk mm_75 1 (s' := (if ((M.1 126 (x5 : Int32).toNatClampNeg) - (M.1 125 (x5 : Int32).toNatClampNeg)) ≤ 1 then 103 else 99, [some (.ref 83), some (.int x1), some (.int x2), some (.int x3), some (.int x4), some (.int x5), some (.int s0), u7, u8], [], _, _, _)) rfl ?_
            rw [if_pos q12]
            exact J75_103_ev sc n e he rec3 hr3 x1 x2 x3 x4 x5 s0 _ _ _ _ _ h
          · rw [if_neg q12] at h
            refine pe_blk mm_75 1 (s' := (if ((M.1 126 (x5 : Int32).toNatClampNeg) - (M.1 125 (x5 : Int32).toNatClampNeg)) ≤ 1 then 103 else 99, [some (.ref 83), some (.int x1), some (.int x2), some (.int x3), some (.int x4), some (.int x5), some (.int s0), u7, u8], [], _, _, _)) rfl ?_
            rw [if_neg q12]
            refine pe_blk mm_75 2 (s' := (104, [some (.ref 83), some (.int x1), some (.int x2), some (.int x3), some (.int x4), some (.int x5), some (.int s0), u7, u8], [.int 1], _, _, _)) rfl ?_
            exact J75_104_ev sc n e he rec3 hr3 x1 x2 x3 x4 x5 s0 1 _ _ _ _ _ h
    · rw [if_neg q9] at h
      refine pe_blk mm_75 1 (s' := (if (M.1 94 (x1 : Int32).toNatClampNeg) = 4 then 80 else 103, [some (.ref 83), some (.int x1), some (.int x2), some (.int x3), some (.int x4), some (.int x5), some (.int s0), u7, u8], [], _, _, _)) rfl ?_
      rw [if_neg q9]
      exact J75_103_ev sc n e he rec3 hr3 x1 x2 x3 x4 x5 s0 _ _ _ _ _ h
def J75_63 (n : Nat) (rec3 : Int32 → Int32 → Int32 → Int32 → Int32 → Mem → Option (Unit × Mem)) (x1 : Int32) (x2 : Int32) (x3 : Int32) (x4 : Int32) (x5 : Int32) (M : Mem) : Option (Unit × Mem) :=
  J75_68 n rec3 x1 x2 x3 x4 x5 1 M
set_option maxRecDepth 100000 in
set_option maxHeartbeats 4000000 in
theorem J75_63_ev (sc : Option (Nat × (Nat → Int32))) (n : Nat)  (e : Nat) (he : 2 ≤ e) (rec3 : Int32 → Int32 → Int32 → Int32 → Int32 → Mem → Option (Unit × Mem)) (hr3 : ∀ (x1 : Int32) (x2 : Int32) (x3 : Int32) (x4 : Int32) (x5 : Int32) (u6 : Option Value) (u7 : Option Value) (u8 : Option Value) (M : Mem) (r : Unit) (M' : Mem), rec3 x1 x2 x3 x4 x5 M = some (r, M') → pm_ev pmT sc e 75 false (3, [some (.ref 83), some (.int x1), some (.int x2), some (.int x3), some (.int x4), some (.int x5), u6, u7, u8], [], 129, 17845, hp M) (none, 129, 17845, hp M')) : ∀ (x1 : Int32) (x2 : Int32) (x3 : Int32) (x4 : Int32) (x5 : Int32) (u6 : Option Value) (u7 : Option Value) (u8 : Option Value) (M : Mem) (r : Unit) (M' : Mem), J75_63 n rec3 x1 x2 x3 x4 x5 M = some (r, M') → pm_ev pmT sc e 75 false (63, [some (.ref 83), some (.int x1), some (.int x2), some (.int x3), some (.int x4), some (.int x5), u6, u7, u8], [], 129, 17845, hp M) (none, 129, 17845, hp M') := by
  intro x1 x2 x3 x4 x5 u6 u7 u8 M r M' h
  unfold J75_63 at h
  refine pe_blk mm_75 2 (s' := (68, [some (.ref 83), some (.int x1), some (.int x2), some (.int x3), some (.int x4), some (.int x5), u6, u7, u8], [.int 1], _, _, _)) rfl ?_
  exact J75_68_ev sc n e he rec3 hr3 x1 x2 x3 x4 x5 1 _ _ _ _ _ _ h
def J75_67 (n : Nat) (rec3 : Int32 → Int32 → Int32 → Int32 → Int32 → Mem → Option (Unit × Mem)) (x1 : Int32) (x2 : Int32) (x3 : Int32) (x4 : Int32) (x5 : Int32) (M : Mem) : Option (Unit × Mem) :=
  J75_68 n rec3 x1 x2 x3 x4 x5 0 M
set_option maxRecDepth 100000 in
set_option maxHeartbeats 4000000 in
theorem J75_67_ev (sc : Option (Nat × (Nat → Int32))) (n : Nat)  (e : Nat) (he : 2 ≤ e) (rec3 : Int32 → Int32 → Int32 → Int32 → Int32 → Mem → Option (Unit × Mem)) (hr3 : ∀ (x1 : Int32) (x2 : Int32) (x3 : Int32) (x4 : Int32) (x5 : Int32) (u6 : Option Value) (u7 : Option Value) (u8 : Option Value) (M : Mem) (r : Unit) (M' : Mem), rec3 x1 x2 x3 x4 x5 M = some (r, M') → pm_ev pmT sc e 75 false (3, [some (.ref 83), some (.int x1), some (.int x2), some (.int x3), some (.int x4), some (.int x5), u6, u7, u8], [], 129, 17845, hp M) (none, 129, 17845, hp M')) : ∀ (x1 : Int32) (x2 : Int32) (x3 : Int32) (x4 : Int32) (x5 : Int32) (u6 : Option Value) (u7 : Option Value) (u8 : Option Value) (M : Mem) (r : Unit) (M' : Mem), J75_67 n rec3 x1 x2 x3 x4 x5 M = some (r, M') → pm_ev pmT sc e 75 false (67, [some (.ref 83), some (.int x1), some (.int x2), some (.int x3), some (.int x4), some (.int x5), u6, u7, u8], [], 129, 17845, hp M) (none, 129, 17845, hp M') := by
  intro x1 x2 x3 x4 x5 u6 u7 u8 M r M' h
  unfold J75_67 at h
  refine pe_blk mm_75 1 (s' := (68, [some (.ref 83), some (.int x1), some (.int x2), some (.int x3), some (.int x4), some (.int x5), u6, u7, u8], [.int 0], _, _, _)) rfl ?_
  exact J75_68_ev sc n e he rec3 hr3 x1 x2 x3 x4 x5 0 _ _ _ _ _ _ h
def J75_43 (n : Nat) (rec3 : Int32 → Int32 → Int32 → Int32 → Int32 → Mem → Option (Unit × Mem)) (x1 : Int32) (x2 : Int32) (x3 : Int32) (x4 : Int32) (x5 : Int32) (M : Mem) : Option (Unit × Mem) :=
  if x1 < 0 ∨ 128 ≤ (x1 : Int32).toNatClampNeg then none else (if (M.1 96 (x1 : Int32).toNatClampNeg) < 0 then (J75_63 n rec3 x1 x2 x3 x4 x5 M) else (if x5 < 0 ∨ 160 ≤ (x5 : Int32).toNatClampNeg then none else (if (M.1 124 (x5 : Int32).toNatClampNeg) = x3 then (J75_63 n rec3 x1 x2 x3 x4 x5 M) else (J75_67 n rec3 x1 x2 x3 x4 x5 M))))
set_option maxRecDepth 100000 in
set_option maxHeartbeats 4000000 in
theorem J75_43_ev (sc : Option (Nat × (Nat → Int32))) (n : Nat)  (e : Nat) (he : 2 ≤ e) (rec3 : Int32 → Int32 → Int32 → Int32 → Int32 → Mem → Option (Unit × Mem)) (hr3 : ∀ (x1 : Int32) (x2 : Int32) (x3 : Int32) (x4 : Int32) (x5 : Int32) (u6 : Option Value) (u7 : Option Value) (u8 : Option Value) (M : Mem) (r : Unit) (M' : Mem), rec3 x1 x2 x3 x4 x5 M = some (r, M') → pm_ev pmT sc e 75 false (3, [some (.ref 83), some (.int x1), some (.int x2), some (.int x3), some (.int x4), some (.int x5), u6, u7, u8], [], 129, 17845, hp M) (none, 129, 17845, hp M')) : ∀ (x1 : Int32) (x2 : Int32) (x3 : Int32) (x4 : Int32) (x5 : Int32) (u6 : Option Value) (u7 : Option Value) (u8 : Option Value) (M : Mem) (r : Unit) (M' : Mem), J75_43 n rec3 x1 x2 x3 x4 x5 M = some (r, M') → pm_ev pmT sc e 75 false (43, [some (.ref 83), some (.int x1), some (.int x2), some (.int x3), some (.int x4), some (.int x5), u6, u7, u8], [], 129, 17845, hp M) (none, 129, 17845, hp M') := by
  intro x1 x2 x3 x4 x5 u6 u7 u8 M r M' h
  unfold J75_43 at h
  refine pe_blk mm_75 1 (s' := (44, [some (.ref 83), some (.int x1), some (.int x2), some (.int x3), some (.int x4), some (.int x5), u6, u7, u8], [.ref 83], _, _, _)) rfl ?_
  refine pe_get mm_75 rfl rfl rfl (by decide) rfl ?_
  refine pe_blk mm_75 1 (s' := (48, [some (.ref 83), some (.int x1), some (.int x2), some (.int x3), some (.int x4), some (.int x5), u6, u7, u8], [.int x1, .ref 96], _, _, _)) rfl ?_
  by_cases q6 : x1 < 0 ∨ 128 ≤ (x1 : Int32).toNatClampNeg
  · rw [if_pos q6] at h
    cases h
  · rw [if_neg q6] at h
    refine pe_iald (f := M.1 96) mm_75 rfl rfl (by decide) q6 ?_
    by_cases q7 : (M.1 96 (x1 : Int32).toNatClampNeg) < 0
    · rw [if_pos q7] at h
      refine pe_blk mm_75 1 (s' := (if (M.1 96 (x1 : Int32).toNatClampNeg) < 0 then 63 else 52, [some (.ref 83), some (.int x1), some (.int x2), some (.int x3), some (.int x4), some (.int x5), u6, u7, u8], [], _, _, _)) rfl ?_
      rw [if_pos q7]
      exact J75_63_ev sc n e he rec3 hr3 x1 x2 x3 x4 x5 _ _ _ _ _ _ h
    · rw [if_neg q7] at h
      refine pe_blk mm_75 1 (s' := (if (M.1 96 (x1 : Int32).toNatClampNeg) < 0 then 63 else 52, [some (.ref 83), some (.int x1), some (.int x2), some (.int x3), some (.int x4), some (.int x5), u6, u7, u8], [], _, _, _)) rfl ?_
      rw [if_neg q7]
      refine pe_blk mm_75 1 (s' := (53, [some (.ref 83), some (.int x1), some (.int x2), some (.int x3), some (.int x4), some (.int x5), u6, u7, u8], [.ref 83], _, _, _)) rfl ?_
      refine pe_get mm_75 rfl rfl rfl (by decide) rfl ?_
      refine pe_blk mm_75 1 (s' := (58, [some (.ref 83), some (.int x1), some (.int x2), some (.int x3), some (.int x4), some (.int x5), u6, u7, u8], [.int x5, .ref 124], _, _, _)) rfl ?_
      by_cases q32 : x5 < 0 ∨ 160 ≤ (x5 : Int32).toNatClampNeg
      · rw [if_pos q32] at h
        cases h
      · rw [if_neg q32] at h
        refine pe_iald (f := M.1 124) mm_75 rfl rfl (by decide) q32 ?_
        refine pe_blk mm_75 1 (s' := (60, [some (.ref 83), some (.int x1), some (.int x2), some (.int x3), some (.int x4), some (.int x5), u6, u7, u8], [.int x3, .int (M.1 124 (x5 : Int32).toNatClampNeg)], _, _, _)) rfl ?_
        by_cases q33 : (M.1 124 (x5 : Int32).toNatClampNeg) = x3
        · rw [if_pos q33] at h
          refine pe_blk mm_75 1 (s' := (if (M.1 124 (x5 : Int32).toNatClampNeg) = x3 then 63 else 67, [some (.ref 83), some (.int x1), some (.int x2), some (.int x3), some (.int x4), some (.int x5), u6, u7, u8], [], _, _, _)) rfl ?_
          rw [if_pos q33]
          exact J75_63_ev sc n e he rec3 hr3 x1 x2 x3 x4 x5 _ _ _ _ _ _ h
        · rw [if_neg q33] at h
          refine pe_blk mm_75 1 (s' := (if (M.1 124 (x5 : Int32).toNatClampNeg) = x3 then 63 else 67, [some (.ref 83), some (.int x1), some (.int x2), some (.int x3), some (.int x4), some (.int x5), u6, u7, u8], [], _, _, _)) rfl ?_
          rw [if_neg q33]
          exact J75_67_ev sc n e he rec3 hr3 x1 x2 x3 x4 x5 _ _ _ _ _ _ h
def L75_3 (n : Nat) : Nat → Int32 → Int32 → Int32 → Int32 → Int32 → Mem → Option (Unit × Mem)
  | 0, _, _, _, _, _, _ => none
  | k + 1, x1, x2, x3, x4, x5, M => if (M.1 83 56) ≤ x5 then (some ((), M)) else (if x5 < 0 ∨ 160 ≤ (x5 : Int32).toNatClampNeg then none else (if (M.1 122 (x5 : Int32).toNatClampNeg) = x1 then (if x1 < 0 ∨ 128 ≤ (x1 : Int32).toNatClampNeg then none else (if (M.1 95 (x1 : Int32).toNatClampNeg) < 0 then (J75_43 n (L75_3 n k) x1 x2 x3 x4 x5 M) else (if x5 < 0 ∨ 160 ≤ (x5 : Int32).toNatClampNeg then none else (if (M.1 123 (x5 : Int32).toNatClampNeg) = x2 then (J75_43 n (L75_3 n k) x1 x2 x3 x4 x5 M) else (J75_67 n (L75_3 n k) x1 x2 x3 x4 x5 M))))) else (J75_67 n (L75_3 n k) x1 x2 x3 x4 x5 M)))
set_option maxRecDepth 100000 in
set_option maxHeartbeats 4000000 in
theorem L75_3_ev (sc : Option (Nat × (Nat → Int32))) (n : Nat)  (e : Nat) (he : 2 ≤ e) : ∀ k : Nat, ∀ (x1 : Int32) (x2 : Int32) (x3 : Int32) (x4 : Int32) (x5 : Int32) (u6 : Option Value) (u7 : Option Value) (u8 : Option Value) (M : Mem) (r : Unit) (M' : Mem), L75_3 n k x1 x2 x3 x4 x5 M = some (r, M') → pm_ev pmT sc e 75 false (3, [some (.ref 83), some (.int x1), some (.int x2), some (.int x3), some (.int x4), some (.int x5), u6, u7, u8], [], 129, 17845, hp M) (none, 129, 17845, hp M') := by
  intro k
  induction k with
  | zero => intro x1 x2 x3 x4 x5 u6 u7 u8 M r M' h; cases h
  | succ k hr3 =>
    intro x1 x2 x3 x4 x5 u6 u7 u8 M r M' h
    rw [L75_3] at h
    refine pe_blk mm_75 2 (s' := (6, [some (.ref 83), some (.int x1), some (.int x2), some (.int x3), some (.int x4), some (.int x5), u6, u7, u8], [.ref 83, .int x5], _, _, _)) rfl ?_
    refine pe_get mm_75 rfl rfl rfl (by decide) rfl ?_
    by_cases q1 : (M.1 83 56) ≤ x5
    · rw [if_pos q1] at h
      refine pe_blk mm_75 1 (s' := (if (M.1 83 56) ≤ x5 then 198 else 12, [some (.ref 83), some (.int x1), some (.int x2), some (.int x3), some (.int x4), some (.int x5), u6, u7, u8], [], _, _, _)) rfl ?_
      rw [if_pos q1]
      cases h
      exact pe_ret mm_75 rfl rfl
    · rw [if_neg q1] at h
      refine pe_blk mm_75 1 (s' := (if (M.1 83 56) ≤ x5 then 198 else 12, [some (.ref 83), some (.int x1), some (.int x2), some (.int x3), some (.int x4), some (.int x5), u6, u7, u8], [], _, _, _)) rfl ?_
      rw [if_neg q1]
      refine pe_blk mm_75 1 (s' := (13, [some (.ref 83), some (.int x1), some (.int x2), some (.int x3), some (.int x4), some (.int x5), u6, u7, u8], [.ref 83], _, _, _)) rfl ?_
      refine pe_get mm_75 rfl rfl rfl (by decide) rfl ?_
      refine pe_blk mm_75 1 (s' := (18, [some (.ref 83), some (.int x1), some (.int x2), some (.int x3), some (.int x4), some (.int x5), u6, u7, u8], [.int x5, .ref 122], _, _, _)) rfl ?_
      by_cases q2 : x5 < 0 ∨ 160 ≤ (x5 : Int32).toNatClampNeg
      · rw [if_pos q2] at h
        cases h
      · rw [if_neg q2] at h
        refine pe_iald (f := M.1 122) mm_75 rfl rfl (by decide) q2 ?_
        refine pe_blk mm_75 1 (s' := (20, [some (.ref 83), some (.int x1), some (.int x2), some (.int x3), some (.int x4), some (.int x5), u6, u7, u8], [.int x1, .int (M.1 122 (x5 : Int32).toNatClampNeg)], _, _, _)) rfl ?_
        by_cases q3 : (M.1 122 (x5 : Int32).toNatClampNeg) = x1
        · rw [if_pos q3] at h
          refine pe_blk mm_75 1 (s' := (if (M.1 122 (x5 : Int32).toNatClampNeg) = x1 then 23 else 67, [some (.ref 83), some (.int x1), some (.int x2), some (.int x3), some (.int x4), some (.int x5), u6, u7, u8], [], _, _, _)) rfl ?_
          rw [if_pos q3]
          refine pe_blk mm_75 1 (s' := (24, [some (.ref 83), some (.int x1), some (.int x2), some (.int x3), some (.int x4), some (.int x5), u6, u7, u8], [.ref 83], _, _, _)) rfl ?_
          refine pe_get mm_75 rfl rfl rfl (by decide) rfl ?_
          refine pe_blk mm_75 1 (s' := (28, [some (.ref 83), some (.int x1), some (.int x2), some (.int x3), some (.int x4), some (.int x5), u6, u7, u8], [.int x1, .ref 95], _, _, _)) rfl ?_
          by_cases q4 : x1 < 0 ∨ 128 ≤ (x1 : Int32).toNatClampNeg
          · rw [if_pos q4] at h
            cases h
          · rw [if_neg q4] at h
            refine pe_iald (f := M.1 95) mm_75 rfl rfl (by decide) q4 ?_
            by_cases q5 : (M.1 95 (x1 : Int32).toNatClampNeg) < 0
            · rw [if_pos q5] at h
              refine pe_blk mm_75 1 (s' := (if (M.1 95 (x1 : Int32).toNatClampNeg) < 0 then 43 else 32, [some (.ref 83), some (.int x1), some (.int x2), some (.int x3), some (.int x4), some (.int x5), u6, u7, u8], [], _, _, _)) rfl ?_
              rw [if_pos q5]
              exact J75_43_ev sc n e he (L75_3 n k) hr3 x1 x2 x3 x4 x5 _ _ _ _ _ _ h
            · rw [if_neg q5] at h
              refine pe_blk mm_75 1 (s' := (if (M.1 95 (x1 : Int32).toNatClampNeg) < 0 then 43 else 32, [some (.ref 83), some (.int x1), some (.int x2), some (.int x3), some (.int x4), some (.int x5), u6, u7, u8], [], _, _, _)) rfl ?_
              rw [if_neg q5]
              refine pe_blk mm_75 1 (s' := (33, [some (.ref 83), some (.int x1), some (.int x2), some (.int x3), some (.int x4), some (.int x5), u6, u7, u8], [.ref 83], _, _, _)) rfl ?_
              refine pe_get mm_75 rfl rfl rfl (by decide) rfl ?_
              refine pe_blk mm_75 1 (s' := (38, [some (.ref 83), some (.int x1), some (.int x2), some (.int x3), some (.int x4), some (.int x5), u6, u7, u8], [.int x5, .ref 123], _, _, _)) rfl ?_
              by_cases q34 : x5 < 0 ∨ 160 ≤ (x5 : Int32).toNatClampNeg
              · rw [if_pos q34] at h
                cases h
              · rw [if_neg q34] at h
                refine pe_iald (f := M.1 123) mm_75 rfl rfl (by decide) q34 ?_
                refine pe_blk mm_75 1 (s' := (40, [some (.ref 83), some (.int x1), some (.int x2), some (.int x3), some (.int x4), some (.int x5), u6, u7, u8], [.int x2, .int (M.1 123 (x5 : Int32).toNatClampNeg)], _, _, _)) rfl ?_
                by_cases q35 : (M.1 123 (x5 : Int32).toNatClampNeg) = x2
                · rw [if_pos q35] at h
                  refine pe_blk mm_75 1 (s' := (if (M.1 123 (x5 : Int32).toNatClampNeg) = x2 then 43 else 67, [some (.ref 83), some (.int x1), some (.int x2), some (.int x3), some (.int x4), some (.int x5), u6, u7, u8], [], _, _, _)) rfl ?_
                  rw [if_pos q35]
                  exact J75_43_ev sc n e he (L75_3 n k) hr3 x1 x2 x3 x4 x5 _ _ _ _ _ _ h
                · rw [if_neg q35] at h
                  refine pe_blk mm_75 1 (s' := (if (M.1 123 (x5 : Int32).toNatClampNeg) = x2 then 43 else 67, [some (.ref 83), some (.int x1), some (.int x2), some (.int x3), some (.int x4), some (.int x5), u6, u7, u8], [], _, _, _)) rfl ?_
                  rw [if_neg q35]
                  exact J75_67_ev sc n e he (L75_3 n k) hr3 x1 x2 x3 x4 x5 _ _ _ _ _ _ h
        · rw [if_neg q3] at h
          refine pe_blk mm_75 1 (s' := (if (M.1 122 (x5 : Int32).toNatClampNeg) = x1 then 23 else 67, [some (.ref 83), some (.int x1), some (.int x2), some (.int x3), some (.int x4), some (.int x5), u6, u7, u8], [], _, _, _)) rfl ?_
          rw [if_neg q3]
          exact J75_67_ev sc n e he (L75_3 n k) hr3 x1 x2 x3 x4 x5 _ _ _ _ _ _ h
/-- ArmExpanderModel.makeUse -/
def F75 (n : Nat) (a0 : Int32) (a1 : Int32) (a2 : Int32) (a3 : Int32) (M : Mem) : Option (Unit × Mem) :=
  L75_3 n n a0 a1 a2 a3 0 M
set_option maxRecDepth 100000 in
set_option maxHeartbeats 4000000 in
theorem F75_ev (sc : Option (Nat × (Nat → Int32))) (n : Nat) (a0 : Int32) (a1 : Int32) (a2 : Int32) (a3 : Int32)  (M : Mem) (e : Nat) (he : 2 ≤ e) (r : Unit) (M' : Mem) (h : F75 n a0 a1 a2 a3 M = some (r, M')) : pm_ev pmT sc e 75 false (0, [some (.ref 83), some (.int a0), some (.int a1), some (.int a2), some (.int a3), none, none, none, none], [], 129, 17845, hp M) (none, 129, 17845, hp M') := by
  unfold F75 at h
  refine pe_blk mm_75 2 (s' := (3, [some (.ref 83), some (.int a0), some (.int a1), some (.int a2), some (.int a3), some (.int 0), none, none, none], [], _, _, _)) rfl ?_
  exact L75_3_ev sc n e he n a0 a1 a2 a3 0 _ _ _ _ _ _ h
def J76_123 (n : Nat) (s0 : Int32) (M : Mem) : Option (Int32 × Mem) :=
  some (s0, M)
set_option maxRecDepth 100000 in
set_option maxHeartbeats 4000000 in
theorem J76_123_ev (sc : Option (Nat × (Nat → Int32))) (n : Nat)  (e : Nat) (he : 3 ≤ e) : ∀ (s0 : Int32) (u0 : Option Value) (u1 : Option Value) (u2 : Option Value) (u3 : Option Value) (u4 : Option Value) (u5 : Option Value) (u6 : Option Value) (u7 : Option Value) (M : Mem) (r : Int32) (M' : Mem), J76_123 n s0 M = some (r, M') → pm_ev pmT sc e 76 false (123, [u0, u1, u2, u3, u4, u5, u6, u7], [.int s0], 129, 17845, hp M) (some (.int r), 129, 17845, hp M') := by
  intro s0 u0 u1 u2 u3 u4 u5 u6 u7 M r M' h
  unfold J76_123 at h
  cases h
  exact pe_ret mm_76 rfl rfl
def J76_107 (n : Nat) (rec8 : Int32 → Int32 → Int32 → Int32 → Int32 → Mem → Option (Int32 × Mem)) (x1 : Int32) (x2 : Int32) (x3 : Int32) (x4 : Int32) (x5 : Int32) (M : Mem) : Option (Int32 × Mem) :=
  rec8 x1 x2 x3 x4 (x5 + 1) M
set_option maxRecDepth 100000 in
set_option maxHeartbeats 4000000 in
theorem J76_107_ev (sc : Option (Nat × (Nat → Int32))) (n : Nat)  (e : Nat) (he : 3 ≤ e) (rec8 : Int32 → Int32 → Int32 → Int32 → Int32 → Mem → Option (Int32 × Mem)) (hr8 : ∀ (x1 : Int32) (x2 : Int32) (x3 : Int32) (x4 : Int32) (x5 : Int32) (u6 : Option Value) (u7 : Option Value) (M : Mem) (r : Int32) (M' : Mem), rec8 x1 x2 x3 x4 x5 M = some (r, M') → pm_ev pmT sc e 76 false (8, [some (.ref 83), some (.int x1), some (.int x2), some (.int x3), some (.int x4), some (.int x5), u6, u7], [], 129, 17845, hp M) (some (.int r), 129, 17845, hp M')) : ∀ (x1 : Int32) (x2 : Int32) (x3 : Int32) (x4 : Int32) (x5 : Int32) (u6 : Option Value) (u7 : Option Value) (M : Mem) (r : Int32) (M' : Mem), J76_107 n rec8 x1 x2 x3 x4 x5 M = some (r, M') → pm_ev pmT sc e 76 false (107, [some (.ref 83), some (.int x1), some (.int x2), some (.int x3), some (.int x4), some (.int x5), u6, u7], [], 129, 17845, hp M) (some (.int r), 129, 17845, hp M') := by
  intro x1 x2 x3 x4 x5 u6 u7 M r M' h
  unfold J76_107 at h
  refine pe_blk mm_76 2 (s' := (8, [some (.ref 83), some (.int x1), some (.int x2), some (.int x3), some (.int x4), some (.int (x5 + 1)), u6, u7], [], _, _, _)) rfl ?_
  exact hr8 x1 x2 x3 x4 (x5 + 1) _ _ _ _ _ h
def J76_102 (n : Nat) (rec8 : Int32 → Int32 → Int32 → Int32 → Int32 → Mem → Option (Int32 × Mem)) (x1 : Int32) (x2 : Int32) (x5 : Int32) (x7 : Int32) (s0 : Int32) (M : Mem) : Option (Int32 × Mem) :=
  J76_107 n rec8 x1 x2 x7 s0 x5 M
set_option maxRecDepth 100000 in
set_option maxHeartbeats 4000000 in
theorem J76_102_ev (sc : Option (Nat × (Nat → Int32))) (n : Nat)  (e : Nat) (he : 3 ≤ e) (rec8 : Int32 → Int32 → Int32 → Int32 → Int32 → Mem → Option (Int32 × Mem)) (hr8 : ∀ (x1 : Int32) (x2 : Int32) (x3 : Int32) (x4 : Int32) (x5 : Int32) (u6 : Option Value) (u7 : Option Value) (M : Mem) (r : Int32) (M' : Mem), rec8 x1 x2 x3 x4 x5 M = some (r, M') → pm_ev pmT sc e 76 false (8, [some (.ref 83), some (.int x1), some (.int x2), some (.int x3), some (.int x4), some (.int x5), u6, u7], [], 129, 17845, hp M) (some (.int r), 129, 17845, hp M')) : ∀ (x1 : Int32) (x2 : Int32) (x5 : Int32) (x7 : Int32) (s0 : Int32) (u3 : Option Value) (u4 : Option Value) (u6 : Option Value) (M : Mem) (r : Int32) (M' : Mem), J76_102 n rec8 x1 x2 x5 x7 s0 M = some (r, M') → pm_ev pmT sc e 76 false (102, [some (.ref 83), some (.int x1), some (.int x2), u3, u4, some (.int x5), u6, some (.int x7)], [.int s0], 129, 17845, hp M) (some (.int r), 129, 17845, hp M') := by
  intro x1 x2 x5 x7 s0 u3 u4 u6 M r M' h
  unfold J76_102 at h
  refine pe_blk mm_76 3 (s' := (107, [some (.ref 83), some (.int x1), some (.int x2), some (.int x7), some (.int s0), some (.int x5), u6, some (.int x7)], [], _, _, _)) rfl ?_
  exact J76_107_ev sc n e he rec8 hr8 x1 x2 x7 s0 x5 _ _ _ _ _ h
def J76_101 (n : Nat) (rec8 : Int32 → Int32 → Int32 → Int32 → Int32 → Mem → Option (Int32 × Mem)) (x1 : Int32) (x2 : Int32) (x5 : Int32) (x7 : Int32) (M : Mem) : Option (Int32 × Mem) :=
  J76_102 n rec8 x1 x2 x5 x7 0 M
set_option maxRecDepth 100000 in
set_option maxHeartbeats 4000000 in
theorem J76_101_ev (sc : Option (Nat × (Nat → Int32))) (n : Nat)  (e : Nat) (he : 3 ≤ e) (rec8 : Int32 → Int32 → Int32 → Int32 → Int32 → Mem → Option (Int32 × Mem)) (hr8 : ∀ (x1 : Int32) (x2 : Int32) (x3 : Int32) (x4 : Int32) (x5 : Int32) (u6 : Option Value) (u7 : Option Value) (M : Mem) (r : Int32) (M' : Mem), rec8 x1 x2 x3 x4 x5 M = some (r, M') → pm_ev pmT sc e 76 false (8, [some (.ref 83), some (.int x1), some (.int x2), some (.int x3), some (.int x4), some (.int x5), u6, u7], [], 129, 17845, hp M) (some (.int r), 129, 17845, hp M')) : ∀ (x1 : Int32) (x2 : Int32) (x5 : Int32) (x7 : Int32) (u3 : Option Value) (u4 : Option Value) (u6 : Option Value) (M : Mem) (r : Int32) (M' : Mem), J76_101 n rec8 x1 x2 x5 x7 M = some (r, M') → pm_ev pmT sc e 76 false (101, [some (.ref 83), some (.int x1), some (.int x2), u3, u4, some (.int x5), u6, some (.int x7)], [], 129, 17845, hp M) (some (.int r), 129, 17845, hp M') := by
  intro x1 x2 x5 x7 u3 u4 u6 M r M' h
  unfold J76_101 at h
  refine pe_blk mm_76 1 (s' := (102, [some (.ref 83), some (.int x1), some (.int x2), u3, u4, some (.int x5), u6, some (.int x7)], [.int 0], _, _, _)) rfl ?_
  exact J76_102_ev sc n e he rec8 hr8 x1 x2 x5 x7 0 _ _ _ _ _ _ h
def J76_97 (n : Nat) (rec8 : Int32 → Int32 → Int32 → Int32 → Int32 → Mem → Option (Int32 × Mem)) (x1 : Int32) (x2 : Int32) (x5 : Int32) (x7 : Int32) (M : Mem) : Option (Int32 × Mem) :=
  J76_102 n rec8 x1 x2 x5 x7 1 M
set_option maxRecDepth 100000 in
set_option maxHeartbeats 4000000 in
theorem J76_97_ev (sc : Option (Nat × (Nat → Int32))) (n : Nat)  (e : Nat) (he : 3 ≤ e) (rec8 : Int32 → Int32 → Int32 → Int32 → Int32 → Mem → Option (Int32 × Mem)) (hr8 : ∀ (x1 : Int32) (x2 : Int32) (x3 : Int32) (x4 : Int32) (x5 : Int32) (u6 : Option Value) (u7 : Option Value) (M : Mem) (r : Int32) (M' : Mem), rec8 x1 x2 x3 x4 x5 M = some (r, M') → pm_ev pmT sc e 76 false (8, [some (.ref 83), some (.int x1), some (.int x2), some (.int x3), some (.int x4), some (.int x5), u6, u7], [], 129, 17845, hp M) (some (.int r), 129, 17845, hp M')) : ∀ (x1 : Int32) (x2 : Int32) (x5 : Int32) (x7 : Int32) (u3 : Option Value) (u4 : Option Value) (u6 : Option Value) (M : Mem) (r : Int32) (M' : Mem), J76_97 n rec8 x1 x2 x5 x7 M = some (r, M') → pm_ev pmT sc e 76 false (97, [some (.ref 83), some (.int x1), some (.int x2), u3, u4, some (.int x5), u6, some (.int x7)], [], 129, 17845, hp M) (some (.int r), 129, 17845, hp M') := by
  intro x1 x2 x5 x7 u3 u4 u6 M r M' h
  unfold J76_97 at h
  refine pe_blk mm_76 2 (s' := (102, [some (.ref 83), some (.int x1), some (.int x2), u3, u4, some (.int x5), u6, some (.int x7)], [.int 1], _, _, _)) rfl ?_
  exact J76_102_ev sc n e he rec8 hr8 x1 x2 x5 x7 1 _ _ _ _ _ _ h
def J76_80 (n : Nat) (rec8 : Int32 → Int32 → Int32 → Int32 → Int32 → Mem → Option (Int32 × Mem)) (x1 : Int32) (x2 : Int32) (x3 : Int32) (x4 : Int32) (x5 : Int32) (s0 : Int32) (M : Mem) : Option (Int32 × Mem) :=
  if x4 = 0 then (J76_101 n rec8 x1 x2 x5 s0 M) else (if x3 < 0 then (J76_97 n rec8 x1 x2 x5 s0 M) else (if x3 = s0 then (J76_97 n rec8 x1 x2 x5 s0 M) else (J76_101 n rec8 x1 x2 x5 s0 M)))
set_option maxRecDepth 100000 in
set_option maxHeartbeats 4000000 in
theorem J76_80_ev (sc : Option (Nat × (Nat → Int32))) (n : Nat)  (e : Nat) (he : 3 ≤ e) (rec8 : Int32 → Int32 → Int32 → Int32 → Int32 → Mem → Option (Int32 × Mem)) (hr8 : ∀ (x1 : Int32) (x2 : Int32) (x3 : Int32) (x4 : Int32) (x5 : Int32) (u6 : Option Value) (u7 : Option Value) (M : Mem) (r : Int32) (M' : Mem), rec8 x1 x2 x3 x4 x5 M = some (r, M') → pm_ev pmT sc e 76 false (8, [some (.ref 83), some (.int x1), some (.int x2), some (.int x3), some (.int x4), some (.int x5), u6, u7], [], 129, 17845, hp M) (some (.int r), 129, 17845, hp M')) : ∀ (x1 : Int32) (x2 : Int32) (x3 : Int32) (x4 : Int32) (x5 : Int32) (s0 : Int32) (u6 : Option Value) (u7 : Option Value) (M : Mem) (r : Int32) (M' : Mem), J76_80 n rec8 x1 x2 x3 x4 x5 s0 M = some (r, M') → pm_ev pmT sc e 76 false (80, [some (.ref 83), some (.int x1), some (.int x2), some (.int x3), some (.int x4), some (.int x5), u6, u7], [.int s0], 129, 17845, hp M) (some (.int r), 129, 17845, hp M') := by
  intro x1 x2 x3 x4 x5 s0 u6 u7 M r M' h
  unfold J76_80 at h
  refine pe_blk mm_76 2 (s' := (84, [some (.ref 83), some (.int x1), some (.int x2), some (.int x3), some (.int x4), some (.int x5), u6, some (.int s0)], [.int x4], _, _, _)) rfl ?_
  by_cases q16 : x4 = 0
  · rw [if_pos q16] at h
    refine pe_blk mm_76 1 (s' := (if x4 = 0 then 101 else 87, [some (.ref 83), some (.int x1), some (.int x2), some (.int x3), some (.int x4), some (.int x5), u6, some (.int s0)], [], _, _, _)) rfl ?_
    rw [if_pos q16]
    exact J76_101_ev sc n e he rec8 hr8 x1 x2 x5 s0 _ _ _ _ _ _ h
  · rw [if_neg q16] at h
    refine pe_blk mm_76 1 (s' := (if x4 = 0 then 101 else 87, [some (.ref 83), some (.int x1), some (.int x2), some (.int x3), some (.int x4), some (.int x5), u6, some (.int s0)], [], _, _, _)) rfl ?_
    rw [if_neg q16]
    refine pe_blk mm_76 1 (s' := (88, [some (.ref 83), some (.int x1), some (.int x2), some (.int x3), some (.int x4), some (.int x5), u6, some (.int s0)], [.int x3], _, _, _)) rfl ?_
    by_cases q17 : x3 < 0
    · rw [if_pos q17] at h
      refine pe_blk mm_76 1 (s' := (if x3 < 0 then 97 else 91, [some (.ref 83), some (.int x1), some (.int x2), some (.int x3), some (.int x4), some (.int x5), u6, some (.int s0)], [], _, _, _)) rfl ?_
      rw [if_pos q17]
      exact J76_97_ev sc n e he rec8 hr8 x1 x2 x5 s0 _ _ _ _ _ _ h
    · rw [if_neg q17] at h
      refine pe_blk mm_76 1 (s' := (if x3 < 0 then 97 else 91, [some (.ref 83), some (.int x1), some (.int x2), some (.int x3), some (.int x4), some (.int x5), u6, some (.int s0)], [], _, _, _)) rfl ?_
      rw [if_neg q17]
      refine pe_blk mm_76 2 (s' := (94, [some (.ref 83), some (.int x1), some (.int x2), some (.int x3), some (.int x4), some (.int x5), u6, some (.int s0)], [.int s0, .int x3], _, _, _)) rfl ?_
      by_cases q18 : x3 = s0
      · rw [if_pos q18] at h
        refine pe_blk mm_76 1 (s' := (if x3 = s0 then 97 else 101, [some (.ref 83), some (.int x1), some (.int x2), some (.int x3), some (.int x4), some (.int x5), u6, some (.int s0)], [], _, _, _)) rfl ?_
        rw [if_pos q18]
        exact J76_97_ev sc n e he rec8 hr8 x1 x2 x5 s0 _ _ _ _ _ _ h
      · rw [if_neg q18] at h
        refine pe_blk mm_76 1 (s' := (if x3 = s0 then 97 else 101, [some (.ref 83), some (.int x1), some (.int x2), some (.int x3), some (.int x4), some (.int x5), u6, some (.int s0)], [], _, _, _)) rfl ?_
        rw [if_neg q18]
        exact J76_101_ev sc n e he rec8 hr8 x1 x2 x5 s0 _ _ _ _ _ _ h
def L76_8 (n : Nat) : Nat → Int32 → Int32 → Int32 → Int32 → Int32 → Mem → Option (Int32 × Mem)
  | 0, _, _, _, _, _, _ => none
  | k + 1, x1, x2, x3, x4, x5, M => if x1 < 0 ∨ 128 ≤ (x1 : Int32).toNatClampNeg then none else (if (M.1 99 (x1 : Int32).toNatClampNeg) ≤ x5 then (if x4 = 0 then (J76_123 n (-1) M) else (J76_123 n x3 M)) else (if x5 < 0 ∨ 128 ≤ (x5 : Int32).toNatClampNeg then none else (if (M.1 97 (x5 : Int32).toNatClampNeg) = 7 then (if x5 < 0 ∨ 128 ≤ (x5 : Int32).toNatClampNeg then none else (match F46 n (M.1 98 (x5 : Int32).toNatClampNeg) M with | some (v7, M8) => (if x1 < 0 ∨ 128 ≤ (x1 : Int32).toNatClampNeg then none else (if 0 ≤ (M8.1 101 (x1 : Int32).toNatClampNeg) then (if v7 < 0 ∨ 128 ≤ (v7 : Int32).toNatClampNeg then none else (match F69 n (M8.1 96 (v7 : Int32).toNatClampNeg) x2 M8 with | some (v13, M14) => (J76_80 n (L76_8 n k) x1 x2 x3 x4 x5 v13 M14) | none => none)) else (if v7 < 0 ∨ 128 ≤ (v7 : Int32).toNatClampNeg then none else (if (M8.1 95 (v7 : Int32).toNatClampNeg) < 0 ∨ 128 ≤ (M8.1 95 (v7 : Int32).toNatClampNeg : Int32).toNatClampNeg then none else (J76_80 n (L76_8 n k) x1 x2 x3 x4 x5 (M8.1 118 (M8.1 95 (v7 : Int32).toNatClampNeg : Int32).toNatClampNeg) M8))))) | none => none)) else (J76_107 n (L76_8 n k) x1 x2 x3 x4 x5 M))))
set_option maxRecDepth 100000 in
set_option maxHeartbeats 4000000 in
theorem L76_8_ev (sc : Option (Nat × (Nat → Int32))) (n : Nat)  (e : Nat) (he : 3 ≤ e) : ∀ k : Nat, ∀ (x1 : Int32) (x2 : Int32) (x3 : Int32) (x4 : Int32) (x5 : Int32) (u6 : Option Value) (u7 : Option Value) (M : Mem) (r : Int32) (M' : Mem), L76_8 n k x1 x2 x3 x4 x5 M = some (r, M') → pm_ev pmT sc e 76 false (8, [some (.ref 83), some (.int x1), some (.int x2), some (.int x3), some (.int x4), some (.int x5), u6, u7], [], 129, 17845, hp M) (some (.int r), 129, 17845, hp M') := by
  intro k
  induction k with
  | zero => intro x1 x2 x3 x4 x5 u6 u7 M r M' h; cases h
  | succ k hr8 =>
    intro x1 x2 x3 x4 x5 u6 u7 M r M' h
    rw [L76_8] at h
    refine pe_blk mm_76 2 (s' := (11, [some (.ref 83), some (.int x1), some (.int x2), some (.int x3), some (.int x4), some (.int x5), u6, u7], [.ref 83, .int x5], _, _, _)) rfl ?_
    refine pe_get mm_76 rfl rfl rfl (by decide) rfl ?_
    refine pe_blk mm_76 1 (s' := (15, [some (.ref 83), some (.int x1), some (.int x2), some (.int x3), some (.int x4), some (.int x5), u6, u7], [.int x1, .ref 99, .int x5], _, _, _)) rfl ?_
    by_cases q1 : x1 < 0 ∨ 128 ≤ (x1 : Int32).toNatClampNeg
    · rw [if_pos q1] at h
      cases h
    · rw [if_neg q1] at h
      refine pe_iald (f := M.1 99) mm_76 rfl rfl (by decide) q1 ?_
      by_cases q2 : (M.1 99 (x1 : Int32).toNatClampNeg) ≤ x5
      · rw [if_pos q2] at h
        refine pe_blk mm_76 1 (s' := (if (M.1 99 (x1 : Int32).toNatClampNeg) ≤ x5 then 113 else 19, [some (.ref 83), some (.int x1), some (.int x2), some (.int x3), some (.int x4), some (.int x5), u6, u7], [], _, _, _)) rfl ?_
        rw [if_pos q2]
        refine pe_blk mm_76 1 (s' := (115, [some (.ref 83), some (.int x1), some (.int x2), some (.int x3), some (.int x4), some (.int x5), u6, u7], [.int x4], _, _, _)) rfl ?_
        by_cases q3 : x4 = 0
        · rw [if_pos q3] at h
          refine pe_blk mm_76 1 (s' := (if x4 = 0 then 122 else 118, [some (.ref 83), some (.int x1), some (.int x2), some (.int x3), some (.int x4), some (.int x5), u6, u7], [], _, _, _)) rfl ?_
          rw [if_pos q3]
          refine pe_blk mm_76 1 (s' := (123, [some (.ref 83), some (.int x1), some (.int x2), some (.int x3), some (.int x4), some (.int x5), u6, u7], [.int (-1)], _, _, _)) rfl ?_
          exact J76_123_ev sc n e he (-1) _ _ _ _ _ _ _ _ _ _ _ h
        · rw [if_neg q3] at h
          refine pe_blk mm_76 1 (s' := (if x4 = 0 then 122 else 118, [some (.ref 83), some (.int x1), some (.int x2), some (.int x3), some (.int x4), some (.int x5), u6, u7], [], _, _, _)) rfl ?_
          rw [if_neg q3]
          refine pe_blk mm_76 2 (s' := (123, [some (.ref 83), some (.int x1), some (.int x2), some (.int x3), some (.int x4), some (.int x5), u6, u7], [.int x3], _, _, _)) rfl ?_
          exact J76_123_ev sc n e he x3 _ _ _ _ _ _ _ _ _ _ _ h
      · rw [if_neg q2] at h
        refine pe_blk mm_76 1 (s' := (if (M.1 99 (x1 : Int32).toNatClampNeg) ≤ x5 then 113 else 19, [some (.ref 83), some (.int x1), some (.int x2), some (.int x3), some (.int x4), some (.int x5), u6, u7], [], _, _, _)) rfl ?_
        rw [if_neg q2]
        refine pe_blk mm_76 1 (s' := (20, [some (.ref 83), some (.int x1), some (.int x2), some (.int x3), some (.int x4), some (.int x5), u6, u7], [.ref 83], _, _, _)) rfl ?_
        refine pe_get mm_76 rfl rfl rfl (by decide) rfl ?_
        refine pe_blk mm_76 1 (s' := (25, [some (.ref 83), some (.int x1), some (.int x2), some (.int x3), some (.int x4), some (.int x5), u6, u7], [.int x5, .ref 97], _, _, _)) rfl ?_
        by_cases q4 : x5 < 0 ∨ 128 ≤ (x5 : Int32).toNatClampNeg
        · rw [if_pos q4] at h
          cases h
        · rw [if_neg q4] at h
          refine pe_iald (f := M.1 97) mm_76 rfl rfl (by decide) q4 ?_
          refine pe_blk mm_76 1 (s' := (28, [some (.ref 83), some (.int x1), some (.int x2), some (.int x3), some (.int x4), some (.int x5), u6, u7], [.int 7, .int (M.1 97 (x5 : Int32).toNatClampNeg)], _, _, _)) rfl ?_
          by_cases q5 : (M.1 97 (x5 : Int32).toNatClampNeg) = 7
          · rw [if_pos q5] at h
            refine pe_blk mm_76 1 (s' := (if (M.1 97 (x5 : Int32).toNatClampNeg) = 7 then 31 else 107, [some (.ref 83), some (.int x1), some (.int x2), some (.int x3), some (.int x4), some (.int x5), u6, u7], [], _, _, _)) rfl ?_
            rw [if_pos q5]
            refine pe_blk mm_76 2 (s' := (33, [some (.ref 83), some (.int x1), some (.int x2), some (.int x3), some (.int x4), some (.int x5), u6, u7], [.ref 83, .ref 83], _, _, _)) rfl ?_
            refine pe_get mm_76 rfl rfl rfl (by decide) rfl ?_
            refine pe_blk mm_76 1 (s' := (38, [some (.ref 83), some (.int x1), some (.int x2), some (.int x3), some (.int x4), some (.int x5), u6, u7], [.int x5, .ref 98, .ref 83], _, _, _)) rfl ?_
            by_cases q6 : x5 < 0 ∨ 128 ≤ (x5 : Int32).toNatClampNeg
            · rw [if_pos q6] at h
              cases h
            · rw [if_neg q6] at h
              refine pe_iald (f := M.1 98) mm_76 rfl rfl (by decide) q6 ?_
              obtain ⟨e1, rfl⟩ : ∃ e1, e = e1 + 1 := ⟨e - 1, by omega⟩
              cases hc9 : F46 n (M.1 98 (x5 : Int32).toNatClampNeg) M with
              | none => rw [hc9] at h; cases h
              | some w =>
                obtain ⟨v7, M8⟩ := w
                rw [hc9] at h
                dsimp only at h
                refine pe_virt (al := [.int (M.1 98 (x5 : Int32).toNatClampNeg)]) (a := 83) (L0 := [some (.ref 83), some (.int (M.1 98 (x5 : Int32).toNatClampNeg)), none, none]) (r1 := (some (.int v7), 129, 17845, hp M8)) mm_76 rfl rfl rfl mm_46 rfl (by decide) (by decide) rfl (Nat.le_of_ble_eq_true rfl) (Nat.le_of_ble_eq_true rfl) rfl rfl (F46_ev sc n (M.1 98 (x5 : Int32).toNatClampNeg) _ e1 (by omega) _ _ hc9) ?_
                show pm_ev _ _ _ _ _ (42, [some (.ref 83), some (.int x1), some (.int x2), some (.int x3), some (.int x4), some (.int x5), u6, u7], [.int v7], _, _, _) _
                refine pe_blk mm_76 2 (s' := (45, [some (.ref 83), some (.int x1), some (.int x2), some (.int x3), some (.int x4), some (.int x5), some (.int v7), u7], [.ref 83], _, _, _)) rfl ?_
                refine pe_get mm_76 rfl rfl rfl (by decide) rfl ?_
                refine pe_blk mm_76 1 (s' := (49, [some (.ref 83), some (.int x1), some (.int x2), some (.int x3), some (.int x4), some (.int x5), some (.int v7), u7], [.int x1, .ref 101], _, _, _)) rfl ?_
                by_cases q10 : x1 < 0 ∨ 128 ≤ (x1 : Int32).toNatClampNeg
                · rw [if_pos q10] at h
                  cases h
                · rw [if_neg q10] at h
                  refine pe_iald (f := M8.1 101) mm_76 rfl rfl (by decide) q10 ?_
                  by_cases q11 : 0 ≤ (M8.1 101 (x1 : Int32).toNatClampNeg)
                  · rw [if_pos q11] at h
                    refine pe_blk mm_76 1 (s' := (if 0 ≤ (M8.1 101 (x1 : Int32).toNatClampNeg) then 68 else 53, [some (.ref 83), some (.int x1), some (.int x2), some (.int x3), some (.int x4), some (.int x5), some (.int v7), u7], [], _, _, _)) rfl ?_
                    rw [if_pos q11]
                    refine pe_blk mm_76 2 (s' := (70, [some (.ref 83), some (.int x1), some (.int x2), some (.int x3), some (.int x4), some (.int x5), some (.int v7), u7], [.ref 83, .ref 83], _, _, _)) rfl ?_
                    refine pe_get mm_76 rfl rfl rfl (by decide) rfl ?_
                    refine pe_blk mm_76 1 (s' := (75, [some (.ref 83), some (.int x1), some (.int x2), some (.int x3), some (.int x4), some (.int x5), some (.int v7), u7], [.int v7, .ref 96, .ref 83], _, _, _)) rfl ?_
                    by_cases q12 : v7 < 0 ∨ 128 ≤ (v7 : Int32).toNatClampNeg
                    · rw [if_pos q12] at h
                      cases h
                    · rw [if_neg q12] at h
                      refine pe_iald (f := M8.1 96) mm_76 rfl rfl (by decide) q12 ?_
                      refine pe_blk mm_76 1 (s' := (77, [some (.ref 83), some (.int x1), some (.int x2), some (.int x3), some (.int x4), some (.int x5), some (.int v7), u7], [.int x2, .int (M8.1 96 (v7 : Int32).toNatClampNeg), .ref 83], _, _, _)) rfl ?_
                      skip
                      cases hc15 : F69 n (M8.1 96 (v7 : Int32).toNatClampNeg) x2 M8 with
                      | none => rw [hc15] at h; cases h
                      | some w =>
                        obtain ⟨v13, M14⟩ := w
                        rw [hc15] at h
                        dsimp only at h
                        refine pe_virt (al := [.int x2, .int (M8.1 96 (v7 : Int32).toNatClampNeg)]) (a := 83) (L0 := [some (.ref 83), some (.int (M8.1 96 (v7 : Int32).toNatClampNeg)), some (.int x2), none]) (r1 := (some (.int v13), 129, 17845, hp M14)) mm_76 rfl rfl rfl mm_69 rfl (by decide) (by decide) rfl (Nat.le_of_ble_eq_true rfl) (Nat.le_of_ble_eq_true rfl) rfl rfl (F69_ev sc n (M8.1 96 (v7 : Int32).toNatClampNeg) x2 _ e1 (by omega) _ _ hc15) ?_
                        show pm_ev _ _ _ _ _ (80, [some (.ref 83), some (.int x1), some (.int x2), some (.int x3), some (.int x4), some (.int x5), some (.int v7), u7], [.int v13], _, _, _) _
                        exact J76_80_ev sc n (e1 + 1) he (L76_8 n k) hr8 x1 x2 x3 x4 x5 v13 _ _ _ _ _ h
                  · rw [if_neg q11] at h
                    refine pe_blk mm_76 1 (s' := (if 0 ≤ (M8.1 101 (x1 : Int32).toNatClampNeg) then 68 else 53, [some (.ref 83), some (.int x1), some (.int x2), some (.int x3), some (.int x4), some (.int x5), some (.int v7), u7], [], _, _, _)) rfl ?_
                    rw [if_neg q11]
                    refine pe_blk mm_76 1 (s' := (54, [some (.ref 83), some (.int x1), some (.int x2), some (.int x3), some (.int x4), some (.int x5), some (.int v7), u7], [.ref 83], _, _, _)) rfl ?_
                    refine pe_get mm_76 rfl rfl rfl (by decide) rfl ?_
                    refine pe_blk mm_76 1 (s' := (58, [some (.ref 83), some (.int x1), some (.int x2), some (.int x3), some (.int x4), some (.int x5), some (.int v7), u7], [.ref 83, .ref 118], _, _, _)) rfl ?_
                    refine pe_get mm_76 rfl rfl rfl (by decide) rfl ?_
                    refine pe_blk mm_76 1 (s' := (63, [some (.ref 83), some (.int x1), some (.int x2), some (.int x3), some (.int x4), some (.int x5), some (.int v7), u7], [.int v7, .ref 95, .ref 118], _, _, _)) rfl ?_
                    by_cases q19 : v7 < 0 ∨ 128 ≤ (v7 : Int32).toNatClampNeg
                    · rw [if_pos q19] at h
                      cases h
                    · rw [if_neg q19] at h
                      refine pe_iald (f := M8.1 95) mm_76 rfl rfl (by decide) q19 ?_
                      by_cases q20 : (M8.1 95 (v7 : Int32).toNatClampNeg) < 0 ∨ 128 ≤ (M8.1 95 (v7 : Int32).toNatClampNeg : Int32).toNatClampNeg
                      · rw [if_pos q20] at h
                        cases h
                      · rw [if_neg q20] at h
                        refine pe_iald (f := M8.1 118) mm_76 rfl rfl (by decide) q20 ?_
                        refine pe_blk mm_76 1 (s' := (80, [some (.ref 83), some (.int x1), some (.int x2), some (.int x3), some (.int x4), some (.int x5), some (.int v7), u7], [.int (M8.1 118 (M8.1 95 (v7 : Int32).toNatClampNeg : Int32).toNatClampNeg)], _, _, _)) rfl ?_
                        exact J76_80_ev sc n (e1 + 1) he (L76_8 n k) hr8 x1 x2 x3 x4 x5 (M8.1 118 (M8.1 95 (v7 : Int32).toNatClampNeg : Int32).toNatClampNeg) _ _ _ _ _ h
          · rw [if_neg q5] at h
            refine pe_blk mm_76 1 (s' := (if (M.1 97 (x5 : Int32).toNatClampNeg) = 7 then 31 else 107, [some (.ref 83), some (.int x1), some (.int x2), some (.int x3), some (.int x4), some (.int x5), u6, u7], [], _, _, _)) rfl ?_
            rw [if_neg q5]
            exact J76_107_ev sc n e he (L76_8 n k) hr8 x1 x2 x3 x4 x5 _ _ _ _ _ h
/-- ArmExpanderModel.roundsOf -/
def F76 (n : Nat) (a0 : Int32) (a1 : Int32) (M : Mem) : Option (Int32 × Mem) :=
  L76_8 n n a0 a1 (-1) 1 a0 M
set_option maxRecDepth 100000 in
set_option maxHeartbeats 4000000 in
theorem F76_ev (sc : Option (Nat × (Nat → Int32))) (n : Nat) (a0 : Int32) (a1 : Int32)  (M : Mem) (e : Nat) (he : 3 ≤ e) (r : Int32) (M' : Mem) (h : F76 n a0 a1 M = some (r, M')) : pm_ev pmT sc e 76 false (0, [some (.ref 83), some (.int a0), some (.int a1), none, none, none, none, none], [], 129, 17845, hp M) (some (.int r), 129, 17845, hp M') := by
  unfold F76 at h
  refine pe_blk mm_76 6 (s' := (8, [some (.ref 83), some (.int a0), some (.int a1), some (.int (-1)), some (.int 1), some (.int a0), none, none], [], _, _, _)) rfl ?_
  exact L76_8_ev sc n e he n a0 a1 (-1) 1 a0 _ _ _ _ _ h
