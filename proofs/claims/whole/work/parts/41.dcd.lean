/-! The methods as functions over Mem; written by program. -/
def J197_21 (n : Nat) (M : Mem) : Option (Int32 × Mem) :=
  some (0, M)
set_option maxRecDepth 100000 in
set_option maxHeartbeats 4000000 in
theorem J197_21_ev (sc : Option (Nat × (Nat → Int32))) (n : Nat)  (e : Nat) (he : 2 ≤ e) : ∀ (u0 : Option Value) (u1 : Option Value) (u2 : Option Value) (u3 : Option Value) (u4 : Option Value) (M : Mem) (r : Int32) (M' : Mem), J197_21 n  M = some (r, M') → pm_ev pmT sc e 197 false (21, [u0, u1, u2, u3, u4], [], 129, 17845, hp M) (some (.int r), 129, 17845, hp M') := by
  intro u0 u1 u2 u3 u4 M r M' h
  unfold J197_21 at h
  refine pe_blk mm_197 1 (s' := (22, [u0, u1, u2, u3, u4], [.int 0], _, _, _)) rfl ?_
  cases h
  exact pe_ret mm_197 rfl rfl
def J197_81 (n : Nat) (rec63 : Int32 → Int32 → Mem → Option (Int32 × Mem)) (x1 : Int32) (x3 : Int32) (M : Mem) : Option (Int32 × Mem) :=
  mlet (m_i M 1 1 ((M.1 1 1) + 1)) (fun M11 => rec63 x1 (x3 + (-1)) M11)
set_option maxRecDepth 100000 in
set_option maxHeartbeats 4000000 in
theorem J197_81_ev (sc : Option (Nat × (Nat → Int32))) (n : Nat)  (e : Nat) (he : 2 ≤ e) (rec63 : Int32 → Int32 → Mem → Option (Int32 × Mem)) (hr63 : ∀ (x1 : Int32) (x3 : Int32) (u2 : Option Value) (u4 : Option Value) (M : Mem) (r : Int32) (M' : Mem), rec63 x1 x3 M = some (r, M') → pm_ev pmT sc e 197 false (63, [some (.ref 1), some (.int x1), u2, some (.int x3), u4], [], 129, 17845, hp M) (some (.int r), 129, 17845, hp M')) : ∀ (x1 : Int32) (x3 : Int32) (u2 : Option Value) (u4 : Option Value) (M : Mem) (r : Int32) (M' : Mem), J197_81 n rec63 x1 x3 M = some (r, M') → pm_ev pmT sc e 197 false (81, [some (.ref 1), some (.int x1), u2, some (.int x3), u4], [], 129, 17845, hp M) (some (.int r), 129, 17845, hp M') := by
  intro x1 x3 u2 u4 M r M' h
  unfold J197_81 at h
  refine pe_blk mm_197 2 (s' := (83, [some (.ref 1), some (.int x1), u2, some (.int x3), u4], [.ref 1, .ref 1], _, _, _)) rfl ?_
  refine pe_get mm_197 rfl rfl rfl (by decide) rfl ?_
  refine pe_blk mm_197 2 (s' := (88, [some (.ref 1), some (.int x1), u2, some (.int x3), u4], [.int ((M.1 1 1) + 1), .ref 1], _, _, _)) rfl ?_
  refine pe_puti mm_197 rfl rfl rfl (by decide) (Nat.le_of_ble_eq_true rfl) rfl rfl ?_
  show pm_ev _ _ _ _ _ (91, [some (.ref 1), some (.int x1), u2, some (.int x3), u4], [], _, _, hp (m_i M 1 1 ((M.1 1 1) + 1))) _
  generalize m_i M 1 1 ((M.1 1 1) + 1) = M11 at h ⊢
  rw [mlet] at h
  refine pe_blk mm_197 2 (s' := (63, [some (.ref 1), some (.int x1), u2, some (.int (x3 + (-1))), u4], [], _, _, _)) rfl ?_
  exact hr63 x1 (x3 + (-1)) _ _ _ _ _ h
def L197_63 (n : Nat) : Nat → Int32 → Int32 → Mem → Option (Int32 × Mem)
  | 0, _, _, _ => none
  | k + 1, x1, x3, M => if x3 < 0 then (some (1, M)) else (match F204 n x1 x3 M with | some (v6, M7) => (if (M.1 1 1) < 0 ∨ 120 ≤ (M.1 1 1 : Int32).toNatClampNeg then none else (mlet (m_i M7 2 (M.1 1 1 : Int32).toNatClampNeg v6) (fun M10 => J197_81 n (L197_63 n k) x1 x3 M10))) | none => none)
set_option maxRecDepth 100000 in
set_option maxHeartbeats 4000000 in
theorem L197_63_ev (sc : Option (Nat × (Nat → Int32))) (n : Nat)  (e : Nat) (he : 2 ≤ e) : ∀ k : Nat, ∀ (x1 : Int32) (x3 : Int32) (u2 : Option Value) (u4 : Option Value) (M : Mem) (r : Int32) (M' : Mem), L197_63 n k x1 x3 M = some (r, M') → pm_ev pmT sc e 197 false (63, [some (.ref 1), some (.int x1), u2, some (.int x3), u4], [], 129, 17845, hp M) (some (.int r), 129, 17845, hp M') := by
  intro k
  induction k with
  | zero => intro x1 x3 u2 u4 M r M' h; cases h
  | succ k hr63 =>
    intro x1 x3 u2 u4 M r M' h
    rw [L197_63] at h
    refine pe_blk mm_197 1 (s' := (64, [some (.ref 1), some (.int x1), u2, some (.int x3), u4], [.int x3], _, _, _)) rfl ?_
    by_cases q5 : x3 < 0
    · rw [if_pos q5] at h
      refine pe_blk mm_197 1 (s' := (if x3 < 0 then 97 else 67, [some (.ref 1), some (.int x1), u2, some (.int x3), u4], [], _, _, _)) rfl ?_
      rw [if_pos q5]
      refine pe_blk mm_197 1 (s' := (98, [some (.ref 1), some (.int x1), u2, some (.int x3), u4], [.int 1], _, _, _)) rfl ?_
      cases h
      exact pe_ret mm_197 rfl rfl
    · rw [if_neg q5] at h
      refine pe_blk mm_197 1 (s' := (if x3 < 0 then 97 else 67, [some (.ref 1), some (.int x1), u2, some (.int x3), u4], [], _, _, _)) rfl ?_
      rw [if_neg q5]
      refine pe_blk mm_197 1 (s' := (68, [some (.ref 1), some (.int x1), u2, some (.int x3), u4], [.ref 1], _, _, _)) rfl ?_
      refine pe_get mm_197 rfl rfl rfl (by decide) rfl ?_
      refine pe_blk mm_197 1 (s' := (72, [some (.ref 1), some (.int x1), u2, some (.int x3), u4], [.ref 1, .ref 2], _, _, _)) rfl ?_
      refine pe_get mm_197 rfl rfl rfl (by decide) rfl ?_
      refine pe_blk mm_197 2 (s' := (77, [some (.ref 1), some (.int x1), u2, some (.int x3), u4], [.int x3, .int x1, .int (M.1 1 1), .ref 2], _, _, _)) rfl ?_
      obtain ⟨e1, rfl⟩ : ∃ e1, e = e1 + 1 := ⟨e - 1, by omega⟩
      cases hc8 : F204 n x1 x3 M with
      | none => rw [hc8] at h; cases h
      | some w =>
        obtain ⟨v6, M7⟩ := w
        rw [hc8] at h
        dsimp only at h
        refine pe_stat (al := [.int x3, .int x1]) (L0 := [some (.int x1), some (.int x3)]) (r1 := (some (.int v6), 129, 17845, hp M7)) mm_197 rfl rfl rfl mm_204 rfl (Nat.le_of_ble_eq_true rfl) (Nat.le_of_ble_eq_true rfl) rfl rfl (F204_ev sc n x1 x3 _ e1 (by omega) _ _ hc8) ?_
        show pm_ev _ _ _ _ _ (80, [some (.ref 1), some (.int x1), u2, some (.int x3), u4], [.int v6, .int (M.1 1 1), .ref 2], _, _, _) _
        by_cases q9 : (M.1 1 1) < 0 ∨ 120 ≤ (M.1 1 1 : Int32).toNatClampNeg
        · rw [if_pos q9] at h
          cases h
        · rw [if_neg q9] at h
          refine pe_iasti mm_197 rfl rfl (by decide) q9 rfl ?_
          show pm_ev _ _ _ _ _ (81, [some (.ref 1), some (.int x1), u2, some (.int x3), u4], [], _, _, hp (m_i M7 2 (M.1 1 1 : Int32).toNatClampNeg v6)) _
          generalize m_i M7 2 (M.1 1 1 : Int32).toNatClampNeg v6 = M10 at h ⊢
          rw [mlet] at h
          exact J197_81_ev sc n (e1 + 1) he (L197_63 n k) hr63 x1 x3 _ _ _ _ _ h
def J197_51 (n : Nat) (M : Mem) : Option (Int32 × Mem) :=
  some (0, M)
set_option maxRecDepth 100000 in
set_option maxHeartbeats 4000000 in
theorem J197_51_ev (sc : Option (Nat × (Nat → Int32))) (n : Nat)  (e : Nat) (he : 2 ≤ e) : ∀ (u0 : Option Value) (u1 : Option Value) (u2 : Option Value) (u3 : Option Value) (u4 : Option Value) (M : Mem) (r : Int32) (M' : Mem), J197_51 n  M = some (r, M') → pm_ev pmT sc e 197 false (51, [u0, u1, u2, u3, u4], [], 129, 17845, hp M) (some (.int r), 129, 17845, hp M') := by
  intro u0 u1 u2 u3 u4 M r M' h
  unfold J197_51 at h
  refine pe_blk mm_197 1 (s' := (52, [u0, u1, u2, u3, u4], [.int 0], _, _, _)) rfl ?_
  cases h
  exact pe_ret mm_197 rfl rfl
def J197_53 (n : Nat) (rec25 : Int32 → Int32 → Int32 → Mem → Option (Int32 × Mem)) (x1 : Int32) (x2 : Int32) (x3 : Int32) (M : Mem) : Option (Int32 × Mem) :=
  rec25 x1 x2 (x3 + 1) M
set_option maxRecDepth 100000 in
set_option maxHeartbeats 4000000 in
theorem J197_53_ev (sc : Option (Nat × (Nat → Int32))) (n : Nat)  (e : Nat) (he : 2 ≤ e) (rec25 : Int32 → Int32 → Int32 → Mem → Option (Int32 × Mem)) (hr25 : ∀ (x1 : Int32) (x2 : Int32) (x3 : Int32) (u4 : Option Value) (M : Mem) (r : Int32) (M' : Mem), rec25 x1 x2 x3 M = some (r, M') → pm_ev pmT sc e 197 false (25, [some (.ref 1), some (.int x1), some (.int x2), some (.int x3), u4], [], 129, 17845, hp M) (some (.int r), 129, 17845, hp M')) : ∀ (x1 : Int32) (x2 : Int32) (x3 : Int32) (u4 : Option Value) (M : Mem) (r : Int32) (M' : Mem), J197_53 n rec25 x1 x2 x3 M = some (r, M') → pm_ev pmT sc e 197 false (53, [some (.ref 1), some (.int x1), some (.int x2), some (.int x3), u4], [], 129, 17845, hp M) (some (.int r), 129, 17845, hp M') := by
  intro x1 x2 x3 u4 M r M' h
  unfold J197_53 at h
  refine pe_blk mm_197 2 (s' := (25, [some (.ref 1), some (.int x1), some (.int x2), some (.int (x3 + 1)), u4], [], _, _, _)) rfl ?_
  exact hr25 x1 x2 (x3 + 1) _ _ _ _ h
def L197_25 (n : Nat) : Nat → Int32 → Int32 → Int32 → Mem → Option (Int32 × Mem)
  | 0, _, _, _, _ => none
  | k + 1, x1, x2, x3, M => if x2 ≤ x3 then (L197_63 n n x1 (x2 - 1) M) else (match F204 n x1 x3 M with | some (v12, M13) => (if v12 < 32 then (J197_51 n M13) else (if v12 ≤ 126 then (J197_53 n (L197_25 n k) x1 x2 x3 M13) else (J197_51 n M13))) | none => none)
set_option maxRecDepth 100000 in
set_option maxHeartbeats 4000000 in
theorem L197_25_ev (sc : Option (Nat × (Nat → Int32))) (n : Nat)  (e : Nat) (he : 2 ≤ e) : ∀ k : Nat, ∀ (x1 : Int32) (x2 : Int32) (x3 : Int32) (u4 : Option Value) (M : Mem) (r : Int32) (M' : Mem), L197_25 n k x1 x2 x3 M = some (r, M') → pm_ev pmT sc e 197 false (25, [some (.ref 1), some (.int x1), some (.int x2), some (.int x3), u4], [], 129, 17845, hp M) (some (.int r), 129, 17845, hp M') := by
  intro k
  induction k with
  | zero => intro x1 x2 x3 u4 M r M' h; cases h
  | succ k hr25 =>
    intro x1 x2 x3 u4 M r M' h
    rw [L197_25] at h
    refine pe_blk mm_197 2 (s' := (27, [some (.ref 1), some (.int x1), some (.int x2), some (.int x3), u4], [.int x2, .int x3], _, _, _)) rfl ?_
    by_cases q4 : x2 ≤ x3
    · rw [if_pos q4] at h
      refine pe_blk mm_197 1 (s' := (if x2 ≤ x3 then 59 else 30, [some (.ref 1), some (.int x1), some (.int x2), some (.int x3), u4], [], _, _, _)) rfl ?_
      rw [if_pos q4]
      refine pe_blk mm_197 4 (s' := (63, [some (.ref 1), some (.int x1), some (.int x2), some (.int (x2 - 1)), u4], [], _, _, _)) rfl ?_
      exact L197_63_ev sc n e he n x1 (x2 - 1) _ _ _ _ _ h
    · rw [if_neg q4] at h
      refine pe_blk mm_197 1 (s' := (if x2 ≤ x3 then 59 else 30, [some (.ref 1), some (.int x1), some (.int x2), some (.int x3), u4], [], _, _, _)) rfl ?_
      rw [if_neg q4]
      refine pe_blk mm_197 2 (s' := (32, [some (.ref 1), some (.int x1), some (.int x2), some (.int x3), u4], [.int x3, .int x1], _, _, _)) rfl ?_
      obtain ⟨e1, rfl⟩ : ∃ e1, e = e1 + 1 := ⟨e - 1, by omega⟩
      cases hc14 : F204 n x1 x3 M with
      | none => rw [hc14] at h; cases h
      | some w =>
        obtain ⟨v12, M13⟩ := w
        rw [hc14] at h
        dsimp only at h
        refine pe_stat (al := [.int x3, .int x1]) (L0 := [some (.int x1), some (.int x3)]) (r1 := (some (.int v12), 129, 17845, hp M13)) mm_197 rfl rfl rfl mm_204 rfl (Nat.le_of_ble_eq_true rfl) (Nat.le_of_ble_eq_true rfl) rfl rfl (F204_ev sc n x1 x3 _ e1 (by omega) _ _ hc14) ?_
        show pm_ev _ _ _ _ _ (35, [some (.ref 1), some (.int x1), some (.int x2), some (.int x3), u4], [.int v12], _, _, _) _
        refine pe_blk mm_197 3 (s' := (41, [some (.ref 1), some (.int x1), some (.int x2), some (.int x3), some (.int v12)], [.int 32, .int v12], _, _, _)) rfl ?_
        by_cases q15 : v12 < 32
        · rw [if_pos q15] at h
          refine pe_blk mm_197 1 (s' := (if v12 < 32 then 51 else 44, [some (.ref 1), some (.int x1), some (.int x2), some (.int x3), some (.int v12)], [], _, _, _)) rfl ?_
          rw [if_pos q15]
          exact J197_51_ev sc n (e1 + 1) he _ _ _ _ _ _ _ _ h
        · rw [if_neg q15] at h
          refine pe_blk mm_197 1 (s' := (if v12 < 32 then 51 else 44, [some (.ref 1), some (.int x1), some (.int x2), some (.int x3), some (.int v12)], [], _, _, _)) rfl ?_
          rw [if_neg q15]
          refine pe_blk mm_197 2 (s' := (48, [some (.ref 1), some (.int x1), some (.int x2), some (.int x3), some (.int v12)], [.int 126, .int v12], _, _, _)) rfl ?_
          by_cases q16 : v12 ≤ 126
          · rw [if_pos q16] at h
            refine pe_blk mm_197 1 (s' := (if v12 ≤ 126 then 53 else 51, [some (.ref 1), some (.int x1), some (.int x2), some (.int x3), some (.int v12)], [], _, _, _)) rfl ?_
            rw [if_pos q16]
            exact J197_53_ev sc n (e1 + 1) he (L197_25 n k) hr25 x1 x2 x3 _ _ _ _ h
          · rw [if_neg q16] at h
            refine pe_blk mm_197 1 (s' := (if v12 ≤ 126 then 53 else 51, [some (.ref 1), some (.int x1), some (.int x2), some (.int x3), some (.int v12)], [], _, _, _)) rfl ?_
            rw [if_neg q16]
            exact J197_51_ev sc n (e1 + 1) he _ _ _ _ _ _ _ _ h
/-- ArmExpander$TypedText.append -/
def F197 (n : Nat) (a0 : Int32) (a1 : Int32) (M : Mem) : Option (Int32 × Mem) :=
  if a1 < 1 then (J197_21 n M) else (if 4 < a1 then (J197_21 n M) else (if ((M.1 1 1) + a1) ≤ 120 then (L197_25 n n a0 a1 0 M) else (J197_21 n M)))
set_option maxRecDepth 100000 in
set_option maxHeartbeats 4000000 in
theorem F197_ev (sc : Option (Nat × (Nat → Int32))) (n : Nat) (a0 : Int32) (a1 : Int32)  (M : Mem) (e : Nat) (he : 2 ≤ e) (r : Int32) (M' : Mem) (h : F197 n a0 a1 M = some (r, M')) : pm_ev pmT sc e 197 false (0, [some (.ref 1), some (.int a0), some (.int a1), none, none], [], 129, 17845, hp M) (some (.int r), 129, 17845, hp M') := by
  unfold F197 at h
  refine pe_blk mm_197 2 (s' := (2, [some (.ref 1), some (.int a0), some (.int a1), none, none], [.int 1, .int a1], _, _, _)) rfl ?_
  by_cases q1 : a1 < 1
  · rw [if_pos q1] at h
    refine pe_blk mm_197 1 (s' := (if a1 < 1 then 21 else 5, [some (.ref 1), some (.int a0), some (.int a1), none, none], [], _, _, _)) rfl ?_
    rw [if_pos q1]
    exact J197_21_ev sc n e he _ _ _ _ _ _ _ _ h
  · rw [if_neg q1] at h
    refine pe_blk mm_197 1 (s' := (if a1 < 1 then 21 else 5, [some (.ref 1), some (.int a0), some (.int a1), none, none], [], _, _, _)) rfl ?_
    rw [if_neg q1]
    refine pe_blk mm_197 2 (s' := (7, [some (.ref 1), some (.int a0), some (.int a1), none, none], [.int 4, .int a1], _, _, _)) rfl ?_
    by_cases q2 : 4 < a1
    · rw [if_pos q2] at h
      refine pe_blk mm_197 1 (s' := (if 4 < a1 then 21 else 10, [some (.ref 1), some (.int a0), some (.int a1), none, none], [], _, _, _)) rfl ?_
      rw [if_pos q2]
      exact J197_21_ev sc n e he _ _ _ _ _ _ _ _ h
    · rw [if_neg q2] at h
      refine pe_blk mm_197 1 (s' := (if 4 < a1 then 21 else 10, [some (.ref 1), some (.int a0), some (.int a1), none, none], [], _, _, _)) rfl ?_
      rw [if_neg q2]
      refine pe_blk mm_197 1 (s' := (11, [some (.ref 1), some (.int a0), some (.int a1), none, none], [.ref 1], _, _, _)) rfl ?_
      refine pe_get mm_197 rfl rfl rfl (by decide) rfl ?_
      refine pe_blk mm_197 3 (s' := (18, [some (.ref 1), some (.int a0), some (.int a1), none, none], [.int 120, .int ((M.1 1 1) + a1)], _, _, _)) rfl ?_
      by_cases q3 : ((M.1 1 1) + a1) ≤ 120
      · rw [if_pos q3] at h
        refine pe_blk mm_197 1 (s' := (if ((M.1 1 1) + a1) ≤ 120 then 23 else 21, [some (.ref 1), some (.int a0), some (.int a1), none, none], [], _, _, _)) rfl ?_
        rw [if_pos q3]
        refine pe_blk mm_197 2 (s' := (25, [some (.ref 1), some (.int a0), some (.int a1), some (.int 0), none], [], _, _, _)) rfl ?_
        exact L197_25_ev sc n e he n a0 a1 0 _ _ _ _ h
      · rw [if_neg q3] at h
        refine pe_blk mm_197 1 (s' := (if ((M.1 1 1) + a1) ≤ 120 then 23 else 21, [some (.ref 1), some (.int a0), some (.int a1), none, none], [], _, _, _)) rfl ?_
        rw [if_neg q3]
        exact J197_21_ev sc n e he _ _ _ _ _ _ _ _ h
/-- ArmExpander.type -/
def F1 (n : Nat) (a0 : Int32) (a1 : Int32) (M : Mem) : Option (Int32 × Mem) :=
  match F197 n a0 a1 M with | some (v1, M2) => (if v1 = 0 ∨ v1 = 1 then some (v1, M2) else none) | none => none
set_option maxRecDepth 100000 in
set_option maxHeartbeats 4000000 in
theorem F1_ev (sc : Option (Nat × (Nat → Int32))) (n : Nat) (a0 : Int32) (a1 : Int32)  (M : Mem) (e : Nat) (he : 3 ≤ e) (r : Int32) (M' : Mem) (h : F1 n a0 a1 M = some (r, M')) : pm_ev pmT sc e 1 false (0, [some (.ref 0), some (.int a0), some (.int a1)], [], 129, 17845, hp M) (some (.int r), 129, 17845, hp M') := by
  unfold F1 at h
  refine pe_blk mm_1 1 (s' := (1, [some (.ref 0), some (.int a0), some (.int a1)], [.ref 0], _, _, _)) rfl ?_
  refine pe_get mm_1 rfl rfl rfl (by decide) rfl ?_
  refine pe_blk mm_1 2 (s' := (6, [some (.ref 0), some (.int a0), some (.int a1)], [.int a1, .int a0, .ref 1], _, _, _)) rfl ?_
  obtain ⟨e1, rfl⟩ : ∃ e1, e = e1 + 1 := ⟨e - 1, by omega⟩
  cases hc3 : F197 n a0 a1 M with
  | none => rw [hc3] at h; cases h
  | some w =>
    obtain ⟨v1, M2⟩ := w
    rw [hc3] at h
    dsimp only at h
    refine pe_virt (al := [.int a1, .int a0]) (a := 1) (L0 := [some (.ref 1), some (.int a0), some (.int a1), none, none]) (r1 := (some (.int v1), 129, 17845, hp M2)) mm_1 rfl rfl rfl mm_197 rfl (by decide) (by decide) rfl (Nat.le_of_ble_eq_true rfl) (Nat.le_of_ble_eq_true rfl) rfl rfl (F197_ev sc n a0 a1 _ e1 (by omega) _ _ hc3) ?_
    show pm_ev _ _ _ _ _ (9, [some (.ref 0), some (.int a0), some (.int a1)], [.int v1], _, _, _) _
    by_cases q4 : v1 = 0 ∨ v1 = 1
    · rw [if_pos q4] at h
      cases h
      exact pe_ret mm_1 rfl (if_pos q4)
    · rw [if_neg q4] at h
      cases h
def J33_37 (n : Nat) (rec12 : Int32 → Int32 → Int32 → Mem → Option (Unit × Mem)) (x1 : Int32) (x2 : Int32) (x3 : Int32) (M : Mem) : Option (Unit × Mem) :=
  rec12 x1 x2 (x3 + 1) M
set_option maxRecDepth 100000 in
set_option maxHeartbeats 4000000 in
theorem J33_37_ev (sc : Option (Nat × (Nat → Int32))) (n : Nat)  (e : Nat) (he : 10 ≤ e) (rec12 : Int32 → Int32 → Int32 → Mem → Option (Unit × Mem)) (hr12 : ∀ (x1 : Int32) (x2 : Int32) (x3 : Int32) (M : Mem) (r : Unit) (M' : Mem), rec12 x1 x2 x3 M = some (r, M') → pm_ev pmT sc e 33 false (12, [some (.ref 83), some (.int x1), some (.int x2), some (.int x3)], [], 129, 17845, hp M) (none, 129, 17845, hp M')) : ∀ (x1 : Int32) (x2 : Int32) (x3 : Int32) (M : Mem) (r : Unit) (M' : Mem), J33_37 n rec12 x1 x2 x3 M = some (r, M') → pm_ev pmT sc e 33 false (37, [some (.ref 83), some (.int x1), some (.int x2), some (.int x3)], [], 129, 17845, hp M) (none, 129, 17845, hp M') := by
  intro x1 x2 x3  M r M' h
  unfold J33_37 at h
  refine pe_blk mm_33 2 (s' := (12, [some (.ref 83), some (.int x1), some (.int x2), some (.int (x3 + 1))], [], _, _, _)) rfl ?_
  exact hr12 x1 x2 (x3 + 1) _ _ _ h
def L33_12 (n : Nat) : Nat → Int32 → Int32 → Int32 → Mem → Option (Unit × Mem)
  | 0, _, _, _, _ => none
  | k + 1, x1, x2, x3, M => if (M.1 83 3) ≤ x3 then (match F34 n x2 M with | some (v4, M5) => (some ((), M5)) | none => none) else (if ((120 * x1) + x3) < 0 ∨ 600 ≤ ((120 * x1) + x3 : Int32).toNatClampNeg then none else (if x3 < 0 ∨ 120 ≤ (x3 : Int32).toNatClampNeg then none else (mlet (m_i M 85 (x3 : Int32).toNatClampNeg (M.1 86 ((120 * x1) + x3 : Int32).toNatClampNeg)) (fun M9 => J33_37 n (L33_12 n k) x1 x2 x3 M9))))
set_option maxRecDepth 100000 in
set_option maxHeartbeats 4000000 in
theorem L33_12_ev (sc : Option (Nat × (Nat → Int32))) (n : Nat)  (e : Nat) (he : 10 ≤ e) : ∀ k : Nat, ∀ (x1 : Int32) (x2 : Int32) (x3 : Int32) (M : Mem) (r : Unit) (M' : Mem), L33_12 n k x1 x2 x3 M = some (r, M') → pm_ev pmT sc e 33 false (12, [some (.ref 83), some (.int x1), some (.int x2), some (.int x3)], [], 129, 17845, hp M) (none, 129, 17845, hp M') := by
  intro k
  induction k with
  | zero => intro x1 x2 x3  M r M' h; cases h
  | succ k hr12 =>
    intro x1 x2 x3  M r M' h
    rw [L33_12] at h
    refine pe_blk mm_33 2 (s' := (14, [some (.ref 83), some (.int x1), some (.int x2), some (.int x3)], [.ref 83, .int x3], _, _, _)) rfl ?_
    refine pe_get mm_33 rfl rfl rfl (by decide) rfl ?_
    by_cases q3 : (M.1 83 3) ≤ x3
    · rw [if_pos q3] at h
      refine pe_blk mm_33 1 (s' := (if (M.1 83 3) ≤ x3 then 43 else 20, [some (.ref 83), some (.int x1), some (.int x2), some (.int x3)], [], _, _, _)) rfl ?_
      rw [if_pos q3]
      refine pe_blk mm_33 2 (s' := (45, [some (.ref 83), some (.int x1), some (.int x2), some (.int x3)], [.int x2, .ref 83], _, _, _)) rfl ?_
      obtain ⟨e1, rfl⟩ : ∃ e1, e = e1 + 1 := ⟨e - 1, by omega⟩
      cases hc6 : F34 n x2 M with
      | none => rw [hc6] at h; cases h
      | some w =>
        obtain ⟨v4, M5⟩ := w
        rw [hc6] at h
        dsimp only at h
        refine pe_virt (al := [.int x2]) (a := 83) (L0 := [some (.ref 83), some (.int x2)]) (r1 := (some (.int v4), 129, 17845, hp M5)) mm_33 rfl rfl rfl mm_34 rfl (by decide) (by decide) rfl (Nat.le_of_ble_eq_true rfl) (Nat.le_of_ble_eq_true rfl) rfl rfl (F34_ev sc n x2 _ e1 (by omega) _ _ hc6) ?_
        show pm_ev _ _ _ _ _ (48, [some (.ref 83), some (.int x1), some (.int x2), some (.int x3)], [.int v4], _, _, _) _
        refine pe_blk mm_33 1 (s' := (49, [some (.ref 83), some (.int x1), some (.int x2), some (.int x3)], [], _, _, _)) rfl ?_
        cases h
        exact pe_ret mm_33 rfl rfl
    · rw [if_neg q3] at h
      refine pe_blk mm_33 1 (s' := (if (M.1 83 3) ≤ x3 then 43 else 20, [some (.ref 83), some (.int x1), some (.int x2), some (.int x3)], [], _, _, _)) rfl ?_
      rw [if_neg q3]
      refine pe_blk mm_33 1 (s' := (21, [some (.ref 83), some (.int x1), some (.int x2), some (.int x3)], [.ref 83], _, _, _)) rfl ?_
      refine pe_get mm_33 rfl rfl rfl (by decide) rfl ?_
      refine pe_blk mm_33 2 (s' := (26, [some (.ref 83), some (.int x1), some (.int x2), some (.int x3)], [.ref 83, .int x3, .ref 85], _, _, _)) rfl ?_
      refine pe_get mm_33 rfl rfl rfl (by decide) rfl ?_
      refine pe_blk mm_33 5 (s' := (35, [some (.ref 83), some (.int x1), some (.int x2), some (.int x3)], [.int ((120 * x1) + x3), .ref 86, .int x3, .ref 85], _, _, _)) rfl ?_
      by_cases q7 : ((120 * x1) + x3) < 0 ∨ 600 ≤ ((120 * x1) + x3 : Int32).toNatClampNeg
      · rw [if_pos q7] at h
        cases h
      · rw [if_neg q7] at h
        refine pe_iald (f := M.1 86) mm_33 rfl rfl (by decide) q7 ?_
        by_cases q8 : x3 < 0 ∨ 120 ≤ (x3 : Int32).toNatClampNeg
        · rw [if_pos q8] at h
          cases h
        · rw [if_neg q8] at h
          refine pe_iasti mm_33 rfl rfl (by decide) q8 rfl ?_
          show pm_ev _ _ _ _ _ (37, [some (.ref 83), some (.int x1), some (.int x2), some (.int x3)], [], _, _, hp (m_i M 85 (x3 : Int32).toNatClampNeg (M.1 86 ((120 * x1) + x3 : Int32).toNatClampNeg))) _
          generalize m_i M 85 (x3 : Int32).toNatClampNeg (M.1 86 ((120 * x1) + x3 : Int32).toNatClampNeg) = M9 at h ⊢
          rw [mlet] at h
          exact J33_37_ev sc n e he (L33_12 n k) hr12 x1 x2 x3 _ _ _ h
/-- ArmExpanderModel.loadArm -/
def F33 (n : Nat) (a0 : Int32) (a1 : Int32) (M : Mem) : Option (Unit × Mem) :=
  if a0 < 0 ∨ 5 ≤ (a0 : Int32).toNatClampNeg then none else (mlet (m_i M 83 3 (M.1 87 (a0 : Int32).toNatClampNeg)) (fun M2 => L33_12 n n a0 a1 0 M2))
set_option maxRecDepth 100000 in
set_option maxHeartbeats 4000000 in
theorem F33_ev (sc : Option (Nat × (Nat → Int32))) (n : Nat) (a0 : Int32) (a1 : Int32)  (M : Mem) (e : Nat) (he : 10 ≤ e) (r : Unit) (M' : Mem) (h : F33 n a0 a1 M = some (r, M')) : pm_ev pmT sc e 33 false (0, [some (.ref 83), some (.int a0), some (.int a1), none], [], 129, 17845, hp M) (none, 129, 17845, hp M') := by
  unfold F33 at h
  refine pe_blk mm_33 2 (s' := (2, [some (.ref 83), some (.int a0), some (.int a1), none], [.ref 83, .ref 83], _, _, _)) rfl ?_
  refine pe_get mm_33 rfl rfl rfl (by decide) rfl ?_
  refine pe_blk mm_33 1 (s' := (6, [some (.ref 83), some (.int a0), some (.int a1), none], [.int a0, .ref 87, .ref 83], _, _, _)) rfl ?_
  by_cases q1 : a0 < 0 ∨ 5 ≤ (a0 : Int32).toNatClampNeg
  · rw [if_pos q1] at h
    cases h
  · rw [if_neg q1] at h
    refine pe_iald (f := M.1 87) mm_33 rfl rfl (by decide) q1 ?_
    refine pe_puti mm_33 rfl rfl rfl (by decide) (Nat.le_of_ble_eq_true rfl) rfl rfl ?_
    show pm_ev _ _ _ _ _ (10, [some (.ref 83), some (.int a0), some (.int a1), none], [], _, _, hp (m_i M 83 3 (M.1 87 (a0 : Int32).toNatClampNeg))) _
    generalize m_i M 83 3 (M.1 87 (a0 : Int32).toNatClampNeg) = M2 at h ⊢
    rw [mlet] at h
    refine pe_blk mm_33 2 (s' := (12, [some (.ref 83), some (.int a0), some (.int a1), some (.int 0)], [], _, _, _)) rfl ?_
    exact L33_12_ev sc n e he n a0 a1 0 _ _ _ h
def J93_35 (n : Nat) (g0 : Nat) (rec12 : Int32 → Int32 → Mem → Option (Int32 × Mem)) (x2 : Int32) (x3 : Int32) (M : Mem) : Option (Int32 × Mem) :=
  rec12 x2 (x3 + 1) M
set_option maxRecDepth 100000 in
set_option maxHeartbeats 4000000 in
theorem J93_35_ev (sc : Option (Nat × (Nat → Int32))) (n : Nat) (g0 : Nat) (hg0 : isD g0) (e : Nat) (he : 3 ≤ e) (rec12 : Int32 → Int32 → Mem → Option (Int32 × Mem)) (hr12 : ∀ (x2 : Int32) (x3 : Int32) (u1 : Option Value) (M : Mem) (r : Int32) (M' : Mem), rec12 x2 x3 M = some (r, M') → pm_ev pmT sc e 93 false (12, [some (.ref g0), u1, some (.int x2), some (.int x3)], [], 129, 17845, hp M) (some (.int r), 129, 17845, hp M')) : ∀ (x2 : Int32) (x3 : Int32) (u1 : Option Value) (M : Mem) (r : Int32) (M' : Mem), J93_35 n g0 rec12 x2 x3 M = some (r, M') → pm_ev pmT sc e 93 false (35, [some (.ref g0), u1, some (.int x2), some (.int x3)], [], 129, 17845, hp M) (some (.int r), 129, 17845, hp M') := by
  intro x2 x3 u1 M r M' h
  unfold J93_35 at h
  refine pe_blk mm_93 2 (s' := (12, [some (.ref g0), u1, some (.int x2), some (.int (x3 + 1))], [], _, _, _)) rfl ?_
  exact hr12 x2 (x3 + 1) _ _ _ _ h
def J93_33 (n : Nat) (g0 : Nat) (M : Mem) : Option (Int32 × Mem) :=
  some (1, M)
set_option maxRecDepth 100000 in
set_option maxHeartbeats 4000000 in
theorem J93_33_ev (sc : Option (Nat × (Nat → Int32))) (n : Nat) (g0 : Nat) (hg0 : isD g0) (e : Nat) (he : 3 ≤ e) : ∀ (u0 : Option Value) (u1 : Option Value) (u2 : Option Value) (u3 : Option Value) (M : Mem) (r : Int32) (M' : Mem), J93_33 n g0  M = some (r, M') → pm_ev pmT sc e 93 false (33, [u0, u1, u2, u3], [], 129, 17845, hp M) (some (.int r), 129, 17845, hp M') := by
  intro u0 u1 u2 u3 M r M' h
  unfold J93_33 at h
  refine pe_blk mm_93 1 (s' := (34, [u0, u1, u2, u3], [.int 1], _, _, _)) rfl ?_
  cases h
  exact pe_ret mm_93 rfl rfl
def L93_12 (n : Nat) (g0 : Nat) : Nat → Int32 → Int32 → Mem → Option (Int32 × Mem)
  | 0, _, _, _ => none
  | k + 1, x2, x3, M => if x2 ≤ x3 then (some (0, M)) else (match F116 n g0 x3 M with | some (v8, M9) => (if v8 = 0 then (J93_35 n g0 (L93_12 n g0 k) x2 x3 M9) else (match F94 n g0 x3 M9 with | some (v12, M13) => (if v12 = 0 then (J93_35 n g0 (L93_12 n g0 k) x2 x3 M13) else (J93_33 n g0 M13)) | none => none)) | none => none)
set_option maxRecDepth 100000 in
set_option maxHeartbeats 4000000 in
theorem L93_12_ev (sc : Option (Nat × (Nat → Int32))) (n : Nat) (g0 : Nat) (hg0 : isD g0) (e : Nat) (he : 3 ≤ e) : ∀ k : Nat, ∀ (x2 : Int32) (x3 : Int32) (u1 : Option Value) (M : Mem) (r : Int32) (M' : Mem), L93_12 n g0 k x2 x3 M = some (r, M') → pm_ev pmT sc e 93 false (12, [some (.ref g0), u1, some (.int x2), some (.int x3)], [], 129, 17845, hp M) (some (.int r), 129, 17845, hp M') := by
  intro k
  induction k with
  | zero => intro x2 x3 u1 M r M' h; cases h
  | succ k hr12 =>
    intro x2 x3 u1 M r M' h
    rw [L93_12] at h
    refine pe_blk mm_93 2 (s' := (14, [some (.ref g0), u1, some (.int x2), some (.int x3)], [.int x2, .int x3], _, _, _)) rfl ?_
    by_cases q7 : x2 ≤ x3
    · rw [if_pos q7] at h
      refine pe_blk mm_93 1 (s' := (if x2 ≤ x3 then 41 else 17, [some (.ref g0), u1, some (.int x2), some (.int x3)], [], _, _, _)) rfl ?_
      rw [if_pos q7]
      refine pe_blk mm_93 1 (s' := (42, [some (.ref g0), u1, some (.int x2), some (.int x3)], [.int 0], _, _, _)) rfl ?_
      cases h
      exact pe_ret mm_93 rfl rfl
    · rw [if_neg q7] at h
      refine pe_blk mm_93 1 (s' := (if x2 ≤ x3 then 41 else 17, [some (.ref g0), u1, some (.int x2), some (.int x3)], [], _, _, _)) rfl ?_
      rw [if_neg q7]
      refine pe_blk mm_93 2 (s' := (19, [some (.ref g0), u1, some (.int x2), some (.int x3)], [.int x3, .ref g0], _, _, _)) rfl ?_
      obtain ⟨e1, rfl⟩ : ∃ e1, e = e1 + 1 := ⟨e - 1, by omega⟩
      cases hc10 : F116 n g0 x3 M with
      | none => rw [hc10] at h; cases h
      | some w =>
        obtain ⟨v8, M9⟩ := w
        rw [hc10] at h
        dsimp only at h
        refine pe_virt (al := [.int x3]) (a := g0) (L0 := [some (.ref g0), some (.int x3)]) (r1 := (some (.int v8), 129, 17845, hp M9)) mm_93 rfl rfl rfl mm_116 (isD_0 hg0 _) (by have := isD_lt hg0; omega) (by decide) rfl (Nat.le_of_ble_eq_true rfl) (Nat.le_of_ble_eq_true rfl) rfl rfl (F116_ev sc n g0 x3 hg0 _ e1 (by omega) _ _ hc10) ?_
        show pm_ev _ _ _ _ _ (22, [some (.ref g0), u1, some (.int x2), some (.int x3)], [.int v8], _, _, _) _
        by_cases q11 : v8 = 0
        · rw [if_pos q11] at h
          refine pe_blk mm_93 1 (s' := (if v8 = 0 then 35 else 25, [some (.ref g0), u1, some (.int x2), some (.int x3)], [], _, _, _)) rfl ?_
          rw [if_pos q11]
          exact J93_35_ev sc n g0 hg0 (e1 + 1) he (L93_12 n g0 k) hr12 x2 x3 _ _ _ _ h
        · rw [if_neg q11] at h
          refine pe_blk mm_93 1 (s' := (if v8 = 0 then 35 else 25, [some (.ref g0), u1, some (.int x2), some (.int x3)], [], _, _, _)) rfl ?_
          rw [if_neg q11]
          refine pe_blk mm_93 2 (s' := (27, [some (.ref g0), u1, some (.int x2), some (.int x3)], [.int x3, .ref g0], _, _, _)) rfl ?_
          skip
          cases hc14 : F94 n g0 x3 M9 with
          | none => rw [hc14] at h; cases h
          | some w =>
            obtain ⟨v12, M13⟩ := w
            rw [hc14] at h
            dsimp only at h
            refine pe_stat (al := [.int x3, .ref g0]) (L0 := [some (.ref g0), some (.int x3), none, none, none]) (r1 := (some (.int v12), 129, 17845, hp M13)) mm_93 rfl rfl rfl mm_94 rfl (Nat.le_of_ble_eq_true rfl) (Nat.le_of_ble_eq_true rfl) rfl rfl (F94_ev sc n g0 x3 hg0 _ e1 (by omega) _ _ hc14) ?_
            show pm_ev _ _ _ _ _ (30, [some (.ref g0), u1, some (.int x2), some (.int x3)], [.int v12], _, _, _) _
            by_cases q15 : v12 = 0
            · rw [if_pos q15] at h
              refine pe_blk mm_93 1 (s' := (if v12 = 0 then 35 else 33, [some (.ref g0), u1, some (.int x2), some (.int x3)], [], _, _, _)) rfl ?_
              rw [if_pos q15]
              exact J93_35_ev sc n g0 hg0 (e1 + 1) he (L93_12 n g0 k) hr12 x2 x3 _ _ _ _ h
            · rw [if_neg q15] at h
              refine pe_blk mm_93 1 (s' := (if v12 = 0 then 35 else 33, [some (.ref g0), u1, some (.int x2), some (.int x3)], [], _, _, _)) rfl ?_
              rw [if_neg q15]
              exact J93_33_ev sc n g0 hg0 (e1 + 1) he _ _ _ _ _ _ _ h
/-- ArmExpander$Checker.hasEmptyRepetition -/
def F93 (n : Nat) (g0 : Nat) (a1 : Int32) (M : Mem) : Option (Int32 × Mem) :=
  match F112 n g0 a1 M with | some (v1, M2) => (match F111 n g0 a1 M2 with | some (v4, M5) => (L93_12 n g0 n v1 v4 M5) | none => none) | none => none
set_option maxRecDepth 100000 in
set_option maxHeartbeats 4000000 in
theorem F93_ev (sc : Option (Nat × (Nat → Int32))) (n : Nat) (g0 : Nat) (a1 : Int32) (hg0 : isD g0) (M : Mem) (e : Nat) (he : 3 ≤ e) (r : Int32) (M' : Mem) (h : F93 n g0 a1 M = some (r, M')) : pm_ev pmT sc e 93 false (0, [some (.ref g0), some (.int a1), none, none], [], 129, 17845, hp M) (some (.int r), 129, 17845, hp M') := by
  unfold F93 at h
  refine pe_blk mm_93 2 (s' := (2, [some (.ref g0), some (.int a1), none, none], [.int a1, .ref g0], _, _, _)) rfl ?_
  obtain ⟨e1, rfl⟩ : ∃ e1, e = e1 + 1 := ⟨e - 1, by omega⟩
  cases hc3 : F112 n g0 a1 M with
  | none => rw [hc3] at h; cases h
  | some w =>
    obtain ⟨v1, M2⟩ := w
    rw [hc3] at h
    dsimp only at h
    refine pe_virt (al := [.int a1]) (a := g0) (L0 := [some (.ref g0), some (.int a1)]) (r1 := (some (.int v1), 129, 17845, hp M2)) mm_93 rfl rfl rfl mm_112 (isD_0 hg0 _) (by have := isD_lt hg0; omega) (by decide) rfl (Nat.le_of_ble_eq_true rfl) (Nat.le_of_ble_eq_true rfl) rfl rfl (F112_ev sc n g0 a1 hg0 _ e1 (by omega) _ _ hc3) ?_
    show pm_ev _ _ _ _ _ (5, [some (.ref g0), some (.int a1), none, none], [.int v1], _, _, _) _
    refine pe_blk mm_93 3 (s' := (8, [some (.ref g0), some (.int a1), some (.int v1), none], [.int a1, .ref g0], _, _, _)) rfl ?_
    skip
    cases hc6 : F111 n g0 a1 M2 with
    | none => rw [hc6] at h; cases h
    | some w =>
      obtain ⟨v4, M5⟩ := w
      rw [hc6] at h
      dsimp only at h
      refine pe_virt (al := [.int a1]) (a := g0) (L0 := [some (.ref g0), some (.int a1)]) (r1 := (some (.int v4), 129, 17845, hp M5)) mm_93 rfl rfl rfl mm_111 (isD_0 hg0 _) (by have := isD_lt hg0; omega) (by decide) rfl (Nat.le_of_ble_eq_true rfl) (Nat.le_of_ble_eq_true rfl) rfl rfl (F111_ev sc n g0 a1 hg0 _ e1 (by omega) _ _ hc6) ?_
      show pm_ev _ _ _ _ _ (11, [some (.ref g0), some (.int a1), some (.int v1), none], [.int v4], _, _, _) _
      refine pe_blk mm_93 1 (s' := (12, [some (.ref g0), some (.int a1), some (.int v1), some (.int v4)], [], _, _, _)) rfl ?_
      exact L93_12_ev sc n g0 hg0 (e1 + 1) he n v1 v4 _ _ _ _ h
def J98_35 (n : Nat) (g0 : Nat) (rec12 : Int32 → Int32 → Mem → Option (Int32 × Mem)) (x2 : Int32) (x3 : Int32) (M : Mem) : Option (Int32 × Mem) :=
  rec12 x2 (x3 + 1) M
set_option maxRecDepth 100000 in
set_option maxHeartbeats 4000000 in
theorem J98_35_ev (sc : Option (Nat × (Nat → Int32))) (n : Nat) (g0 : Nat) (hg0 : isD g0) (e : Nat) (he : 3 ≤ e) (rec12 : Int32 → Int32 → Mem → Option (Int32 × Mem)) (hr12 : ∀ (x2 : Int32) (x3 : Int32) (u1 : Option Value) (M : Mem) (r : Int32) (M' : Mem), rec12 x2 x3 M = some (r, M') → pm_ev pmT sc e 98 false (12, [some (.ref g0), u1, some (.int x2), some (.int x3)], [], 129, 17845, hp M) (some (.int r), 129, 17845, hp M')) : ∀ (x2 : Int32) (x3 : Int32) (u1 : Option Value) (M : Mem) (r : Int32) (M' : Mem), J98_35 n g0 rec12 x2 x3 M = some (r, M') → pm_ev pmT sc e 98 false (35, [some (.ref g0), u1, some (.int x2), some (.int x3)], [], 129, 17845, hp M) (some (.int r), 129, 17845, hp M') := by
  intro x2 x3 u1 M r M' h
  unfold J98_35 at h
  refine pe_blk mm_98 2 (s' := (12, [some (.ref g0), u1, some (.int x2), some (.int (x3 + 1))], [], _, _, _)) rfl ?_
  exact hr12 x2 (x3 + 1) _ _ _ _ h
def J98_33 (n : Nat) (g0 : Nat) (M : Mem) : Option (Int32 × Mem) :=
  some (1, M)
set_option maxRecDepth 100000 in
set_option maxHeartbeats 4000000 in
theorem J98_33_ev (sc : Option (Nat × (Nat → Int32))) (n : Nat) (g0 : Nat) (hg0 : isD g0) (e : Nat) (he : 3 ≤ e) : ∀ (u0 : Option Value) (u1 : Option Value) (u2 : Option Value) (u3 : Option Value) (M : Mem) (r : Int32) (M' : Mem), J98_33 n g0  M = some (r, M') → pm_ev pmT sc e 98 false (33, [u0, u1, u2, u3], [], 129, 17845, hp M) (some (.int r), 129, 17845, hp M') := by
  intro u0 u1 u2 u3 M r M' h
  unfold J98_33 at h
  refine pe_blk mm_98 1 (s' := (34, [u0, u1, u2, u3], [.int 1], _, _, _)) rfl ?_
  cases h
  exact pe_ret mm_98 rfl rfl
def L98_12 (n : Nat) (g0 : Nat) : Nat → Int32 → Int32 → Mem → Option (Int32 × Mem)
  | 0, _, _, _ => none
  | k + 1, x2, x3, M => if x2 ≤ x3 then (some (0, M)) else (match F116 n g0 x3 M with | some (v8, M9) => (if v8 = 0 then (J98_35 n g0 (L98_12 n g0 k) x2 x3 M9) else (match F99 n g0 x3 M9 with | some (v12, M13) => (if v12 = 0 then (J98_33 n g0 M13) else (J98_35 n g0 (L98_12 n g0 k) x2 x3 M13)) | none => none)) | none => none)
set_option maxRecDepth 100000 in
set_option maxHeartbeats 4000000 in
theorem L98_12_ev (sc : Option (Nat × (Nat → Int32))) (n : Nat) (g0 : Nat) (hg0 : isD g0) (e : Nat) (he : 3 ≤ e) : ∀ k : Nat, ∀ (x2 : Int32) (x3 : Int32) (u1 : Option Value) (M : Mem) (r : Int32) (M' : Mem), L98_12 n g0 k x2 x3 M = some (r, M') → pm_ev pmT sc e 98 false (12, [some (.ref g0), u1, some (.int x2), some (.int x3)], [], 129, 17845, hp M) (some (.int r), 129, 17845, hp M') := by
  intro k
  induction k with
  | zero => intro x2 x3 u1 M r M' h; cases h
  | succ k hr12 =>
    intro x2 x3 u1 M r M' h
    rw [L98_12] at h
    refine pe_blk mm_98 2 (s' := (14, [some (.ref g0), u1, some (.int x2), some (.int x3)], [.int x2, .int x3], _, _, _)) rfl ?_
    by_cases q7 : x2 ≤ x3
    · rw [if_pos q7] at h
      refine pe_blk mm_98 1 (s' := (if x2 ≤ x3 then 41 else 17, [some (.ref g0), u1, some (.int x2), some (.int x3)], [], _, _, _)) rfl ?_
      rw [if_pos q7]
      refine pe_blk mm_98 1 (s' := (42, [some (.ref g0), u1, some (.int x2), some (.int x3)], [.int 0], _, _, _)) rfl ?_
      cases h
      exact pe_ret mm_98 rfl rfl
    · rw [if_neg q7] at h
      refine pe_blk mm_98 1 (s' := (if x2 ≤ x3 then 41 else 17, [some (.ref g0), u1, some (.int x2), some (.int x3)], [], _, _, _)) rfl ?_
      rw [if_neg q7]
      refine pe_blk mm_98 2 (s' := (19, [some (.ref g0), u1, some (.int x2), some (.int x3)], [.int x3, .ref g0], _, _, _)) rfl ?_
      obtain ⟨e1, rfl⟩ : ∃ e1, e = e1 + 1 := ⟨e - 1, by omega⟩
      cases hc10 : F116 n g0 x3 M with
      | none => rw [hc10] at h; cases h
      | some w =>
        obtain ⟨v8, M9⟩ := w
        rw [hc10] at h
        dsimp only at h
        refine pe_virt (al := [.int x3]) (a := g0) (L0 := [some (.ref g0), some (.int x3)]) (r1 := (some (.int v8), 129, 17845, hp M9)) mm_98 rfl rfl rfl mm_116 (isD_0 hg0 _) (by have := isD_lt hg0; omega) (by decide) rfl (Nat.le_of_ble_eq_true rfl) (Nat.le_of_ble_eq_true rfl) rfl rfl (F116_ev sc n g0 x3 hg0 _ e1 (by omega) _ _ hc10) ?_
        show pm_ev _ _ _ _ _ (22, [some (.ref g0), u1, some (.int x2), some (.int x3)], [.int v8], _, _, _) _
        by_cases q11 : v8 = 0
        · rw [if_pos q11] at h
          refine pe_blk mm_98 1 (s' := (if v8 = 0 then 35 else 25, [some (.ref g0), u1, some (.int x2), some (.int x3)], [], _, _, _)) rfl ?_
          rw [if_pos q11]
          exact J98_35_ev sc n g0 hg0 (e1 + 1) he (L98_12 n g0 k) hr12 x2 x3 _ _ _ _ h
        · rw [if_neg q11] at h
          refine pe_blk mm_98 1 (s' := (if v8 = 0 then 35 else 25, [some (.ref g0), u1, some (.int x2), some (.int x3)], [], _, _, _)) rfl ?_
          rw [if_neg q11]
          refine pe_blk mm_98 2 (s' := (27, [some (.ref g0), u1, some (.int x2), some (.int x3)], [.int x3, .ref g0], _, _, _)) rfl ?_
          skip
          cases hc14 : F99 n g0 x3 M9 with
          | none => rw [hc14] at h; cases h
          | some w =>
            obtain ⟨v12, M13⟩ := w
            rw [hc14] at h
            dsimp only at h
            refine pe_stat (al := [.int x3, .ref g0]) (L0 := [some (.ref g0), some (.int x3), none, none]) (r1 := (some (.int v12), 129, 17845, hp M13)) mm_98 rfl rfl rfl mm_99 rfl (Nat.le_of_ble_eq_true rfl) (Nat.le_of_ble_eq_true rfl) rfl rfl (F99_ev sc n g0 x3 hg0 _ e1 (by omega) _ _ hc14) ?_
            show pm_ev _ _ _ _ _ (30, [some (.ref g0), u1, some (.int x2), some (.int x3)], [.int v12], _, _, _) _
            by_cases q15 : v12 = 0
            · rw [if_pos q15] at h
              refine pe_blk mm_98 1 (s' := (if v12 = 0 then 33 else 35, [some (.ref g0), u1, some (.int x2), some (.int x3)], [], _, _, _)) rfl ?_
              rw [if_pos q15]
              exact J98_33_ev sc n g0 hg0 (e1 + 1) he _ _ _ _ _ _ _ h
            · rw [if_neg q15] at h
              refine pe_blk mm_98 1 (s' := (if v12 = 0 then 33 else 35, [some (.ref g0), u1, some (.int x2), some (.int x3)], [], _, _, _)) rfl ?_
              rw [if_neg q15]
              exact J98_35_ev sc n g0 hg0 (e1 + 1) he (L98_12 n g0 k) hr12 x2 x3 _ _ _ _ h
/-- ArmExpander$Checker.hasUselessRepetition -/
def F98 (n : Nat) (g0 : Nat) (a1 : Int32) (M : Mem) : Option (Int32 × Mem) :=
  match F114 n g0 a1 M with | some (v1, M2) => (match F113 n g0 a1 M2 with | some (v4, M5) => (L98_12 n g0 n v1 v4 M5) | none => none) | none => none
set_option maxRecDepth 100000 in
set_option maxHeartbeats 4000000 in
theorem F98_ev (sc : Option (Nat × (Nat → Int32))) (n : Nat) (g0 : Nat) (a1 : Int32) (hg0 : isD g0) (M : Mem) (e : Nat) (he : 3 ≤ e) (r : Int32) (M' : Mem) (h : F98 n g0 a1 M = some (r, M')) : pm_ev pmT sc e 98 false (0, [some (.ref g0), some (.int a1), none, none], [], 129, 17845, hp M) (some (.int r), 129, 17845, hp M') := by
  unfold F98 at h
  refine pe_blk mm_98 2 (s' := (2, [some (.ref g0), some (.int a1), none, none], [.int a1, .ref g0], _, _, _)) rfl ?_
  obtain ⟨e1, rfl⟩ : ∃ e1, e = e1 + 1 := ⟨e - 1, by omega⟩
  cases hc3 : F114 n g0 a1 M with
  | none => rw [hc3] at h; cases h
  | some w =>
    obtain ⟨v1, M2⟩ := w
    rw [hc3] at h
    dsimp only at h
    refine pe_virt (al := [.int a1]) (a := g0) (L0 := [some (.ref g0), some (.int a1)]) (r1 := (some (.int v1), 129, 17845, hp M2)) mm_98 rfl rfl rfl mm_114 (isD_0 hg0 _) (by have := isD_lt hg0; omega) (by decide) rfl (Nat.le_of_ble_eq_true rfl) (Nat.le_of_ble_eq_true rfl) rfl rfl (F114_ev sc n g0 a1 hg0 _ e1 (by omega) _ _ hc3) ?_
    show pm_ev _ _ _ _ _ (5, [some (.ref g0), some (.int a1), none, none], [.int v1], _, _, _) _
    refine pe_blk mm_98 3 (s' := (8, [some (.ref g0), some (.int a1), some (.int v1), none], [.int a1, .ref g0], _, _, _)) rfl ?_
    skip
    cases hc6 : F113 n g0 a1 M2 with
    | none => rw [hc6] at h; cases h
    | some w =>
      obtain ⟨v4, M5⟩ := w
      rw [hc6] at h
      dsimp only at h
      refine pe_virt (al := [.int a1]) (a := g0) (L0 := [some (.ref g0), some (.int a1)]) (r1 := (some (.int v4), 129, 17845, hp M5)) mm_98 rfl rfl rfl mm_113 (isD_0 hg0 _) (by have := isD_lt hg0; omega) (by decide) rfl (Nat.le_of_ble_eq_true rfl) (Nat.le_of_ble_eq_true rfl) rfl rfl (F113_ev sc n g0 a1 hg0 _ e1 (by omega) _ _ hc6) ?_
      show pm_ev _ _ _ _ _ (11, [some (.ref g0), some (.int a1), some (.int v1), none], [.int v4], _, _, _) _
      refine pe_blk mm_98 1 (s' := (12, [some (.ref g0), some (.int a1), some (.int v1), some (.int v4)], [], _, _, _)) rfl ?_
      exact L98_12_ev sc n g0 hg0 (e1 + 1) he n v1 v4 _ _ _ _ h
