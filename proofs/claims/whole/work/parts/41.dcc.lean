/-! The methods as functions over Mem; written by program. -/
/-- ArmExpander$TypedText.byteOf -/
def F204 (n : Nat) (a0 : Int32) (a1 : Int32) (M : Mem) : Option (Int32 × Mem) :=
  some ((((a0 : Int32).toUInt32 >>> (((8 * a1) : Int32).toUInt32 &&& Int32.toUInt32 31)).toInt32) &&& 255, M)
set_option maxRecDepth 100000 in
set_option maxHeartbeats 4000000 in
theorem F204_ev (sc : Option (Nat × (Nat → Int32))) (n : Nat) (a0 : Int32) (a1 : Int32)  (M : Mem) (e : Nat) (he : 1 ≤ e) (r : Int32) (M' : Mem) (h : F204 n a0 a1 M = some (r, M')) : pm_ev pmT sc e 204 false (0, [some (.int a0), some (.int a1)], [], 129, 17845, hp M) (some (.int r), 129, 17845, hp M') := by
  unfold F204 at h
  refine pe_blk mm_204 7 (s' := (10, [some (.int a0), some (.int a1)], [.int ((((a0 : Int32).toUInt32 >>> (((8 * a1) : Int32).toUInt32 &&& Int32.toUInt32 31)).toInt32) &&& 255)], _, _, _)) rfl ?_
  cases h
  exact pe_ret mm_204 rfl rfl
def J205_17 (n : Nat) (s0 : Int32) (M : Mem) : Option (Int32 × Mem) :=
  if s0 = 0 ∨ s0 = 1 then some (s0, M) else none
set_option maxRecDepth 100000 in
set_option maxHeartbeats 4000000 in
theorem J205_17_ev (sc : Option (Nat × (Nat → Int32))) (n : Nat)  (e : Nat) (he : 1 ≤ e) : ∀ (s0 : Int32) (u0 : Option Value) (M : Mem) (r : Int32) (M' : Mem), J205_17 n s0 M = some (r, M') → pm_ev pmT sc e 205 false (17, [u0], [.int s0], 129, 17845, hp M) (some (.int r), 129, 17845, hp M') := by
  intro s0 u0 M r M' h
  unfold J205_17 at h
  by_cases q2 : s0 = 0 ∨ s0 = 1
  · rw [if_pos q2] at h
    cases h
    exact pe_ret mm_205 rfl (if_pos q2)
  · rw [if_neg q2] at h
    cases h
def J205_16 (n : Nat) (M : Mem) : Option (Int32 × Mem) :=
  J205_17 n 0 M
set_option maxRecDepth 100000 in
set_option maxHeartbeats 4000000 in
theorem J205_16_ev (sc : Option (Nat × (Nat → Int32))) (n : Nat)  (e : Nat) (he : 1 ≤ e) : ∀ (u0 : Option Value) (M : Mem) (r : Int32) (M' : Mem), J205_16 n  M = some (r, M') → pm_ev pmT sc e 205 false (16, [u0], [], 129, 17845, hp M) (some (.int r), 129, 17845, hp M') := by
  intro u0 M r M' h
  unfold J205_16 at h
  refine pe_blk mm_205 1 (s' := (17, [u0], [.int 0], _, _, _)) rfl ?_
  exact J205_17_ev sc n e he 0 _ _ _ _ h
/-- ArmExpander$TypedText.isLetter -/
def F205 (n : Nat) (a0 : Int32) (M : Mem) : Option (Int32 × Mem) :=
  if a0 < 97 then (J205_16 n M) else (if 122 < a0 then (J205_16 n M) else (J205_17 n 1 M))
set_option maxRecDepth 100000 in
set_option maxHeartbeats 4000000 in
theorem F205_ev (sc : Option (Nat × (Nat → Int32))) (n : Nat) (a0 : Int32)  (M : Mem) (e : Nat) (he : 1 ≤ e) (r : Int32) (M' : Mem) (h : F205 n a0 M = some (r, M')) : pm_ev pmT sc e 205 false (0, [some (.int a0)], [], 129, 17845, hp M) (some (.int r), 129, 17845, hp M') := by
  unfold F205 at h
  refine pe_blk mm_205 2 (s' := (3, [some (.int a0)], [.int 97, .int a0], _, _, _)) rfl ?_
  by_cases q1 : a0 < 97
  · rw [if_pos q1] at h
    refine pe_blk mm_205 1 (s' := (if a0 < 97 then 16 else 6, [some (.int a0)], [], _, _, _)) rfl ?_
    rw [if_pos q1]
    exact J205_16_ev sc n e he _ _ _ _ h
  · rw [if_neg q1] at h
    refine pe_blk mm_205 1 (s' := (if a0 < 97 then 16 else 6, [some (.int a0)], [], _, _, _)) rfl ?_
    rw [if_neg q1]
    refine pe_blk mm_205 2 (s' := (9, [some (.int a0)], [.int 122, .int a0], _, _, _)) rfl ?_
    by_cases q3 : 122 < a0
    · rw [if_pos q3] at h
      refine pe_blk mm_205 1 (s' := (if 122 < a0 then 16 else 12, [some (.int a0)], [], _, _, _)) rfl ?_
      rw [if_pos q3]
      exact J205_16_ev sc n e he _ _ _ _ h
    · rw [if_neg q3] at h
      refine pe_blk mm_205 1 (s' := (if 122 < a0 then 16 else 12, [some (.int a0)], [], _, _, _)) rfl ?_
      rw [if_neg q3]
      refine pe_blk mm_205 2 (s' := (17, [some (.int a0)], [.int 1], _, _, _)) rfl ?_
      exact J205_17_ev sc n e he 1 _ _ _ _ h
def J206_17 (n : Nat) (s0 : Int32) (M : Mem) : Option (Int32 × Mem) :=
  if s0 = 0 ∨ s0 = 1 then some (s0, M) else none
set_option maxRecDepth 100000 in
set_option maxHeartbeats 4000000 in
theorem J206_17_ev (sc : Option (Nat × (Nat → Int32))) (n : Nat)  (e : Nat) (he : 1 ≤ e) : ∀ (s0 : Int32) (u0 : Option Value) (M : Mem) (r : Int32) (M' : Mem), J206_17 n s0 M = some (r, M') → pm_ev pmT sc e 206 false (17, [u0], [.int s0], 129, 17845, hp M) (some (.int r), 129, 17845, hp M') := by
  intro s0 u0 M r M' h
  unfold J206_17 at h
  by_cases q2 : s0 = 0 ∨ s0 = 1
  · rw [if_pos q2] at h
    cases h
    exact pe_ret mm_206 rfl (if_pos q2)
  · rw [if_neg q2] at h
    cases h
def J206_16 (n : Nat) (M : Mem) : Option (Int32 × Mem) :=
  J206_17 n 0 M
set_option maxRecDepth 100000 in
set_option maxHeartbeats 4000000 in
theorem J206_16_ev (sc : Option (Nat × (Nat → Int32))) (n : Nat)  (e : Nat) (he : 1 ≤ e) : ∀ (u0 : Option Value) (M : Mem) (r : Int32) (M' : Mem), J206_16 n  M = some (r, M') → pm_ev pmT sc e 206 false (16, [u0], [], 129, 17845, hp M) (some (.int r), 129, 17845, hp M') := by
  intro u0 M r M' h
  unfold J206_16 at h
  refine pe_blk mm_206 1 (s' := (17, [u0], [.int 0], _, _, _)) rfl ?_
  exact J206_17_ev sc n e he 0 _ _ _ _ h
/-- ArmExpander$TypedText.isDigit -/
def F206 (n : Nat) (a0 : Int32) (M : Mem) : Option (Int32 × Mem) :=
  if a0 < 48 then (J206_16 n M) else (if 57 < a0 then (J206_16 n M) else (J206_17 n 1 M))
set_option maxRecDepth 100000 in
set_option maxHeartbeats 4000000 in
theorem F206_ev (sc : Option (Nat × (Nat → Int32))) (n : Nat) (a0 : Int32)  (M : Mem) (e : Nat) (he : 1 ≤ e) (r : Int32) (M' : Mem) (h : F206 n a0 M = some (r, M')) : pm_ev pmT sc e 206 false (0, [some (.int a0)], [], 129, 17845, hp M) (some (.int r), 129, 17845, hp M') := by
  unfold F206 at h
  refine pe_blk mm_206 2 (s' := (3, [some (.int a0)], [.int 48, .int a0], _, _, _)) rfl ?_
  by_cases q1 : a0 < 48
  · rw [if_pos q1] at h
    refine pe_blk mm_206 1 (s' := (if a0 < 48 then 16 else 6, [some (.int a0)], [], _, _, _)) rfl ?_
    rw [if_pos q1]
    exact J206_16_ev sc n e he _ _ _ _ h
  · rw [if_neg q1] at h
    refine pe_blk mm_206 1 (s' := (if a0 < 48 then 16 else 6, [some (.int a0)], [], _, _, _)) rfl ?_
    rw [if_neg q1]
    refine pe_blk mm_206 2 (s' := (9, [some (.int a0)], [.int 57, .int a0], _, _, _)) rfl ?_
    by_cases q3 : 57 < a0
    · rw [if_pos q3] at h
      refine pe_blk mm_206 1 (s' := (if 57 < a0 then 16 else 12, [some (.int a0)], [], _, _, _)) rfl ?_
      rw [if_pos q3]
      exact J206_16_ev sc n e he _ _ _ _ h
    · rw [if_neg q3] at h
      refine pe_blk mm_206 1 (s' := (if 57 < a0 then 16 else 12, [some (.int a0)], [], _, _, _)) rfl ?_
      rw [if_neg q3]
      refine pe_blk mm_206 2 (s' := (17, [some (.int a0)], [.int 1], _, _, _)) rfl ?_
      exact J206_17_ev sc n e he 1 _ _ _ _ h
/-- ArmExpander.expansions -/
def F9 (n : Nat) (M : Mem) : Option (Int32 × Mem) :=
  match F137 n M with | some (v1, M2) => (some (v1, M2)) | none => none
set_option maxRecDepth 100000 in
set_option maxHeartbeats 4000000 in
theorem F9_ev (sc : Option (Nat × (Nat → Int32))) (n : Nat)  (M : Mem) (e : Nat) (he : 2 ≤ e) (r : Int32) (M' : Mem) (h : F9 n M = some (r, M')) : pm_ev pmT sc e 9 false (0, [some (.ref 0)], [], 129, 17845, hp M) (some (.int r), 129, 17845, hp M') := by
  unfold F9 at h
  refine pe_blk mm_9 1 (s' := (1, [some (.ref 0)], [.ref 0], _, _, _)) rfl ?_
  refine pe_get mm_9 rfl rfl rfl (by decide) rfl ?_
  obtain ⟨e1, rfl⟩ : ∃ e1, e = e1 + 1 := ⟨e - 1, by omega⟩
  cases hc3 : F137 n M with
  | none => rw [hc3] at h; cases h
  | some w =>
    obtain ⟨v1, M2⟩ := w
    rw [hc3] at h
    dsimp only at h
    refine pe_virt (al := []) (a := 12) (L0 := [some (.ref 12)]) (r1 := (some (.int v1), 129, 17845, hp M2)) mm_9 rfl rfl rfl mm_137 rfl (by decide) (by decide) rfl (Nat.le_of_ble_eq_true rfl) (Nat.le_of_ble_eq_true rfl) rfl rfl (F137_ev sc n _ e1 (by omega) _ _ hc3) ?_
    show pm_ev _ _ _ _ _ (7, [some (.ref 0)], [.int v1], _, _, _) _
    cases h
    exact pe_ret mm_9 rfl rfl
/-- ArmExpander.used -/
def F10 (n : Nat) (a0 : Int32) (M : Mem) : Option (Int32 × Mem) :=
  match F138 n a0 M with | some (v1, M2) => (some (v1, M2)) | none => none
set_option maxRecDepth 100000 in
set_option maxHeartbeats 4000000 in
theorem F10_ev (sc : Option (Nat × (Nat → Int32))) (n : Nat) (a0 : Int32)  (M : Mem) (e : Nat) (he : 2 ≤ e) (r : Int32) (M' : Mem) (h : F10 n a0 M = some (r, M')) : pm_ev pmT sc e 10 false (0, [some (.ref 0), some (.int a0)], [], 129, 17845, hp M) (some (.int r), 129, 17845, hp M') := by
  unfold F10 at h
  refine pe_blk mm_10 1 (s' := (1, [some (.ref 0), some (.int a0)], [.ref 0], _, _, _)) rfl ?_
  refine pe_get mm_10 rfl rfl rfl (by decide) rfl ?_
  refine pe_blk mm_10 1 (s' := (5, [some (.ref 0), some (.int a0)], [.int a0, .ref 12], _, _, _)) rfl ?_
  obtain ⟨e1, rfl⟩ : ∃ e1, e = e1 + 1 := ⟨e - 1, by omega⟩
  cases hc3 : F138 n a0 M with
  | none => rw [hc3] at h; cases h
  | some w =>
    obtain ⟨v1, M2⟩ := w
    rw [hc3] at h
    dsimp only at h
    refine pe_virt (al := [.int a0]) (a := 12) (L0 := [some (.ref 12), some (.int a0)]) (r1 := (some (.int v1), 129, 17845, hp M2)) mm_10 rfl rfl rfl mm_138 rfl (by decide) (by decide) rfl (Nat.le_of_ble_eq_true rfl) (Nat.le_of_ble_eq_true rfl) rfl rfl (F138_ev sc n a0 _ e1 (by omega) _ _ hc3) ?_
    show pm_ev _ _ _ _ _ (8, [some (.ref 0), some (.int a0)], [.int v1], _, _, _) _
    cases h
    exact pe_ret mm_10 rfl rfl
/-- ArmExpanderModel.readAgain -/
def F34 (n : Nat) (a0 : Int32) (M : Mem) : Option (Int32 × Mem) :=
  mlet (m_i M 83 7 0) (fun M1 => match F28 n M1 with | some (v2, M3) => (match F45 n 5 a0 M3 with | some (v5, M6) => (if v5 = 0 ∨ v5 = 1 then some (v5, M6) else none) | none => none) | none => none)
set_option maxRecDepth 100000 in
set_option maxHeartbeats 4000000 in
theorem F34_ev (sc : Option (Nat × (Nat → Int32))) (n : Nat) (a0 : Int32)  (M : Mem) (e : Nat) (he : 9 ≤ e) (r : Int32) (M' : Mem) (h : F34 n a0 M = some (r, M')) : pm_ev pmT sc e 34 false (0, [some (.ref 83), some (.int a0)], [], 129, 17845, hp M) (some (.int r), 129, 17845, hp M') := by
  unfold F34 at h
  refine pe_blk mm_34 2 (s' := (2, [some (.ref 83), some (.int a0)], [.int 0, .ref 83], _, _, _)) rfl ?_
  refine pe_puti mm_34 rfl rfl rfl (by decide) (Nat.le_of_ble_eq_true rfl) rfl rfl ?_
  show pm_ev _ _ _ _ _ (5, [some (.ref 83), some (.int a0)], [], _, _, hp (m_i M 83 7 0)) _
  generalize m_i M 83 7 0 = M1 at h ⊢
  rw [mlet] at h
  refine pe_blk mm_34 1 (s' := (6, [some (.ref 83), some (.int a0)], [.ref 83], _, _, _)) rfl ?_
  obtain ⟨e1, rfl⟩ : ∃ e1, e = e1 + 1 := ⟨e - 1, by omega⟩
  cases hc4 : F28 n M1 with
  | none => rw [hc4] at h; cases h
  | some w =>
    obtain ⟨v2, M3⟩ := w
    rw [hc4] at h
    dsimp only at h
    refine pe_virt (al := []) (a := 83) (L0 := [some (.ref 83), none, none, none, none, none]) (r1 := (none, 129, 17845, hp M3)) mm_34 rfl rfl rfl mm_28 rfl (by decide) (by decide) rfl (Nat.le_of_ble_eq_true rfl) (Nat.le_of_ble_eq_true rfl) rfl rfl (F28_ev sc n _ e1 (by omega) _ _ hc4) ?_
    show pm_ev _ _ _ _ _ (9, [some (.ref 83), some (.int a0)], [], _, _, _) _
    refine pe_blk mm_34 3 (s' := (12, [some (.ref 83), some (.int a0)], [.int a0, .int 5, .ref 83], _, _, _)) rfl ?_
    skip
    cases hc7 : F45 n 5 a0 M3 with
    | none => rw [hc7] at h; cases h
    | some w =>
      obtain ⟨v5, M6⟩ := w
      rw [hc7] at h
      dsimp only at h
      refine pe_virt (al := [.int a0, .int 5]) (a := 83) (L0 := [some (.ref 83), some (.int 5), some (.int a0), none]) (r1 := (some (.int v5), 129, 17845, hp M6)) mm_34 rfl rfl rfl mm_45 rfl (by decide) (by decide) rfl (Nat.le_of_ble_eq_true rfl) (Nat.le_of_ble_eq_true rfl) rfl rfl (F45_ev sc n 5 a0 _ e1 (by omega) _ _ hc7) ?_
      show pm_ev _ _ _ _ _ (15, [some (.ref 83), some (.int a0)], [.int v5], _, _, _) _
      by_cases q8 : v5 = 0 ∨ v5 = 1
      · rw [if_pos q8] at h
        cases h
        exact pe_ret mm_34 rfl (if_pos q8)
      · rw [if_neg q8] at h
        cases h
def J58_13 (n : Nat) (M : Mem) : Option (Int32 × Mem) :=
  some ((-1) - (M.1 83 8), M)
set_option maxRecDepth 100000 in
set_option maxHeartbeats 4000000 in
theorem J58_13_ev (sc : Option (Nat × (Nat → Int32))) (n : Nat)  (e : Nat) (he : 10 ≤ e) : ∀ (u1 : Option Value) (u2 : Option Value) (u3 : Option Value) (M : Mem) (r : Int32) (M' : Mem), J58_13 n  M = some (r, M') → pm_ev pmT sc e 58 false (13, [some (.ref 83), u1, u2, u3], [], 129, 17845, hp M) (some (.int r), 129, 17845, hp M') := by
  intro u1 u2 u3 M r M' h
  unfold J58_13 at h
  refine pe_blk mm_58 2 (s' := (15, [some (.ref 83), u1, u2, u3], [.ref 83, .int (-1)], _, _, _)) rfl ?_
  refine pe_get mm_58 rfl rfl rfl (by decide) rfl ?_
  refine pe_blk mm_58 1 (s' := (19, [some (.ref 83), u1, u2, u3], [.int ((-1) - (M.1 83 8))], _, _, _)) rfl ?_
  obtain ⟨rfl, rfl⟩ := Prod.mk.inj (Option.some.inj h)
  exact pe_ret mm_58 rfl rfl
def J58_172 (n : Nat) (rec144 : Int32 → Mem → Option (Int32 × Mem)) (x3 : Int32) (M : Mem) : Option (Int32 × Mem) :=
  rec144 (x3 + 1) M
set_option maxRecDepth 100000 in
set_option maxHeartbeats 4000000 in
theorem J58_172_ev (sc : Option (Nat × (Nat → Int32))) (n : Nat)  (e : Nat) (he : 10 ≤ e) (rec144 : Int32 → Mem → Option (Int32 × Mem)) (hr144 : ∀ (x3 : Int32) (u1 : Option Value) (u2 : Option Value) (M : Mem) (r : Int32) (M' : Mem), rec144 x3 M = some (r, M') → pm_ev pmT sc e 58 false (144, [some (.ref 83), u1, u2, some (.int x3)], [], 129, 17845, hp M) (some (.int r), 129, 17845, hp M')) : ∀ (x3 : Int32) (u1 : Option Value) (u2 : Option Value) (M : Mem) (r : Int32) (M' : Mem), J58_172 n rec144 x3 M = some (r, M') → pm_ev pmT sc e 58 false (172, [some (.ref 83), u1, u2, some (.int x3)], [], 129, 17845, hp M) (some (.int r), 129, 17845, hp M') := by
  intro x3 u1 u2 M r M' h
  unfold J58_172 at h
  refine pe_blk mm_58 2 (s' := (144, [some (.ref 83), u1, u2, some (.int (x3 + 1))], [], _, _, _)) rfl ?_
  exact hr144 (x3 + 1) _ _ _ _ _ h
def L58_144 (n : Nat) : Nat → Int32 → Mem → Option (Int32 × Mem)
  | 0, _, _ => none
  | k + 1, x3, M => if (M.1 83 3) ≤ x3 then (mlet (m_i M 83 9 ((M.1 83 9) + 1)) (fun M17 => some (M17.1 83 9, M17))) else (if x3 < 0 ∨ 120 ≤ (x3 : Int32).toNatClampNeg then none else (if ((120 * (M.1 83 9)) + x3) < 0 ∨ 600 ≤ ((120 * (M.1 83 9)) + x3 : Int32).toNatClampNeg then none else (mlet (m_i M 86 ((120 * (M.1 83 9)) + x3 : Int32).toNatClampNeg (M.1 85 (x3 : Int32).toNatClampNeg)) (fun M20 => J58_172 n (L58_144 n k) x3 M20))))
set_option maxRecDepth 100000 in
set_option maxHeartbeats 4000000 in
theorem L58_144_ev (sc : Option (Nat × (Nat → Int32))) (n : Nat)  (e : Nat) (he : 10 ≤ e) : ∀ k : Nat, ∀ (x3 : Int32) (u1 : Option Value) (u2 : Option Value) (M : Mem) (r : Int32) (M' : Mem), L58_144 n k x3 M = some (r, M') → pm_ev pmT sc e 58 false (144, [some (.ref 83), u1, u2, some (.int x3)], [], 129, 17845, hp M) (some (.int r), 129, 17845, hp M') := by
  intro k
  induction k with
  | zero => intro x3 u1 u2 M r M' h; cases h
  | succ k hr144 =>
    intro x3 u1 u2 M r M' h
    rw [L58_144] at h
    refine pe_blk mm_58 2 (s' := (146, [some (.ref 83), u1, u2, some (.int x3)], [.ref 83, .int x3], _, _, _)) rfl ?_
    refine pe_get mm_58 rfl rfl rfl (by decide) rfl ?_
    by_cases q16 : (M.1 83 3) ≤ x3
    · rw [if_pos q16] at h
      refine pe_blk mm_58 1 (s' := (if (M.1 83 3) ≤ x3 then 178 else 152, [some (.ref 83), u1, u2, some (.int x3)], [], _, _, _)) rfl ?_
      rw [if_pos q16]
      refine pe_blk mm_58 2 (s' := (180, [some (.ref 83), u1, u2, some (.int x3)], [.ref 83, .ref 83], _, _, _)) rfl ?_
      refine pe_get mm_58 rfl rfl rfl (by decide) rfl ?_
      refine pe_blk mm_58 2 (s' := (185, [some (.ref 83), u1, u2, some (.int x3)], [.int ((M.1 83 9) + 1), .ref 83], _, _, _)) rfl ?_
      refine pe_puti mm_58 rfl rfl rfl (by decide) (Nat.le_of_ble_eq_true rfl) rfl rfl ?_
      show pm_ev _ _ _ _ _ (188, [some (.ref 83), u1, u2, some (.int x3)], [], _, _, hp (m_i M 83 9 ((M.1 83 9) + 1))) _
      generalize m_i M 83 9 ((M.1 83 9) + 1) = M17 at h ⊢
      rw [mlet] at h
      refine pe_blk mm_58 1 (s' := (189, [some (.ref 83), u1, u2, some (.int x3)], [.ref 83], _, _, _)) rfl ?_
      refine pe_get mm_58 rfl rfl rfl (by decide) rfl ?_
      cases h
      exact pe_ret mm_58 rfl rfl
    · rw [if_neg q16] at h
      refine pe_blk mm_58 1 (s' := (if (M.1 83 3) ≤ x3 then 178 else 152, [some (.ref 83), u1, u2, some (.int x3)], [], _, _, _)) rfl ?_
      rw [if_neg q16]
      refine pe_blk mm_58 1 (s' := (153, [some (.ref 83), u1, u2, some (.int x3)], [.ref 83], _, _, _)) rfl ?_
      refine pe_get mm_58 rfl rfl rfl (by decide) rfl ?_
      refine pe_blk mm_58 2 (s' := (159, [some (.ref 83), u1, u2, some (.int x3)], [.ref 83, .int 120, .ref 86], _, _, _)) rfl ?_
      refine pe_get mm_58 rfl rfl rfl (by decide) rfl ?_
      refine pe_blk mm_58 4 (s' := (166, [some (.ref 83), u1, u2, some (.int x3)], [.ref 83, .int ((120 * (M.1 83 9)) + x3), .ref 86], _, _, _)) rfl ?_
      refine pe_get mm_58 rfl rfl rfl (by decide) rfl ?_
      refine pe_blk mm_58 1 (s' := (170, [some (.ref 83), u1, u2, some (.int x3)], [.int x3, .ref 85, .int ((120 * (M.1 83 9)) + x3), .ref 86], _, _, _)) rfl ?_
      by_cases q18 : x3 < 0 ∨ 120 ≤ (x3 : Int32).toNatClampNeg
      · rw [if_pos q18] at h
        cases h
      · rw [if_neg q18] at h
        refine pe_iald (f := M.1 85) mm_58 rfl rfl (by decide) q18 ?_
        by_cases q19 : ((120 * (M.1 83 9)) + x3) < 0 ∨ 600 ≤ ((120 * (M.1 83 9)) + x3 : Int32).toNatClampNeg
        · rw [if_pos q19] at h
          cases h
        · rw [if_neg q19] at h
          refine pe_iasti mm_58 rfl rfl (by decide) q19 rfl ?_
          show pm_ev _ _ _ _ _ (172, [some (.ref 83), u1, u2, some (.int x3)], [], _, _, hp (m_i M 86 ((120 * (M.1 83 9)) + x3 : Int32).toNatClampNeg (M.1 85 (x3 : Int32).toNatClampNeg))) _
          generalize m_i M 86 ((120 * (M.1 83 9)) + x3 : Int32).toNatClampNeg (M.1 85 (x3 : Int32).toNatClampNeg) = M20 at h ⊢
          rw [mlet] at h
          exact J58_172_ev sc n e he (L58_144 n k) hr144 x3 _ _ _ _ _ h
def J58_142 (n : Nat) (M : Mem) : Option (Int32 × Mem) :=
  L58_144 n n 0 M
set_option maxRecDepth 100000 in
set_option maxHeartbeats 4000000 in
theorem J58_142_ev (sc : Option (Nat × (Nat → Int32))) (n : Nat)  (e : Nat) (he : 10 ≤ e) : ∀ (u1 : Option Value) (u2 : Option Value) (u3 : Option Value) (M : Mem) (r : Int32) (M' : Mem), J58_142 n  M = some (r, M') → pm_ev pmT sc e 58 false (142, [some (.ref 83), u1, u2, u3], [], 129, 17845, hp M) (some (.int r), 129, 17845, hp M') := by
  intro u1 u2 u3 M r M' h
  unfold J58_142 at h
  refine pe_blk mm_58 2 (s' := (144, [some (.ref 83), u1, u2, some (.int 0)], [], _, _, _)) rfl ?_
  exact L58_144_ev sc n e he n 0 _ _ _ _ _ h
def J58_119 (n : Nat) (x1 : Int32) (M : Mem) : Option (Int32 × Mem) :=
  if (M.1 83 9) < 0 ∨ 6 ≤ (M.1 83 9 : Int32).toNatClampNeg then none else (mlet (m_i M 89 (M.1 83 9 : Int32).toNatClampNeg x1) (fun M13 => if (M13.1 83 9) < 0 ∨ 5 ≤ (M13.1 83 9 : Int32).toNatClampNeg then none else (mlet (m_i M13 87 (M13.1 83 9 : Int32).toNatClampNeg (M13.1 83 3)) (fun M15 => J58_142 n M15))))
set_option maxRecDepth 100000 in
set_option maxHeartbeats 4000000 in
theorem J58_119_ev (sc : Option (Nat × (Nat → Int32))) (n : Nat)  (e : Nat) (he : 10 ≤ e) : ∀ (x1 : Int32) (u2 : Option Value) (u3 : Option Value) (M : Mem) (r : Int32) (M' : Mem), J58_119 n x1 M = some (r, M') → pm_ev pmT sc e 58 false (119, [some (.ref 83), some (.int x1), u2, u3], [], 129, 17845, hp M) (some (.int r), 129, 17845, hp M') := by
  intro x1 u2 u3 M r M' h
  unfold J58_119 at h
  refine pe_blk mm_58 1 (s' := (120, [some (.ref 83), some (.int x1), u2, u3], [.ref 83], _, _, _)) rfl ?_
  refine pe_get mm_58 rfl rfl rfl (by decide) rfl ?_
  refine pe_blk mm_58 1 (s' := (124, [some (.ref 83), some (.int x1), u2, u3], [.ref 83, .ref 89], _, _, _)) rfl ?_
  refine pe_get mm_58 rfl rfl rfl (by decide) rfl ?_
  refine pe_blk mm_58 1 (s' := (128, [some (.ref 83), some (.int x1), u2, u3], [.int x1, .int (M.1 83 9), .ref 89], _, _, _)) rfl ?_
  by_cases q12 : (M.1 83 9) < 0 ∨ 6 ≤ (M.1 83 9 : Int32).toNatClampNeg
  · rw [if_pos q12] at h
    cases h
  · rw [if_neg q12] at h
    refine pe_iasti mm_58 rfl rfl (by decide) q12 rfl ?_
    show pm_ev _ _ _ _ _ (129, [some (.ref 83), some (.int x1), u2, u3], [], _, _, hp (m_i M 89 (M.1 83 9 : Int32).toNatClampNeg x1)) _
    generalize m_i M 89 (M.1 83 9 : Int32).toNatClampNeg x1 = M13 at h ⊢
    rw [mlet] at h
    refine pe_blk mm_58 1 (s' := (130, [some (.ref 83), some (.int x1), u2, u3], [.ref 83], _, _, _)) rfl ?_
    refine pe_get mm_58 rfl rfl rfl (by decide) rfl ?_
    refine pe_blk mm_58 1 (s' := (134, [some (.ref 83), some (.int x1), u2, u3], [.ref 83, .ref 87], _, _, _)) rfl ?_
    refine pe_get mm_58 rfl rfl rfl (by decide) rfl ?_
    refine pe_blk mm_58 1 (s' := (138, [some (.ref 83), some (.int x1), u2, u3], [.ref 83, .int (M13.1 83 9), .ref 87], _, _, _)) rfl ?_
    refine pe_get mm_58 rfl rfl rfl (by decide) rfl ?_
    by_cases q14 : (M13.1 83 9) < 0 ∨ 5 ≤ (M13.1 83 9 : Int32).toNatClampNeg
    · rw [if_pos q14] at h
      cases h
    · rw [if_neg q14] at h
      refine pe_iasti mm_58 rfl rfl (by decide) q14 rfl ?_
      show pm_ev _ _ _ _ _ (142, [some (.ref 83), some (.int x1), u2, u3], [], _, _, hp (m_i M13 87 (M13.1 83 9 : Int32).toNatClampNeg (M13.1 83 3))) _
      generalize m_i M13 87 (M13.1 83 9 : Int32).toNatClampNeg (M13.1 83 3) = M15 at h ⊢
      rw [mlet] at h
      exact J58_142_ev sc n e he _ _ _ _ _ _ h
def J58_76 (n : Nat) (M : Mem) : Option (Int32 × Mem) :=
  some ((-1002), M)
set_option maxRecDepth 100000 in
set_option maxHeartbeats 4000000 in
theorem J58_76_ev (sc : Option (Nat × (Nat → Int32))) (n : Nat)  (e : Nat) (he : 10 ≤ e) : ∀ (u0 : Option Value) (u1 : Option Value) (u2 : Option Value) (u3 : Option Value) (M : Mem) (r : Int32) (M' : Mem), J58_76 n  M = some (r, M') → pm_ev pmT sc e 58 false (76, [u0, u1, u2, u3], [], 129, 17845, hp M) (some (.int r), 129, 17845, hp M') := by
  intro u0 u1 u2 u3 M r M' h
  unfold J58_76 at h
  refine pe_blk mm_58 1 (s' := (79, [u0, u1, u2, u3], [.int (-1002)], _, _, _)) rfl ?_
  cases h
  exact pe_ret mm_58 rfl rfl
def J58_80 (n : Nat) (rec36 : Int32 → Int32 → Int32 → Mem → Option (Int32 × Mem)) (x1 : Int32) (x2 : Int32) (x3 : Int32) (M : Mem) : Option (Int32 × Mem) :=
  match F57 n M with | some (v36, M37) => (if v36 = 0 then (some ((-1003), M37)) else (rec36 x1 x2 (x3 + 1) M37)) | none => none
set_option maxRecDepth 100000 in
set_option maxHeartbeats 4000000 in
theorem J58_80_ev (sc : Option (Nat × (Nat → Int32))) (n : Nat)  (e : Nat) (he : 10 ≤ e) (rec36 : Int32 → Int32 → Int32 → Mem → Option (Int32 × Mem)) (hr36 : ∀ (x1 : Int32) (x2 : Int32) (x3 : Int32) (M : Mem) (r : Int32) (M' : Mem), rec36 x1 x2 x3 M = some (r, M') → pm_ev pmT sc e 58 false (36, [some (.ref 83), some (.int x1), some (.int x2), some (.int x3)], [], 129, 17845, hp M) (some (.int r), 129, 17845, hp M')) : ∀ (x1 : Int32) (x2 : Int32) (x3 : Int32) (M : Mem) (r : Int32) (M' : Mem), J58_80 n rec36 x1 x2 x3 M = some (r, M') → pm_ev pmT sc e 58 false (80, [some (.ref 83), some (.int x1), some (.int x2), some (.int x3)], [], 129, 17845, hp M) (some (.int r), 129, 17845, hp M') := by
  intro x1 x2 x3  M r M' h
  unfold J58_80 at h
  refine pe_blk mm_58 1 (s' := (81, [some (.ref 83), some (.int x1), some (.int x2), some (.int x3)], [.ref 83], _, _, _)) rfl ?_
  obtain ⟨e1, rfl⟩ : ∃ e1, e = e1 + 1 := ⟨e - 1, by omega⟩
  cases hc38 : F57 n M with
  | none => rw [hc38] at h; cases h
  | some w =>
    obtain ⟨v36, M37⟩ := w
    rw [hc38] at h
    dsimp only at h
    refine pe_virt (al := []) (a := 83) (L0 := [some (.ref 83), none, none, none, none]) (r1 := (some (.int v36), 129, 17845, hp M37)) mm_58 rfl rfl rfl mm_57 rfl (by decide) (by decide) rfl (Nat.le_of_ble_eq_true rfl) (Nat.le_of_ble_eq_true rfl) rfl rfl (F57_ev sc n _ e1 (by omega) _ _ hc38) ?_
    show pm_ev _ _ _ _ _ (84, [some (.ref 83), some (.int x1), some (.int x2), some (.int x3)], [.int v36], _, _, _) _
    by_cases q39 : v36 = 0
    · rw [if_pos q39] at h
      refine pe_blk mm_58 1 (s' := (if v36 = 0 then 87 else 91, [some (.ref 83), some (.int x1), some (.int x2), some (.int x3)], [], _, _, _)) rfl ?_
      rw [if_pos q39]
      refine pe_blk mm_58 1 (s' := (90, [some (.ref 83), some (.int x1), some (.int x2), some (.int x3)], [.int (-1003)], _, _, _)) rfl ?_
      cases h
      exact pe_ret mm_58 rfl rfl
    · rw [if_neg q39] at h
      refine pe_blk mm_58 1 (s' := (if v36 = 0 then 87 else 91, [some (.ref 83), some (.int x1), some (.int x2), some (.int x3)], [], _, _, _)) rfl ?_
      rw [if_neg q39]
      refine pe_blk mm_58 2 (s' := (36, [some (.ref 83), some (.int x1), some (.int x2), some (.int (x3 + 1))], [], _, _, _)) rfl ?_
      exact hr36 x1 x2 (x3 + 1) _ _ _ h
def J58_58 (n : Nat) (rec36 : Int32 → Int32 → Int32 → Mem → Option (Int32 × Mem)) (x1 : Int32) (x2 : Int32) (x3 : Int32) (M : Mem) : Option (Int32 × Mem) :=
  match F48 n M with | some (v28, M29) => (if v28 = 0 then (match F54 n M29 with | some (v32, M33) => (if v32 = 0 then (J58_76 n M33) else (J58_80 n rec36 x1 x2 x3 M33)) | none => none) else (some ((-1001), M29))) | none => none
set_option maxRecDepth 100000 in
set_option maxHeartbeats 4000000 in
theorem J58_58_ev (sc : Option (Nat × (Nat → Int32))) (n : Nat)  (e : Nat) (he : 10 ≤ e) (rec36 : Int32 → Int32 → Int32 → Mem → Option (Int32 × Mem)) (hr36 : ∀ (x1 : Int32) (x2 : Int32) (x3 : Int32) (M : Mem) (r : Int32) (M' : Mem), rec36 x1 x2 x3 M = some (r, M') → pm_ev pmT sc e 58 false (36, [some (.ref 83), some (.int x1), some (.int x2), some (.int x3)], [], 129, 17845, hp M) (some (.int r), 129, 17845, hp M')) : ∀ (x1 : Int32) (x2 : Int32) (x3 : Int32) (M : Mem) (r : Int32) (M' : Mem), J58_58 n rec36 x1 x2 x3 M = some (r, M') → pm_ev pmT sc e 58 false (58, [some (.ref 83), some (.int x1), some (.int x2), some (.int x3)], [], 129, 17845, hp M) (some (.int r), 129, 17845, hp M') := by
  intro x1 x2 x3  M r M' h
  unfold J58_58 at h
  refine pe_blk mm_58 1 (s' := (59, [some (.ref 83), some (.int x1), some (.int x2), some (.int x3)], [.ref 83], _, _, _)) rfl ?_
  obtain ⟨e1, rfl⟩ : ∃ e1, e = e1 + 1 := ⟨e - 1, by omega⟩
  cases hc30 : F48 n M with
  | none => rw [hc30] at h; cases h
  | some w =>
    obtain ⟨v28, M29⟩ := w
    rw [hc30] at h
    dsimp only at h
    refine pe_virt (al := []) (a := 83) (L0 := [some (.ref 83), none, none, none]) (r1 := (some (.int v28), 129, 17845, hp M29)) mm_58 rfl rfl rfl mm_48 rfl (by decide) (by decide) rfl (Nat.le_of_ble_eq_true rfl) (Nat.le_of_ble_eq_true rfl) rfl rfl (F48_ev sc n _ e1 (by omega) _ _ hc30) ?_
    show pm_ev _ _ _ _ _ (62, [some (.ref 83), some (.int x1), some (.int x2), some (.int x3)], [.int v28], _, _, _) _
    by_cases q31 : v28 = 0
    · rw [if_pos q31] at h
      refine pe_blk mm_58 1 (s' := (if v28 = 0 then 69 else 65, [some (.ref 83), some (.int x1), some (.int x2), some (.int x3)], [], _, _, _)) rfl ?_
      rw [if_pos q31]
      refine pe_blk mm_58 1 (s' := (70, [some (.ref 83), some (.int x1), some (.int x2), some (.int x3)], [.ref 83], _, _, _)) rfl ?_
      skip
      cases hc34 : F54 n M29 with
      | none => rw [hc34] at h; cases h
      | some w =>
        obtain ⟨v32, M33⟩ := w
        rw [hc34] at h
        dsimp only at h
        refine pe_virt (al := []) (a := 83) (L0 := [some (.ref 83), none, none, none, none, none]) (r1 := (some (.int v32), 129, 17845, hp M33)) mm_58 rfl rfl rfl mm_54 rfl (by decide) (by decide) rfl (Nat.le_of_ble_eq_true rfl) (Nat.le_of_ble_eq_true rfl) rfl rfl (F54_ev sc n _ e1 (by omega) _ _ hc34) ?_
        show pm_ev _ _ _ _ _ (73, [some (.ref 83), some (.int x1), some (.int x2), some (.int x3)], [.int v32], _, _, _) _
        by_cases q35 : v32 = 0
        · rw [if_pos q35] at h
          refine pe_blk mm_58 1 (s' := (if v32 = 0 then 76 else 80, [some (.ref 83), some (.int x1), some (.int x2), some (.int x3)], [], _, _, _)) rfl ?_
          rw [if_pos q35]
          exact J58_76_ev sc n (e1 + 1) he _ _ _ _ _ _ _ h
        · rw [if_neg q35] at h
          refine pe_blk mm_58 1 (s' := (if v32 = 0 then 76 else 80, [some (.ref 83), some (.int x1), some (.int x2), some (.int x3)], [], _, _, _)) rfl ?_
          rw [if_neg q35]
          exact J58_80_ev sc n (e1 + 1) he rec36 hr36 x1 x2 x3 _ _ _ h
    · rw [if_neg q31] at h
      refine pe_blk mm_58 1 (s' := (if v28 = 0 then 69 else 65, [some (.ref 83), some (.int x1), some (.int x2), some (.int x3)], [], _, _, _)) rfl ?_
      rw [if_neg q31]
      refine pe_blk mm_58 1 (s' := (68, [some (.ref 83), some (.int x1), some (.int x2), some (.int x3)], [.int (-1001)], _, _, _)) rfl ?_
      cases h
      exact pe_ret mm_58 rfl rfl
def J58_54 (n : Nat) (M : Mem) : Option (Int32 × Mem) :=
  some ((-1000), M)
set_option maxRecDepth 100000 in
set_option maxHeartbeats 4000000 in
theorem J58_54_ev (sc : Option (Nat × (Nat → Int32))) (n : Nat)  (e : Nat) (he : 10 ≤ e) : ∀ (u0 : Option Value) (u1 : Option Value) (u2 : Option Value) (u3 : Option Value) (M : Mem) (r : Int32) (M' : Mem), J58_54 n  M = some (r, M') → pm_ev pmT sc e 58 false (54, [u0, u1, u2, u3], [], 129, 17845, hp M) (some (.int r), 129, 17845, hp M') := by
  intro u0 u1 u2 u3 M r M' h
  unfold J58_54 at h
  refine pe_blk mm_58 1 (s' := (57, [u0, u1, u2, u3], [.int (-1000)], _, _, _)) rfl ?_
  cases h
  exact pe_ret mm_58 rfl rfl
def L58_36 (n : Nat) : Nat → Int32 → Int32 → Int32 → Mem → Option (Int32 × Mem)
  | 0, _, _, _, _ => none
  | k + 1, x1, x2, x3, M => if x1 ≤ x3 then (if (M.1 83 9) < 5 then (if (M.1 83 9) < 0 ∨ 6 ≤ (M.1 83 9 : Int32).toNatClampNeg then none else (mlet (m_i M 88 (M.1 83 9 : Int32).toNatClampNeg x2) (fun M11 => J58_119 n x1 M11))) else (some ((-1004), M))) else (match F34 n x3 M with | some (v21, M22) => (match F47 n M22 with | some (v24, M25) => (if v24 = 0 then (J58_58 n (L58_36 n k) x1 x2 x3 M25) else (J58_54 n M25)) | none => none) | none => none)
set_option maxRecDepth 100000 in
set_option maxHeartbeats 4000000 in
theorem L58_36_ev (sc : Option (Nat × (Nat → Int32))) (n : Nat)  (e : Nat) (he : 10 ≤ e) : ∀ k : Nat, ∀ (x1 : Int32) (x2 : Int32) (x3 : Int32) (M : Mem) (r : Int32) (M' : Mem), L58_36 n k x1 x2 x3 M = some (r, M') → pm_ev pmT sc e 58 false (36, [some (.ref 83), some (.int x1), some (.int x2), some (.int x3)], [], 129, 17845, hp M) (some (.int r), 129, 17845, hp M') := by
  intro k
  induction k with
  | zero => intro x1 x2 x3  M r M' h; cases h
  | succ k hr36 =>
    intro x1 x2 x3  M r M' h
    rw [L58_36] at h
    refine pe_blk mm_58 2 (s' := (38, [some (.ref 83), some (.int x1), some (.int x2), some (.int x3)], [.int x1, .int x3], _, _, _)) rfl ?_
    by_cases q8 : x1 ≤ x3
    · rw [if_pos q8] at h
      refine pe_blk mm_58 1 (s' := (if x1 ≤ x3 then 97 else 41, [some (.ref 83), some (.int x1), some (.int x2), some (.int x3)], [], _, _, _)) rfl ?_
      rw [if_pos q8]
      refine pe_blk mm_58 1 (s' := (98, [some (.ref 83), some (.int x1), some (.int x2), some (.int x3)], [.ref 83], _, _, _)) rfl ?_
      refine pe_get mm_58 rfl rfl rfl (by decide) rfl ?_
      refine pe_blk mm_58 1 (s' := (102, [some (.ref 83), some (.int x1), some (.int x2), some (.int x3)], [.int 5, .int (M.1 83 9)], _, _, _)) rfl ?_
      by_cases q9 : (M.1 83 9) < 5
      · rw [if_pos q9] at h
        refine pe_blk mm_58 1 (s' := (if (M.1 83 9) < 5 then 109 else 105, [some (.ref 83), some (.int x1), some (.int x2), some (.int x3)], [], _, _, _)) rfl ?_
        rw [if_pos q9]
        refine pe_blk mm_58 1 (s' := (110, [some (.ref 83), some (.int x1), some (.int x2), some (.int x3)], [.ref 83], _, _, _)) rfl ?_
        refine pe_get mm_58 rfl rfl rfl (by decide) rfl ?_
        refine pe_blk mm_58 1 (s' := (114, [some (.ref 83), some (.int x1), some (.int x2), some (.int x3)], [.ref 83, .ref 88], _, _, _)) rfl ?_
        refine pe_get mm_58 rfl rfl rfl (by decide) rfl ?_
        refine pe_blk mm_58 1 (s' := (118, [some (.ref 83), some (.int x1), some (.int x2), some (.int x3)], [.int x2, .int (M.1 83 9), .ref 88], _, _, _)) rfl ?_
        by_cases q10 : (M.1 83 9) < 0 ∨ 6 ≤ (M.1 83 9 : Int32).toNatClampNeg
        · rw [if_pos q10] at h
          cases h
        · rw [if_neg q10] at h
          refine pe_iasti mm_58 rfl rfl (by decide) q10 rfl ?_
          show pm_ev _ _ _ _ _ (119, [some (.ref 83), some (.int x1), some (.int x2), some (.int x3)], [], _, _, hp (m_i M 88 (M.1 83 9 : Int32).toNatClampNeg x2)) _
          generalize m_i M 88 (M.1 83 9 : Int32).toNatClampNeg x2 = M11 at h ⊢
          rw [mlet] at h
          exact J58_119_ev sc n e he x1 _ _ _ _ _ h
      · rw [if_neg q9] at h
        refine pe_blk mm_58 1 (s' := (if (M.1 83 9) < 5 then 109 else 105, [some (.ref 83), some (.int x1), some (.int x2), some (.int x3)], [], _, _, _)) rfl ?_
        rw [if_neg q9]
        refine pe_blk mm_58 1 (s' := (108, [some (.ref 83), some (.int x1), some (.int x2), some (.int x3)], [.int (-1004)], _, _, _)) rfl ?_
        cases h
        exact pe_ret mm_58 rfl rfl
    · rw [if_neg q8] at h
      refine pe_blk mm_58 1 (s' := (if x1 ≤ x3 then 97 else 41, [some (.ref 83), some (.int x1), some (.int x2), some (.int x3)], [], _, _, _)) rfl ?_
      rw [if_neg q8]
      refine pe_blk mm_58 2 (s' := (43, [some (.ref 83), some (.int x1), some (.int x2), some (.int x3)], [.int x3, .ref 83], _, _, _)) rfl ?_
      obtain ⟨e1, rfl⟩ : ∃ e1, e = e1 + 1 := ⟨e - 1, by omega⟩
      cases hc23 : F34 n x3 M with
      | none => rw [hc23] at h; cases h
      | some w =>
        obtain ⟨v21, M22⟩ := w
        rw [hc23] at h
        dsimp only at h
        refine pe_virt (al := [.int x3]) (a := 83) (L0 := [some (.ref 83), some (.int x3)]) (r1 := (some (.int v21), 129, 17845, hp M22)) mm_58 rfl rfl rfl mm_34 rfl (by decide) (by decide) rfl (Nat.le_of_ble_eq_true rfl) (Nat.le_of_ble_eq_true rfl) rfl rfl (F34_ev sc n x3 _ e1 (by omega) _ _ hc23) ?_
        show pm_ev _ _ _ _ _ (46, [some (.ref 83), some (.int x1), some (.int x2), some (.int x3)], [.int v21], _, _, _) _
        refine pe_blk mm_58 2 (s' := (48, [some (.ref 83), some (.int x1), some (.int x2), some (.int x3)], [.ref 83], _, _, _)) rfl ?_
        skip
        cases hc26 : F47 n M22 with
        | none => rw [hc26] at h; cases h
        | some w =>
          obtain ⟨v24, M25⟩ := w
          rw [hc26] at h
          dsimp only at h
          refine pe_virt (al := []) (a := 83) (L0 := [some (.ref 83), none, none]) (r1 := (some (.int v24), 129, 17845, hp M25)) mm_58 rfl rfl rfl mm_47 rfl (by decide) (by decide) rfl (Nat.le_of_ble_eq_true rfl) (Nat.le_of_ble_eq_true rfl) rfl rfl (F47_ev sc n _ e1 (by omega) _ _ hc26) ?_
          show pm_ev _ _ _ _ _ (51, [some (.ref 83), some (.int x1), some (.int x2), some (.int x3)], [.int v24], _, _, _) _
          by_cases q27 : v24 = 0
          · rw [if_pos q27] at h
            refine pe_blk mm_58 1 (s' := (if v24 = 0 then 58 else 54, [some (.ref 83), some (.int x1), some (.int x2), some (.int x3)], [], _, _, _)) rfl ?_
            rw [if_pos q27]
            exact J58_58_ev sc n (e1 + 1) he (L58_36 n k) hr36 x1 x2 x3 _ _ _ h
          · rw [if_neg q27] at h
            refine pe_blk mm_58 1 (s' := (if v24 = 0 then 58 else 54, [some (.ref 83), some (.int x1), some (.int x2), some (.int x3)], [], _, _, _)) rfl ?_
            rw [if_neg q27]
            exact J58_54_ev sc n (e1 + 1) he _ _ _ _ _ _ _ h
def J58_20 (n : Nat) (M : Mem) : Option (Int32 × Mem) :=
  L58_36 n n (M.1 89 5) (M.1 88 5) 0 M
set_option maxRecDepth 100000 in
set_option maxHeartbeats 4000000 in
theorem J58_20_ev (sc : Option (Nat × (Nat → Int32))) (n : Nat)  (e : Nat) (he : 10 ≤ e) : ∀ (u1 : Option Value) (u2 : Option Value) (u3 : Option Value) (M : Mem) (r : Int32) (M' : Mem), J58_20 n  M = some (r, M') → pm_ev pmT sc e 58 false (20, [some (.ref 83), u1, u2, u3], [], 129, 17845, hp M) (some (.int r), 129, 17845, hp M') := by
  intro u1 u2 u3 M r M' h
  unfold J58_20 at h
  refine pe_blk mm_58 1 (s' := (21, [some (.ref 83), u1, u2, u3], [.ref 83], _, _, _)) rfl ?_
  refine pe_get mm_58 rfl rfl rfl (by decide) rfl ?_
  refine pe_blk mm_58 1 (s' := (25, [some (.ref 83), u1, u2, u3], [.int 5, .ref 89], _, _, _)) rfl ?_
  refine pe_iald (f := M.1 89) mm_58 rfl rfl (by decide) (by decide) ?_
  show pm_ev _ _ _ _ _ (26, [some (.ref 83), u1, u2, u3], [.int (M.1 89 5)], _, _, hp (M)) _
  refine pe_blk mm_58 2 (s' := (28, [some (.ref 83), some (.int (M.1 89 5)), u2, u3], [.ref 83], _, _, _)) rfl ?_
  refine pe_get mm_58 rfl rfl rfl (by decide) rfl ?_
  refine pe_blk mm_58 1 (s' := (32, [some (.ref 83), some (.int (M.1 89 5)), u2, u3], [.int 5, .ref 88], _, _, _)) rfl ?_
  refine pe_iald (f := M.1 88) mm_58 rfl rfl (by decide) (by decide) ?_
  show pm_ev _ _ _ _ _ (33, [some (.ref 83), some (.int (M.1 89 5)), u2, u3], [.int (M.1 88 5)], _, _, hp (M)) _
  refine pe_blk mm_58 3 (s' := (36, [some (.ref 83), some (.int (M.1 89 5)), some (.int (M.1 88 5)), some (.int 0)], [], _, _, _)) rfl ?_
  exact L58_36_ev sc n e he n (M.1 89 5) (M.1 88 5) 0 _ _ _ h
/-- ArmExpanderModel.define -/
def F58 (n : Nat) (M : Mem) : Option (Int32 × Mem) :=
  match F32 n M with | some (v1, M2) => (match F45 n 5 (-1) M2 with | some (v4, M5) => (if v4 = 0 then (J58_13 n M5) else (J58_20 n M5)) | none => none) | none => none
set_option maxRecDepth 100000 in
set_option maxHeartbeats 4000000 in
theorem F58_ev (sc : Option (Nat × (Nat → Int32))) (n : Nat)  (M : Mem) (e : Nat) (he : 10 ≤ e) (r : Int32) (M' : Mem) (h : F58 n M = some (r, M')) : pm_ev pmT sc e 58 false (0, [some (.ref 83), none, none, none], [], 129, 17845, hp M) (some (.int r), 129, 17845, hp M') := by
  unfold F58 at h
  refine pe_blk mm_58 1 (s' := (1, [some (.ref 83), none, none, none], [.ref 83], _, _, _)) rfl ?_
  obtain ⟨e1, rfl⟩ : ∃ e1, e = e1 + 1 := ⟨e - 1, by omega⟩
  cases hc3 : F32 n M with
  | none => rw [hc3] at h; cases h
  | some w =>
    obtain ⟨v1, M2⟩ := w
    rw [hc3] at h
    dsimp only at h
    refine pe_virt (al := []) (a := 83) (L0 := [some (.ref 83), none]) (r1 := (none, 129, 17845, hp M2)) mm_58 rfl rfl rfl mm_32 rfl (by decide) (by decide) rfl (Nat.le_of_ble_eq_true rfl) (Nat.le_of_ble_eq_true rfl) rfl rfl (F32_ev sc n _ e1 (by omega) _ _ hc3) ?_
    show pm_ev _ _ _ _ _ (4, [some (.ref 83), none, none, none], [], _, _, _) _
    refine pe_blk mm_58 3 (s' := (7, [some (.ref 83), none, none, none], [.int (-1), .int 5, .ref 83], _, _, _)) rfl ?_
    skip
    cases hc6 : F45 n 5 (-1) M2 with
    | none => rw [hc6] at h; cases h
    | some w =>
      obtain ⟨v4, M5⟩ := w
      rw [hc6] at h
      dsimp only at h
      refine pe_virt (al := [.int (-1), .int 5]) (a := 83) (L0 := [some (.ref 83), some (.int 5), some (.int (-1)), none]) (r1 := (some (.int v4), 129, 17845, hp M5)) mm_58 rfl rfl rfl mm_45 rfl (by decide) (by decide) rfl (Nat.le_of_ble_eq_true rfl) (Nat.le_of_ble_eq_true rfl) rfl rfl (F45_ev sc n 5 (-1) _ e1 (by omega) _ _ hc6) ?_
      show pm_ev _ _ _ _ _ (10, [some (.ref 83), none, none, none], [.int v4], _, _, _) _
      by_cases q7 : v4 = 0
      · rw [if_pos q7] at h
        refine pe_blk mm_58 1 (s' := (if v4 = 0 then 13 else 20, [some (.ref 83), none, none, none], [], _, _, _)) rfl ?_
        rw [if_pos q7]
        exact J58_13_ev sc n (e1 + 1) he _ _ _ _ _ _ h
      · rw [if_neg q7] at h
        refine pe_blk mm_58 1 (s' := (if v4 = 0 then 13 else 20, [some (.ref 83), none, none, none], [], _, _, _)) rfl ?_
        rw [if_neg q7]
        exact J58_20_ev sc n (e1 + 1) he _ _ _ _ _ _ h
def J92_43 (n : Nat) (g0 : Nat) (rec12 : Int32 → Int32 → Int32 → Mem → Option (Int32 × Mem)) (x1 : Int32) (x2 : Int32) (x3 : Int32) (M : Mem) : Option (Int32 × Mem) :=
  rec12 x1 x2 (x3 + 1) M
set_option maxRecDepth 100000 in
set_option maxHeartbeats 4000000 in
theorem J92_43_ev (sc : Option (Nat × (Nat → Int32))) (n : Nat) (g0 : Nat) (hg0 : isD g0) (e : Nat) (he : 2 ≤ e) (rec12 : Int32 → Int32 → Int32 → Mem → Option (Int32 × Mem)) (hr12 : ∀ (x1 : Int32) (x2 : Int32) (x3 : Int32) (M : Mem) (r : Int32) (M' : Mem), rec12 x1 x2 x3 M = some (r, M') → pm_ev pmT sc e 92 false (12, [some (.ref g0), some (.int x1), some (.int x2), some (.int x3)], [], 129, 17845, hp M) (some (.int r), 129, 17845, hp M')) : ∀ (x1 : Int32) (x2 : Int32) (x3 : Int32) (M : Mem) (r : Int32) (M' : Mem), J92_43 n g0 rec12 x1 x2 x3 M = some (r, M') → pm_ev pmT sc e 92 false (43, [some (.ref g0), some (.int x1), some (.int x2), some (.int x3)], [], 129, 17845, hp M) (some (.int r), 129, 17845, hp M') := by
  intro x1 x2 x3  M r M' h
  unfold J92_43 at h
  refine pe_blk mm_92 2 (s' := (12, [some (.ref g0), some (.int x1), some (.int x2), some (.int (x3 + 1))], [], _, _, _)) rfl ?_
  exact hr12 x1 x2 (x3 + 1) _ _ _ h
def J92_41 (n : Nat) (g0 : Nat) (M : Mem) : Option (Int32 × Mem) :=
  some (1, M)
set_option maxRecDepth 100000 in
set_option maxHeartbeats 4000000 in
theorem J92_41_ev (sc : Option (Nat × (Nat → Int32))) (n : Nat) (g0 : Nat) (hg0 : isD g0) (e : Nat) (he : 2 ≤ e) : ∀ (u0 : Option Value) (u1 : Option Value) (u2 : Option Value) (u3 : Option Value) (M : Mem) (r : Int32) (M' : Mem), J92_41 n g0  M = some (r, M') → pm_ev pmT sc e 92 false (41, [u0, u1, u2, u3], [], 129, 17845, hp M) (some (.int r), 129, 17845, hp M') := by
  intro u0 u1 u2 u3 M r M' h
  unfold J92_41 at h
  refine pe_blk mm_92 1 (s' := (42, [u0, u1, u2, u3], [.int 1], _, _, _)) rfl ?_
  cases h
  exact pe_ret mm_92 rfl rfl
def L92_12 (n : Nat) (g0 : Nat) : Nat → Int32 → Int32 → Int32 → Mem → Option (Int32 × Mem)
  | 0, _, _, _, _ => none
  | k + 1, x1, x2, x3, M => if x2 ≤ x3 then (some (0, M)) else (match F115 n g0 x3 M with | some (v8, M9) => (if v8 = 0 then (J92_43 n g0 (L92_12 n g0 k) x1 x2 x3 M9) else (match F109 n g0 (x3 + 1) M9 with | some (v12, M13) => (match F125 n g0 x1 v12 M13 with | some (v15, M16) => (if v15 = x3 then (J92_43 n g0 (L92_12 n g0 k) x1 x2 x3 M16) else (J92_41 n g0 M16)) | none => none) | none => none)) | none => none)
set_option maxRecDepth 100000 in
set_option maxHeartbeats 4000000 in
theorem L92_12_ev (sc : Option (Nat × (Nat → Int32))) (n : Nat) (g0 : Nat) (hg0 : isD g0) (e : Nat) (he : 2 ≤ e) : ∀ k : Nat, ∀ (x1 : Int32) (x2 : Int32) (x3 : Int32) (M : Mem) (r : Int32) (M' : Mem), L92_12 n g0 k x1 x2 x3 M = some (r, M') → pm_ev pmT sc e 92 false (12, [some (.ref g0), some (.int x1), some (.int x2), some (.int x3)], [], 129, 17845, hp M) (some (.int r), 129, 17845, hp M') := by
  intro k
  induction k with
  | zero => intro x1 x2 x3  M r M' h; cases h
  | succ k hr12 =>
    intro x1 x2 x3  M r M' h
    rw [L92_12] at h
    refine pe_blk mm_92 2 (s' := (14, [some (.ref g0), some (.int x1), some (.int x2), some (.int x3)], [.int x2, .int x3], _, _, _)) rfl ?_
    by_cases q7 : x2 ≤ x3
    · rw [if_pos q7] at h
      refine pe_blk mm_92 1 (s' := (if x2 ≤ x3 then 49 else 17, [some (.ref g0), some (.int x1), some (.int x2), some (.int x3)], [], _, _, _)) rfl ?_
      rw [if_pos q7]
      refine pe_blk mm_92 1 (s' := (50, [some (.ref g0), some (.int x1), some (.int x2), some (.int x3)], [.int 0], _, _, _)) rfl ?_
      cases h
      exact pe_ret mm_92 rfl rfl
    · rw [if_neg q7] at h
      refine pe_blk mm_92 1 (s' := (if x2 ≤ x3 then 49 else 17, [some (.ref g0), some (.int x1), some (.int x2), some (.int x3)], [], _, _, _)) rfl ?_
      rw [if_neg q7]
      refine pe_blk mm_92 2 (s' := (19, [some (.ref g0), some (.int x1), some (.int x2), some (.int x3)], [.int x3, .ref g0], _, _, _)) rfl ?_
      obtain ⟨e1, rfl⟩ : ∃ e1, e = e1 + 1 := ⟨e - 1, by omega⟩
      cases hc10 : F115 n g0 x3 M with
      | none => rw [hc10] at h; cases h
      | some w =>
        obtain ⟨v8, M9⟩ := w
        rw [hc10] at h
        dsimp only at h
        refine pe_virt (al := [.int x3]) (a := g0) (L0 := [some (.ref g0), some (.int x3)]) (r1 := (some (.int v8), 129, 17845, hp M9)) mm_92 rfl rfl rfl mm_115 (isD_0 hg0 _) (by have := isD_lt hg0; omega) (by decide) rfl (Nat.le_of_ble_eq_true rfl) (Nat.le_of_ble_eq_true rfl) rfl rfl (F115_ev sc n g0 x3 hg0 _ e1 (by omega) _ _ hc10) ?_
        show pm_ev _ _ _ _ _ (22, [some (.ref g0), some (.int x1), some (.int x2), some (.int x3)], [.int v8], _, _, _) _
        by_cases q11 : v8 = 0
        · rw [if_pos q11] at h
          refine pe_blk mm_92 1 (s' := (if v8 = 0 then 43 else 25, [some (.ref g0), some (.int x1), some (.int x2), some (.int x3)], [], _, _, _)) rfl ?_
          rw [if_pos q11]
          exact J92_43_ev sc n g0 hg0 (e1 + 1) he (L92_12 n g0 k) hr12 x1 x2 x3 _ _ _ h
        · rw [if_neg q11] at h
          refine pe_blk mm_92 1 (s' := (if v8 = 0 then 43 else 25, [some (.ref g0), some (.int x1), some (.int x2), some (.int x3)], [], _, _, _)) rfl ?_
          rw [if_neg q11]
          refine pe_blk mm_92 6 (s' := (31, [some (.ref g0), some (.int x1), some (.int x2), some (.int x3)], [.int (x3 + 1), .ref g0, .int x1, .ref g0], _, _, _)) rfl ?_
          skip
          cases hc14 : F109 n g0 (x3 + 1) M9 with
          | none => rw [hc14] at h; cases h
          | some w =>
            obtain ⟨v12, M13⟩ := w
            rw [hc14] at h
            dsimp only at h
            refine pe_virt (al := [.int (x3 + 1)]) (a := g0) (L0 := [some (.ref g0), some (.int (x3 + 1))]) (r1 := (some (.int v12), 129, 17845, hp M13)) mm_92 rfl rfl rfl mm_109 (isD_0 hg0 _) (by have := isD_lt hg0; omega) (by decide) rfl (Nat.le_of_ble_eq_true rfl) (Nat.le_of_ble_eq_true rfl) rfl rfl (F109_ev sc n g0 (x3 + 1) hg0 _ e1 (by omega) _ _ hc14) ?_
            show pm_ev _ _ _ _ _ (34, [some (.ref g0), some (.int x1), some (.int x2), some (.int x3)], [.int v12, .int x1, .ref g0], _, _, _) _
            skip
            cases hc17 : F125 n g0 x1 v12 M13 with
            | none => rw [hc17] at h; cases h
            | some w =>
              obtain ⟨v15, M16⟩ := w
              rw [hc17] at h
              dsimp only at h
              refine pe_virt (al := [.int v12, .int x1]) (a := g0) (L0 := [some (.ref g0), some (.int x1), some (.int v12), none, none]) (r1 := (some (.int v15), 129, 17845, hp M16)) mm_92 rfl rfl rfl mm_125 (isD_0 hg0 _) (by have := isD_lt hg0; omega) (by decide) rfl (Nat.le_of_ble_eq_true rfl) (Nat.le_of_ble_eq_true rfl) rfl rfl (F125_ev sc n g0 x1 v12 hg0 _ e1 (by omega) _ _ hc17) ?_
              show pm_ev _ _ _ _ _ (37, [some (.ref g0), some (.int x1), some (.int x2), some (.int x3)], [.int v15], _, _, _) _
              refine pe_blk mm_92 1 (s' := (38, [some (.ref g0), some (.int x1), some (.int x2), some (.int x3)], [.int x3, .int v15], _, _, _)) rfl ?_
              by_cases q18 : v15 = x3
              · rw [if_pos q18] at h
                refine pe_blk mm_92 1 (s' := (if v15 = x3 then 43 else 41, [some (.ref g0), some (.int x1), some (.int x2), some (.int x3)], [], _, _, _)) rfl ?_
                rw [if_pos q18]
                exact J92_43_ev sc n g0 hg0 (e1 + 1) he (L92_12 n g0 k) hr12 x1 x2 x3 _ _ _ h
              · rw [if_neg q18] at h
                refine pe_blk mm_92 1 (s' := (if v15 = x3 then 43 else 41, [some (.ref g0), some (.int x1), some (.int x2), some (.int x3)], [], _, _, _)) rfl ?_
                rw [if_neg q18]
                exact J92_41_ev sc n g0 hg0 (e1 + 1) he _ _ _ _ _ _ _ h
/-- ArmExpander$Checker.hasWordTwice -/
def F92 (n : Nat) (g0 : Nat) (a1 : Int32) (M : Mem) : Option (Int32 × Mem) :=
  match F112 n g0 a1 M with | some (v1, M2) => (match F111 n g0 a1 M2 with | some (v4, M5) => (L92_12 n g0 n a1 v1 v4 M5) | none => none) | none => none
set_option maxRecDepth 100000 in
set_option maxHeartbeats 4000000 in
theorem F92_ev (sc : Option (Nat × (Nat → Int32))) (n : Nat) (g0 : Nat) (a1 : Int32) (hg0 : isD g0) (M : Mem) (e : Nat) (he : 2 ≤ e) (r : Int32) (M' : Mem) (h : F92 n g0 a1 M = some (r, M')) : pm_ev pmT sc e 92 false (0, [some (.ref g0), some (.int a1), none, none], [], 129, 17845, hp M) (some (.int r), 129, 17845, hp M') := by
  unfold F92 at h
  refine pe_blk mm_92 2 (s' := (2, [some (.ref g0), some (.int a1), none, none], [.int a1, .ref g0], _, _, _)) rfl ?_
  obtain ⟨e1, rfl⟩ : ∃ e1, e = e1 + 1 := ⟨e - 1, by omega⟩
  cases hc3 : F112 n g0 a1 M with
  | none => rw [hc3] at h; cases h
  | some w =>
    obtain ⟨v1, M2⟩ := w
    rw [hc3] at h
    dsimp only at h
    refine pe_virt (al := [.int a1]) (a := g0) (L0 := [some (.ref g0), some (.int a1)]) (r1 := (some (.int v1), 129, 17845, hp M2)) mm_92 rfl rfl rfl mm_112 (isD_0 hg0 _) (by have := isD_lt hg0; omega) (by decide) rfl (Nat.le_of_ble_eq_true rfl) (Nat.le_of_ble_eq_true rfl) rfl rfl (F112_ev sc n g0 a1 hg0 _ e1 (by omega) _ _ hc3) ?_
    show pm_ev _ _ _ _ _ (5, [some (.ref g0), some (.int a1), none, none], [.int v1], _, _, _) _
    refine pe_blk mm_92 3 (s' := (8, [some (.ref g0), some (.int a1), some (.int v1), none], [.int a1, .ref g0], _, _, _)) rfl ?_
    skip
    cases hc6 : F111 n g0 a1 M2 with
    | none => rw [hc6] at h; cases h
    | some w =>
      obtain ⟨v4, M5⟩ := w
      rw [hc6] at h
      dsimp only at h
      refine pe_virt (al := [.int a1]) (a := g0) (L0 := [some (.ref g0), some (.int a1)]) (r1 := (some (.int v4), 129, 17845, hp M5)) mm_92 rfl rfl rfl mm_111 (isD_0 hg0 _) (by have := isD_lt hg0; omega) (by decide) rfl (Nat.le_of_ble_eq_true rfl) (Nat.le_of_ble_eq_true rfl) rfl rfl (F111_ev sc n g0 a1 hg0 _ e1 (by omega) _ _ hc6) ?_
      show pm_ev _ _ _ _ _ (11, [some (.ref g0), some (.int a1), some (.int v1), none], [.int v4], _, _, _) _
      refine pe_blk mm_92 1 (s' := (12, [some (.ref g0), some (.int a1), some (.int v1), some (.int v4)], [], _, _, _)) rfl ?_
      exact L92_12_ev sc n g0 hg0 (e1 + 1) he n a1 v1 v4 _ _ _ h
def J94_58 (n : Nat) (g0 : Nat) (M : Mem) : Option (Int32 × Mem) :=
  some (1, M)
set_option maxRecDepth 100000 in
set_option maxHeartbeats 4000000 in
theorem J94_58_ev (sc : Option (Nat × (Nat → Int32))) (n : Nat) (g0 : Nat) (hg0 : isD g0) (e : Nat) (he : 2 ≤ e) : ∀ (u0 : Option Value) (u1 : Option Value) (u2 : Option Value) (u3 : Option Value) (u4 : Option Value) (M : Mem) (r : Int32) (M' : Mem), J94_58 n g0  M = some (r, M') → pm_ev pmT sc e 94 false (58, [u0, u1, u2, u3, u4], [], 129, 17845, hp M) (some (.int r), 129, 17845, hp M') := by
  intro u0 u1 u2 u3 u4 M r M' h
  unfold J94_58 at h
  refine pe_blk mm_94 1 (s' := (59, [u0, u1, u2, u3, u4], [.int 1], _, _, _)) rfl ?_
  cases h
  exact pe_ret mm_94 rfl rfl
def J94_44 (n : Nat) (g0 : Nat) (M : Mem) : Option (Int32 × Mem) :=
  some (0, M)
set_option maxRecDepth 100000 in
set_option maxHeartbeats 4000000 in
theorem J94_44_ev (sc : Option (Nat × (Nat → Int32))) (n : Nat) (g0 : Nat) (hg0 : isD g0) (e : Nat) (he : 2 ≤ e) : ∀ (u0 : Option Value) (u1 : Option Value) (u2 : Option Value) (u3 : Option Value) (u4 : Option Value) (M : Mem) (r : Int32) (M' : Mem), J94_44 n g0  M = some (r, M') → pm_ev pmT sc e 94 false (44, [u0, u1, u2, u3, u4], [], 129, 17845, hp M) (some (.int r), 129, 17845, hp M') := by
  intro u0 u1 u2 u3 u4 M r M' h
  unfold J94_44 at h
  refine pe_blk mm_94 1 (s' := (45, [u0, u1, u2, u3, u4], [.int 0], _, _, _)) rfl ?_
  cases h
  exact pe_ret mm_94 rfl rfl
def J94_52 (n : Nat) (g0 : Nat) (rec15 : Int32 → Int32 → Int32 → Mem → Option (Int32 × Mem)) (x2 : Int32) (x3 : Int32) (x4 : Int32) (M : Mem) : Option (Int32 × Mem) :=
  rec15 x2 x3 (x4 + 1) M
set_option maxRecDepth 100000 in
set_option maxHeartbeats 4000000 in
theorem J94_52_ev (sc : Option (Nat × (Nat → Int32))) (n : Nat) (g0 : Nat) (hg0 : isD g0) (e : Nat) (he : 2 ≤ e) (rec15 : Int32 → Int32 → Int32 → Mem → Option (Int32 × Mem)) (hr15 : ∀ (x2 : Int32) (x3 : Int32) (x4 : Int32) (u1 : Option Value) (M : Mem) (r : Int32) (M' : Mem), rec15 x2 x3 x4 M = some (r, M') → pm_ev pmT sc e 94 false (15, [some (.ref g0), u1, some (.int x2), some (.int x3), some (.int x4)], [], 129, 17845, hp M) (some (.int r), 129, 17845, hp M')) : ∀ (x2 : Int32) (x3 : Int32) (x4 : Int32) (u1 : Option Value) (M : Mem) (r : Int32) (M' : Mem), J94_52 n g0 rec15 x2 x3 x4 M = some (r, M') → pm_ev pmT sc e 94 false (52, [some (.ref g0), u1, some (.int x2), some (.int x3), some (.int x4)], [], 129, 17845, hp M) (some (.int r), 129, 17845, hp M') := by
  intro x2 x3 x4 u1 M r M' h
  unfold J94_52 at h
  refine pe_blk mm_94 2 (s' := (15, [some (.ref g0), u1, some (.int x2), some (.int x3), some (.int (x4 + 1))], [], _, _, _)) rfl ?_
  exact hr15 x2 x3 (x4 + 1) _ _ _ _ h
def J94_34 (n : Nat) (g0 : Nat) (rec15 : Int32 → Int32 → Int32 → Mem → Option (Int32 × Mem)) (x2 : Int32) (x3 : Int32) (x4 : Int32) (M : Mem) : Option (Int32 × Mem) :=
  match F118 n g0 x3 M with | some (v10, M11) => (if v10 = 43 then (J94_44 n g0 M11) else (match F119 n g0 x3 M11 with | some (v14, M15) => (J94_52 n g0 rec15 x2 v14 x4 M15) | none => none)) | none => none
set_option maxRecDepth 100000 in
set_option maxHeartbeats 4000000 in
theorem J94_34_ev (sc : Option (Nat × (Nat → Int32))) (n : Nat) (g0 : Nat) (hg0 : isD g0) (e : Nat) (he : 2 ≤ e) (rec15 : Int32 → Int32 → Int32 → Mem → Option (Int32 × Mem)) (hr15 : ∀ (x2 : Int32) (x3 : Int32) (x4 : Int32) (u1 : Option Value) (M : Mem) (r : Int32) (M' : Mem), rec15 x2 x3 x4 M = some (r, M') → pm_ev pmT sc e 94 false (15, [some (.ref g0), u1, some (.int x2), some (.int x3), some (.int x4)], [], 129, 17845, hp M) (some (.int r), 129, 17845, hp M')) : ∀ (x2 : Int32) (x3 : Int32) (x4 : Int32) (u1 : Option Value) (M : Mem) (r : Int32) (M' : Mem), J94_34 n g0 rec15 x2 x3 x4 M = some (r, M') → pm_ev pmT sc e 94 false (34, [some (.ref g0), u1, some (.int x2), some (.int x3), some (.int x4)], [], 129, 17845, hp M) (some (.int r), 129, 17845, hp M') := by
  intro x2 x3 x4 u1 M r M' h
  unfold J94_34 at h
  refine pe_blk mm_94 2 (s' := (36, [some (.ref g0), u1, some (.int x2), some (.int x3), some (.int x4)], [.int x3, .ref g0], _, _, _)) rfl ?_
  obtain ⟨e1, rfl⟩ : ∃ e1, e = e1 + 1 := ⟨e - 1, by omega⟩
  cases hc12 : F118 n g0 x3 M with
  | none => rw [hc12] at h; cases h
  | some w =>
    obtain ⟨v10, M11⟩ := w
    rw [hc12] at h
    dsimp only at h
    refine pe_virt (al := [.int x3]) (a := g0) (L0 := [some (.ref g0), some (.int x3)]) (r1 := (some (.int v10), 129, 17845, hp M11)) mm_94 rfl rfl rfl mm_118 (isD_0 hg0 _) (by have := isD_lt hg0; omega) (by decide) rfl (Nat.le_of_ble_eq_true rfl) (Nat.le_of_ble_eq_true rfl) rfl rfl (F118_ev sc n g0 x3 hg0 _ e1 (by omega) _ _ hc12) ?_
    show pm_ev _ _ _ _ _ (39, [some (.ref g0), u1, some (.int x2), some (.int x3), some (.int x4)], [.int v10], _, _, _) _
    refine pe_blk mm_94 1 (s' := (41, [some (.ref g0), u1, some (.int x2), some (.int x3), some (.int x4)], [.int 43, .int v10], _, _, _)) rfl ?_
    by_cases q13 : v10 = 43
    · rw [if_pos q13] at h
      refine pe_blk mm_94 1 (s' := (if v10 = 43 then 44 else 46, [some (.ref g0), u1, some (.int x2), some (.int x3), some (.int x4)], [], _, _, _)) rfl ?_
      rw [if_pos q13]
      exact J94_44_ev sc n g0 hg0 (e1 + 1) he _ _ _ _ _ _ _ _ h
    · rw [if_neg q13] at h
      refine pe_blk mm_94 1 (s' := (if v10 = 43 then 44 else 46, [some (.ref g0), u1, some (.int x2), some (.int x3), some (.int x4)], [], _, _, _)) rfl ?_
      rw [if_neg q13]
      refine pe_blk mm_94 2 (s' := (48, [some (.ref g0), u1, some (.int x2), some (.int x3), some (.int x4)], [.int x3, .ref g0], _, _, _)) rfl ?_
      skip
      cases hc16 : F119 n g0 x3 M11 with
      | none => rw [hc16] at h; cases h
      | some w =>
        obtain ⟨v14, M15⟩ := w
        rw [hc16] at h
        dsimp only at h
        refine pe_virt (al := [.int x3]) (a := g0) (L0 := [some (.ref g0), some (.int x3)]) (r1 := (some (.int v14), 129, 17845, hp M15)) mm_94 rfl rfl rfl mm_119 (isD_0 hg0 _) (by have := isD_lt hg0; omega) (by decide) rfl (Nat.le_of_ble_eq_true rfl) (Nat.le_of_ble_eq_true rfl) rfl rfl (F119_ev sc n g0 x3 hg0 _ e1 (by omega) _ _ hc16) ?_
        show pm_ev _ _ _ _ _ (51, [some (.ref g0), u1, some (.int x2), some (.int x3), some (.int x4)], [.int v14], _, _, _) _
        refine pe_blk mm_94 1 (s' := (52, [some (.ref g0), u1, some (.int x2), some (.int v14), some (.int x4)], [], _, _, _)) rfl ?_
        exact J94_52_ev sc n g0 hg0 (e1 + 1) he rec15 hr15 x2 v14 x4 _ _ _ _ h
def L94_15 (n : Nat) (g0 : Nat) : Nat → Int32 → Int32 → Int32 → Mem → Option (Int32 × Mem)
  | 0, _, _, _, _ => none
  | k + 1, x2, x3, x4, M => if 4 ≤ x4 then (J94_58 n g0 M) else (if x2 ≤ x3 then (J94_58 n g0 M) else (match F116 n g0 x3 M with | some (v6, M7) => (if v6 = 0 then (J94_44 n g0 M7) else (J94_34 n g0 (L94_15 n g0 k) x2 x3 x4 M7)) | none => none))
set_option maxRecDepth 100000 in
set_option maxHeartbeats 4000000 in
theorem L94_15_ev (sc : Option (Nat × (Nat → Int32))) (n : Nat) (g0 : Nat) (hg0 : isD g0) (e : Nat) (he : 2 ≤ e) : ∀ k : Nat, ∀ (x2 : Int32) (x3 : Int32) (x4 : Int32) (u1 : Option Value) (M : Mem) (r : Int32) (M' : Mem), L94_15 n g0 k x2 x3 x4 M = some (r, M') → pm_ev pmT sc e 94 false (15, [some (.ref g0), u1, some (.int x2), some (.int x3), some (.int x4)], [], 129, 17845, hp M) (some (.int r), 129, 17845, hp M') := by
  intro k
  induction k with
  | zero => intro x2 x3 x4 u1 M r M' h; cases h
  | succ k hr15 =>
    intro x2 x3 x4 u1 M r M' h
    rw [L94_15] at h
    refine pe_blk mm_94 2 (s' := (18, [some (.ref g0), u1, some (.int x2), some (.int x3), some (.int x4)], [.int 4, .int x4], _, _, _)) rfl ?_
    by_cases q4 : 4 ≤ x4
    · rw [if_pos q4] at h
      refine pe_blk mm_94 1 (s' := (if 4 ≤ x4 then 58 else 21, [some (.ref g0), u1, some (.int x2), some (.int x3), some (.int x4)], [], _, _, _)) rfl ?_
      rw [if_pos q4]
      exact J94_58_ev sc n g0 hg0 e he _ _ _ _ _ _ _ _ h
    · rw [if_neg q4] at h
      refine pe_blk mm_94 1 (s' := (if 4 ≤ x4 then 58 else 21, [some (.ref g0), u1, some (.int x2), some (.int x3), some (.int x4)], [], _, _, _)) rfl ?_
      rw [if_neg q4]
      refine pe_blk mm_94 2 (s' := (23, [some (.ref g0), u1, some (.int x2), some (.int x3), some (.int x4)], [.int x2, .int x3], _, _, _)) rfl ?_
      by_cases q5 : x2 ≤ x3
      · rw [if_pos q5] at h
        refine pe_blk mm_94 1 (s' := (if x2 ≤ x3 then 58 else 26, [some (.ref g0), u1, some (.int x2), some (.int x3), some (.int x4)], [], _, _, _)) rfl ?_
        rw [if_pos q5]
        exact J94_58_ev sc n g0 hg0 e he _ _ _ _ _ _ _ _ h
      · rw [if_neg q5] at h
        refine pe_blk mm_94 1 (s' := (if x2 ≤ x3 then 58 else 26, [some (.ref g0), u1, some (.int x2), some (.int x3), some (.int x4)], [], _, _, _)) rfl ?_
        rw [if_neg q5]
        refine pe_blk mm_94 2 (s' := (28, [some (.ref g0), u1, some (.int x2), some (.int x3), some (.int x4)], [.int x3, .ref g0], _, _, _)) rfl ?_
        obtain ⟨e1, rfl⟩ : ∃ e1, e = e1 + 1 := ⟨e - 1, by omega⟩
        cases hc8 : F116 n g0 x3 M with
        | none => rw [hc8] at h; cases h
        | some w =>
          obtain ⟨v6, M7⟩ := w
          rw [hc8] at h
          dsimp only at h
          refine pe_virt (al := [.int x3]) (a := g0) (L0 := [some (.ref g0), some (.int x3)]) (r1 := (some (.int v6), 129, 17845, hp M7)) mm_94 rfl rfl rfl mm_116 (isD_0 hg0 _) (by have := isD_lt hg0; omega) (by decide) rfl (Nat.le_of_ble_eq_true rfl) (Nat.le_of_ble_eq_true rfl) rfl rfl (F116_ev sc n g0 x3 hg0 _ e1 (by omega) _ _ hc8) ?_
          show pm_ev _ _ _ _ _ (31, [some (.ref g0), u1, some (.int x2), some (.int x3), some (.int x4)], [.int v6], _, _, _) _
          by_cases q9 : v6 = 0
          · rw [if_pos q9] at h
            refine pe_blk mm_94 1 (s' := (if v6 = 0 then 44 else 34, [some (.ref g0), u1, some (.int x2), some (.int x3), some (.int x4)], [], _, _, _)) rfl ?_
            rw [if_pos q9]
            exact J94_44_ev sc n g0 hg0 (e1 + 1) he _ _ _ _ _ _ _ _ h
          · rw [if_neg q9] at h
            refine pe_blk mm_94 1 (s' := (if v6 = 0 then 44 else 34, [some (.ref g0), u1, some (.int x2), some (.int x3), some (.int x4)], [], _, _, _)) rfl ?_
            rw [if_neg q9]
            exact J94_34_ev sc n g0 hg0 (e1 + 1) he (L94_15 n g0 k) hr15 x2 x3 x4 _ _ _ _ h
/-- ArmExpander$Checker.canMatchNothing -/
def F94 (n : Nat) (g0 : Nat) (a1 : Int32) (M : Mem) : Option (Int32 × Mem) :=
  match F110 n g0 (a1 + 1) M with | some (v1, M2) => (L94_15 n g0 n v1 (a1 + 2) 0 M2) | none => none
set_option maxRecDepth 100000 in
set_option maxHeartbeats 4000000 in
theorem F94_ev (sc : Option (Nat × (Nat → Int32))) (n : Nat) (g0 : Nat) (a1 : Int32) (hg0 : isD g0) (M : Mem) (e : Nat) (he : 2 ≤ e) (r : Int32) (M' : Mem) (h : F94 n g0 a1 M = some (r, M')) : pm_ev pmT sc e 94 false (0, [some (.ref g0), some (.int a1), none, none, none], [], 129, 17845, hp M) (some (.int r), 129, 17845, hp M') := by
  unfold F94 at h
  refine pe_blk mm_94 4 (s' := (4, [some (.ref g0), some (.int a1), none, none, none], [.int (a1 + 1), .ref g0], _, _, _)) rfl ?_
  obtain ⟨e1, rfl⟩ : ∃ e1, e = e1 + 1 := ⟨e - 1, by omega⟩
  cases hc3 : F110 n g0 (a1 + 1) M with
  | none => rw [hc3] at h; cases h
  | some w =>
    obtain ⟨v1, M2⟩ := w
    rw [hc3] at h
    dsimp only at h
    refine pe_virt (al := [.int (a1 + 1)]) (a := g0) (L0 := [some (.ref g0), some (.int (a1 + 1))]) (r1 := (some (.int v1), 129, 17845, hp M2)) mm_94 rfl rfl rfl mm_110 (isD_0 hg0 _) (by have := isD_lt hg0; omega) (by decide) rfl (Nat.le_of_ble_eq_true rfl) (Nat.le_of_ble_eq_true rfl) rfl rfl (F110_ev sc n g0 (a1 + 1) hg0 _ e1 (by omega) _ _ hc3) ?_
    show pm_ev _ _ _ _ _ (7, [some (.ref g0), some (.int a1), none, none, none], [.int v1], _, _, _) _
    refine pe_blk mm_94 7 (s' := (15, [some (.ref g0), some (.int a1), some (.int v1), some (.int (a1 + 2)), some (.int 0)], [], _, _, _)) rfl ?_
    exact L94_15_ev sc n g0 hg0 (e1 + 1) he n v1 (a1 + 2) 0 _ _ _ _ h
def J97_61 (n : Nat) (g0 : Nat) (rec12 : Int32 → Int32 → Int32 → Mem → Option (Int32 × Mem)) (x1 : Int32) (x2 : Int32) (x3 : Int32) (M : Mem) : Option (Int32 × Mem) :=
  rec12 x1 x2 (x3 + 1) M
set_option maxRecDepth 100000 in
set_option maxHeartbeats 4000000 in
theorem J97_61_ev (sc : Option (Nat × (Nat → Int32))) (n : Nat) (g0 : Nat) (hg0 : isD g0) (e : Nat) (he : 3 ≤ e) (rec12 : Int32 → Int32 → Int32 → Mem → Option (Int32 × Mem)) (hr12 : ∀ (x1 : Int32) (x2 : Int32) (x3 : Int32) (u4 : Option Value) (M : Mem) (r : Int32) (M' : Mem), rec12 x1 x2 x3 M = some (r, M') → pm_ev pmT sc e 97 false (12, [some (.ref g0), some (.int x1), some (.int x2), some (.int x3), u4], [], 129, 17845, hp M) (some (.int r), 129, 17845, hp M')) : ∀ (x1 : Int32) (x2 : Int32) (x3 : Int32) (u4 : Option Value) (M : Mem) (r : Int32) (M' : Mem), J97_61 n g0 rec12 x1 x2 x3 M = some (r, M') → pm_ev pmT sc e 97 false (61, [some (.ref g0), some (.int x1), some (.int x2), some (.int x3), u4], [], 129, 17845, hp M) (some (.int r), 129, 17845, hp M') := by
  intro x1 x2 x3 u4 M r M' h
  unfold J97_61 at h
  refine pe_blk mm_97 2 (s' := (12, [some (.ref g0), some (.int x1), some (.int x2), some (.int (x3 + 1)), u4], [], _, _, _)) rfl ?_
  exact hr12 x1 x2 (x3 + 1) _ _ _ _ h
def J97_59 (n : Nat) (g0 : Nat) (M : Mem) : Option (Int32 × Mem) :=
  some (1, M)
set_option maxRecDepth 100000 in
set_option maxHeartbeats 4000000 in
theorem J97_59_ev (sc : Option (Nat × (Nat → Int32))) (n : Nat) (g0 : Nat) (hg0 : isD g0) (e : Nat) (he : 3 ≤ e) : ∀ (u0 : Option Value) (u1 : Option Value) (u2 : Option Value) (u3 : Option Value) (u4 : Option Value) (M : Mem) (r : Int32) (M' : Mem), J97_59 n g0  M = some (r, M') → pm_ev pmT sc e 97 false (59, [u0, u1, u2, u3, u4], [], 129, 17845, hp M) (some (.int r), 129, 17845, hp M') := by
  intro u0 u1 u2 u3 u4 M r M' h
  unfold J97_59 at h
  refine pe_blk mm_97 1 (s' := (60, [u0, u1, u2, u3, u4], [.int 1], _, _, _)) rfl ?_
  cases h
  exact pe_ret mm_97 rfl rfl
def J97_39 (n : Nat) (g0 : Nat) (rec12 : Int32 → Int32 → Int32 → Mem → Option (Int32 × Mem)) (x1 : Int32) (x2 : Int32) (x3 : Int32) (x4 : Int32) (M : Mem) : Option (Int32 × Mem) :=
  if x4 = (-1) then (J97_59 n g0 M) else (match F122 n g0 x4 M with | some (v19, M20) => (match F122 n g0 x3 M20 with | some (v22, M23) => (if v19 = v22 then (J97_61 n g0 rec12 x1 x2 x3 M23) else (J97_59 n g0 M23)) | none => none) | none => none)
set_option maxRecDepth 100000 in
set_option maxHeartbeats 4000000 in
theorem J97_39_ev (sc : Option (Nat × (Nat → Int32))) (n : Nat) (g0 : Nat) (hg0 : isD g0) (e : Nat) (he : 3 ≤ e) (rec12 : Int32 → Int32 → Int32 → Mem → Option (Int32 × Mem)) (hr12 : ∀ (x1 : Int32) (x2 : Int32) (x3 : Int32) (u4 : Option Value) (M : Mem) (r : Int32) (M' : Mem), rec12 x1 x2 x3 M = some (r, M') → pm_ev pmT sc e 97 false (12, [some (.ref g0), some (.int x1), some (.int x2), some (.int x3), u4], [], 129, 17845, hp M) (some (.int r), 129, 17845, hp M')) : ∀ (x1 : Int32) (x2 : Int32) (x3 : Int32) (x4 : Int32) (M : Mem) (r : Int32) (M' : Mem), J97_39 n g0 rec12 x1 x2 x3 x4 M = some (r, M') → pm_ev pmT sc e 97 false (39, [some (.ref g0), some (.int x1), some (.int x2), some (.int x3), some (.int x4)], [], 129, 17845, hp M) (some (.int r), 129, 17845, hp M') := by
  intro x1 x2 x3 x4  M r M' h
  unfold J97_39 at h
  refine pe_blk mm_97 2 (s' := (42, [some (.ref g0), some (.int x1), some (.int x2), some (.int x3), some (.int x4)], [.int (-1), .int x4], _, _, _)) rfl ?_
  by_cases q18 : x4 = (-1)
  · rw [if_pos q18] at h
    refine pe_blk mm_97 1 (s' := (if x4 = (-1) then 59 else 45, [some (.ref g0), some (.int x1), some (.int x2), some (.int x3), some (.int x4)], [], _, _, _)) rfl ?_
    rw [if_pos q18]
    exact J97_59_ev sc n g0 hg0 e he _ _ _ _ _ _ _ _ h
  · rw [if_neg q18] at h
    refine pe_blk mm_97 1 (s' := (if x4 = (-1) then 59 else 45, [some (.ref g0), some (.int x1), some (.int x2), some (.int x3), some (.int x4)], [], _, _, _)) rfl ?_
    rw [if_neg q18]
    refine pe_blk mm_97 2 (s' := (48, [some (.ref g0), some (.int x1), some (.int x2), some (.int x3), some (.int x4)], [.int x4, .ref g0], _, _, _)) rfl ?_
    obtain ⟨e1, rfl⟩ : ∃ e1, e = e1 + 1 := ⟨e - 1, by omega⟩
    cases hc21 : F122 n g0 x4 M with
    | none => rw [hc21] at h; cases h
    | some w =>
      obtain ⟨v19, M20⟩ := w
      rw [hc21] at h
      dsimp only at h
      refine pe_virt (al := [.int x4]) (a := g0) (L0 := [some (.ref g0), some (.int x4), none]) (r1 := (some (.int v19), 129, 17845, hp M20)) mm_97 rfl rfl rfl mm_122 (isD_0 hg0 _) (by have := isD_lt hg0; omega) (by decide) rfl (Nat.le_of_ble_eq_true rfl) (Nat.le_of_ble_eq_true rfl) rfl rfl (F122_ev sc n g0 x4 hg0 _ e1 (by omega) _ _ hc21) ?_
      show pm_ev _ _ _ _ _ (51, [some (.ref g0), some (.int x1), some (.int x2), some (.int x3), some (.int x4)], [.int v19], _, _, _) _
      refine pe_blk mm_97 2 (s' := (53, [some (.ref g0), some (.int x1), some (.int x2), some (.int x3), some (.int x4)], [.int x3, .ref g0, .int v19], _, _, _)) rfl ?_
      skip
      cases hc24 : F122 n g0 x3 M20 with
      | none => rw [hc24] at h; cases h
      | some w =>
        obtain ⟨v22, M23⟩ := w
        rw [hc24] at h
        dsimp only at h
        refine pe_virt (al := [.int x3]) (a := g0) (L0 := [some (.ref g0), some (.int x3), none]) (r1 := (some (.int v22), 129, 17845, hp M23)) mm_97 rfl rfl rfl mm_122 (isD_0 hg0 _) (by have := isD_lt hg0; omega) (by decide) rfl (Nat.le_of_ble_eq_true rfl) (Nat.le_of_ble_eq_true rfl) rfl rfl (F122_ev sc n g0 x3 hg0 _ e1 (by omega) _ _ hc24) ?_
        show pm_ev _ _ _ _ _ (56, [some (.ref g0), some (.int x1), some (.int x2), some (.int x3), some (.int x4)], [.int v22, .int v19], _, _, _) _
        by_cases q25 : v19 = v22
        · rw [if_pos q25] at h
          refine pe_blk mm_97 1 (s' := (if v19 = v22 then 61 else 59, [some (.ref g0), some (.int x1), some (.int x2), some (.int x3), some (.int x4)], [], _, _, _)) rfl ?_
          rw [if_pos q25]
          exact J97_61_ev sc n g0 hg0 (e1 + 1) he rec12 hr12 x1 x2 x3 _ _ _ _ h
        · rw [if_neg q25] at h
          refine pe_blk mm_97 1 (s' := (if v19 = v22 then 61 else 59, [some (.ref g0), some (.int x1), some (.int x2), some (.int x3), some (.int x4)], [], _, _, _)) rfl ?_
          rw [if_neg q25]
          exact J97_59_ev sc n g0 hg0 (e1 + 1) he _ _ _ _ _ _ _ _ h
def L97_12 (n : Nat) (g0 : Nat) : Nat → Int32 → Int32 → Int32 → Mem → Option (Int32 × Mem)
  | 0, _, _, _, _ => none
  | k + 1, x1, x2, x3, M => if x2 ≤ x3 then (some (0, M)) else (match F115 n g0 x3 M with | some (v8, M9) => (if v8 = 0 then (J97_61 n g0 (L97_12 n g0 k) x1 x2 x3 M9) else (match F109 n g0 (x3 + 1) M9 with | some (v12, M13) => (match F125 n g0 x1 v12 M13 with | some (v15, M16) => (J97_39 n g0 (L97_12 n g0 k) x1 x2 x3 v15 M16) | none => none) | none => none)) | none => none)
set_option maxRecDepth 100000 in
set_option maxHeartbeats 4000000 in
theorem L97_12_ev (sc : Option (Nat × (Nat → Int32))) (n : Nat) (g0 : Nat) (hg0 : isD g0) (e : Nat) (he : 3 ≤ e) : ∀ k : Nat, ∀ (x1 : Int32) (x2 : Int32) (x3 : Int32) (u4 : Option Value) (M : Mem) (r : Int32) (M' : Mem), L97_12 n g0 k x1 x2 x3 M = some (r, M') → pm_ev pmT sc e 97 false (12, [some (.ref g0), some (.int x1), some (.int x2), some (.int x3), u4], [], 129, 17845, hp M) (some (.int r), 129, 17845, hp M') := by
  intro k
  induction k with
  | zero => intro x1 x2 x3 u4 M r M' h; cases h
  | succ k hr12 =>
    intro x1 x2 x3 u4 M r M' h
    rw [L97_12] at h
    refine pe_blk mm_97 2 (s' := (14, [some (.ref g0), some (.int x1), some (.int x2), some (.int x3), u4], [.int x2, .int x3], _, _, _)) rfl ?_
    by_cases q7 : x2 ≤ x3
    · rw [if_pos q7] at h
      refine pe_blk mm_97 1 (s' := (if x2 ≤ x3 then 67 else 17, [some (.ref g0), some (.int x1), some (.int x2), some (.int x3), u4], [], _, _, _)) rfl ?_
      rw [if_pos q7]
      refine pe_blk mm_97 1 (s' := (68, [some (.ref g0), some (.int x1), some (.int x2), some (.int x3), u4], [.int 0], _, _, _)) rfl ?_
      cases h
      exact pe_ret mm_97 rfl rfl
    · rw [if_neg q7] at h
      refine pe_blk mm_97 1 (s' := (if x2 ≤ x3 then 67 else 17, [some (.ref g0), some (.int x1), some (.int x2), some (.int x3), u4], [], _, _, _)) rfl ?_
      rw [if_neg q7]
      refine pe_blk mm_97 2 (s' := (19, [some (.ref g0), some (.int x1), some (.int x2), some (.int x3), u4], [.int x3, .ref g0], _, _, _)) rfl ?_
      obtain ⟨e1, rfl⟩ : ∃ e1, e = e1 + 1 := ⟨e - 1, by omega⟩
      cases hc10 : F115 n g0 x3 M with
      | none => rw [hc10] at h; cases h
      | some w =>
        obtain ⟨v8, M9⟩ := w
        rw [hc10] at h
        dsimp only at h
        refine pe_virt (al := [.int x3]) (a := g0) (L0 := [some (.ref g0), some (.int x3)]) (r1 := (some (.int v8), 129, 17845, hp M9)) mm_97 rfl rfl rfl mm_115 (isD_0 hg0 _) (by have := isD_lt hg0; omega) (by decide) rfl (Nat.le_of_ble_eq_true rfl) (Nat.le_of_ble_eq_true rfl) rfl rfl (F115_ev sc n g0 x3 hg0 _ e1 (by omega) _ _ hc10) ?_
        show pm_ev _ _ _ _ _ (22, [some (.ref g0), some (.int x1), some (.int x2), some (.int x3), u4], [.int v8], _, _, _) _
        by_cases q11 : v8 = 0
        · rw [if_pos q11] at h
          refine pe_blk mm_97 1 (s' := (if v8 = 0 then 61 else 25, [some (.ref g0), some (.int x1), some (.int x2), some (.int x3), u4], [], _, _, _)) rfl ?_
          rw [if_pos q11]
          exact J97_61_ev sc n g0 hg0 (e1 + 1) he (L97_12 n g0 k) hr12 x1 x2 x3 _ _ _ _ h
        · rw [if_neg q11] at h
          refine pe_blk mm_97 1 (s' := (if v8 = 0 then 61 else 25, [some (.ref g0), some (.int x1), some (.int x2), some (.int x3), u4], [], _, _, _)) rfl ?_
          rw [if_neg q11]
          refine pe_blk mm_97 6 (s' := (31, [some (.ref g0), some (.int x1), some (.int x2), some (.int x3), u4], [.int (x3 + 1), .ref g0, .int x1, .ref g0], _, _, _)) rfl ?_
          skip
          cases hc14 : F109 n g0 (x3 + 1) M9 with
          | none => rw [hc14] at h; cases h
          | some w =>
            obtain ⟨v12, M13⟩ := w
            rw [hc14] at h
            dsimp only at h
            refine pe_virt (al := [.int (x3 + 1)]) (a := g0) (L0 := [some (.ref g0), some (.int (x3 + 1))]) (r1 := (some (.int v12), 129, 17845, hp M13)) mm_97 rfl rfl rfl mm_109 (isD_0 hg0 _) (by have := isD_lt hg0; omega) (by decide) rfl (Nat.le_of_ble_eq_true rfl) (Nat.le_of_ble_eq_true rfl) rfl rfl (F109_ev sc n g0 (x3 + 1) hg0 _ e1 (by omega) _ _ hc14) ?_
            show pm_ev _ _ _ _ _ (34, [some (.ref g0), some (.int x1), some (.int x2), some (.int x3), u4], [.int v12, .int x1, .ref g0], _, _, _) _
            skip
            cases hc17 : F125 n g0 x1 v12 M13 with
            | none => rw [hc17] at h; cases h
            | some w =>
              obtain ⟨v15, M16⟩ := w
              rw [hc17] at h
              dsimp only at h
              refine pe_virt (al := [.int v12, .int x1]) (a := g0) (L0 := [some (.ref g0), some (.int x1), some (.int v12), none, none]) (r1 := (some (.int v15), 129, 17845, hp M16)) mm_97 rfl rfl rfl mm_125 (isD_0 hg0 _) (by have := isD_lt hg0; omega) (by decide) rfl (Nat.le_of_ble_eq_true rfl) (Nat.le_of_ble_eq_true rfl) rfl rfl (F125_ev sc n g0 x1 v12 hg0 _ e1 (by omega) _ _ hc17) ?_
              show pm_ev _ _ _ _ _ (37, [some (.ref g0), some (.int x1), some (.int x2), some (.int x3), u4], [.int v15], _, _, _) _
              refine pe_blk mm_97 1 (s' := (39, [some (.ref g0), some (.int x1), some (.int x2), some (.int x3), some (.int v15)], [], _, _, _)) rfl ?_
              exact J97_39_ev sc n g0 hg0 (e1 + 1) he (L97_12 n g0 k) hr12 x1 x2 x3 v15 _ _ _ h
/-- ArmExpander$Checker.hasWrongUse -/
def F97 (n : Nat) (g0 : Nat) (a1 : Int32) (M : Mem) : Option (Int32 × Mem) :=
  match F114 n g0 a1 M with | some (v1, M2) => (match F113 n g0 a1 M2 with | some (v4, M5) => (L97_12 n g0 n a1 v1 v4 M5) | none => none) | none => none
set_option maxRecDepth 100000 in
set_option maxHeartbeats 4000000 in
theorem F97_ev (sc : Option (Nat × (Nat → Int32))) (n : Nat) (g0 : Nat) (a1 : Int32) (hg0 : isD g0) (M : Mem) (e : Nat) (he : 3 ≤ e) (r : Int32) (M' : Mem) (h : F97 n g0 a1 M = some (r, M')) : pm_ev pmT sc e 97 false (0, [some (.ref g0), some (.int a1), none, none, none], [], 129, 17845, hp M) (some (.int r), 129, 17845, hp M') := by
  unfold F97 at h
  refine pe_blk mm_97 2 (s' := (2, [some (.ref g0), some (.int a1), none, none, none], [.int a1, .ref g0], _, _, _)) rfl ?_
  obtain ⟨e1, rfl⟩ : ∃ e1, e = e1 + 1 := ⟨e - 1, by omega⟩
  cases hc3 : F114 n g0 a1 M with
  | none => rw [hc3] at h; cases h
  | some w =>
    obtain ⟨v1, M2⟩ := w
    rw [hc3] at h
    dsimp only at h
    refine pe_virt (al := [.int a1]) (a := g0) (L0 := [some (.ref g0), some (.int a1)]) (r1 := (some (.int v1), 129, 17845, hp M2)) mm_97 rfl rfl rfl mm_114 (isD_0 hg0 _) (by have := isD_lt hg0; omega) (by decide) rfl (Nat.le_of_ble_eq_true rfl) (Nat.le_of_ble_eq_true rfl) rfl rfl (F114_ev sc n g0 a1 hg0 _ e1 (by omega) _ _ hc3) ?_
    show pm_ev _ _ _ _ _ (5, [some (.ref g0), some (.int a1), none, none, none], [.int v1], _, _, _) _
    refine pe_blk mm_97 3 (s' := (8, [some (.ref g0), some (.int a1), some (.int v1), none, none], [.int a1, .ref g0], _, _, _)) rfl ?_
    skip
    cases hc6 : F113 n g0 a1 M2 with
    | none => rw [hc6] at h; cases h
    | some w =>
      obtain ⟨v4, M5⟩ := w
      rw [hc6] at h
      dsimp only at h
      refine pe_virt (al := [.int a1]) (a := g0) (L0 := [some (.ref g0), some (.int a1)]) (r1 := (some (.int v4), 129, 17845, hp M5)) mm_97 rfl rfl rfl mm_113 (isD_0 hg0 _) (by have := isD_lt hg0; omega) (by decide) rfl (Nat.le_of_ble_eq_true rfl) (Nat.le_of_ble_eq_true rfl) rfl rfl (F113_ev sc n g0 a1 hg0 _ e1 (by omega) _ _ hc6) ?_
      show pm_ev _ _ _ _ _ (11, [some (.ref g0), some (.int a1), some (.int v1), none, none], [.int v4], _, _, _) _
      refine pe_blk mm_97 1 (s' := (12, [some (.ref g0), some (.int a1), some (.int v1), some (.int v4), none], [], _, _, _)) rfl ?_
      exact L97_12_ev sc n g0 hg0 (e1 + 1) he n a1 v1 v4 _ _ _ _ h
def L99_12 (n : Nat) (g0 : Nat) : Nat → Int32 → Int32 → Mem → Option (Int32 × Mem)
  | 0, _, _, _ => none
  | k + 1, x2, x3, M => if x2 ≤ x3 then (some (0, M)) else (match F115 n g0 x3 M with | some (v5, M6) => (if v5 = 0 then ((L99_12 n g0 k) x2 (x3 + 1) M6) else (some (1, M6))) | none => none)
set_option maxRecDepth 100000 in
set_option maxHeartbeats 4000000 in
theorem L99_12_ev (sc : Option (Nat × (Nat → Int32))) (n : Nat) (g0 : Nat) (hg0 : isD g0) (e : Nat) (he : 2 ≤ e) : ∀ k : Nat, ∀ (x2 : Int32) (x3 : Int32) (u1 : Option Value) (M : Mem) (r : Int32) (M' : Mem), L99_12 n g0 k x2 x3 M = some (r, M') → pm_ev pmT sc e 99 false (12, [some (.ref g0), u1, some (.int x2), some (.int x3)], [], 129, 17845, hp M) (some (.int r), 129, 17845, hp M') := by
  intro k
  induction k with
  | zero => intro x2 x3 u1 M r M' h; cases h
  | succ k hr12 =>
    intro x2 x3 u1 M r M' h
    rw [L99_12] at h
    refine pe_blk mm_99 2 (s' := (14, [some (.ref g0), u1, some (.int x2), some (.int x3)], [.int x2, .int x3], _, _, _)) rfl ?_
    by_cases q4 : x2 ≤ x3
    · rw [if_pos q4] at h
      refine pe_blk mm_99 1 (s' := (if x2 ≤ x3 then 33 else 17, [some (.ref g0), u1, some (.int x2), some (.int x3)], [], _, _, _)) rfl ?_
      rw [if_pos q4]
      refine pe_blk mm_99 1 (s' := (34, [some (.ref g0), u1, some (.int x2), some (.int x3)], [.int 0], _, _, _)) rfl ?_
      cases h
      exact pe_ret mm_99 rfl rfl
    · rw [if_neg q4] at h
      refine pe_blk mm_99 1 (s' := (if x2 ≤ x3 then 33 else 17, [some (.ref g0), u1, some (.int x2), some (.int x3)], [], _, _, _)) rfl ?_
      rw [if_neg q4]
      refine pe_blk mm_99 2 (s' := (19, [some (.ref g0), u1, some (.int x2), some (.int x3)], [.int x3, .ref g0], _, _, _)) rfl ?_
      obtain ⟨e1, rfl⟩ : ∃ e1, e = e1 + 1 := ⟨e - 1, by omega⟩
      cases hc7 : F115 n g0 x3 M with
      | none => rw [hc7] at h; cases h
      | some w =>
        obtain ⟨v5, M6⟩ := w
        rw [hc7] at h
        dsimp only at h
        refine pe_virt (al := [.int x3]) (a := g0) (L0 := [some (.ref g0), some (.int x3)]) (r1 := (some (.int v5), 129, 17845, hp M6)) mm_99 rfl rfl rfl mm_115 (isD_0 hg0 _) (by have := isD_lt hg0; omega) (by decide) rfl (Nat.le_of_ble_eq_true rfl) (Nat.le_of_ble_eq_true rfl) rfl rfl (F115_ev sc n g0 x3 hg0 _ e1 (by omega) _ _ hc7) ?_
        show pm_ev _ _ _ _ _ (22, [some (.ref g0), u1, some (.int x2), some (.int x3)], [.int v5], _, _, _) _
        by_cases q8 : v5 = 0
        · rw [if_pos q8] at h
          refine pe_blk mm_99 1 (s' := (if v5 = 0 then 27 else 25, [some (.ref g0), u1, some (.int x2), some (.int x3)], [], _, _, _)) rfl ?_
          rw [if_pos q8]
          refine pe_blk mm_99 2 (s' := (12, [some (.ref g0), u1, some (.int x2), some (.int (x3 + 1))], [], _, _, _)) rfl ?_
          exact hr12 x2 (x3 + 1) _ _ _ _ h
        · rw [if_neg q8] at h
          refine pe_blk mm_99 1 (s' := (if v5 = 0 then 27 else 25, [some (.ref g0), u1, some (.int x2), some (.int x3)], [], _, _, _)) rfl ?_
          rw [if_neg q8]
          refine pe_blk mm_99 1 (s' := (26, [some (.ref g0), u1, some (.int x2), some (.int x3)], [.int 1], _, _, _)) rfl ?_
          cases h
          exact pe_ret mm_99 rfl rfl
/-- ArmExpander$Checker.hasUse -/
def F99 (n : Nat) (g0 : Nat) (a1 : Int32) (M : Mem) : Option (Int32 × Mem) :=
  match F110 n g0 (a1 + 1) M with | some (v1, M2) => (L99_12 n g0 n v1 (a1 + 2) M2) | none => none
set_option maxRecDepth 100000 in
set_option maxHeartbeats 4000000 in
theorem F99_ev (sc : Option (Nat × (Nat → Int32))) (n : Nat) (g0 : Nat) (a1 : Int32) (hg0 : isD g0) (M : Mem) (e : Nat) (he : 2 ≤ e) (r : Int32) (M' : Mem) (h : F99 n g0 a1 M = some (r, M')) : pm_ev pmT sc e 99 false (0, [some (.ref g0), some (.int a1), none, none], [], 129, 17845, hp M) (some (.int r), 129, 17845, hp M') := by
  unfold F99 at h
  refine pe_blk mm_99 4 (s' := (4, [some (.ref g0), some (.int a1), none, none], [.int (a1 + 1), .ref g0], _, _, _)) rfl ?_
  obtain ⟨e1, rfl⟩ : ∃ e1, e = e1 + 1 := ⟨e - 1, by omega⟩
  cases hc3 : F110 n g0 (a1 + 1) M with
  | none => rw [hc3] at h; cases h
  | some w =>
    obtain ⟨v1, M2⟩ := w
    rw [hc3] at h
    dsimp only at h
    refine pe_virt (al := [.int (a1 + 1)]) (a := g0) (L0 := [some (.ref g0), some (.int (a1 + 1))]) (r1 := (some (.int v1), 129, 17845, hp M2)) mm_99 rfl rfl rfl mm_110 (isD_0 hg0 _) (by have := isD_lt hg0; omega) (by decide) rfl (Nat.le_of_ble_eq_true rfl) (Nat.le_of_ble_eq_true rfl) rfl rfl (F110_ev sc n g0 (a1 + 1) hg0 _ e1 (by omega) _ _ hc3) ?_
    show pm_ev _ _ _ _ _ (7, [some (.ref g0), some (.int a1), none, none], [.int v1], _, _, _) _
    refine pe_blk mm_99 5 (s' := (12, [some (.ref g0), some (.int a1), some (.int v1), some (.int (a1 + 2))], [], _, _, _)) rfl ?_
    exact L99_12_ev sc n g0 hg0 (e1 + 1) he n v1 (a1 + 2) _ _ _ _ h
def J141_41 (n : Nat) (s0 : Int32) (M : Mem) : Option (Int32 × Mem) :=
  if s0 = 0 ∨ s0 = 1 then some (s0, M) else none
set_option maxRecDepth 100000 in
set_option maxHeartbeats 4000000 in
theorem J141_41_ev (sc : Option (Nat × (Nat → Int32))) (n : Nat)  (e : Nat) (he : 3 ≤ e) : ∀ (s0 : Int32) (u0 : Option Value) (u1 : Option Value) (u2 : Option Value) (M : Mem) (r : Int32) (M' : Mem), J141_41 n s0 M = some (r, M') → pm_ev pmT sc e 141 false (41, [u0, u1, u2], [.int s0], 129, 17845, hp M) (some (.int r), 129, 17845, hp M') := by
  intro s0 u0 u1 u2 M r M' h
  unfold J141_41 at h
  by_cases q9 : s0 = 0 ∨ s0 = 1
  · rw [if_pos q9] at h
    cases h
    exact pe_ret mm_141 rfl (if_pos q9)
  · rw [if_neg q9] at h
    cases h
def J141_36 (n : Nat) (M : Mem) : Option (Int32 × Mem) :=
  J141_41 n 1 M
set_option maxRecDepth 100000 in
set_option maxHeartbeats 4000000 in
theorem J141_36_ev (sc : Option (Nat × (Nat → Int32))) (n : Nat)  (e : Nat) (he : 3 ≤ e) : ∀ (u0 : Option Value) (u1 : Option Value) (u2 : Option Value) (M : Mem) (r : Int32) (M' : Mem), J141_36 n  M = some (r, M') → pm_ev pmT sc e 141 false (36, [u0, u1, u2], [], 129, 17845, hp M) (some (.int r), 129, 17845, hp M') := by
  intro u0 u1 u2 M r M' h
  unfold J141_36 at h
  refine pe_blk mm_141 2 (s' := (41, [u0, u1, u2], [.int 1], _, _, _)) rfl ?_
  exact J141_41_ev sc n e he 1 _ _ _ _ _ _ h
def J141_24 (n : Nat) (x1 : Int32) (M : Mem) : Option (Int32 × Mem) :=
  match F163 n 13 x1 M with | some (v10, M11) => (if v10 = (-1) then (J141_41 n 0 M11) else (J141_36 n M11)) | none => none
set_option maxRecDepth 100000 in
set_option maxHeartbeats 4000000 in
theorem J141_24_ev (sc : Option (Nat × (Nat → Int32))) (n : Nat)  (e : Nat) (he : 3 ≤ e) : ∀ (x1 : Int32) (u2 : Option Value) (M : Mem) (r : Int32) (M' : Mem), J141_24 n x1 M = some (r, M') → pm_ev pmT sc e 141 false (24, [some (.ref 12), some (.int x1), u2], [], 129, 17845, hp M) (some (.int r), 129, 17845, hp M') := by
  intro x1 u2 M r M' h
  unfold J141_24 at h
  refine pe_blk mm_141 1 (s' := (25, [some (.ref 12), some (.int x1), u2], [.ref 12], _, _, _)) rfl ?_
  refine pe_get mm_141 rfl rfl rfl (by decide) rfl ?_
  refine pe_blk mm_141 1 (s' := (29, [some (.ref 12), some (.int x1), u2], [.int x1, .ref 13], _, _, _)) rfl ?_
  obtain ⟨e1, rfl⟩ : ∃ e1, e = e1 + 1 := ⟨e - 1, by omega⟩
  cases hc12 : F163 n 13 x1 M with
  | none => rw [hc12] at h; cases h
  | some w =>
    obtain ⟨v10, M11⟩ := w
    rw [hc12] at h
    dsimp only at h
    refine pe_virt (al := [.int x1]) (a := 13) (L0 := [some (.ref 13), some (.int x1)]) (r1 := (some (.int v10), 129, 17845, hp M11)) mm_141 rfl rfl rfl mm_163 rfl (by decide) (by decide) rfl (Nat.le_of_ble_eq_true rfl) (Nat.le_of_ble_eq_true rfl) rfl rfl (F163_ev sc n 13 x1 (by decide) _ e1 (by omega) _ _ hc12) ?_
    show pm_ev _ _ _ _ _ (32, [some (.ref 12), some (.int x1), u2], [.int v10], _, _, _) _
    refine pe_blk mm_141 1 (s' := (33, [some (.ref 12), some (.int x1), u2], [.int (-1), .int v10], _, _, _)) rfl ?_
    by_cases q13 : v10 = (-1)
    · rw [if_pos q13] at h
      refine pe_blk mm_141 1 (s' := (if v10 = (-1) then 40 else 36, [some (.ref 12), some (.int x1), u2], [], _, _, _)) rfl ?_
      rw [if_pos q13]
      refine pe_blk mm_141 1 (s' := (41, [some (.ref 12), some (.int x1), u2], [.int 0], _, _, _)) rfl ?_
      exact J141_41_ev sc n (e1 + 1) he 0 _ _ _ _ _ _ h
    · rw [if_neg q13] at h
      refine pe_blk mm_141 1 (s' := (if v10 = (-1) then 40 else 36, [some (.ref 12), some (.int x1), u2], [], _, _, _)) rfl ?_
      rw [if_neg q13]
      exact J141_36_ev sc n (e1 + 1) he _ _ _ _ _ _ h
/-- ArmExpander$Expander.isBalanced -/
def F141 (n : Nat) (a0 : Int32) (a1 : Int32) (M : Mem) : Option (Int32 × Mem) :=
  match F13 n a0 M with | some (v1, M2) => (if v1 = 0 then (match F14 n a0 M2 with | some (v5, M6) => (if v5 = 0 then (J141_36 n M6) else (J141_24 n a0 M6)) | none => none) else (match F162 n 13 a1 a0 M2 with | some (v14, M15) => (if v14 = 0 ∨ v14 = 1 then some (v14, M15) else none) | none => none)) | none => none
set_option maxRecDepth 100000 in
set_option maxHeartbeats 4000000 in
theorem F141_ev (sc : Option (Nat × (Nat → Int32))) (n : Nat) (a0 : Int32) (a1 : Int32)  (M : Mem) (e : Nat) (he : 3 ≤ e) (r : Int32) (M' : Mem) (h : F141 n a0 a1 M = some (r, M')) : pm_ev pmT sc e 141 false (0, [some (.ref 12), some (.int a0), some (.int a1)], [], 129, 17845, hp M) (some (.int r), 129, 17845, hp M') := by
  unfold F141 at h
  refine pe_blk mm_141 1 (s' := (1, [some (.ref 12), some (.int a0), some (.int a1)], [.int a0], _, _, _)) rfl ?_
  obtain ⟨e1, rfl⟩ : ∃ e1, e = e1 + 1 := ⟨e - 1, by omega⟩
  cases hc3 : F13 n a0 M with
  | none => rw [hc3] at h; cases h
  | some w =>
    obtain ⟨v1, M2⟩ := w
    rw [hc3] at h
    dsimp only at h
    refine pe_stat (al := [.int a0]) (L0 := [some (.int a0)]) (r1 := (some (.int v1), 129, 17845, hp M2)) mm_141 rfl rfl rfl mm_13 rfl (Nat.le_of_ble_eq_true rfl) (Nat.le_of_ble_eq_true rfl) rfl rfl (F13_ev sc n a0 _ e1 (by omega) _ _ hc3) ?_
    show pm_ev _ _ _ _ _ (4, [some (.ref 12), some (.int a0), some (.int a1)], [.int v1], _, _, _) _
    by_cases q4 : v1 = 0
    · rw [if_pos q4] at h
      refine pe_blk mm_141 1 (s' := (if v1 = 0 then 17 else 7, [some (.ref 12), some (.int a0), some (.int a1)], [], _, _, _)) rfl ?_
      rw [if_pos q4]
      refine pe_blk mm_141 1 (s' := (18, [some (.ref 12), some (.int a0), some (.int a1)], [.int a0], _, _, _)) rfl ?_
      skip
      cases hc7 : F14 n a0 M2 with
      | none => rw [hc7] at h; cases h
      | some w =>
        obtain ⟨v5, M6⟩ := w
        rw [hc7] at h
        dsimp only at h
        refine pe_stat (al := [.int a0]) (L0 := [some (.int a0)]) (r1 := (some (.int v5), 129, 17845, hp M6)) mm_141 rfl rfl rfl mm_14 rfl (Nat.le_of_ble_eq_true rfl) (Nat.le_of_ble_eq_true rfl) rfl rfl (F14_ev sc n a0 _ e1 (by omega) _ _ hc7) ?_
        show pm_ev _ _ _ _ _ (21, [some (.ref 12), some (.int a0), some (.int a1)], [.int v5], _, _, _) _
        by_cases q8 : v5 = 0
        · rw [if_pos q8] at h
          refine pe_blk mm_141 1 (s' := (if v5 = 0 then 36 else 24, [some (.ref 12), some (.int a0), some (.int a1)], [], _, _, _)) rfl ?_
          rw [if_pos q8]
          exact J141_36_ev sc n (e1 + 1) he _ _ _ _ _ _ h
        · rw [if_neg q8] at h
          refine pe_blk mm_141 1 (s' := (if v5 = 0 then 36 else 24, [some (.ref 12), some (.int a0), some (.int a1)], [], _, _, _)) rfl ?_
          rw [if_neg q8]
          exact J141_24_ev sc n (e1 + 1) he a0 _ _ _ _ h
    · rw [if_neg q4] at h
      refine pe_blk mm_141 1 (s' := (if v1 = 0 then 17 else 7, [some (.ref 12), some (.int a0), some (.int a1)], [], _, _, _)) rfl ?_
      rw [if_neg q4]
      refine pe_blk mm_141 1 (s' := (8, [some (.ref 12), some (.int a0), some (.int a1)], [.ref 12], _, _, _)) rfl ?_
      refine pe_get mm_141 rfl rfl rfl (by decide) rfl ?_
      refine pe_blk mm_141 2 (s' := (13, [some (.ref 12), some (.int a0), some (.int a1)], [.int a0, .int a1, .ref 13], _, _, _)) rfl ?_
      skip
      cases hc16 : F162 n 13 a1 a0 M2 with
      | none => rw [hc16] at h; cases h
      | some w =>
        obtain ⟨v14, M15⟩ := w
        rw [hc16] at h
        dsimp only at h
        refine pe_virt (al := [.int a0, .int a1]) (a := 13) (L0 := [some (.ref 13), some (.int a1), some (.int a0)]) (r1 := (some (.int v14), 129, 17845, hp M15)) mm_141 rfl rfl rfl mm_162 rfl (by decide) (by decide) rfl (Nat.le_of_ble_eq_true rfl) (Nat.le_of_ble_eq_true rfl) rfl rfl (F162_ev sc n 13 a1 a0 (by decide) _ e1 (by omega) _ _ hc16) ?_
        show pm_ev _ _ _ _ _ (16, [some (.ref 12), some (.int a0), some (.int a1)], [.int v14], _, _, _) _
        by_cases q17 : v14 = 0 ∨ v14 = 1
        · rw [if_pos q17] at h
          cases h
          exact pe_ret mm_141 rfl (if_pos q17)
        · rw [if_neg q17] at h
          cases h
def J169_25 (n : Nat) (b : Nat) (g0 : Nat) (rec3 : Int32 → Int32 → Mem → Option (Unit × Mem)) (x3 : Int32) (x4 : Int32) (M : Mem) : Option (Unit × Mem) :=
  rec3 x3 (x4 + 1) M
set_option maxRecDepth 100000 in
set_option maxHeartbeats 4000000 in
theorem J169_25_ev (sc : Option (Nat × (Nat → Int32))) (n : Nat) (b : Nat) (g0 : Nat) (hb : isR b) (hg0 : isR g0) (e : Nat) (he : 2 ≤ e) (rec3 : Int32 → Int32 → Mem → Option (Unit × Mem)) (hr3 : ∀ (x3 : Int32) (x4 : Int32) (u2 : Option Value) (M : Mem) (r : Unit) (M' : Mem), rec3 x3 x4 M = some (r, M') → pm_ev pmT sc e 169 false (3, [some (.ref b), some (.ref g0), u2, some (.int x3), some (.int x4)], [], 129, 17845, hp M) (none, 129, 17845, hp M')) : ∀ (x3 : Int32) (x4 : Int32) (u2 : Option Value) (M : Mem) (r : Unit) (M' : Mem), J169_25 n b g0 rec3 x3 x4 M = some (r, M') → pm_ev pmT sc e 169 false (25, [some (.ref b), some (.ref g0), u2, some (.int x3), some (.int x4)], [], 129, 17845, hp M) (none, 129, 17845, hp M') := by
  intro x3 x4 u2 M r M' h
  unfold J169_25 at h
  refine pe_blk mm_169 2 (s' := (3, [some (.ref b), some (.ref g0), u2, some (.int x3), some (.int (x4 + 1))], [], _, _, _)) rfl ?_
  exact hr3 x3 (x4 + 1) _ _ _ _ h
def L169_3 (n : Nat) (b : Nat) (g0 : Nat) : Nat → Int32 → Int32 → Mem → Option (Unit × Mem)
  | 0, _, _, _ => none
  | k + 1, x3, x4, M => if x3 ≤ x4 then (some ((), M)) else (match F170 n g0 x4 M with | some (v2, M3) => (match F171 n g0 x4 M3 with | some (v5, M6) => (match F168 n b v2 v5 M6 with | some (v8, M9) => (J169_25 n b g0 (L169_3 n b g0 k) x3 x4 M9) | none => none) | none => none) | none => none)
set_option maxRecDepth 100000 in
set_option maxHeartbeats 4000000 in
theorem L169_3_ev (sc : Option (Nat × (Nat → Int32))) (n : Nat) (b : Nat) (g0 : Nat) (hb : isR b) (hg0 : isR g0) (e : Nat) (he : 2 ≤ e) : ∀ k : Nat, ∀ (x3 : Int32) (x4 : Int32) (u2 : Option Value) (M : Mem) (r : Unit) (M' : Mem), L169_3 n b g0 k x3 x4 M = some (r, M') → pm_ev pmT sc e 169 false (3, [some (.ref b), some (.ref g0), u2, some (.int x3), some (.int x4)], [], 129, 17845, hp M) (none, 129, 17845, hp M') := by
  intro k
  induction k with
  | zero => intro x3 x4 u2 M r M' h; cases h
  | succ k hr3 =>
    intro x3 x4 u2 M r M' h
    rw [L169_3] at h
    refine pe_blk mm_169 2 (s' := (6, [some (.ref b), some (.ref g0), u2, some (.int x3), some (.int x4)], [.int x3, .int x4], _, _, _)) rfl ?_
    by_cases q1 : x3 ≤ x4
    · rw [if_pos q1] at h
      refine pe_blk mm_169 1 (s' := (if x3 ≤ x4 then 31 else 9, [some (.ref b), some (.ref g0), u2, some (.int x3), some (.int x4)], [], _, _, _)) rfl ?_
      rw [if_pos q1]
      cases h
      exact pe_ret mm_169 rfl rfl
    · rw [if_neg q1] at h
      refine pe_blk mm_169 1 (s' := (if x3 ≤ x4 then 31 else 9, [some (.ref b), some (.ref g0), u2, some (.int x3), some (.int x4)], [], _, _, _)) rfl ?_
      rw [if_neg q1]
      refine pe_blk mm_169 3 (s' := (13, [some (.ref b), some (.ref g0), u2, some (.int x3), some (.int x4)], [.int x4, .ref g0, .ref b], _, _, _)) rfl ?_
      obtain ⟨e1, rfl⟩ : ∃ e1, e = e1 + 1 := ⟨e - 1, by omega⟩
      cases hc4 : F170 n g0 x4 M with
      | none => rw [hc4] at h; cases h
      | some w =>
        obtain ⟨v2, M3⟩ := w
        rw [hc4] at h
        dsimp only at h
        refine pe_virt (al := [.int x4]) (a := g0) (L0 := [some (.ref g0), some (.int x4)]) (r1 := (some (.int v2), 129, 17845, hp M3)) mm_169 rfl rfl rfl mm_170 (isR_0 hg0 _) (by have := isR_lt hg0; omega) (by decide) rfl (Nat.le_of_ble_eq_true rfl) (Nat.le_of_ble_eq_true rfl) rfl rfl (F170_ev sc n g0 x4 hg0 _ e1 (by omega) _ _ hc4) ?_
        show pm_ev _ _ _ _ _ (16, [some (.ref b), some (.ref g0), u2, some (.int x3), some (.int x4)], [.int v2, .ref b], _, _, _) _
        refine pe_blk mm_169 2 (s' := (19, [some (.ref b), some (.ref g0), u2, some (.int x3), some (.int x4)], [.int x4, .ref g0, .int v2, .ref b], _, _, _)) rfl ?_
        skip
        cases hc7 : F171 n g0 x4 M3 with
        | none => rw [hc7] at h; cases h
        | some w =>
          obtain ⟨v5, M6⟩ := w
          rw [hc7] at h
          dsimp only at h
          refine pe_virt (al := [.int x4]) (a := g0) (L0 := [some (.ref g0), some (.int x4)]) (r1 := (some (.int v5), 129, 17845, hp M6)) mm_169 rfl rfl rfl mm_171 (isR_0 hg0 _) (by have := isR_lt hg0; omega) (by decide) rfl (Nat.le_of_ble_eq_true rfl) (Nat.le_of_ble_eq_true rfl) rfl rfl (F171_ev sc n g0 x4 hg0 _ e1 (by omega) _ _ hc7) ?_
          show pm_ev _ _ _ _ _ (22, [some (.ref b), some (.ref g0), u2, some (.int x3), some (.int x4)], [.int v5, .int v2, .ref b], _, _, _) _
          skip
          cases hc10 : F168 n b v2 v5 M6 with
          | none => rw [hc10] at h; cases h
          | some w =>
            obtain ⟨v8, M9⟩ := w
            rw [hc10] at h
            dsimp only at h
            refine pe_virt (al := [.int v5, .int v2]) (a := b) (L0 := [some (.ref b), some (.int v2), some (.int v5)]) (r1 := (none, 129, 17845, hp M9)) mm_169 rfl rfl rfl mm_168 (isR_0 hb _) (by have := isR_lt hb; omega) (by decide) rfl (Nat.le_of_ble_eq_true rfl) (Nat.le_of_ble_eq_true rfl) rfl rfl (F168_ev sc n b v2 v5 hb _ e1 (by omega) _ _ hc10) ?_
            show pm_ev _ _ _ _ _ (25, [some (.ref b), some (.ref g0), u2, some (.int x3), some (.int x4)], [], _, _, _) _
            exact J169_25_ev sc n b g0 hb hg0 (e1 + 1) he (L169_3 n b g0 k) hr3 x3 x4 _ _ _ _ h
/-- ArmExpander$Row.addAll -/
def F169 (n : Nat) (b : Nat) (g0 : Nat) (a1 : Int32) (a2 : Int32) (M : Mem) : Option (Unit × Mem) :=
  L169_3 n b g0 n a2 a1 M
set_option maxRecDepth 100000 in
set_option maxHeartbeats 4000000 in
theorem F169_ev (sc : Option (Nat × (Nat → Int32))) (n : Nat) (b : Nat) (g0 : Nat) (a1 : Int32) (a2 : Int32) (hb : isR b) (hg0 : isR g0) (M : Mem) (e : Nat) (he : 2 ≤ e) (r : Unit) (M' : Mem) (h : F169 n b g0 a1 a2 M = some (r, M')) : pm_ev pmT sc e 169 false (0, [some (.ref b), some (.ref g0), some (.int a1), some (.int a2), none], [], 129, 17845, hp M) (none, 129, 17845, hp M') := by
  unfold F169 at h
  refine pe_blk mm_169 2 (s' := (3, [some (.ref b), some (.ref g0), some (.int a1), some (.int a2), some (.int a1)], [], _, _, _)) rfl ?_
  exact L169_3_ev sc n b g0 hb hg0 e he n a2 a1 _ _ _ _ h
def J174_97 (n : Nat) (b : Nat) (rec29 : Int32 → Int32 → Int32 → Mem → Option (Int32 × Mem)) (x1 : Int32) (x2 : Int32) (x3 : Int32) (M : Mem) : Option (Int32 × Mem) :=
  rec29 x1 x2 (x3 + (-1)) M
set_option maxRecDepth 100000 in
set_option maxHeartbeats 4000000 in
theorem J174_97_ev (sc : Option (Nat × (Nat → Int32))) (n : Nat) (b : Nat) (hb : isR b) (e : Nat) (he : 3 ≤ e) (rec29 : Int32 → Int32 → Int32 → Mem → Option (Int32 × Mem)) (hr29 : ∀ (x1 : Int32) (x2 : Int32) (x3 : Int32) (M : Mem) (r : Int32) (M' : Mem), rec29 x1 x2 x3 M = some (r, M') → pm_ev pmT sc e 174 false (29, [some (.ref b), some (.int x1), some (.int x2), some (.int x3)], [], 129, 17845, hp M) (some (.int r), 129, 17845, hp M')) : ∀ (x1 : Int32) (x2 : Int32) (x3 : Int32) (M : Mem) (r : Int32) (M' : Mem), J174_97 n b rec29 x1 x2 x3 M = some (r, M') → pm_ev pmT sc e 174 false (97, [some (.ref b), some (.int x1), some (.int x2), some (.int x3)], [], 129, 17845, hp M) (some (.int r), 129, 17845, hp M') := by
  intro x1 x2 x3  M r M' h
  unfold J174_97 at h
  refine pe_blk mm_174 2 (s' := (29, [some (.ref b), some (.int x1), some (.int x2), some (.int (x3 + (-1)))], [], _, _, _)) rfl ?_
  exact hr29 x1 x2 (x3 + (-1)) _ _ _ h
def J174_95 (n : Nat) (b : Nat) (x3 : Int32) (M : Mem) : Option (Int32 × Mem) :=
  some (x3, M)
set_option maxRecDepth 100000 in
set_option maxHeartbeats 4000000 in
theorem J174_95_ev (sc : Option (Nat × (Nat → Int32))) (n : Nat) (b : Nat) (hb : isR b) (e : Nat) (he : 3 ≤ e) : ∀ (x3 : Int32) (u0 : Option Value) (u1 : Option Value) (u2 : Option Value) (M : Mem) (r : Int32) (M' : Mem), J174_95 n b x3 M = some (r, M') → pm_ev pmT sc e 174 false (95, [u0, u1, u2, some (.int x3)], [], 129, 17845, hp M) (some (.int r), 129, 17845, hp M') := by
  intro x3 u0 u1 u2 M r M' h
  unfold J174_95 at h
  refine pe_blk mm_174 1 (s' := (96, [u0, u1, u2, some (.int x3)], [.int x3], _, _, _)) rfl ?_
  cases h
  exact pe_ret mm_174 rfl rfl
def J174_78 (n : Nat) (b : Nat) (rec29 : Int32 → Int32 → Int32 → Mem → Option (Int32 × Mem)) (x1 : Int32) (x2 : Int32) (x3 : Int32) (M : Mem) : Option (Int32 × Mem) :=
  match F176 n b x3 x1 M with | some (v24, M25) => (if v24 = 0 then (J174_97 n b rec29 x1 x2 x3 M25) else (match F175 n b x3 M25 with | some (v28, M29) => (if v28 = 0 then (J174_97 n b rec29 x1 x2 x3 M29) else (J174_95 n b x3 M29)) | none => none)) | none => none
set_option maxRecDepth 100000 in
set_option maxHeartbeats 4000000 in
theorem J174_78_ev (sc : Option (Nat × (Nat → Int32))) (n : Nat) (b : Nat) (hb : isR b) (e : Nat) (he : 3 ≤ e) (rec29 : Int32 → Int32 → Int32 → Mem → Option (Int32 × Mem)) (hr29 : ∀ (x1 : Int32) (x2 : Int32) (x3 : Int32) (M : Mem) (r : Int32) (M' : Mem), rec29 x1 x2 x3 M = some (r, M') → pm_ev pmT sc e 174 false (29, [some (.ref b), some (.int x1), some (.int x2), some (.int x3)], [], 129, 17845, hp M) (some (.int r), 129, 17845, hp M')) : ∀ (x1 : Int32) (x2 : Int32) (x3 : Int32) (M : Mem) (r : Int32) (M' : Mem), J174_78 n b rec29 x1 x2 x3 M = some (r, M') → pm_ev pmT sc e 174 false (78, [some (.ref b), some (.int x1), some (.int x2), some (.int x3)], [], 129, 17845, hp M) (some (.int r), 129, 17845, hp M') := by
  intro x1 x2 x3  M r M' h
  unfold J174_78 at h
  refine pe_blk mm_174 3 (s' := (81, [some (.ref b), some (.int x1), some (.int x2), some (.int x3)], [.int x1, .int x3, .ref b], _, _, _)) rfl ?_
  obtain ⟨e1, rfl⟩ : ∃ e1, e = e1 + 1 := ⟨e - 1, by omega⟩
  cases hc26 : F176 n b x3 x1 M with
  | none => rw [hc26] at h; cases h
  | some w =>
    obtain ⟨v24, M25⟩ := w
    rw [hc26] at h
    dsimp only at h
    refine pe_virt (al := [.int x1, .int x3]) (a := b) (L0 := [some (.ref b), some (.int x3), some (.int x1)]) (r1 := (some (.int v24), 129, 17845, hp M25)) mm_174 rfl rfl rfl mm_176 (isR_0 hb _) (by have := isR_lt hb; omega) (by decide) rfl (Nat.le_of_ble_eq_true rfl) (Nat.le_of_ble_eq_true rfl) rfl rfl (F176_ev sc n b x3 x1 hb _ e1 (by omega) _ _ hc26) ?_
    show pm_ev _ _ _ _ _ (84, [some (.ref b), some (.int x1), some (.int x2), some (.int x3)], [.int v24], _, _, _) _
    by_cases q27 : v24 = 0
    · rw [if_pos q27] at h
      refine pe_blk mm_174 1 (s' := (if v24 = 0 then 97 else 87, [some (.ref b), some (.int x1), some (.int x2), some (.int x3)], [], _, _, _)) rfl ?_
      rw [if_pos q27]
      exact J174_97_ev sc n b hb (e1 + 1) he rec29 hr29 x1 x2 x3 _ _ _ h
    · rw [if_neg q27] at h
      refine pe_blk mm_174 1 (s' := (if v24 = 0 then 97 else 87, [some (.ref b), some (.int x1), some (.int x2), some (.int x3)], [], _, _, _)) rfl ?_
      rw [if_neg q27]
      refine pe_blk mm_174 2 (s' := (89, [some (.ref b), some (.int x1), some (.int x2), some (.int x3)], [.int x3, .ref b], _, _, _)) rfl ?_
      skip
      cases hc30 : F175 n b x3 M25 with
      | none => rw [hc30] at h; cases h
      | some w =>
        obtain ⟨v28, M29⟩ := w
        rw [hc30] at h
        dsimp only at h
        refine pe_virt (al := [.int x3]) (a := b) (L0 := [some (.ref b), some (.int x3)]) (r1 := (some (.int v28), 129, 17845, hp M29)) mm_174 rfl rfl rfl mm_175 (isR_0 hb _) (by have := isR_lt hb; omega) (by decide) rfl (Nat.le_of_ble_eq_true rfl) (Nat.le_of_ble_eq_true rfl) rfl rfl (F175_ev sc n b x3 hb _ e1 (by omega) _ _ hc30) ?_
        show pm_ev _ _ _ _ _ (92, [some (.ref b), some (.int x1), some (.int x2), some (.int x3)], [.int v28], _, _, _) _
        by_cases q31 : v28 = 0
        · rw [if_pos q31] at h
          refine pe_blk mm_174 1 (s' := (if v28 = 0 then 97 else 95, [some (.ref b), some (.int x1), some (.int x2), some (.int x3)], [], _, _, _)) rfl ?_
          rw [if_pos q31]
          exact J174_97_ev sc n b hb (e1 + 1) he rec29 hr29 x1 x2 x3 _ _ _ h
        · rw [if_neg q31] at h
          refine pe_blk mm_174 1 (s' := (if v28 = 0 then 97 else 95, [some (.ref b), some (.int x1), some (.int x2), some (.int x3)], [], _, _, _)) rfl ?_
          rw [if_neg q31]
          exact J174_95_ev sc n b hb (e1 + 1) he x3 _ _ _ _ _ _ h
def J174_51 (n : Nat) (b : Nat) (rec29 : Int32 → Int32 → Int32 → Mem → Option (Int32 × Mem)) (x1 : Int32) (x2 : Int32) (x3 : Int32) (M : Mem) : Option (Int32 × Mem) :=
  if x3 < 0 ∨ 150 ≤ (x3 : Int32).toNatClampNeg then none else (match F13 n (M.1 (b + 1) (x3 : Int32).toNatClampNeg) M with | some (v19, M20) => (if v19 = 0 then (if x2 = 0 then (J174_78 n b rec29 x1 x2 x3 M20) else (J174_97 n b rec29 x1 x2 x3 M20)) else (J174_97 n b rec29 x1 (if 0 < (x2 - 1) then (x2 - 1) else 0) x3 M20)) | none => none)
set_option maxRecDepth 100000 in
set_option maxHeartbeats 4000000 in
theorem J174_51_ev (sc : Option (Nat × (Nat → Int32))) (n : Nat) (b : Nat) (hb : isR b) (e : Nat) (he : 3 ≤ e) (rec29 : Int32 → Int32 → Int32 → Mem → Option (Int32 × Mem)) (hr29 : ∀ (x1 : Int32) (x2 : Int32) (x3 : Int32) (M : Mem) (r : Int32) (M' : Mem), rec29 x1 x2 x3 M = some (r, M') → pm_ev pmT sc e 174 false (29, [some (.ref b), some (.int x1), some (.int x2), some (.int x3)], [], 129, 17845, hp M) (some (.int r), 129, 17845, hp M')) : ∀ (x1 : Int32) (x2 : Int32) (x3 : Int32) (M : Mem) (r : Int32) (M' : Mem), J174_51 n b rec29 x1 x2 x3 M = some (r, M') → pm_ev pmT sc e 174 false (51, [some (.ref b), some (.int x1), some (.int x2), some (.int x3)], [], 129, 17845, hp M) (some (.int r), 129, 17845, hp M') := by
  intro x1 x2 x3  M r M' h
  unfold J174_51 at h
  refine pe_blk mm_174 1 (s' := (52, [some (.ref b), some (.int x1), some (.int x2), some (.int x3)], [.ref b], _, _, _)) rfl ?_
  refine pe_get mm_174 rfl rfl (isR_0 hb _) (by have := isR_lt hb; omega) rfl ?_
  refine pe_blk mm_174 1 (s' := (56, [some (.ref b), some (.int x1), some (.int x2), some (.int x3)], [.int x3, .ref (b + 1)], _, _, _)) rfl ?_
  by_cases q18 : x3 < 0 ∨ 150 ≤ (x3 : Int32).toNatClampNeg
  · rw [if_pos q18] at h
    cases h
  · rw [if_neg q18] at h
    refine pe_iald (f := M.1 (b + 1)) mm_174 rfl (isR_1 hb _) (by have := isR_lt hb; omega) q18 ?_
    obtain ⟨e1, rfl⟩ : ∃ e1, e = e1 + 1 := ⟨e - 1, by omega⟩
    cases hc21 : F13 n (M.1 (b + 1) (x3 : Int32).toNatClampNeg) M with
    | none => rw [hc21] at h; cases h
    | some w =>
      obtain ⟨v19, M20⟩ := w
      rw [hc21] at h
      dsimp only at h
      refine pe_stat (al := [.int (M.1 (b + 1) (x3 : Int32).toNatClampNeg)]) (L0 := [some (.int (M.1 (b + 1) (x3 : Int32).toNatClampNeg))]) (r1 := (some (.int v19), 129, 17845, hp M20)) mm_174 rfl rfl rfl mm_13 rfl (Nat.le_of_ble_eq_true rfl) (Nat.le_of_ble_eq_true rfl) rfl rfl (F13_ev sc n (M.1 (b + 1) (x3 : Int32).toNatClampNeg) _ e1 (by omega) _ _ hc21) ?_
      show pm_ev _ _ _ _ _ (60, [some (.ref b), some (.int x1), some (.int x2), some (.int x3)], [.int v19], _, _, _) _
      by_cases q22 : v19 = 0
      · rw [if_pos q22] at h
        refine pe_blk mm_174 1 (s' := (if v19 = 0 then 74 else 63, [some (.ref b), some (.int x1), some (.int x2), some (.int x3)], [], _, _, _)) rfl ?_
        rw [if_pos q22]
        refine pe_blk mm_174 1 (s' := (75, [some (.ref b), some (.int x1), some (.int x2), some (.int x3)], [.int x2], _, _, _)) rfl ?_
        by_cases q23 : x2 = 0
        · rw [if_pos q23] at h
          refine pe_blk mm_174 1 (s' := (if x2 = 0 then 78 else 97, [some (.ref b), some (.int x1), some (.int x2), some (.int x3)], [], _, _, _)) rfl ?_
          rw [if_pos q23]
          exact J174_78_ev sc n b hb (e1 + 1) he rec29 hr29 x1 x2 x3 _ _ _ h
        · rw [if_neg q23] at h
          refine pe_blk mm_174 1 (s' := (if x2 = 0 then 78 else 97, [some (.ref b), some (.int x1), some (.int x2), some (.int x3)], [], _, _, _)) rfl ?_
          rw [if_neg q23]
          exact J174_97_ev sc n b hb (e1 + 1) he rec29 hr29 x1 x2 x3 _ _ _ h
      · rw [if_neg q22] at h
        refine pe_blk mm_174 1 (s' := (if v19 = 0 then 74 else 63, [some (.ref b), some (.int x1), some (.int x2), some (.int x3)], [], _, _, _)) rfl ?_
        rw [if_neg q22]
        refine pe_blk mm_174 4 (s' := (67, [some (.ref b), some (.int x1), some (.int x2), some (.int x3)], [.int (x2 - 1), .int 0], _, _, _)) rfl ?_
        refine pe_max mm_174 rfl rfl (by omega) (Nat.le_of_ble_eq_true rfl) ?_
        show pm_ev _ _ _ _ _ (70, [some (.ref b), some (.int x1), some (.int x2), some (.int x3)], [.int (if 0 < (x2 - 1) then (x2 - 1) else 0)], _, _, _) _
        refine pe_blk mm_174 2 (s' := (97, [some (.ref b), some (.int x1), some (.int (if 0 < (x2 - 1) then (x2 - 1) else 0)), some (.int x3)], [], _, _, _)) rfl ?_
        exact J174_97_ev sc n b hb (e1 + 1) he rec29 hr29 x1 (if 0 < (x2 - 1) then (x2 - 1) else 0) x3 _ _ _ h
def J174_45 (n : Nat) (b : Nat) (rec29 : Int32 → Int32 → Int32 → Mem → Option (Int32 × Mem)) (x1 : Int32) (x2 : Int32) (x3 : Int32) (M : Mem) : Option (Int32 × Mem) :=
  J174_97 n b rec29 x1 (x2 + 1) x3 M
set_option maxRecDepth 100000 in
set_option maxHeartbeats 4000000 in
theorem J174_45_ev (sc : Option (Nat × (Nat → Int32))) (n : Nat) (b : Nat) (hb : isR b) (e : Nat) (he : 3 ≤ e) (rec29 : Int32 → Int32 → Int32 → Mem → Option (Int32 × Mem)) (hr29 : ∀ (x1 : Int32) (x2 : Int32) (x3 : Int32) (M : Mem) (r : Int32) (M' : Mem), rec29 x1 x2 x3 M = some (r, M') → pm_ev pmT sc e 174 false (29, [some (.ref b), some (.int x1), some (.int x2), some (.int x3)], [], 129, 17845, hp M) (some (.int r), 129, 17845, hp M')) : ∀ (x1 : Int32) (x2 : Int32) (x3 : Int32) (M : Mem) (r : Int32) (M' : Mem), J174_45 n b rec29 x1 x2 x3 M = some (r, M') → pm_ev pmT sc e 174 false (45, [some (.ref b), some (.int x1), some (.int x2), some (.int x3)], [], 129, 17845, hp M) (some (.int r), 129, 17845, hp M') := by
  intro x1 x2 x3  M r M' h
  unfold J174_45 at h
  refine pe_blk mm_174 2 (s' := (97, [some (.ref b), some (.int x1), some (.int (x2 + 1)), some (.int x3)], [], _, _, _)) rfl ?_
  exact J174_97_ev sc n b hb e he rec29 hr29 x1 (x2 + 1) x3 _ _ _ h
def L174_29 (n : Nat) (b : Nat) : Nat → Int32 → Int32 → Int32 → Mem → Option (Int32 × Mem)
  | 0, _, _, _, _ => none
  | k + 1, x1, x2, x3, M => if x3 < 0 then (some ((-1), M)) else (if x3 < 0 ∨ 150 ≤ (x3 : Int32).toNatClampNeg then none else (match F14 n (M.1 (b + 1) (x3 : Int32).toNatClampNeg) M with | some (v14, M15) => (if v14 = 0 then (J174_51 n b (L174_29 n b k) x1 x2 x3 M15) else (J174_45 n b (L174_29 n b k) x1 x2 x3 M15)) | none => none))
set_option maxRecDepth 100000 in
set_option maxHeartbeats 4000000 in
theorem L174_29_ev (sc : Option (Nat × (Nat → Int32))) (n : Nat) (b : Nat) (hb : isR b) (e : Nat) (he : 3 ≤ e) : ∀ k : Nat, ∀ (x1 : Int32) (x2 : Int32) (x3 : Int32) (M : Mem) (r : Int32) (M' : Mem), L174_29 n b k x1 x2 x3 M = some (r, M') → pm_ev pmT sc e 174 false (29, [some (.ref b), some (.int x1), some (.int x2), some (.int x3)], [], 129, 17845, hp M) (some (.int r), 129, 17845, hp M') := by
  intro k
  induction k with
  | zero => intro x1 x2 x3  M r M' h; cases h
  | succ k hr29 =>
    intro x1 x2 x3  M r M' h
    rw [L174_29] at h
    refine pe_blk mm_174 1 (s' := (30, [some (.ref b), some (.int x1), some (.int x2), some (.int x3)], [.int x3], _, _, _)) rfl ?_
    by_cases q12 : x3 < 0
    · rw [if_pos q12] at h
      refine pe_blk mm_174 1 (s' := (if x3 < 0 then 103 else 33, [some (.ref b), some (.int x1), some (.int x2), some (.int x3)], [], _, _, _)) rfl ?_
      rw [if_pos q12]
      refine pe_blk mm_174 1 (s' := (104, [some (.ref b), some (.int x1), some (.int x2), some (.int x3)], [.int (-1)], _, _, _)) rfl ?_
      cases h
      exact pe_ret mm_174 rfl rfl
    · rw [if_neg q12] at h
      refine pe_blk mm_174 1 (s' := (if x3 < 0 then 103 else 33, [some (.ref b), some (.int x1), some (.int x2), some (.int x3)], [], _, _, _)) rfl ?_
      rw [if_neg q12]
      refine pe_blk mm_174 1 (s' := (34, [some (.ref b), some (.int x1), some (.int x2), some (.int x3)], [.ref b], _, _, _)) rfl ?_
      refine pe_get mm_174 rfl rfl (isR_0 hb _) (by have := isR_lt hb; omega) rfl ?_
      refine pe_blk mm_174 1 (s' := (38, [some (.ref b), some (.int x1), some (.int x2), some (.int x3)], [.int x3, .ref (b + 1)], _, _, _)) rfl ?_
      by_cases q13 : x3 < 0 ∨ 150 ≤ (x3 : Int32).toNatClampNeg
      · rw [if_pos q13] at h
        cases h
      · rw [if_neg q13] at h
        refine pe_iald (f := M.1 (b + 1)) mm_174 rfl (isR_1 hb _) (by have := isR_lt hb; omega) q13 ?_
        obtain ⟨e1, rfl⟩ : ∃ e1, e = e1 + 1 := ⟨e - 1, by omega⟩
        cases hc16 : F14 n (M.1 (b + 1) (x3 : Int32).toNatClampNeg) M with
        | none => rw [hc16] at h; cases h
        | some w =>
          obtain ⟨v14, M15⟩ := w
          rw [hc16] at h
          dsimp only at h
          refine pe_stat (al := [.int (M.1 (b + 1) (x3 : Int32).toNatClampNeg)]) (L0 := [some (.int (M.1 (b + 1) (x3 : Int32).toNatClampNeg))]) (r1 := (some (.int v14), 129, 17845, hp M15)) mm_174 rfl rfl rfl mm_14 rfl (Nat.le_of_ble_eq_true rfl) (Nat.le_of_ble_eq_true rfl) rfl rfl (F14_ev sc n (M.1 (b + 1) (x3 : Int32).toNatClampNeg) _ e1 (by omega) _ _ hc16) ?_
          show pm_ev _ _ _ _ _ (42, [some (.ref b), some (.int x1), some (.int x2), some (.int x3)], [.int v14], _, _, _) _
          by_cases q17 : v14 = 0
          · rw [if_pos q17] at h
            refine pe_blk mm_174 1 (s' := (if v14 = 0 then 51 else 45, [some (.ref b), some (.int x1), some (.int x2), some (.int x3)], [], _, _, _)) rfl ?_
            rw [if_pos q17]
            exact J174_51_ev sc n b hb (e1 + 1) he (L174_29 n b k) hr29 x1 x2 x3 _ _ _ h
          · rw [if_neg q17] at h
            refine pe_blk mm_174 1 (s' := (if v14 = 0 then 51 else 45, [some (.ref b), some (.int x1), some (.int x2), some (.int x3)], [], _, _, _)) rfl ?_
            rw [if_neg q17]
            exact J174_45_ev sc n b hb (e1 + 1) he (L174_29 n b k) hr29 x1 x2 x3 _ _ _ h
def J174_23 (n : Nat) (b : Nat) (x1 : Int32) (M : Mem) : Option (Int32 × Mem) :=
  L174_29 n b n x1 0 (x1 - 1) M
set_option maxRecDepth 100000 in
set_option maxHeartbeats 4000000 in
theorem J174_23_ev (sc : Option (Nat × (Nat → Int32))) (n : Nat) (b : Nat) (hb : isR b) (e : Nat) (he : 3 ≤ e) : ∀ (x1 : Int32) (u2 : Option Value) (u3 : Option Value) (M : Mem) (r : Int32) (M' : Mem), J174_23 n b x1 M = some (r, M') → pm_ev pmT sc e 174 false (23, [some (.ref b), some (.int x1), u2, u3], [], 129, 17845, hp M) (some (.int r), 129, 17845, hp M') := by
  intro x1 u2 u3 M r M' h
  unfold J174_23 at h
  refine pe_blk mm_174 6 (s' := (29, [some (.ref b), some (.int x1), some (.int 0), some (.int (x1 - 1))], [], _, _, _)) rfl ?_
  exact L174_29_ev sc n b hb e he n x1 0 (x1 - 1) _ _ _ h
def J174_21 (n : Nat) (b : Nat) (x1 : Int32) (M : Mem) : Option (Int32 × Mem) :=
  some (x1, M)
set_option maxRecDepth 100000 in
set_option maxHeartbeats 4000000 in
theorem J174_21_ev (sc : Option (Nat × (Nat → Int32))) (n : Nat) (b : Nat) (hb : isR b) (e : Nat) (he : 3 ≤ e) : ∀ (x1 : Int32) (u0 : Option Value) (u2 : Option Value) (u3 : Option Value) (M : Mem) (r : Int32) (M' : Mem), J174_21 n b x1 M = some (r, M') → pm_ev pmT sc e 174 false (21, [u0, some (.int x1), u2, u3], [], 129, 17845, hp M) (some (.int r), 129, 17845, hp M') := by
  intro x1 u0 u2 u3 M r M' h
  unfold J174_21 at h
  refine pe_blk mm_174 1 (s' := (22, [u0, some (.int x1), u2, u3], [.int x1], _, _, _)) rfl ?_
  cases h
  exact pe_ret mm_174 rfl rfl
/-- ArmExpander$Row.binderOf -/
def F174 (n : Nat) (b : Nat) (a0 : Int32) (M : Mem) : Option (Int32 × Mem) :=
  match F170 n b a0 M with | some (v1, M2) => (match F11 n v1 M2 with | some (v4, M5) => (if v4 = 0 then (some ((-1), M5)) else (match F175 n b a0 M5 with | some (v8, M9) => (if v8 = 0 then (J174_23 n b a0 M9) else (J174_21 n b a0 M9)) | none => none)) | none => none) | none => none
set_option maxRecDepth 100000 in
set_option maxHeartbeats 4000000 in
theorem F174_ev (sc : Option (Nat × (Nat → Int32))) (n : Nat) (b : Nat) (a0 : Int32) (hb : isR b) (M : Mem) (e : Nat) (he : 3 ≤ e) (r : Int32) (M' : Mem) (h : F174 n b a0 M = some (r, M')) : pm_ev pmT sc e 174 false (0, [some (.ref b), some (.int a0), none, none], [], 129, 17845, hp M) (some (.int r), 129, 17845, hp M') := by
  unfold F174 at h
  refine pe_blk mm_174 2 (s' := (2, [some (.ref b), some (.int a0), none, none], [.int a0, .ref b], _, _, _)) rfl ?_
  obtain ⟨e1, rfl⟩ : ∃ e1, e = e1 + 1 := ⟨e - 1, by omega⟩
  cases hc3 : F170 n b a0 M with
  | none => rw [hc3] at h; cases h
  | some w =>
    obtain ⟨v1, M2⟩ := w
    rw [hc3] at h
    dsimp only at h
    refine pe_virt (al := [.int a0]) (a := b) (L0 := [some (.ref b), some (.int a0)]) (r1 := (some (.int v1), 129, 17845, hp M2)) mm_174 rfl rfl rfl mm_170 (isR_0 hb _) (by have := isR_lt hb; omega) (by decide) rfl (Nat.le_of_ble_eq_true rfl) (Nat.le_of_ble_eq_true rfl) rfl rfl (F170_ev sc n b a0 hb _ e1 (by omega) _ _ hc3) ?_
    show pm_ev _ _ _ _ _ (5, [some (.ref b), some (.int a0), none, none], [.int v1], _, _, _) _
    skip
    cases hc6 : F11 n v1 M2 with
    | none => rw [hc6] at h; cases h
    | some w =>
      obtain ⟨v4, M5⟩ := w
      rw [hc6] at h
      dsimp only at h
      refine pe_stat (al := [.int v1]) (L0 := [some (.int v1)]) (r1 := (some (.int v4), 129, 17845, hp M5)) mm_174 rfl rfl rfl mm_11 rfl (Nat.le_of_ble_eq_true rfl) (Nat.le_of_ble_eq_true rfl) rfl rfl (F11_ev sc n v1 _ e1 (by omega) _ _ hc6) ?_
      show pm_ev _ _ _ _ _ (8, [some (.ref b), some (.int a0), none, none], [.int v4], _, _, _) _
      by_cases q7 : v4 = 0
      · rw [if_pos q7] at h
        refine pe_blk mm_174 1 (s' := (if v4 = 0 then 11 else 13, [some (.ref b), some (.int a0), none, none], [], _, _, _)) rfl ?_
        rw [if_pos q7]
        refine pe_blk mm_174 1 (s' := (12, [some (.ref b), some (.int a0), none, none], [.int (-1)], _, _, _)) rfl ?_
        cases h
        exact pe_ret mm_174 rfl rfl
      · rw [if_neg q7] at h
        refine pe_blk mm_174 1 (s' := (if v4 = 0 then 11 else 13, [some (.ref b), some (.int a0), none, none], [], _, _, _)) rfl ?_
        rw [if_neg q7]
        refine pe_blk mm_174 2 (s' := (15, [some (.ref b), some (.int a0), none, none], [.int a0, .ref b], _, _, _)) rfl ?_
        skip
        cases hc10 : F175 n b a0 M5 with
        | none => rw [hc10] at h; cases h
        | some w =>
          obtain ⟨v8, M9⟩ := w
          rw [hc10] at h
          dsimp only at h
          refine pe_virt (al := [.int a0]) (a := b) (L0 := [some (.ref b), some (.int a0)]) (r1 := (some (.int v8), 129, 17845, hp M9)) mm_174 rfl rfl rfl mm_175 (isR_0 hb _) (by have := isR_lt hb; omega) (by decide) rfl (Nat.le_of_ble_eq_true rfl) (Nat.le_of_ble_eq_true rfl) rfl rfl (F175_ev sc n b a0 hb _ e1 (by omega) _ _ hc10) ?_
          show pm_ev _ _ _ _ _ (18, [some (.ref b), some (.int a0), none, none], [.int v8], _, _, _) _
          by_cases q11 : v8 = 0
          · rw [if_pos q11] at h
            refine pe_blk mm_174 1 (s' := (if v8 = 0 then 23 else 21, [some (.ref b), some (.int a0), none, none], [], _, _, _)) rfl ?_
            rw [if_pos q11]
            exact J174_23_ev sc n b hb (e1 + 1) he a0 _ _ _ _ _ h
          · rw [if_neg q11] at h
            refine pe_blk mm_174 1 (s' := (if v8 = 0 then 23 else 21, [some (.ref b), some (.int a0), none, none], [], _, _, _)) rfl ?_
            rw [if_neg q11]
            exact J174_21_ev sc n b hb (e1 + 1) he a0 _ _ _ _ _ _ h
