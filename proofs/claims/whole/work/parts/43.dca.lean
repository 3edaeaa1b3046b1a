/-! The methods as functions over Mem; written by program. -/
def J130_48 (n : Nat) (s0 : Int32) (M : Mem) : Option (Int32 × Mem) :=
  match F129 n s0 4 M with | some (v14, M15) => (if v14 = 0 ∨ v14 = 1 then some (v14, M15) else none) | none => none
set_option maxRecDepth 100000 in
set_option maxHeartbeats 4000000 in
theorem J130_48_ev (sc : Option (Nat × (Nat → Int32))) (n : Nat)  (e : Nat) (he : 3 ≤ e) : ∀ (s0 : Int32) (u0 : Option Value) (u1 : Option Value) (M : Mem) (r : Int32) (M' : Mem), J130_48 n s0 M = some (r, M') → pm_ev pmT sc e 130 false (48, [u0, u1], [.int s0, .ref 3], 129, 17845, hp M) (some (.int r), 129, 17845, hp M') := by
  intro s0 u0 u1 M r M' h
  unfold J130_48 at h
  refine pe_blk mm_130 1 (s' := (49, [u0, u1], [.int 4, .int s0, .ref 3], _, _, _)) rfl ?_
  obtain ⟨e1, rfl⟩ : ∃ e1, e = e1 + 1 := ⟨e - 1, by omega⟩
  cases hc16 : F129 n s0 4 M with
  | none => rw [hc16] at h; cases h
  | some w =>
    obtain ⟨v14, M15⟩ := w
    rw [hc16] at h
    dsimp only at h
    refine pe_virt (al := [.int 4, .int s0]) (a := 3) (L0 := [some (.ref 3), some (.int s0), some (.int 4)]) (r1 := (some (.int v14), 129, 17845, hp M15)) mm_130 rfl rfl rfl mm_129 rfl (by decide) (by decide) rfl (Nat.le_of_ble_eq_true rfl) (Nat.le_of_ble_eq_true rfl) rfl rfl (F129_ev sc n s0 4 _ e1 (by omega) _ _ hc16) ?_
    show pm_ev _ _ _ _ _ (52, [u0, u1], [.int v14], _, _, _) _
    by_cases q17 : v14 = 0 ∨ v14 = 1
    · rw [if_pos q17] at h
      cases h
      exact pe_ret mm_130 rfl (if_pos q17)
    · rw [if_neg q17] at h
      cases h
def J130_47 (n : Nat) (M : Mem) : Option (Int32 × Mem) :=
  J130_48 n 0 M
set_option maxRecDepth 100000 in
set_option maxHeartbeats 4000000 in
theorem J130_47_ev (sc : Option (Nat × (Nat → Int32))) (n : Nat)  (e : Nat) (he : 3 ≤ e) : ∀ (u0 : Option Value) (u1 : Option Value) (M : Mem) (r : Int32) (M' : Mem), J130_47 n  M = some (r, M') → pm_ev pmT sc e 130 false (47, [u0, u1], [.ref 3], 129, 17845, hp M) (some (.int r), 129, 17845, hp M') := by
  intro u0 u1 M r M' h
  unfold J130_47 at h
  refine pe_blk mm_130 1 (s' := (48, [u0, u1], [.int 0, .ref 3], _, _, _)) rfl ?_
  exact J130_48_ev sc n e he 0 _ _ _ _ _ h
def J130_21 (n : Nat) (x1 : Int32) (M : Mem) : Option (Int32 × Mem) :=
  if x1 = 40 then (match F162 n 4 (M.1 3 3) x1 M with | some (v10, M11) => (if v10 = 0 then (J130_47 n M11) else (J130_48 n 1 M11)) | none => none) else (J130_47 n M)
set_option maxRecDepth 100000 in
set_option maxHeartbeats 4000000 in
theorem J130_21_ev (sc : Option (Nat × (Nat → Int32))) (n : Nat)  (e : Nat) (he : 3 ≤ e) : ∀ (x1 : Int32) (M : Mem) (r : Int32) (M' : Mem), J130_21 n x1 M = some (r, M') → pm_ev pmT sc e 130 false (21, [some (.ref 3), some (.int x1)], [], 129, 17845, hp M) (some (.int r), 129, 17845, hp M') := by
  intro x1  M r M' h
  unfold J130_21 at h
  refine pe_blk mm_130 3 (s' := (25, [some (.ref 3), some (.int x1)], [.int 40, .int x1, .ref 3], _, _, _)) rfl ?_
  by_cases q9 : x1 = 40
  · rw [if_pos q9] at h
    refine pe_blk mm_130 1 (s' := (if x1 = 40 then 28 else 47, [some (.ref 3), some (.int x1)], [.ref 3], _, _, _)) rfl ?_
    rw [if_pos q9]
    refine pe_blk mm_130 1 (s' := (29, [some (.ref 3), some (.int x1)], [.ref 3, .ref 3], _, _, _)) rfl ?_
    refine pe_get mm_130 rfl rfl rfl (by decide) rfl ?_
    refine pe_blk mm_130 1 (s' := (33, [some (.ref 3), some (.int x1)], [.ref 3, .ref 4, .ref 3], _, _, _)) rfl ?_
    refine pe_get mm_130 rfl rfl rfl (by decide) rfl ?_
    refine pe_blk mm_130 1 (s' := (37, [some (.ref 3), some (.int x1)], [.int x1, .int (M.1 3 3), .ref 4, .ref 3], _, _, _)) rfl ?_
    obtain ⟨e1, rfl⟩ : ∃ e1, e = e1 + 1 := ⟨e - 1, by omega⟩
    cases hc12 : F162 n 4 (M.1 3 3) x1 M with
    | none => rw [hc12] at h; cases h
    | some w =>
      obtain ⟨v10, M11⟩ := w
      rw [hc12] at h
      dsimp only at h
      refine pe_virt (al := [.int x1, .int (M.1 3 3)]) (a := 4) (L0 := [some (.ref 4), some (.int (M.1 3 3)), some (.int x1)]) (r1 := (some (.int v10), 129, 17845, hp M11)) mm_130 rfl rfl rfl mm_162 rfl (by decide) (by decide) rfl (Nat.le_of_ble_eq_true rfl) (Nat.le_of_ble_eq_true rfl) rfl rfl (F162_ev sc n 4 (M.1 3 3) x1 (by decide) _ e1 (by omega) _ _ hc12) ?_
      show pm_ev _ _ _ _ _ (40, [some (.ref 3), some (.int x1)], [.int v10, .ref 3], _, _, _) _
      by_cases q13 : v10 = 0
      · rw [if_pos q13] at h
        refine pe_blk mm_130 1 (s' := (if v10 = 0 then 47 else 43, [some (.ref 3), some (.int x1)], [.ref 3], _, _, _)) rfl ?_
        rw [if_pos q13]
        exact J130_47_ev sc n (e1 + 1) he _ _ _ _ _ h
      · rw [if_neg q13] at h
        refine pe_blk mm_130 1 (s' := (if v10 = 0 then 47 else 43, [some (.ref 3), some (.int x1)], [.ref 3], _, _, _)) rfl ?_
        rw [if_neg q13]
        refine pe_blk mm_130 2 (s' := (48, [some (.ref 3), some (.int x1)], [.int 1, .ref 3], _, _, _)) rfl ?_
        exact J130_48_ev sc n (e1 + 1) he 1 _ _ _ _ _ h
  · rw [if_neg q9] at h
    refine pe_blk mm_130 1 (s' := (if x1 = 40 then 28 else 47, [some (.ref 3), some (.int x1)], [.ref 3], _, _, _)) rfl ?_
    rw [if_neg q9]
    exact J130_47_ev sc n e he _ _ _ _ _ h
/-- ArmExpander$DefinitionReader.acceptsPattern -/
def F130 (n : Nat) (a0 : Int32) (M : Mem) : Option (Int32 × Mem) :=
  mlet (m_i M 3 4 1) (fun M1 => mlet (m_i M1 3 5 0) (fun M2 => match M2.2.1 3 1 with | some p3 => (if isD p3 then (match F103 n p3 (M2.1 3 3) M2 with | some (v6, M7) => (J130_21 n a0 M7) | none => none) else none) | none => none))
set_option maxRecDepth 100000 in
set_option maxHeartbeats 4000000 in
theorem F130_ev (sc : Option (Nat × (Nat → Int32))) (n : Nat) (a0 : Int32)  (M : Mem) (e : Nat) (he : 3 ≤ e) (r : Int32) (M' : Mem) (h : F130 n a0 M = some (r, M')) : pm_ev pmT sc e 130 false (0, [some (.ref 3), some (.int a0)], [], 129, 17845, hp M) (some (.int r), 129, 17845, hp M') := by
  unfold F130 at h
  refine pe_blk mm_130 2 (s' := (2, [some (.ref 3), some (.int a0)], [.int 1, .ref 3], _, _, _)) rfl ?_
  refine pe_puti mm_130 rfl rfl rfl (by decide) (Nat.le_of_ble_eq_true rfl) rfl rfl ?_
  show pm_ev _ _ _ _ _ (5, [some (.ref 3), some (.int a0)], [], _, _, hp (m_i M 3 4 1)) _
  generalize m_i M 3 4 1 = M1 at h ⊢
  rw [mlet] at h
  refine pe_blk mm_130 2 (s' := (7, [some (.ref 3), some (.int a0)], [.int 0, .ref 3], _, _, _)) rfl ?_
  refine pe_puti mm_130 rfl rfl rfl (by decide) (Nat.le_of_ble_eq_true rfl) rfl rfl ?_
  show pm_ev _ _ _ _ _ (10, [some (.ref 3), some (.int a0)], [], _, _, hp (m_i M1 3 5 0)) _
  generalize m_i M1 3 5 0 = M2 at h ⊢
  rw [mlet] at h
  refine pe_blk mm_130 1 (s' := (11, [some (.ref 3), some (.int a0)], [.ref 3], _, _, _)) rfl ?_
  refine pe_get mm_130 rfl rfl rfl (by decide) rfl ?_
  show pm_ev _ _ _ _ _ (14, [some (.ref 3), some (.int a0)], va_rf (M2.2.1 3 1) :: [], _, _, _) _
  cases hq5 : M2.2.1 3 1 with
  | none => rw [hq5] at h; cases h
  | some p3 =>
    rw [hq5] at h
    dsimp only at h
    by_cases f4 : isD p3
    · rw [if_pos f4] at h
      show pm_ev _ _ _ _ _ (14, [some (.ref 3), some (.int a0)], [.ref p3], _, _, _) _
      refine pe_blk mm_130 1 (s' := (15, [some (.ref 3), some (.int a0)], [.ref 3, .ref p3], _, _, _)) rfl ?_
      refine pe_get mm_130 rfl rfl rfl (by decide) rfl ?_
      obtain ⟨e1, rfl⟩ : ∃ e1, e = e1 + 1 := ⟨e - 1, by omega⟩
      cases hc8 : F103 n p3 (M2.1 3 3) M2 with
      | none => rw [hc8] at h; cases h
      | some w =>
        obtain ⟨v6, M7⟩ := w
        rw [hc8] at h
        dsimp only at h
        refine pe_virt (al := [.int (M2.1 3 3)]) (a := p3) (L0 := [some (.ref p3), some (.int (M2.1 3 3))]) (r1 := (none, 129, 17845, hp M7)) mm_130 rfl rfl rfl mm_103 (isD_0 f4 _) (by have := isD_lt f4; omega) (by decide) rfl (Nat.le_of_ble_eq_true rfl) (Nat.le_of_ble_eq_true rfl) rfl rfl (F103_ev sc n p3 (M2.1 3 3) f4 _ e1 (by omega) _ _ hc8) ?_
        show pm_ev _ _ _ _ _ (21, [some (.ref 3), some (.int a0)], [], _, _, _) _
        exact J130_21_ev sc n (e1 + 1) he a0 _ _ _ h
    · rw [if_neg f4] at h
      cases h
def J132_100 (n : Nat) (M : Mem) : Option (Int32 × Mem) :=
  some (1, M)
set_option maxRecDepth 100000 in
set_option maxHeartbeats 4000000 in
theorem J132_100_ev (sc : Option (Nat × (Nat → Int32))) (n : Nat)  (e : Nat) (he : 2 ≤ e) : ∀ (u0 : Option Value) (u1 : Option Value) (u2 : Option Value) (M : Mem) (r : Int32) (M' : Mem), J132_100 n  M = some (r, M') → pm_ev pmT sc e 132 false (100, [u0, u1, u2], [], 129, 17845, hp M) (some (.int r), 129, 17845, hp M') := by
  intro u0 u1 u2 M r M' h
  unfold J132_100 at h
  refine pe_blk mm_132 1 (s' := (101, [u0, u1, u2], [.int 1], _, _, _)) rfl ?_
  cases h
  exact pe_ret mm_132 rfl rfl
def J132_94 (n : Nat) (M : Mem) : Option (Int32 × Mem) :=
  mlet (m_i M 3 2 8) (fun M30 => J132_100 n M30)
set_option maxRecDepth 100000 in
set_option maxHeartbeats 4000000 in
theorem J132_94_ev (sc : Option (Nat × (Nat → Int32))) (n : Nat)  (e : Nat) (he : 2 ≤ e) : ∀ (u1 : Option Value) (u2 : Option Value) (M : Mem) (r : Int32) (M' : Mem), J132_94 n  M = some (r, M') → pm_ev pmT sc e 132 false (94, [some (.ref 3), u1, u2], [], 129, 17845, hp M) (some (.int r), 129, 17845, hp M') := by
  intro u1 u2 M r M' h
  unfold J132_94 at h
  refine pe_blk mm_132 2 (s' := (97, [some (.ref 3), u1, u2], [.int 8, .ref 3], _, _, _)) rfl ?_
  refine pe_puti mm_132 rfl rfl rfl (by decide) (Nat.le_of_ble_eq_true rfl) rfl rfl ?_
  show pm_ev _ _ _ _ _ (100, [some (.ref 3), u1, u2], [], _, _, hp (m_i M 3 2 8)) _
  generalize m_i M 3 2 8 = M30 at h ⊢
  rw [mlet] at h
  exact J132_100_ev sc n e he _ _ _ _ _ _ h
def J132_71 (n : Nat) (M : Mem) : Option (Int32 × Mem) :=
  if (M.1 3 7) = (-1) then (J132_100 n M) else (match M.2.1 3 1 with | some p23 => (if isD p23 then (match F121 n p23 (M.1 3 7) M with | some (v26, M27) => (mlet (m_i M27 3 6 v26) (fun M29 => J132_94 n M29)) | none => none) else none) | none => none)
set_option maxRecDepth 100000 in
set_option maxHeartbeats 4000000 in
theorem J132_71_ev (sc : Option (Nat × (Nat → Int32))) (n : Nat)  (e : Nat) (he : 2 ≤ e) : ∀ (u1 : Option Value) (u2 : Option Value) (M : Mem) (r : Int32) (M' : Mem), J132_71 n  M = some (r, M') → pm_ev pmT sc e 132 false (71, [some (.ref 3), u1, u2], [], 129, 17845, hp M) (some (.int r), 129, 17845, hp M') := by
  intro u1 u2 M r M' h
  unfold J132_71 at h
  refine pe_blk mm_132 1 (s' := (72, [some (.ref 3), u1, u2], [.ref 3], _, _, _)) rfl ?_
  refine pe_get mm_132 rfl rfl rfl (by decide) rfl ?_
  refine pe_blk mm_132 1 (s' := (76, [some (.ref 3), u1, u2], [.int (-1), .int (M.1 3 7)], _, _, _)) rfl ?_
  by_cases q22 : (M.1 3 7) = (-1)
  · rw [if_pos q22] at h
    refine pe_blk mm_132 1 (s' := (if (M.1 3 7) = (-1) then 100 else 79, [some (.ref 3), u1, u2], [], _, _, _)) rfl ?_
    rw [if_pos q22]
    exact J132_100_ev sc n e he _ _ _ _ _ _ h
  · rw [if_neg q22] at h
    refine pe_blk mm_132 1 (s' := (if (M.1 3 7) = (-1) then 100 else 79, [some (.ref 3), u1, u2], [], _, _, _)) rfl ?_
    rw [if_neg q22]
    refine pe_blk mm_132 2 (s' := (81, [some (.ref 3), u1, u2], [.ref 3, .ref 3], _, _, _)) rfl ?_
    refine pe_get mm_132 rfl rfl rfl (by decide) rfl ?_
    show pm_ev _ _ _ _ _ (84, [some (.ref 3), u1, u2], va_rf (M.2.1 3 1) :: [.ref 3], _, _, _) _
    cases hq25 : M.2.1 3 1 with
    | none => rw [hq25] at h; cases h
    | some p23 =>
      rw [hq25] at h
      dsimp only at h
      by_cases f24 : isD p23
      · rw [if_pos f24] at h
        show pm_ev _ _ _ _ _ (84, [some (.ref 3), u1, u2], [.ref p23, .ref 3], _, _, _) _
        refine pe_blk mm_132 1 (s' := (85, [some (.ref 3), u1, u2], [.ref 3, .ref p23, .ref 3], _, _, _)) rfl ?_
        refine pe_get mm_132 rfl rfl rfl (by decide) rfl ?_
        obtain ⟨e1, rfl⟩ : ∃ e1, e = e1 + 1 := ⟨e - 1, by omega⟩
        cases hc28 : F121 n p23 (M.1 3 7) M with
        | none => rw [hc28] at h; cases h
        | some w =>
          obtain ⟨v26, M27⟩ := w
          rw [hc28] at h
          dsimp only at h
          refine pe_virt (al := [.int (M.1 3 7)]) (a := p23) (L0 := [some (.ref p23), some (.int (M.1 3 7))]) (r1 := (some (.int v26), 129, 17845, hp M27)) mm_132 rfl rfl rfl mm_121 (isD_0 f24 _) (by have := isD_lt f24; omega) (by decide) rfl (Nat.le_of_ble_eq_true rfl) (Nat.le_of_ble_eq_true rfl) rfl rfl (F121_ev sc n p23 (M.1 3 7) f24 _ e1 (by omega) _ _ hc28) ?_
          show pm_ev _ _ _ _ _ (91, [some (.ref 3), u1, u2], [.int v26, .ref 3], _, _, _) _
          refine pe_puti mm_132 rfl rfl rfl (by decide) (Nat.le_of_ble_eq_true rfl) rfl rfl ?_
          show pm_ev _ _ _ _ _ (94, [some (.ref 3), u1, u2], [], _, _, hp (m_i M27 3 6 v26)) _
          generalize m_i M27 3 6 v26 = M29 at h ⊢
          rw [mlet] at h
          exact J132_94_ev sc n (e1 + 1) he _ _ _ _ _ h
      · rw [if_neg f24] at h
        cases h
def J132_52 (n : Nat) (s0 : Int32) (s1 : Int32) (M : Mem) : Option (Int32 × Mem) :=
  match F129 n s1 s0 M with | some (v32, M33) => (if v32 = 0 ∨ v32 = 1 then some (v32, M33) else none) | none => none
set_option maxRecDepth 100000 in
set_option maxHeartbeats 4000000 in
theorem J132_52_ev (sc : Option (Nat × (Nat → Int32))) (n : Nat)  (e : Nat) (he : 2 ≤ e) : ∀ (s0 : Int32) (s1 : Int32) (u0 : Option Value) (u1 : Option Value) (u2 : Option Value) (M : Mem) (r : Int32) (M' : Mem), J132_52 n s0 s1 M = some (r, M') → pm_ev pmT sc e 132 false (52, [u0, u1, u2], [.int s0, .int s1, .ref 3], 129, 17845, hp M) (some (.int r), 129, 17845, hp M') := by
  intro s0 s1 u0 u1 u2 M r M' h
  unfold J132_52 at h
  obtain ⟨e1, rfl⟩ : ∃ e1, e = e1 + 1 := ⟨e - 1, by omega⟩
  cases hc34 : F129 n s1 s0 M with
  | none => rw [hc34] at h; cases h
  | some w =>
    obtain ⟨v32, M33⟩ := w
    rw [hc34] at h
    dsimp only at h
    refine pe_virt (al := [.int s0, .int s1]) (a := 3) (L0 := [some (.ref 3), some (.int s1), some (.int s0)]) (r1 := (some (.int v32), 129, 17845, hp M33)) mm_132 rfl rfl rfl mm_129 rfl (by decide) (by decide) rfl (Nat.le_of_ble_eq_true rfl) (Nat.le_of_ble_eq_true rfl) rfl rfl (F129_ev sc n s1 s0 _ e1 (by omega) _ _ hc34) ?_
    show pm_ev _ _ _ _ _ (55, [u0, u1, u2], [.int v32], _, _, _) _
    by_cases q35 : v32 = 0 ∨ v32 = 1
    · rw [if_pos q35] at h
      cases h
      exact pe_ret mm_132 rfl (if_pos q35)
    · rw [if_neg q35] at h
      cases h
def J132_28 (n : Nat) (M : Mem) : Option (Int32 × Mem) :=
  match F161 n 4 M with | some (v11, M12) => (if v11 = 0 then (match M12.2.1 3 1 with | some p15 => (if isD p15 then (match F117 n p15 (M12.1 3 3) M12 with | some (v18, M19) => (mlet (m_i M19 3 7 v18) (fun M21 => J132_71 n M21)) | none => none) else none) | none => none) else (if (M12.1 3 4) = 0 then (J132_52 n 3 1 M12) else (J132_52 n 2 1 M12))) | none => none
set_option maxRecDepth 100000 in
set_option maxHeartbeats 4000000 in
theorem J132_28_ev (sc : Option (Nat × (Nat → Int32))) (n : Nat)  (e : Nat) (he : 2 ≤ e) : ∀ (u1 : Option Value) (u2 : Option Value) (M : Mem) (r : Int32) (M' : Mem), J132_28 n  M = some (r, M') → pm_ev pmT sc e 132 false (28, [some (.ref 3), u1, u2], [], 129, 17845, hp M) (some (.int r), 129, 17845, hp M') := by
  intro u1 u2 M r M' h
  unfold J132_28 at h
  refine pe_blk mm_132 1 (s' := (29, [some (.ref 3), u1, u2], [.ref 3], _, _, _)) rfl ?_
  refine pe_get mm_132 rfl rfl rfl (by decide) rfl ?_
  obtain ⟨e1, rfl⟩ : ∃ e1, e = e1 + 1 := ⟨e - 1, by omega⟩
  cases hc13 : F161 n 4 M with
  | none => rw [hc13] at h; cases h
  | some w =>
    obtain ⟨v11, M12⟩ := w
    rw [hc13] at h
    dsimp only at h
    refine pe_virt (al := []) (a := 4) (L0 := [some (.ref 4)]) (r1 := (some (.int v11), 129, 17845, hp M12)) mm_132 rfl rfl rfl mm_161 rfl (by decide) (by decide) rfl (Nat.le_of_ble_eq_true rfl) (Nat.le_of_ble_eq_true rfl) rfl rfl (F161_ev sc n 4 (by decide) _ e1 (by omega) _ _ hc13) ?_
    show pm_ev _ _ _ _ _ (35, [some (.ref 3), u1, u2], [.int v11], _, _, _) _
    by_cases q14 : v11 = 0
    · rw [if_pos q14] at h
      refine pe_blk mm_132 1 (s' := (if v11 = 0 then 56 else 38, [some (.ref 3), u1, u2], [], _, _, _)) rfl ?_
      rw [if_pos q14]
      refine pe_blk mm_132 2 (s' := (58, [some (.ref 3), u1, u2], [.ref 3, .ref 3], _, _, _)) rfl ?_
      refine pe_get mm_132 rfl rfl rfl (by decide) rfl ?_
      show pm_ev _ _ _ _ _ (61, [some (.ref 3), u1, u2], va_rf (M12.2.1 3 1) :: [.ref 3], _, _, _) _
      cases hq17 : M12.2.1 3 1 with
      | none => rw [hq17] at h; cases h
      | some p15 =>
        rw [hq17] at h
        dsimp only at h
        by_cases f16 : isD p15
        · rw [if_pos f16] at h
          show pm_ev _ _ _ _ _ (61, [some (.ref 3), u1, u2], [.ref p15, .ref 3], _, _, _) _
          refine pe_blk mm_132 1 (s' := (62, [some (.ref 3), u1, u2], [.ref 3, .ref p15, .ref 3], _, _, _)) rfl ?_
          refine pe_get mm_132 rfl rfl rfl (by decide) rfl ?_
          skip
          cases hc20 : F117 n p15 (M12.1 3 3) M12 with
          | none => rw [hc20] at h; cases h
          | some w =>
            obtain ⟨v18, M19⟩ := w
            rw [hc20] at h
            dsimp only at h
            refine pe_virt (al := [.int (M12.1 3 3)]) (a := p15) (L0 := [some (.ref p15), some (.int (M12.1 3 3)), none]) (r1 := (some (.int v18), 129, 17845, hp M19)) mm_132 rfl rfl rfl mm_117 (isD_0 f16 _) (by have := isD_lt f16; omega) (by decide) rfl (Nat.le_of_ble_eq_true rfl) (Nat.le_of_ble_eq_true rfl) rfl rfl (F117_ev sc n p15 (M12.1 3 3) f16 _ e1 (by omega) _ _ hc20) ?_
            show pm_ev _ _ _ _ _ (68, [some (.ref 3), u1, u2], [.int v18, .ref 3], _, _, _) _
            refine pe_puti mm_132 rfl rfl rfl (by decide) (Nat.le_of_ble_eq_true rfl) rfl rfl ?_
            show pm_ev _ _ _ _ _ (71, [some (.ref 3), u1, u2], [], _, _, hp (m_i M19 3 7 v18)) _
            generalize m_i M19 3 7 v18 = M21 at h ⊢
            rw [mlet] at h
            exact J132_71_ev sc n (e1 + 1) he _ _ _ _ _ h
        · rw [if_neg f16] at h
          cases h
    · rw [if_neg q14] at h
      refine pe_blk mm_132 1 (s' := (if v11 = 0 then 56 else 38, [some (.ref 3), u1, u2], [], _, _, _)) rfl ?_
      rw [if_neg q14]
      refine pe_blk mm_132 3 (s' := (41, [some (.ref 3), u1, u2], [.ref 3, .int 1, .ref 3], _, _, _)) rfl ?_
      refine pe_get mm_132 rfl rfl rfl (by decide) rfl ?_
      by_cases q31 : (M12.1 3 4) = 0
      · rw [if_pos q31] at h
        refine pe_blk mm_132 1 (s' := (if (M12.1 3 4) = 0 then 51 else 47, [some (.ref 3), u1, u2], [.int 1, .ref 3], _, _, _)) rfl ?_
        rw [if_pos q31]
        refine pe_blk mm_132 1 (s' := (52, [some (.ref 3), u1, u2], [.int 3, .int 1, .ref 3], _, _, _)) rfl ?_
        exact J132_52_ev sc n (e1 + 1) he 3 1 _ _ _ _ _ _ h
      · rw [if_neg q31] at h
        refine pe_blk mm_132 1 (s' := (if (M12.1 3 4) = 0 then 51 else 47, [some (.ref 3), u1, u2], [.int 1, .ref 3], _, _, _)) rfl ?_
        rw [if_neg q31]
        refine pe_blk mm_132 2 (s' := (52, [some (.ref 3), u1, u2], [.int 2, .int 1, .ref 3], _, _, _)) rfl ?_
        exact J132_52_ev sc n (e1 + 1) he 2 1 _ _ _ _ _ _ h
/-- ArmExpander$DefinitionReader.acceptsClosing -/
def F132 (n : Nat) (a0 : Int32) (M : Mem) : Option (Int32 × Mem) :=
  match F163 n 4 a0 M with | some (v1, M2) => (if v1 = (-1) then (some (0, M2)) else (match M2.2.1 3 1 with | some p5 => (if isD p5 then (match F104 n p5 v1 (M2.1 3 3) M2 with | some (v8, M9) => (J132_28 n M9) | none => none) else none) | none => none)) | none => none
set_option maxRecDepth 100000 in
set_option maxHeartbeats 4000000 in
theorem F132_ev (sc : Option (Nat × (Nat → Int32))) (n : Nat) (a0 : Int32)  (M : Mem) (e : Nat) (he : 2 ≤ e) (r : Int32) (M' : Mem) (h : F132 n a0 M = some (r, M')) : pm_ev pmT sc e 132 false (0, [some (.ref 3), some (.int a0), none], [], 129, 17845, hp M) (some (.int r), 129, 17845, hp M') := by
  unfold F132 at h
  refine pe_blk mm_132 1 (s' := (1, [some (.ref 3), some (.int a0), none], [.ref 3], _, _, _)) rfl ?_
  refine pe_get mm_132 rfl rfl rfl (by decide) rfl ?_
  refine pe_blk mm_132 1 (s' := (5, [some (.ref 3), some (.int a0), none], [.int a0, .ref 4], _, _, _)) rfl ?_
  obtain ⟨e1, rfl⟩ : ∃ e1, e = e1 + 1 := ⟨e - 1, by omega⟩
  cases hc3 : F163 n 4 a0 M with
  | none => rw [hc3] at h; cases h
  | some w =>
    obtain ⟨v1, M2⟩ := w
    rw [hc3] at h
    dsimp only at h
    refine pe_virt (al := [.int a0]) (a := 4) (L0 := [some (.ref 4), some (.int a0)]) (r1 := (some (.int v1), 129, 17845, hp M2)) mm_132 rfl rfl rfl mm_163 rfl (by decide) (by decide) rfl (Nat.le_of_ble_eq_true rfl) (Nat.le_of_ble_eq_true rfl) rfl rfl (F163_ev sc n 4 a0 (by decide) _ e1 (by omega) _ _ hc3) ?_
    show pm_ev _ _ _ _ _ (8, [some (.ref 3), some (.int a0), none], [.int v1], _, _, _) _
    refine pe_blk mm_132 3 (s' := (11, [some (.ref 3), some (.int a0), some (.int v1)], [.int (-1), .int v1], _, _, _)) rfl ?_
    by_cases q4 : v1 = (-1)
    · rw [if_pos q4] at h
      refine pe_blk mm_132 1 (s' := (if v1 = (-1) then 14 else 16, [some (.ref 3), some (.int a0), some (.int v1)], [], _, _, _)) rfl ?_
      rw [if_pos q4]
      refine pe_blk mm_132 1 (s' := (15, [some (.ref 3), some (.int a0), some (.int v1)], [.int 0], _, _, _)) rfl ?_
      cases h
      exact pe_ret mm_132 rfl rfl
    · rw [if_neg q4] at h
      refine pe_blk mm_132 1 (s' := (if v1 = (-1) then 14 else 16, [some (.ref 3), some (.int a0), some (.int v1)], [], _, _, _)) rfl ?_
      rw [if_neg q4]
      refine pe_blk mm_132 1 (s' := (17, [some (.ref 3), some (.int a0), some (.int v1)], [.ref 3], _, _, _)) rfl ?_
      refine pe_get mm_132 rfl rfl rfl (by decide) rfl ?_
      show pm_ev _ _ _ _ _ (20, [some (.ref 3), some (.int a0), some (.int v1)], va_rf (M2.2.1 3 1) :: [], _, _, _) _
      cases hq7 : M2.2.1 3 1 with
      | none => rw [hq7] at h; cases h
      | some p5 =>
        rw [hq7] at h
        dsimp only at h
        by_cases f6 : isD p5
        · rw [if_pos f6] at h
          show pm_ev _ _ _ _ _ (20, [some (.ref 3), some (.int a0), some (.int v1)], [.ref p5], _, _, _) _
          refine pe_blk mm_132 2 (s' := (22, [some (.ref 3), some (.int a0), some (.int v1)], [.ref 3, .int v1, .ref p5], _, _, _)) rfl ?_
          refine pe_get mm_132 rfl rfl rfl (by decide) rfl ?_
          skip
          cases hc10 : F104 n p5 v1 (M2.1 3 3) M2 with
          | none => rw [hc10] at h; cases h
          | some w =>
            obtain ⟨v8, M9⟩ := w
            rw [hc10] at h
            dsimp only at h
            refine pe_virt (al := [.int (M2.1 3 3), .int v1]) (a := p5) (L0 := [some (.ref p5), some (.int v1), some (.int (M2.1 3 3))]) (r1 := (none, 129, 17845, hp M9)) mm_132 rfl rfl rfl mm_104 (isD_0 f6 _) (by have := isD_lt f6; omega) (by decide) rfl (Nat.le_of_ble_eq_true rfl) (Nat.le_of_ble_eq_true rfl) rfl rfl (F104_ev sc n p5 v1 (M2.1 3 3) f6 _ e1 (by omega) _ _ hc10) ?_
            show pm_ev _ _ _ _ _ (28, [some (.ref 3), some (.int a0), some (.int v1)], [], _, _, _) _
            exact J132_28_ev sc n (e1 + 1) he _ _ _ _ _ h
        · rw [if_neg f6] at h
          cases h
def J133_66 (n : Nat) (M : Mem) : Option (Int32 × Mem) :=
  some (0, M)
set_option maxRecDepth 100000 in
set_option maxHeartbeats 4000000 in
theorem J133_66_ev (sc : Option (Nat × (Nat → Int32))) (n : Nat)  (e : Nat) (he : 3 ≤ e) : ∀ (u0 : Option Value) (u1 : Option Value) (u2 : Option Value) (M : Mem) (r : Int32) (M' : Mem), J133_66 n  M = some (r, M') → pm_ev pmT sc e 133 false (66, [u0, u1, u2], [], 129, 17845, hp M) (some (.int r), 129, 17845, hp M') := by
  intro u0 u1 u2 M r M' h
  unfold J133_66 at h
  refine pe_blk mm_133 1 (s' := (67, [u0, u1, u2], [.int 0], _, _, _)) rfl ?_
  cases h
  exact pe_ret mm_133 rfl rfl
def J133_116 (n : Nat) (s0 : Int32) (M : Mem) : Option (Int32 × Mem) :=
  match F129 n s0 4 M with | some (v20, M21) => (if v20 = 0 ∨ v20 = 1 then some (v20, M21) else none) | none => none
set_option maxRecDepth 100000 in
set_option maxHeartbeats 4000000 in
theorem J133_116_ev (sc : Option (Nat × (Nat → Int32))) (n : Nat)  (e : Nat) (he : 3 ≤ e) : ∀ (s0 : Int32) (u0 : Option Value) (u1 : Option Value) (u2 : Option Value) (M : Mem) (r : Int32) (M' : Mem), J133_116 n s0 M = some (r, M') → pm_ev pmT sc e 133 false (116, [u0, u1, u2], [.int s0, .ref 3], 129, 17845, hp M) (some (.int r), 129, 17845, hp M') := by
  intro s0 u0 u1 u2 M r M' h
  unfold J133_116 at h
  refine pe_blk mm_133 1 (s' := (117, [u0, u1, u2], [.int 4, .int s0, .ref 3], _, _, _)) rfl ?_
  obtain ⟨e1, rfl⟩ : ∃ e1, e = e1 + 1 := ⟨e - 1, by omega⟩
  cases hc22 : F129 n s0 4 M with
  | none => rw [hc22] at h; cases h
  | some w =>
    obtain ⟨v20, M21⟩ := w
    rw [hc22] at h
    dsimp only at h
    refine pe_virt (al := [.int 4, .int s0]) (a := 3) (L0 := [some (.ref 3), some (.int s0), some (.int 4)]) (r1 := (some (.int v20), 129, 17845, hp M21)) mm_133 rfl rfl rfl mm_129 rfl (by decide) (by decide) rfl (Nat.le_of_ble_eq_true rfl) (Nat.le_of_ble_eq_true rfl) rfl rfl (F129_ev sc n s0 4 _ e1 (by omega) _ _ hc22) ?_
    show pm_ev _ _ _ _ _ (120, [u0, u1, u2], [.int v20], _, _, _) _
    by_cases q23 : v20 = 0 ∨ v20 = 1
    · rw [if_pos q23] at h
      cases h
      exact pe_ret mm_133 rfl (if_pos q23)
    · rw [if_neg q23] at h
      cases h
def J133_97 (n : Nat) (x2 : Int32) (M : Mem) : Option (Int32 × Mem) :=
  mlet (m_i M 3 6 x2) (fun M18 => if 4 < (M18.1 3 5) then (J133_116 n 0 M18) else (J133_116 n 1 M18))
set_option maxRecDepth 100000 in
set_option maxHeartbeats 4000000 in
theorem J133_97_ev (sc : Option (Nat × (Nat → Int32))) (n : Nat)  (e : Nat) (he : 3 ≤ e) : ∀ (x2 : Int32) (u1 : Option Value) (M : Mem) (r : Int32) (M' : Mem), J133_97 n x2 M = some (r, M') → pm_ev pmT sc e 133 false (97, [some (.ref 3), u1, some (.int x2)], [], 129, 17845, hp M) (some (.int r), 129, 17845, hp M') := by
  intro x2 u1 M r M' h
  unfold J133_97 at h
  refine pe_blk mm_133 2 (s' := (99, [some (.ref 3), u1, some (.int x2)], [.int x2, .ref 3], _, _, _)) rfl ?_
  refine pe_puti mm_133 rfl rfl rfl (by decide) (Nat.le_of_ble_eq_true rfl) rfl rfl ?_
  show pm_ev _ _ _ _ _ (102, [some (.ref 3), u1, some (.int x2)], [], _, _, hp (m_i M 3 6 x2)) _
  generalize m_i M 3 6 x2 = M18 at h ⊢
  rw [mlet] at h
  refine pe_blk mm_133 2 (s' := (104, [some (.ref 3), u1, some (.int x2)], [.ref 3, .ref 3], _, _, _)) rfl ?_
  refine pe_get mm_133 rfl rfl rfl (by decide) rfl ?_
  refine pe_blk mm_133 1 (s' := (108, [some (.ref 3), u1, some (.int x2)], [.int 4, .int (M18.1 3 5), .ref 3], _, _, _)) rfl ?_
  by_cases q19 : 4 < (M18.1 3 5)
  · rw [if_pos q19] at h
    refine pe_blk mm_133 1 (s' := (if 4 < (M18.1 3 5) then 115 else 111, [some (.ref 3), u1, some (.int x2)], [.ref 3], _, _, _)) rfl ?_
    rw [if_pos q19]
    refine pe_blk mm_133 1 (s' := (116, [some (.ref 3), u1, some (.int x2)], [.int 0, .ref 3], _, _, _)) rfl ?_
    exact J133_116_ev sc n e he 0 _ _ _ _ _ _ h
  · rw [if_neg q19] at h
    refine pe_blk mm_133 1 (s' := (if 4 < (M18.1 3 5) then 115 else 111, [some (.ref 3), u1, some (.int x2)], [.ref 3], _, _, _)) rfl ?_
    rw [if_neg q19]
    refine pe_blk mm_133 2 (s' := (116, [some (.ref 3), u1, some (.int x2)], [.int 1, .ref 3], _, _, _)) rfl ?_
    exact J133_116_ev sc n e he 1 _ _ _ _ _ _ h
def J133_75 (n : Nat) (x2 : Int32) (M : Mem) : Option (Int32 × Mem) :=
  match M.2.1 3 1 with | some p24 => (if isD p24 then (match F106 n p24 x2 (M.1 3 5) M with | some (v27, M28) => (mlet (m_i M28 3 5 ((M28.1 3 5) + 1)) (fun M30 => J133_97 n x2 M30)) | none => none) else none) | none => none
set_option maxRecDepth 100000 in
set_option maxHeartbeats 4000000 in
theorem J133_75_ev (sc : Option (Nat × (Nat → Int32))) (n : Nat)  (e : Nat) (he : 3 ≤ e) : ∀ (x2 : Int32) (u1 : Option Value) (M : Mem) (r : Int32) (M' : Mem), J133_75 n x2 M = some (r, M') → pm_ev pmT sc e 133 false (75, [some (.ref 3), u1, some (.int x2)], [], 129, 17845, hp M) (some (.int r), 129, 17845, hp M') := by
  intro x2 u1 M r M' h
  unfold J133_75 at h
  refine pe_blk mm_133 1 (s' := (76, [some (.ref 3), u1, some (.int x2)], [.ref 3], _, _, _)) rfl ?_
  refine pe_get mm_133 rfl rfl rfl (by decide) rfl ?_
  show pm_ev _ _ _ _ _ (79, [some (.ref 3), u1, some (.int x2)], va_rf (M.2.1 3 1) :: [], _, _, _) _
  cases hq26 : M.2.1 3 1 with
  | none => rw [hq26] at h; cases h
  | some p24 =>
    rw [hq26] at h
    dsimp only at h
    by_cases f25 : isD p24
    · rw [if_pos f25] at h
      show pm_ev _ _ _ _ _ (79, [some (.ref 3), u1, some (.int x2)], [.ref p24], _, _, _) _
      refine pe_blk mm_133 2 (s' := (81, [some (.ref 3), u1, some (.int x2)], [.ref 3, .int x2, .ref p24], _, _, _)) rfl ?_
      refine pe_get mm_133 rfl rfl rfl (by decide) rfl ?_
      obtain ⟨e1, rfl⟩ : ∃ e1, e = e1 + 1 := ⟨e - 1, by omega⟩
      cases hc29 : F106 n p24 x2 (M.1 3 5) M with
      | none => rw [hc29] at h; cases h
      | some w =>
        obtain ⟨v27, M28⟩ := w
        rw [hc29] at h
        dsimp only at h
        refine pe_virt (al := [.int (M.1 3 5), .int x2]) (a := p24) (L0 := [some (.ref p24), some (.int x2), some (.int (M.1 3 5))]) (r1 := (none, 129, 17845, hp M28)) mm_133 rfl rfl rfl mm_106 (isD_0 f25 _) (by have := isD_lt f25; omega) (by decide) rfl (Nat.le_of_ble_eq_true rfl) (Nat.le_of_ble_eq_true rfl) rfl rfl (F106_ev sc n p24 x2 (M.1 3 5) f25 _ e1 (by omega) _ _ hc29) ?_
        show pm_ev _ _ _ _ _ (87, [some (.ref 3), u1, some (.int x2)], [], _, _, _) _
        refine pe_blk mm_133 2 (s' := (89, [some (.ref 3), u1, some (.int x2)], [.ref 3, .ref 3], _, _, _)) rfl ?_
        refine pe_get mm_133 rfl rfl rfl (by decide) rfl ?_
        refine pe_blk mm_133 2 (s' := (94, [some (.ref 3), u1, some (.int x2)], [.int ((M28.1 3 5) + 1), .ref 3], _, _, _)) rfl ?_
        refine pe_puti mm_133 rfl rfl rfl (by decide) (Nat.le_of_ble_eq_true rfl) rfl rfl ?_
        show pm_ev _ _ _ _ _ (97, [some (.ref 3), u1, some (.int x2)], [], _, _, hp (m_i M28 3 5 ((M28.1 3 5) + 1))) _
        generalize m_i M28 3 5 ((M28.1 3 5) + 1) = M30 at h ⊢
        rw [mlet] at h
        exact J133_97_ev sc n (e1 + 1) he x2 _ _ _ _ h
    · rw [if_neg f25] at h
      cases h
def J133_51 (n : Nat) (x1 : Int32) (x2 : Int32) (M : Mem) : Option (Int32 × Mem) :=
  match F162 n 4 (M.1 3 3) x1 M with | some (v13, M14) => (if v13 = 0 then (J133_66 n M14) else (if (M14.1 3 4) = 0 then (J133_97 n x2 M14) else (J133_75 n x2 M14))) | none => none
set_option maxRecDepth 100000 in
set_option maxHeartbeats 4000000 in
theorem J133_51_ev (sc : Option (Nat × (Nat → Int32))) (n : Nat)  (e : Nat) (he : 3 ≤ e) : ∀ (x1 : Int32) (x2 : Int32) (M : Mem) (r : Int32) (M' : Mem), J133_51 n x1 x2 M = some (r, M') → pm_ev pmT sc e 133 false (51, [some (.ref 3), some (.int x1), some (.int x2)], [], 129, 17845, hp M) (some (.int r), 129, 17845, hp M') := by
  intro x1 x2  M r M' h
  unfold J133_51 at h
  refine pe_blk mm_133 1 (s' := (52, [some (.ref 3), some (.int x1), some (.int x2)], [.ref 3], _, _, _)) rfl ?_
  refine pe_get mm_133 rfl rfl rfl (by decide) rfl ?_
  refine pe_blk mm_133 1 (s' := (56, [some (.ref 3), some (.int x1), some (.int x2)], [.ref 3, .ref 4], _, _, _)) rfl ?_
  refine pe_get mm_133 rfl rfl rfl (by decide) rfl ?_
  refine pe_blk mm_133 1 (s' := (60, [some (.ref 3), some (.int x1), some (.int x2)], [.int x1, .int (M.1 3 3), .ref 4], _, _, _)) rfl ?_
  obtain ⟨e1, rfl⟩ : ∃ e1, e = e1 + 1 := ⟨e - 1, by omega⟩
  cases hc15 : F162 n 4 (M.1 3 3) x1 M with
  | none => rw [hc15] at h; cases h
  | some w =>
    obtain ⟨v13, M14⟩ := w
    rw [hc15] at h
    dsimp only at h
    refine pe_virt (al := [.int x1, .int (M.1 3 3)]) (a := 4) (L0 := [some (.ref 4), some (.int (M.1 3 3)), some (.int x1)]) (r1 := (some (.int v13), 129, 17845, hp M14)) mm_133 rfl rfl rfl mm_162 rfl (by decide) (by decide) rfl (Nat.le_of_ble_eq_true rfl) (Nat.le_of_ble_eq_true rfl) rfl rfl (F162_ev sc n 4 (M.1 3 3) x1 (by decide) _ e1 (by omega) _ _ hc15) ?_
    show pm_ev _ _ _ _ _ (63, [some (.ref 3), some (.int x1), some (.int x2)], [.int v13], _, _, _) _
    by_cases q16 : v13 = 0
    · rw [if_pos q16] at h
      refine pe_blk mm_133 1 (s' := (if v13 = 0 then 66 else 68, [some (.ref 3), some (.int x1), some (.int x2)], [], _, _, _)) rfl ?_
      rw [if_pos q16]
      exact J133_66_ev sc n (e1 + 1) he _ _ _ _ _ _ h
    · rw [if_neg q16] at h
      refine pe_blk mm_133 1 (s' := (if v13 = 0 then 66 else 68, [some (.ref 3), some (.int x1), some (.int x2)], [], _, _, _)) rfl ?_
      rw [if_neg q16]
      refine pe_blk mm_133 1 (s' := (69, [some (.ref 3), some (.int x1), some (.int x2)], [.ref 3], _, _, _)) rfl ?_
      refine pe_get mm_133 rfl rfl rfl (by decide) rfl ?_
      by_cases q17 : (M14.1 3 4) = 0
      · rw [if_pos q17] at h
        refine pe_blk mm_133 1 (s' := (if (M14.1 3 4) = 0 then 97 else 75, [some (.ref 3), some (.int x1), some (.int x2)], [], _, _, _)) rfl ?_
        rw [if_pos q17]
        exact J133_97_ev sc n (e1 + 1) he x2 _ _ _ _ h
      · rw [if_neg q17] at h
        refine pe_blk mm_133 1 (s' := (if (M14.1 3 4) = 0 then 97 else 75, [some (.ref 3), some (.int x1), some (.int x2)], [], _, _, _)) rfl ?_
        rw [if_neg q17]
        exact J133_75_ev sc n (e1 + 1) he x2 _ _ _ _ h
def J133_22 (n : Nat) (s0 : Int32) (s1 : Int32) (M : Mem) : Option (Int32 × Mem) :=
  match F129 n s1 s0 M with | some (v32, M33) => (if v32 = 0 ∨ v32 = 1 then some (v32, M33) else none) | none => none
set_option maxRecDepth 100000 in
set_option maxHeartbeats 4000000 in
theorem J133_22_ev (sc : Option (Nat × (Nat → Int32))) (n : Nat)  (e : Nat) (he : 3 ≤ e) : ∀ (s0 : Int32) (s1 : Int32) (u0 : Option Value) (u1 : Option Value) (u2 : Option Value) (M : Mem) (r : Int32) (M' : Mem), J133_22 n s0 s1 M = some (r, M') → pm_ev pmT sc e 133 false (22, [u0, u1, u2], [.int s0, .int s1, .ref 3], 129, 17845, hp M) (some (.int r), 129, 17845, hp M') := by
  intro s0 s1 u0 u1 u2 M r M' h
  unfold J133_22 at h
  obtain ⟨e1, rfl⟩ : ∃ e1, e = e1 + 1 := ⟨e - 1, by omega⟩
  cases hc34 : F129 n s1 s0 M with
  | none => rw [hc34] at h; cases h
  | some w =>
    obtain ⟨v32, M33⟩ := w
    rw [hc34] at h
    dsimp only at h
    refine pe_virt (al := [.int s0, .int s1]) (a := 3) (L0 := [some (.ref 3), some (.int s1), some (.int s0)]) (r1 := (some (.int v32), 129, 17845, hp M33)) mm_133 rfl rfl rfl mm_129 rfl (by decide) (by decide) rfl (Nat.le_of_ble_eq_true rfl) (Nat.le_of_ble_eq_true rfl) rfl rfl (F129_ev sc n s1 s0 _ e1 (by omega) _ _ hc34) ?_
    show pm_ev _ _ _ _ _ (25, [u0, u1, u2], [.int v32], _, _, _) _
    by_cases q35 : v32 = 0 ∨ v32 = 1
    · rw [if_pos q35] at h
      cases h
      exact pe_ret mm_133 rfl (if_pos q35)
    · rw [if_neg q35] at h
      cases h
/-- ArmExpander$DefinitionReader.acceptsBehindDollar -/
def F133 (n : Nat) (a0 : Int32) (M : Mem) : Option (Int32 × Mem) :=
  match F11 n a0 M with | some (v1, M2) => (if v1 = 0 then (if a0 = 40 then (match M2.2.1 3 1 with | some p6 => (if isD p6 then (match F122 n p6 ((M2.1 3 3) - 1) M2 with | some (v9, M10) => (if 1 < v9 then (J133_66 n M10) else (J133_51 n a0 ((M2.1 3 3) - 1) M10)) | none => none) else none) | none => none) else (J133_66 n M2)) else (if (M2.1 3 4) = 0 then (J133_22 n 4 1 M2) else (J133_22 n 6 1 M2))) | none => none
set_option maxRecDepth 100000 in
set_option maxHeartbeats 4000000 in
theorem F133_ev (sc : Option (Nat × (Nat → Int32))) (n : Nat) (a0 : Int32)  (M : Mem) (e : Nat) (he : 3 ≤ e) (r : Int32) (M' : Mem) (h : F133 n a0 M = some (r, M')) : pm_ev pmT sc e 133 false (0, [some (.ref 3), some (.int a0), none], [], 129, 17845, hp M) (some (.int r), 129, 17845, hp M') := by
  unfold F133 at h
  refine pe_blk mm_133 1 (s' := (1, [some (.ref 3), some (.int a0), none], [.int a0], _, _, _)) rfl ?_
  obtain ⟨e1, rfl⟩ : ∃ e1, e = e1 + 1 := ⟨e - 1, by omega⟩
  cases hc3 : F11 n a0 M with
  | none => rw [hc3] at h; cases h
  | some w =>
    obtain ⟨v1, M2⟩ := w
    rw [hc3] at h
    dsimp only at h
    refine pe_stat (al := [.int a0]) (L0 := [some (.int a0)]) (r1 := (some (.int v1), 129, 17845, hp M2)) mm_133 rfl rfl rfl mm_11 rfl (Nat.le_of_ble_eq_true rfl) (Nat.le_of_ble_eq_true rfl) rfl rfl (F11_ev sc n a0 _ e1 (by omega) _ _ hc3) ?_
    show pm_ev _ _ _ _ _ (4, [some (.ref 3), some (.int a0), none], [.int v1], _, _, _) _
    by_cases q4 : v1 = 0
    · rw [if_pos q4] at h
      refine pe_blk mm_133 1 (s' := (if v1 = 0 then 26 else 7, [some (.ref 3), some (.int a0), none], [], _, _, _)) rfl ?_
      rw [if_pos q4]
      refine pe_blk mm_133 1 (s' := (27, [some (.ref 3), some (.int a0), none], [.ref 3], _, _, _)) rfl ?_
      refine pe_get mm_133 rfl rfl rfl (by decide) rfl ?_
      refine pe_blk mm_133 5 (s' := (36, [some (.ref 3), some (.int a0), some (.int ((M2.1 3 3) - 1))], [.int 40, .int a0], _, _, _)) rfl ?_
      by_cases q5 : a0 = 40
      · rw [if_pos q5] at h
        refine pe_blk mm_133 1 (s' := (if a0 = 40 then 39 else 66, [some (.ref 3), some (.int a0), some (.int ((M2.1 3 3) - 1))], [], _, _, _)) rfl ?_
        rw [if_pos q5]
        refine pe_blk mm_133 1 (s' := (40, [some (.ref 3), some (.int a0), some (.int ((M2.1 3 3) - 1))], [.ref 3], _, _, _)) rfl ?_
        refine pe_get mm_133 rfl rfl rfl (by decide) rfl ?_
        show pm_ev _ _ _ _ _ (43, [some (.ref 3), some (.int a0), some (.int ((M2.1 3 3) - 1))], va_rf (M2.2.1 3 1) :: [], _, _, _) _
        cases hq8 : M2.2.1 3 1 with
        | none => rw [hq8] at h; cases h
        | some p6 =>
          rw [hq8] at h
          dsimp only at h
          by_cases f7 : isD p6
          · rw [if_pos f7] at h
            show pm_ev _ _ _ _ _ (43, [some (.ref 3), some (.int a0), some (.int ((M2.1 3 3) - 1))], [.ref p6], _, _, _) _
            refine pe_blk mm_133 1 (s' := (44, [some (.ref 3), some (.int a0), some (.int ((M2.1 3 3) - 1))], [.int ((M2.1 3 3) - 1), .ref p6], _, _, _)) rfl ?_
            skip
            cases hc11 : F122 n p6 ((M2.1 3 3) - 1) M2 with
            | none => rw [hc11] at h; cases h
            | some w =>
              obtain ⟨v9, M10⟩ := w
              rw [hc11] at h
              dsimp only at h
              refine pe_virt (al := [.int ((M2.1 3 3) - 1)]) (a := p6) (L0 := [some (.ref p6), some (.int ((M2.1 3 3) - 1)), none]) (r1 := (some (.int v9), 129, 17845, hp M10)) mm_133 rfl rfl rfl mm_122 (isD_0 f7 _) (by have := isD_lt f7; omega) (by decide) rfl (Nat.le_of_ble_eq_true rfl) (Nat.le_of_ble_eq_true rfl) rfl rfl (F122_ev sc n p6 ((M2.1 3 3) - 1) f7 _ e1 (by omega) _ _ hc11) ?_
              show pm_ev _ _ _ _ _ (47, [some (.ref 3), some (.int a0), some (.int ((M2.1 3 3) - 1))], [.int v9], _, _, _) _
              refine pe_blk mm_133 1 (s' := (48, [some (.ref 3), some (.int a0), some (.int ((M2.1 3 3) - 1))], [.int 1, .int v9], _, _, _)) rfl ?_
              by_cases q12 : 1 < v9
              · rw [if_pos q12] at h
                refine pe_blk mm_133 1 (s' := (if 1 < v9 then 66 else 51, [some (.ref 3), some (.int a0), some (.int ((M2.1 3 3) - 1))], [], _, _, _)) rfl ?_
                rw [if_pos q12]
                exact J133_66_ev sc n (e1 + 1) he _ _ _ _ _ _ h
              · rw [if_neg q12] at h
                refine pe_blk mm_133 1 (s' := (if 1 < v9 then 66 else 51, [some (.ref 3), some (.int a0), some (.int ((M2.1 3 3) - 1))], [], _, _, _)) rfl ?_
                rw [if_neg q12]
                exact J133_51_ev sc n (e1 + 1) he a0 ((M2.1 3 3) - 1) _ _ _ h
          · rw [if_neg f7] at h
            cases h
      · rw [if_neg q5] at h
        refine pe_blk mm_133 1 (s' := (if a0 = 40 then 39 else 66, [some (.ref 3), some (.int a0), some (.int ((M2.1 3 3) - 1))], [], _, _, _)) rfl ?_
        rw [if_neg q5]
        exact J133_66_ev sc n (e1 + 1) he _ _ _ _ _ _ h
    · rw [if_neg q4] at h
      refine pe_blk mm_133 1 (s' := (if v1 = 0 then 26 else 7, [some (.ref 3), some (.int a0), none], [], _, _, _)) rfl ?_
      rw [if_neg q4]
      refine pe_blk mm_133 3 (s' := (10, [some (.ref 3), some (.int a0), none], [.ref 3, .int 1, .ref 3], _, _, _)) rfl ?_
      refine pe_get mm_133 rfl rfl rfl (by decide) rfl ?_
      by_cases q31 : (M2.1 3 4) = 0
      · rw [if_pos q31] at h
        refine pe_blk mm_133 1 (s' := (if (M2.1 3 4) = 0 then 21 else 16, [some (.ref 3), some (.int a0), none], [.int 1, .ref 3], _, _, _)) rfl ?_
        rw [if_pos q31]
        refine pe_blk mm_133 1 (s' := (22, [some (.ref 3), some (.int a0), none], [.int 4, .int 1, .ref 3], _, _, _)) rfl ?_
        exact J133_22_ev sc n (e1 + 1) he 4 1 _ _ _ _ _ _ h
      · rw [if_neg q31] at h
        refine pe_blk mm_133 1 (s' := (if (M2.1 3 4) = 0 then 21 else 16, [some (.ref 3), some (.int a0), none], [.int 1, .ref 3], _, _, _)) rfl ?_
        rw [if_neg q31]
        refine pe_blk mm_133 2 (s' := (22, [some (.ref 3), some (.int a0), none], [.int 6, .int 1, .ref 3], _, _, _)) rfl ?_
        exact J133_22_ev sc n (e1 + 1) he 6 1 _ _ _ _ _ _ h
def J134_55 (n : Nat) (s0 : Int32) (M : Mem) : Option (Int32 × Mem) :=
  match F129 n s0 9 M with | some (v6, M7) => (if v6 = 0 ∨ v6 = 1 then some (v6, M7) else none) | none => none
set_option maxRecDepth 100000 in
set_option maxHeartbeats 4000000 in
theorem J134_55_ev (sc : Option (Nat × (Nat → Int32))) (n : Nat)  (e : Nat) (he : 2 ≤ e) : ∀ (s0 : Int32) (u0 : Option Value) (u1 : Option Value) (M : Mem) (r : Int32) (M' : Mem), J134_55 n s0 M = some (r, M') → pm_ev pmT sc e 134 false (55, [u0, u1], [.int s0, .ref 3], 129, 17845, hp M) (some (.int r), 129, 17845, hp M') := by
  intro s0 u0 u1 M r M' h
  unfold J134_55 at h
  refine pe_blk mm_134 1 (s' := (57, [u0, u1], [.int 9, .int s0, .ref 3], _, _, _)) rfl ?_
  obtain ⟨e1, rfl⟩ : ∃ e1, e = e1 + 1 := ⟨e - 1, by omega⟩
  cases hc8 : F129 n s0 9 M with
  | none => rw [hc8] at h; cases h
  | some w =>
    obtain ⟨v6, M7⟩ := w
    rw [hc8] at h
    dsimp only at h
    refine pe_virt (al := [.int 9, .int s0]) (a := 3) (L0 := [some (.ref 3), some (.int s0), some (.int 9)]) (r1 := (some (.int v6), 129, 17845, hp M7)) mm_134 rfl rfl rfl mm_129 rfl (by decide) (by decide) rfl (Nat.le_of_ble_eq_true rfl) (Nat.le_of_ble_eq_true rfl) rfl rfl (F129_ev sc n s0 9 _ e1 (by omega) _ _ hc8) ?_
    show pm_ev _ _ _ _ _ (60, [u0, u1], [.int v6], _, _, _) _
    by_cases q9 : v6 = 0 ∨ v6 = 1
    · rw [if_pos q9] at h
      cases h
      exact pe_ret mm_134 rfl (if_pos q9)
    · rw [if_neg q9] at h
      cases h
def J134_54 (n : Nat) (M : Mem) : Option (Int32 × Mem) :=
  J134_55 n 0 M
set_option maxRecDepth 100000 in
set_option maxHeartbeats 4000000 in
theorem J134_54_ev (sc : Option (Nat × (Nat → Int32))) (n : Nat)  (e : Nat) (he : 2 ≤ e) : ∀ (u0 : Option Value) (u1 : Option Value) (M : Mem) (r : Int32) (M' : Mem), J134_54 n  M = some (r, M') → pm_ev pmT sc e 134 false (54, [u0, u1], [.ref 3], 129, 17845, hp M) (some (.int r), 129, 17845, hp M') := by
  intro u0 u1 M r M' h
  unfold J134_54 at h
  refine pe_blk mm_134 1 (s' := (55, [u0, u1], [.int 0, .ref 3], _, _, _)) rfl ?_
  exact J134_55_ev sc n e he 0 _ _ _ _ _ h
def J134_22 (n : Nat) (M : Mem) : Option (Int32 × Mem) :=
  match F129 n 1 4 M with | some (v24, M25) => (if v24 = 0 ∨ v24 = 1 then some (v24, M25) else none) | none => none
set_option maxRecDepth 100000 in
set_option maxHeartbeats 4000000 in
theorem J134_22_ev (sc : Option (Nat × (Nat → Int32))) (n : Nat)  (e : Nat) (he : 2 ≤ e) : ∀ (u1 : Option Value) (M : Mem) (r : Int32) (M' : Mem), J134_22 n  M = some (r, M') → pm_ev pmT sc e 134 false (22, [some (.ref 3), u1], [], 129, 17845, hp M) (some (.int r), 129, 17845, hp M') := by
  intro u1 M r M' h
  unfold J134_22 at h
  refine pe_blk mm_134 3 (s' := (25, [some (.ref 3), u1], [.int 4, .int 1, .ref 3], _, _, _)) rfl ?_
  obtain ⟨e1, rfl⟩ : ∃ e1, e = e1 + 1 := ⟨e - 1, by omega⟩
  cases hc26 : F129 n 1 4 M with
  | none => rw [hc26] at h; cases h
  | some w =>
    obtain ⟨v24, M25⟩ := w
    rw [hc26] at h
    dsimp only at h
    refine pe_virt (al := [.int 4, .int 1]) (a := 3) (L0 := [some (.ref 3), some (.int 1), some (.int 4)]) (r1 := (some (.int v24), 129, 17845, hp M25)) mm_134 rfl rfl rfl mm_129 rfl (by decide) (by decide) rfl (Nat.le_of_ble_eq_true rfl) (Nat.le_of_ble_eq_true rfl) rfl rfl (F129_ev sc n 1 4 _ e1 (by omega) _ _ hc26) ?_
    show pm_ev _ _ _ _ _ (28, [some (.ref 3), u1], [.int v24], _, _, _) _
    by_cases q27 : v24 = 0 ∨ v24 = 1
    · rw [if_pos q27] at h
      cases h
      exact pe_ret mm_134 rfl (if_pos q27)
    · rw [if_neg q27] at h
      cases h
/-- ArmExpander$DefinitionReader.acceptsSeparatorOrMark -/
def F134 (n : Nat) (a0 : Int32) (M : Mem) : Option (Int32 × Mem) :=
  match F15 n a0 M with | some (v1, M2) => (if v1 = 0 then (if a0 = 36 then (J134_54 n M2) else (match F13 n a0 M2 with | some (v10, M11) => (if v10 = 0 then (match F14 n a0 M11 with | some (v14, M15) => (if v14 = 0 then (J134_55 n 1 M15) else (J134_54 n M15)) | none => none) else (J134_54 n M11)) | none => none)) else (match M2.2.1 3 1 with | some p18 => (if isD p18 then (match F105 n p18 (M2.1 3 7) (M2.1 3 3) M2 with | some (v21, M22) => (J134_22 n M22) | none => none) else none) | none => none)) | none => none
set_option maxRecDepth 100000 in
set_option maxHeartbeats 4000000 in
theorem F134_ev (sc : Option (Nat × (Nat → Int32))) (n : Nat) (a0 : Int32)  (M : Mem) (e : Nat) (he : 2 ≤ e) (r : Int32) (M' : Mem) (h : F134 n a0 M = some (r, M')) : pm_ev pmT sc e 134 false (0, [some (.ref 3), some (.int a0)], [], 129, 17845, hp M) (some (.int r), 129, 17845, hp M') := by
  unfold F134 at h
  refine pe_blk mm_134 1 (s' := (1, [some (.ref 3), some (.int a0)], [.int a0], _, _, _)) rfl ?_
  obtain ⟨e1, rfl⟩ : ∃ e1, e = e1 + 1 := ⟨e - 1, by omega⟩
  cases hc3 : F15 n a0 M with
  | none => rw [hc3] at h; cases h
  | some w =>
    obtain ⟨v1, M2⟩ := w
    rw [hc3] at h
    dsimp only at h
    refine pe_stat (al := [.int a0]) (L0 := [some (.int a0)]) (r1 := (some (.int v1), 129, 17845, hp M2)) mm_134 rfl rfl rfl mm_15 rfl (Nat.le_of_ble_eq_true rfl) (Nat.le_of_ble_eq_true rfl) rfl rfl (F15_ev sc n a0 _ e1 (by omega) _ _ hc3) ?_
    show pm_ev _ _ _ _ _ (4, [some (.ref 3), some (.int a0)], [.int v1], _, _, _) _
    by_cases q4 : v1 = 0
    · rw [if_pos q4] at h
      refine pe_blk mm_134 1 (s' := (if v1 = 0 then 29 else 7, [some (.ref 3), some (.int a0)], [], _, _, _)) rfl ?_
      rw [if_pos q4]
      refine pe_blk mm_134 3 (s' := (33, [some (.ref 3), some (.int a0)], [.int 36, .int a0, .ref 3], _, _, _)) rfl ?_
      by_cases q5 : a0 = 36
      · rw [if_pos q5] at h
        refine pe_blk mm_134 1 (s' := (if a0 = 36 then 54 else 36, [some (.ref 3), some (.int a0)], [.ref 3], _, _, _)) rfl ?_
        rw [if_pos q5]
        exact J134_54_ev sc n (e1 + 1) he _ _ _ _ _ h
      · rw [if_neg q5] at h
        refine pe_blk mm_134 1 (s' := (if a0 = 36 then 54 else 36, [some (.ref 3), some (.int a0)], [.ref 3], _, _, _)) rfl ?_
        rw [if_neg q5]
        refine pe_blk mm_134 1 (s' := (37, [some (.ref 3), some (.int a0)], [.int a0, .ref 3], _, _, _)) rfl ?_
        skip
        cases hc12 : F13 n a0 M2 with
        | none => rw [hc12] at h; cases h
        | some w =>
          obtain ⟨v10, M11⟩ := w
          rw [hc12] at h
          dsimp only at h
          refine pe_stat (al := [.int a0]) (L0 := [some (.int a0)]) (r1 := (some (.int v10), 129, 17845, hp M11)) mm_134 rfl rfl rfl mm_13 rfl (Nat.le_of_ble_eq_true rfl) (Nat.le_of_ble_eq_true rfl) rfl rfl (F13_ev sc n a0 _ e1 (by omega) _ _ hc12) ?_
          show pm_ev _ _ _ _ _ (40, [some (.ref 3), some (.int a0)], [.int v10, .ref 3], _, _, _) _
          by_cases q13 : v10 = 0
          · rw [if_pos q13] at h
            refine pe_blk mm_134 1 (s' := (if v10 = 0 then 43 else 54, [some (.ref 3), some (.int a0)], [.ref 3], _, _, _)) rfl ?_
            rw [if_pos q13]
            refine pe_blk mm_134 1 (s' := (44, [some (.ref 3), some (.int a0)], [.int a0, .ref 3], _, _, _)) rfl ?_
            skip
            cases hc16 : F14 n a0 M11 with
            | none => rw [hc16] at h; cases h
            | some w =>
              obtain ⟨v14, M15⟩ := w
              rw [hc16] at h
              dsimp only at h
              refine pe_stat (al := [.int a0]) (L0 := [some (.int a0)]) (r1 := (some (.int v14), 129, 17845, hp M15)) mm_134 rfl rfl rfl mm_14 rfl (Nat.le_of_ble_eq_true rfl) (Nat.le_of_ble_eq_true rfl) rfl rfl (F14_ev sc n a0 _ e1 (by omega) _ _ hc16) ?_
              show pm_ev _ _ _ _ _ (47, [some (.ref 3), some (.int a0)], [.int v14, .ref 3], _, _, _) _
              by_cases q17 : v14 = 0
              · rw [if_pos q17] at h
                refine pe_blk mm_134 1 (s' := (if v14 = 0 then 50 else 54, [some (.ref 3), some (.int a0)], [.ref 3], _, _, _)) rfl ?_
                rw [if_pos q17]
                refine pe_blk mm_134 2 (s' := (55, [some (.ref 3), some (.int a0)], [.int 1, .ref 3], _, _, _)) rfl ?_
                exact J134_55_ev sc n (e1 + 1) he 1 _ _ _ _ _ h
              · rw [if_neg q17] at h
                refine pe_blk mm_134 1 (s' := (if v14 = 0 then 50 else 54, [some (.ref 3), some (.int a0)], [.ref 3], _, _, _)) rfl ?_
                rw [if_neg q17]
                exact J134_54_ev sc n (e1 + 1) he _ _ _ _ _ h
          · rw [if_neg q13] at h
            refine pe_blk mm_134 1 (s' := (if v10 = 0 then 43 else 54, [some (.ref 3), some (.int a0)], [.ref 3], _, _, _)) rfl ?_
            rw [if_neg q13]
            exact J134_54_ev sc n (e1 + 1) he _ _ _ _ _ h
    · rw [if_neg q4] at h
      refine pe_blk mm_134 1 (s' := (if v1 = 0 then 29 else 7, [some (.ref 3), some (.int a0)], [], _, _, _)) rfl ?_
      rw [if_neg q4]
      refine pe_blk mm_134 1 (s' := (8, [some (.ref 3), some (.int a0)], [.ref 3], _, _, _)) rfl ?_
      refine pe_get mm_134 rfl rfl rfl (by decide) rfl ?_
      show pm_ev _ _ _ _ _ (11, [some (.ref 3), some (.int a0)], va_rf (M2.2.1 3 1) :: [], _, _, _) _
      cases hq20 : M2.2.1 3 1 with
      | none => rw [hq20] at h; cases h
      | some p18 =>
        rw [hq20] at h
        dsimp only at h
        by_cases f19 : isD p18
        · rw [if_pos f19] at h
          show pm_ev _ _ _ _ _ (11, [some (.ref 3), some (.int a0)], [.ref p18], _, _, _) _
          refine pe_blk mm_134 1 (s' := (12, [some (.ref 3), some (.int a0)], [.ref 3, .ref p18], _, _, _)) rfl ?_
          refine pe_get mm_134 rfl rfl rfl (by decide) rfl ?_
          refine pe_blk mm_134 1 (s' := (16, [some (.ref 3), some (.int a0)], [.ref 3, .int (M2.1 3 7), .ref p18], _, _, _)) rfl ?_
          refine pe_get mm_134 rfl rfl rfl (by decide) rfl ?_
          skip
          cases hc23 : F105 n p18 (M2.1 3 7) (M2.1 3 3) M2 with
          | none => rw [hc23] at h; cases h
          | some w =>
            obtain ⟨v21, M22⟩ := w
            rw [hc23] at h
            dsimp only at h
            refine pe_virt (al := [.int (M2.1 3 3), .int (M2.1 3 7)]) (a := p18) (L0 := [some (.ref p18), some (.int (M2.1 3 7)), some (.int (M2.1 3 3))]) (r1 := (none, 129, 17845, hp M22)) mm_134 rfl rfl rfl mm_105 (isD_0 f19 _) (by have := isD_lt f19; omega) (by decide) rfl (Nat.le_of_ble_eq_true rfl) (Nat.le_of_ble_eq_true rfl) rfl rfl (F105_ev sc n p18 (M2.1 3 7) (M2.1 3 3) f19 _ e1 (by omega) _ _ hc23) ?_
            show pm_ev _ _ _ _ _ (22, [some (.ref 3), some (.int a0)], [], _, _, _) _
            exact J134_22_ev sc n (e1 + 1) he _ _ _ _ h
        · rw [if_neg f19] at h
          cases h
/-- ArmExpander$Expander.outcome -/
def F136 (n : Nat) (M : Mem) : Option (Option Nat × Mem) :=
  match M.2.1 12 4 with | some p1 => (if isR p1 then (some (some p1, M)) else none) | none => none
set_option maxRecDepth 100000 in
set_option maxHeartbeats 4000000 in
theorem F136_ev (sc : Option (Nat × (Nat → Int32))) (n : Nat)  (M : Mem) (e : Nat) (he : 1 ≤ e) (r : Option Nat) (M' : Mem) (h : F136 n M = some (r, M')) : pm_ev pmT sc e 136 false (0, [some (.ref 12)], [], 129, 17845, hp M) (some (va_rf r), 129, 17845, hp M') := by
  unfold F136 at h
  refine pe_blk mm_136 1 (s' := (1, [some (.ref 12)], [.ref 12], _, _, _)) rfl ?_
  refine pe_get mm_136 rfl rfl rfl (by decide) rfl ?_
  show pm_ev _ _ _ _ _ (4, [some (.ref 12)], va_rf (M.2.1 12 4) :: [], _, _, _) _
  cases hq3 : M.2.1 12 4 with
  | none => rw [hq3] at h; cases h
  | some p1 =>
    rw [hq3] at h
    dsimp only at h
    by_cases f2 : isR p1
    · rw [if_pos f2] at h
      show pm_ev _ _ _ _ _ (4, [some (.ref 12)], [.ref p1], _, _, _) _
      cases h
      exact pe_ret mm_136 rfl rfl
    · rw [if_neg f2] at h
      cases h
def J146_13 (n : Nat) (y1 : Nat) (M : Mem) : Option (Unit × Mem) :=
  mlet (m_r M 12 5 (some y1)) (fun M8 => some ((), M8))
set_option maxRecDepth 100000 in
set_option maxHeartbeats 4000000 in
theorem J146_13_ev (sc : Option (Nat × (Nat → Int32))) (n : Nat)  (e : Nat) (he : 1 ≤ e) : ∀ (y1 : Nat) (hy1 : isR y1) (M : Mem) (r : Unit) (M' : Mem), J146_13 n y1 M = some (r, M') → pm_ev pmT sc e 146 false (13, [some (.ref 12), some (.ref y1)], [], 129, 17845, hp M) (none, 129, 17845, hp M') := by
  intro y1  hy1 M r M' h
  unfold J146_13 at h
  refine pe_blk mm_146 2 (s' := (15, [some (.ref 12), some (.ref y1)], [.ref y1, .ref 12], _, _, _)) rfl ?_
  refine pe_putr mm_146 rfl rfl rfl (by decide) (Nat.le_of_ble_eq_true rfl) rfl rfl ?_
  show pm_ev _ _ _ _ _ (18, [some (.ref 12), some (.ref y1)], [], _, _, hp (m_r M 12 5 (some y1))) _
  generalize m_r M 12 5 (some y1) = M8 at h ⊢
  rw [mlet] at h
  cases h
  exact pe_ret mm_146 rfl rfl
/-- ArmExpander$Expander.exchangeRows -/
def F146 (n : Nat) (M : Mem) : Option (Unit × Mem) :=
  match M.2.1 12 4 with | some p1 => (if isR p1 then (match M.2.1 12 5 with | some p4 => (if isR p4 then (mlet (m_r M 12 4 (some p4)) (fun M7 => J146_13 n p1 M7)) else none) | none => none) else none) | none => none
set_option maxRecDepth 100000 in
set_option maxHeartbeats 4000000 in
theorem F146_ev (sc : Option (Nat × (Nat → Int32))) (n : Nat)  (M : Mem) (e : Nat) (he : 1 ≤ e) (r : Unit) (M' : Mem) (h : F146 n M = some (r, M')) : pm_ev pmT sc e 146 false (0, [some (.ref 12), none], [], 129, 17845, hp M) (none, 129, 17845, hp M') := by
  unfold F146 at h
  refine pe_blk mm_146 1 (s' := (1, [some (.ref 12), none], [.ref 12], _, _, _)) rfl ?_
  refine pe_get mm_146 rfl rfl rfl (by decide) rfl ?_
  show pm_ev _ _ _ _ _ (4, [some (.ref 12), none], va_rf (M.2.1 12 4) :: [], _, _, _) _
  cases hq3 : M.2.1 12 4 with
  | none => rw [hq3] at h; cases h
  | some p1 =>
    rw [hq3] at h
    dsimp only at h
    by_cases f2 : isR p1
    · rw [if_pos f2] at h
      show pm_ev _ _ _ _ _ (4, [some (.ref 12), none], [.ref p1], _, _, _) _
      refine pe_blk mm_146 3 (s' := (7, [some (.ref 12), some (.ref p1)], [.ref 12, .ref 12], _, _, _)) rfl ?_
      refine pe_get mm_146 rfl rfl rfl (by decide) rfl ?_
      show pm_ev _ _ _ _ _ (10, [some (.ref 12), some (.ref p1)], va_rf (M.2.1 12 5) :: [.ref 12], _, _, _) _
      cases hq6 : M.2.1 12 5 with
      | none => rw [hq6] at h; cases h
      | some p4 =>
        rw [hq6] at h
        dsimp only at h
        by_cases f5 : isR p4
        · rw [if_pos f5] at h
          show pm_ev _ _ _ _ _ (10, [some (.ref 12), some (.ref p1)], [.ref p4, .ref 12], _, _, _) _
          refine pe_putr mm_146 rfl rfl rfl (by decide) (Nat.le_of_ble_eq_true rfl) rfl rfl ?_
          show pm_ev _ _ _ _ _ (13, [some (.ref 12), some (.ref p1)], [], _, _, hp (m_r M 12 4 (some p4))) _
          generalize m_r M 12 4 (some p4) = M7 at h ⊢
          rw [mlet] at h
          exact J146_13_ev sc n e he p1 f2 _ _ _ h
        · rw [if_neg f5] at h
          cases h
    · rw [if_neg f2] at h
      cases h
/-- ArmExpander$Matcher.takings -/
def F148 (n : Nat) (M : Mem) : Option (Option Nat × Mem) :=
  some (some 17, M)
set_option maxRecDepth 100000 in
set_option maxHeartbeats 4000000 in
theorem F148_ev (sc : Option (Nat × (Nat → Int32))) (n : Nat)  (M : Mem) (e : Nat) (he : 1 ≤ e) (r : Option Nat) (M' : Mem) (h : F148 n M = some (r, M')) : pm_ev pmT sc e 148 false (0, [some (.ref 16)], [], 129, 17845, hp M) (some (va_rf r), 129, 17845, hp M') := by
  unfold F148 at h
  refine pe_blk mm_148 1 (s' := (1, [some (.ref 16)], [.ref 16], _, _, _)) rfl ?_
  refine pe_get mm_148 rfl rfl rfl (by decide) rfl ?_
  cases h
  exact pe_ret mm_148 rfl rfl
def J150_67 (n : Nat) (s0 : Int32) (M : Mem) : Option (Int32 × Mem) :=
  some (s0, M)
set_option maxRecDepth 100000 in
set_option maxHeartbeats 4000000 in
theorem J150_67_ev (sc : Option (Nat × (Nat → Int32))) (n : Nat)  (e : Nat) (he : 2 ≤ e) : ∀ (s0 : Int32) (u0 : Option Value) (u1 : Option Value) (M : Mem) (r : Int32) (M' : Mem), J150_67 n s0 M = some (r, M') → pm_ev pmT sc e 150 false (67, [u0, u1], [.int s0], 129, 17845, hp M) (some (.int r), 129, 17845, hp M') := by
  intro s0 u0 u1 M r M' h
  unfold J150_67 at h
  cases h
  exact pe_ret mm_150 rfl rfl
def J150_45 (n : Nat) (x1 : Int32) (M : Mem) : Option (Int32 × Mem) :=
  if x1 = 0 then (J150_67 n (-2001) M) else (if x1 = 1 then (J150_67 n 0 M) else (J150_67 n (-2002) M))
set_option maxRecDepth 100000 in
set_option maxHeartbeats 4000000 in
theorem J150_45_ev (sc : Option (Nat × (Nat → Int32))) (n : Nat)  (e : Nat) (he : 2 ≤ e) : ∀ (x1 : Int32) (u0 : Option Value) (M : Mem) (r : Int32) (M' : Mem), J150_45 n x1 M = some (r, M') → pm_ev pmT sc e 150 false (45, [u0, some (.int x1)], [], 129, 17845, hp M) (some (.int r), 129, 17845, hp M') := by
  intro x1 u0 M r M' h
  unfold J150_45 at h
  refine pe_blk mm_150 1 (s' := (46, [u0, some (.int x1)], [.int x1], _, _, _)) rfl ?_
  by_cases q8 : x1 = 0
  · rw [if_pos q8] at h
    refine pe_blk mm_150 1 (s' := (if x1 = 0 then 49 else 55, [u0, some (.int x1)], [], _, _, _)) rfl ?_
    rw [if_pos q8]
    refine pe_blk mm_150 2 (s' := (67, [u0, some (.int x1)], [.int (-2001)], _, _, _)) rfl ?_
    exact J150_67_ev sc n e he (-2001) _ _ _ _ _ h
  · rw [if_neg q8] at h
    refine pe_blk mm_150 1 (s' := (if x1 = 0 then 49 else 55, [u0, some (.int x1)], [], _, _, _)) rfl ?_
    rw [if_neg q8]
    refine pe_blk mm_150 2 (s' := (57, [u0, some (.int x1)], [.int 1, .int x1], _, _, _)) rfl ?_
    by_cases q9 : x1 = 1
    · rw [if_pos q9] at h
      refine pe_blk mm_150 1 (s' := (if x1 = 1 then 60 else 64, [u0, some (.int x1)], [], _, _, _)) rfl ?_
      rw [if_pos q9]
      refine pe_blk mm_150 2 (s' := (67, [u0, some (.int x1)], [.int 0], _, _, _)) rfl ?_
      exact J150_67_ev sc n e he 0 _ _ _ _ _ h
    · rw [if_neg q9] at h
      refine pe_blk mm_150 1 (s' := (if x1 = 1 then 60 else 64, [u0, some (.int x1)], [], _, _, _)) rfl ?_
      rw [if_neg q9]
      refine pe_blk mm_150 1 (s' := (67, [u0, some (.int x1)], [.int (-2002)], _, _, _)) rfl ?_
      exact J150_67_ev sc n e he (-2002) _ _ _ _ _ h
def J150_27 (n : Nat) (rec2 : Int32 → Mem → Option (Int32 × Mem)) (x1 : Int32) (M : Mem) : Option (Int32 × Mem) :=
  rec2 (x1 + 1) M
set_option maxRecDepth 100000 in
set_option maxHeartbeats 4000000 in
theorem J150_27_ev (sc : Option (Nat × (Nat → Int32))) (n : Nat)  (e : Nat) (he : 2 ≤ e) (rec2 : Int32 → Mem → Option (Int32 × Mem)) (hr2 : ∀ (x1 : Int32) (M : Mem) (r : Int32) (M' : Mem), rec2 x1 M = some (r, M') → pm_ev pmT sc e 150 false (2, [some (.ref 16), some (.int x1)], [], 129, 17845, hp M) (some (.int r), 129, 17845, hp M')) : ∀ (x1 : Int32) (M : Mem) (r : Int32) (M' : Mem), J150_27 n rec2 x1 M = some (r, M') → pm_ev pmT sc e 150 false (27, [some (.ref 16), some (.int x1)], [], 129, 17845, hp M) (some (.int r), 129, 17845, hp M') := by
  intro x1  M r M' h
  unfold J150_27 at h
  refine pe_blk mm_150 2 (s' := (2, [some (.ref 16), some (.int (x1 + 1))], [], _, _, _)) rfl ?_
  exact hr2 (x1 + 1) _ _ _ h
def L150_2 (n : Nat) : Nat → Int32 → Mem → Option (Int32 × Mem)
  | 0, _, _ => none
  | k + 1, x1, M => if 4 ≤ x1 then (match M.2.1 16 1 with | some p2 => (if isT p2 then (match F188 n p2 (M.1 16 5) M with | some (v5, M6) => (J150_45 n v5 M6) | none => none) else none) | none => none) else (match M.2.1 16 1 with | some p10 => (if isT p10 then (match F189 n p10 (M.1 16 5) x1 M with | some (v13, M14) => (match F180 n x1 v13 M14 with | some (v16, M17) => (J150_27 n (L150_2 n k) x1 M17) | none => none) | none => none) else none) | none => none)
set_option maxRecDepth 100000 in
set_option maxHeartbeats 4000000 in
theorem L150_2_ev (sc : Option (Nat × (Nat → Int32))) (n : Nat)  (e : Nat) (he : 2 ≤ e) : ∀ k : Nat, ∀ (x1 : Int32) (M : Mem) (r : Int32) (M' : Mem), L150_2 n k x1 M = some (r, M') → pm_ev pmT sc e 150 false (2, [some (.ref 16), some (.int x1)], [], 129, 17845, hp M) (some (.int r), 129, 17845, hp M') := by
  intro k
  induction k with
  | zero => intro x1  M r M' h; cases h
  | succ k hr2 =>
    intro x1  M r M' h
    rw [L150_2] at h
    refine pe_blk mm_150 2 (s' := (4, [some (.ref 16), some (.int x1)], [.int 4, .int x1], _, _, _)) rfl ?_
    by_cases q1 : 4 ≤ x1
    · rw [if_pos q1] at h
      refine pe_blk mm_150 1 (s' := (if 4 ≤ x1 then 33 else 7, [some (.ref 16), some (.int x1)], [], _, _, _)) rfl ?_
      rw [if_pos q1]
      refine pe_blk mm_150 1 (s' := (34, [some (.ref 16), some (.int x1)], [.ref 16], _, _, _)) rfl ?_
      refine pe_get mm_150 rfl rfl rfl (by decide) rfl ?_
      show pm_ev _ _ _ _ _ (37, [some (.ref 16), some (.int x1)], va_rf (M.2.1 16 1) :: [], _, _, _) _
      cases hq4 : M.2.1 16 1 with
      | none => rw [hq4] at h; cases h
      | some p2 =>
        rw [hq4] at h
        dsimp only at h
        by_cases f3 : isT p2
        · rw [if_pos f3] at h
          show pm_ev _ _ _ _ _ (37, [some (.ref 16), some (.int x1)], [.ref p2], _, _, _) _
          refine pe_blk mm_150 1 (s' := (38, [some (.ref 16), some (.int x1)], [.ref 16, .ref p2], _, _, _)) rfl ?_
          refine pe_get mm_150 rfl rfl rfl (by decide) rfl ?_
          obtain ⟨e1, rfl⟩ : ∃ e1, e = e1 + 1 := ⟨e - 1, by omega⟩
          cases hc7 : F188 n p2 (M.1 16 5) M with
          | none => rw [hc7] at h; cases h
          | some w =>
            obtain ⟨v5, M6⟩ := w
            rw [hc7] at h
            dsimp only at h
            refine pe_virt (al := [.int (M.1 16 5)]) (a := p2) (L0 := [some (.ref p2), some (.int (M.1 16 5))]) (r1 := (some (.int v5), 129, 17845, hp M6)) mm_150 rfl rfl rfl mm_188 (isT_0 f3 _) (by have := isT_lt f3; omega) (by decide) rfl (Nat.le_of_ble_eq_true rfl) (Nat.le_of_ble_eq_true rfl) rfl rfl (F188_ev sc n p2 (M.1 16 5) f3 _ e1 (by omega) _ _ hc7) ?_
            show pm_ev _ _ _ _ _ (44, [some (.ref 16), some (.int x1)], [.int v5], _, _, _) _
            refine pe_blk mm_150 1 (s' := (45, [some (.ref 16), some (.int v5)], [], _, _, _)) rfl ?_
            exact J150_45_ev sc n (e1 + 1) he v5 _ _ _ _ h
        · rw [if_neg f3] at h
          cases h
    · rw [if_neg q1] at h
      refine pe_blk mm_150 1 (s' := (if 4 ≤ x1 then 33 else 7, [some (.ref 16), some (.int x1)], [], _, _, _)) rfl ?_
      rw [if_neg q1]
      refine pe_blk mm_150 1 (s' := (8, [some (.ref 16), some (.int x1)], [.ref 16], _, _, _)) rfl ?_
      refine pe_get mm_150 rfl rfl rfl (by decide) rfl ?_
      refine pe_blk mm_150 2 (s' := (13, [some (.ref 16), some (.int x1)], [.ref 16, .int x1, .ref 17], _, _, _)) rfl ?_
      refine pe_get mm_150 rfl rfl rfl (by decide) rfl ?_
      show pm_ev _ _ _ _ _ (16, [some (.ref 16), some (.int x1)], va_rf (M.2.1 16 1) :: [.int x1, .ref 17], _, _, _) _
      cases hq12 : M.2.1 16 1 with
      | none => rw [hq12] at h; cases h
      | some p10 =>
        rw [hq12] at h
        dsimp only at h
        by_cases f11 : isT p10
        · rw [if_pos f11] at h
          show pm_ev _ _ _ _ _ (16, [some (.ref 16), some (.int x1)], [.ref p10, .int x1, .ref 17], _, _, _) _
          refine pe_blk mm_150 1 (s' := (17, [some (.ref 16), some (.int x1)], [.ref 16, .ref p10, .int x1, .ref 17], _, _, _)) rfl ?_
          refine pe_get mm_150 rfl rfl rfl (by decide) rfl ?_
          refine pe_blk mm_150 1 (s' := (21, [some (.ref 16), some (.int x1)], [.int x1, .int (M.1 16 5), .ref p10, .int x1, .ref 17], _, _, _)) rfl ?_
          obtain ⟨e1, rfl⟩ : ∃ e1, e = e1 + 1 := ⟨e - 1, by omega⟩
          cases hc15 : F189 n p10 (M.1 16 5) x1 M with
          | none => rw [hc15] at h; cases h
          | some w =>
            obtain ⟨v13, M14⟩ := w
            rw [hc15] at h
            dsimp only at h
            refine pe_virt (al := [.int x1, .int (M.1 16 5)]) (a := p10) (L0 := [some (.ref p10), some (.int (M.1 16 5)), some (.int x1)]) (r1 := (some (.int v13), 129, 17845, hp M14)) mm_150 rfl rfl rfl mm_189 (isT_0 f11 _) (by have := isT_lt f11; omega) (by decide) rfl (Nat.le_of_ble_eq_true rfl) (Nat.le_of_ble_eq_true rfl) rfl rfl (F189_ev sc n p10 (M.1 16 5) x1 f11 _ e1 (by omega) _ _ hc15) ?_
            show pm_ev _ _ _ _ _ (24, [some (.ref 16), some (.int x1)], [.int v13, .int x1, .ref 17], _, _, _) _
            skip
            cases hc18 : F180 n x1 v13 M14 with
            | none => rw [hc18] at h; cases h
            | some w =>
              obtain ⟨v16, M17⟩ := w
              rw [hc18] at h
              dsimp only at h
              refine pe_virt (al := [.int v13, .int x1]) (a := 17) (L0 := [some (.ref 17), some (.int x1), some (.int v13)]) (r1 := (none, 129, 17845, hp M17)) mm_150 rfl rfl rfl mm_180 rfl (by decide) (by decide) rfl (Nat.le_of_ble_eq_true rfl) (Nat.le_of_ble_eq_true rfl) rfl rfl (F180_ev sc n x1 v13 _ e1 (by omega) _ _ hc18) ?_
              show pm_ev _ _ _ _ _ (27, [some (.ref 16), some (.int x1)], [], _, _, _) _
              exact J150_27_ev sc n (e1 + 1) he (L150_2 n k) hr2 x1 _ _ _ h
        · rw [if_neg f11] at h
          cases h
/-- ArmExpander$Matcher.conclude -/
def F150 (n : Nat) (M : Mem) : Option (Int32 × Mem) :=
  L150_2 n n 0 M
set_option maxRecDepth 100000 in
set_option maxHeartbeats 4000000 in
theorem F150_ev (sc : Option (Nat × (Nat → Int32))) (n : Nat)  (M : Mem) (e : Nat) (he : 2 ≤ e) (r : Int32) (M' : Mem) (h : F150 n M = some (r, M')) : pm_ev pmT sc e 150 false (0, [some (.ref 16), none], [], 129, 17845, hp M) (some (.int r), 129, 17845, hp M') := by
  unfold F150 at h
  refine pe_blk mm_150 2 (s' := (2, [some (.ref 16), some (.int 0)], [], _, _, _)) rfl ?_
  exact L150_2_ev sc n e he n 0 _ _ _ h
def J156_13 (n : Nat) (y1 : Nat) (M : Mem) : Option (Unit × Mem) :=
  mlet (m_r M 16 2 (some y1)) (fun M8 => some ((), M8))
set_option maxRecDepth 100000 in
set_option maxHeartbeats 4000000 in
theorem J156_13_ev (sc : Option (Nat × (Nat → Int32))) (n : Nat)  (e : Nat) (he : 1 ≤ e) : ∀ (y1 : Nat) (hy1 : isT y1) (M : Mem) (r : Unit) (M' : Mem), J156_13 n y1 M = some (r, M') → pm_ev pmT sc e 156 false (13, [some (.ref 16), some (.ref y1)], [], 129, 17845, hp M) (none, 129, 17845, hp M') := by
  intro y1  hy1 M r M' h
  unfold J156_13 at h
  refine pe_blk mm_156 2 (s' := (15, [some (.ref 16), some (.ref y1)], [.ref y1, .ref 16], _, _, _)) rfl ?_
  refine pe_putr mm_156 rfl rfl rfl (by decide) (Nat.le_of_ble_eq_true rfl) rfl rfl ?_
  show pm_ev _ _ _ _ _ (18, [some (.ref 16), some (.ref y1)], [], _, _, hp (m_r M 16 2 (some y1))) _
  generalize m_r M 16 2 (some y1) = M8 at h ⊢
  rw [mlet] at h
  cases h
  exact pe_ret mm_156 rfl rfl
/-- ArmExpander$Matcher.exchange -/
def F156 (n : Nat) (M : Mem) : Option (Unit × Mem) :=
  match M.2.1 16 1 with | some p1 => (if isT p1 then (match M.2.1 16 2 with | some p4 => (if isT p4 then (mlet (m_r M 16 1 (some p4)) (fun M7 => J156_13 n p1 M7)) else none) | none => none) else none) | none => none
set_option maxRecDepth 100000 in
set_option maxHeartbeats 4000000 in
theorem F156_ev (sc : Option (Nat × (Nat → Int32))) (n : Nat)  (M : Mem) (e : Nat) (he : 1 ≤ e) (r : Unit) (M' : Mem) (h : F156 n M = some (r, M')) : pm_ev pmT sc e 156 false (0, [some (.ref 16), none], [], 129, 17845, hp M) (none, 129, 17845, hp M') := by
  unfold F156 at h
  refine pe_blk mm_156 1 (s' := (1, [some (.ref 16), none], [.ref 16], _, _, _)) rfl ?_
  refine pe_get mm_156 rfl rfl rfl (by decide) rfl ?_
  show pm_ev _ _ _ _ _ (4, [some (.ref 16), none], va_rf (M.2.1 16 1) :: [], _, _, _) _
  cases hq3 : M.2.1 16 1 with
  | none => rw [hq3] at h; cases h
  | some p1 =>
    rw [hq3] at h
    dsimp only at h
    by_cases f2 : isT p1
    · rw [if_pos f2] at h
      show pm_ev _ _ _ _ _ (4, [some (.ref 16), none], [.ref p1], _, _, _) _
      refine pe_blk mm_156 3 (s' := (7, [some (.ref 16), some (.ref p1)], [.ref 16, .ref 16], _, _, _)) rfl ?_
      refine pe_get mm_156 rfl rfl rfl (by decide) rfl ?_
      show pm_ev _ _ _ _ _ (10, [some (.ref 16), some (.ref p1)], va_rf (M.2.1 16 2) :: [.ref 16], _, _, _) _
      cases hq6 : M.2.1 16 2 with
      | none => rw [hq6] at h; cases h
      | some p4 =>
        rw [hq6] at h
        dsimp only at h
        by_cases f5 : isT p4
        · rw [if_pos f5] at h
          show pm_ev _ _ _ _ _ (10, [some (.ref 16), some (.ref p1)], [.ref p4, .ref 16], _, _, _) _
          refine pe_putr mm_156 rfl rfl rfl (by decide) (Nat.le_of_ble_eq_true rfl) rfl rfl ?_
          show pm_ev _ _ _ _ _ (13, [some (.ref 16), some (.ref p1)], [], _, _, hp (m_r M 16 1 (some p4))) _
          generalize m_r M 16 1 (some p4) = M7 at h ⊢
          rw [mlet] at h
          exact J156_13_ev sc n e he p1 f2 _ _ _ h
        · rw [if_neg f5] at h
          cases h
    · rw [if_neg f2] at h
      cases h
/-- ArmExpander$Writer.prepare -/
def F208 (n : Nat) (g1 : Nat) (g2 : Nat) (M : Mem) : Option (Unit × Mem) :=
  mlet (m_r M 31 4 (some 17)) (fun M1 => mlet (m_r M1 31 5 (some g1)) (fun M2 => mlet (m_r M2 31 6 (some g2)) (fun M3 => some ((), M3))))
set_option maxRecDepth 100000 in
set_option maxHeartbeats 4000000 in
theorem F208_ev (sc : Option (Nat × (Nat → Int32))) (n : Nat) (g1 : Nat) (g2 : Nat) (hg1 : isR g1) (hg2 : isR g2) (M : Mem) (e : Nat) (he : 1 ≤ e) (r : Unit) (M' : Mem) (h : F208 n g1 g2 M = some (r, M')) : pm_ev pmT sc e 208 false (0, [some (.ref 31), some (.ref 17), some (.ref g1), some (.ref g2)], [], 129, 17845, hp M) (none, 129, 17845, hp M') := by
  unfold F208 at h
  refine pe_blk mm_208 2 (s' := (2, [some (.ref 31), some (.ref 17), some (.ref g1), some (.ref g2)], [.ref 17, .ref 31], _, _, _)) rfl ?_
  refine pe_putr mm_208 rfl rfl rfl (by decide) (Nat.le_of_ble_eq_true rfl) rfl rfl ?_
  show pm_ev _ _ _ _ _ (5, [some (.ref 31), some (.ref 17), some (.ref g1), some (.ref g2)], [], _, _, hp (m_r M 31 4 (some 17))) _
  generalize m_r M 31 4 (some 17) = M1 at h ⊢
  rw [mlet] at h
  refine pe_blk mm_208 2 (s' := (7, [some (.ref 31), some (.ref 17), some (.ref g1), some (.ref g2)], [.ref g1, .ref 31], _, _, _)) rfl ?_
  refine pe_putr mm_208 rfl rfl rfl (by decide) (Nat.le_of_ble_eq_true rfl) rfl rfl ?_
  show pm_ev _ _ _ _ _ (10, [some (.ref 31), some (.ref 17), some (.ref g1), some (.ref g2)], [], _, _, hp (m_r M1 31 5 (some g1))) _
  generalize m_r M1 31 5 (some g1) = M2 at h ⊢
  rw [mlet] at h
  refine pe_blk mm_208 2 (s' := (12, [some (.ref 31), some (.ref 17), some (.ref g1), some (.ref g2)], [.ref g2, .ref 31], _, _, _)) rfl ?_
  refine pe_putr mm_208 rfl rfl rfl (by decide) (Nat.le_of_ble_eq_true rfl) rfl rfl ?_
  show pm_ev _ _ _ _ _ (15, [some (.ref 31), some (.ref 17), some (.ref g1), some (.ref g2)], [], _, _, hp (m_r M2 31 6 (some g2))) _
  generalize m_r M2 31 6 (some g2) = M3 at h ⊢
  rw [mlet] at h
  cases h
  exact pe_ret mm_208 rfl rfl
def J212_118 (n : Nat) (rec19 : Int32 → Int32 → Int32 → Int32 → Mem → Option (Int32 × Mem)) (x2 : Int32) (x3 : Int32) (x4 : Int32) (x5 : Int32) (M : Mem) : Option (Int32 × Mem) :=
  rec19 x2 x3 x4 (x5 + 1) M
set_option maxRecDepth 100000 in
set_option maxHeartbeats 4000000 in
theorem J212_118_ev (sc : Option (Nat × (Nat → Int32))) (n : Nat)  (e : Nat) (he : 2 ≤ e) (rec19 : Int32 → Int32 → Int32 → Int32 → Mem → Option (Int32 × Mem)) (hr19 : ∀ (x2 : Int32) (x3 : Int32) (x4 : Int32) (x5 : Int32) (u1 : Option Value) (u6 : Option Value) (u7 : Option Value) (M : Mem) (r : Int32) (M' : Mem), rec19 x2 x3 x4 x5 M = some (r, M') → pm_ev pmT sc e 212 false (19, [some (.ref 31), u1, some (.int x2), some (.int x3), some (.int x4), some (.int x5), u6, u7], [], 129, 17845, hp M) (some (.int r), 129, 17845, hp M')) : ∀ (x2 : Int32) (x3 : Int32) (x4 : Int32) (x5 : Int32) (u1 : Option Value) (u6 : Option Value) (u7 : Option Value) (M : Mem) (r : Int32) (M' : Mem), J212_118 n rec19 x2 x3 x4 x5 M = some (r, M') → pm_ev pmT sc e 212 false (118, [some (.ref 31), u1, some (.int x2), some (.int x3), some (.int x4), some (.int x5), u6, u7], [], 129, 17845, hp M) (some (.int r), 129, 17845, hp M') := by
  intro x2 x3 x4 x5 u1 u6 u7 M r M' h
  unfold J212_118 at h
  refine pe_blk mm_212 2 (s' := (19, [some (.ref 31), u1, some (.int x2), some (.int x3), some (.int x4), some (.int (x5 + 1)), u6, u7], [], _, _, _)) rfl ?_
  exact hr19 x2 x3 x4 (x5 + 1) _ _ _ _ _ _ h
def J212_115 (n : Nat) (rec19 : Int32 → Int32 → Int32 → Int32 → Mem → Option (Int32 × Mem)) (x2 : Int32) (x4 : Int32) (x5 : Int32) (x7 : Int32) (M : Mem) : Option (Int32 × Mem) :=
  J212_118 n rec19 x2 x7 x4 x5 M
set_option maxRecDepth 100000 in
set_option maxHeartbeats 4000000 in
theorem J212_115_ev (sc : Option (Nat × (Nat → Int32))) (n : Nat)  (e : Nat) (he : 2 ≤ e) (rec19 : Int32 → Int32 → Int32 → Int32 → Mem → Option (Int32 × Mem)) (hr19 : ∀ (x2 : Int32) (x3 : Int32) (x4 : Int32) (x5 : Int32) (u1 : Option Value) (u6 : Option Value) (u7 : Option Value) (M : Mem) (r : Int32) (M' : Mem), rec19 x2 x3 x4 x5 M = some (r, M') → pm_ev pmT sc e 212 false (19, [some (.ref 31), u1, some (.int x2), some (.int x3), some (.int x4), some (.int x5), u6, u7], [], 129, 17845, hp M) (some (.int r), 129, 17845, hp M')) : ∀ (x2 : Int32) (x4 : Int32) (x5 : Int32) (x7 : Int32) (u1 : Option Value) (u3 : Option Value) (u6 : Option Value) (M : Mem) (r : Int32) (M' : Mem), J212_115 n rec19 x2 x4 x5 x7 M = some (r, M') → pm_ev pmT sc e 212 false (115, [some (.ref 31), u1, some (.int x2), u3, some (.int x4), some (.int x5), u6, some (.int x7)], [], 129, 17845, hp M) (some (.int r), 129, 17845, hp M') := by
  intro x2 x4 x5 x7 u1 u3 u6 M r M' h
  unfold J212_115 at h
  refine pe_blk mm_212 2 (s' := (118, [some (.ref 31), u1, some (.int x2), some (.int x7), some (.int x4), some (.int x5), u6, some (.int x7)], [], _, _, _)) rfl ?_
  exact J212_118_ev sc n e he rec19 hr19 x2 x7 x4 x5 _ _ _ _ _ _ h
def J212_100 (n : Nat) (rec19 : Int32 → Int32 → Int32 → Int32 → Mem → Option (Int32 × Mem)) (x2 : Int32) (x3 : Int32) (x4 : Int32) (x5 : Int32) (s0 : Int32) (M : Mem) : Option (Int32 × Mem) :=
  if x3 = (-1) then (J212_115 n rec19 x2 x4 x5 s0 M) else (if x3 = s0 then (J212_115 n rec19 x2 x4 x5 s0 M) else (some ((-1), M)))
set_option maxRecDepth 100000 in
set_option maxHeartbeats 4000000 in
theorem J212_100_ev (sc : Option (Nat × (Nat → Int32))) (n : Nat)  (e : Nat) (he : 2 ≤ e) (rec19 : Int32 → Int32 → Int32 → Int32 → Mem → Option (Int32 × Mem)) (hr19 : ∀ (x2 : Int32) (x3 : Int32) (x4 : Int32) (x5 : Int32) (u1 : Option Value) (u6 : Option Value) (u7 : Option Value) (M : Mem) (r : Int32) (M' : Mem), rec19 x2 x3 x4 x5 M = some (r, M') → pm_ev pmT sc e 212 false (19, [some (.ref 31), u1, some (.int x2), some (.int x3), some (.int x4), some (.int x5), u6, u7], [], 129, 17845, hp M) (some (.int r), 129, 17845, hp M')) : ∀ (x2 : Int32) (x3 : Int32) (x4 : Int32) (x5 : Int32) (s0 : Int32) (u1 : Option Value) (u6 : Option Value) (u7 : Option Value) (M : Mem) (r : Int32) (M' : Mem), J212_100 n rec19 x2 x3 x4 x5 s0 M = some (r, M') → pm_ev pmT sc e 212 false (100, [some (.ref 31), u1, some (.int x2), some (.int x3), some (.int x4), some (.int x5), u6, u7], [.int s0], 129, 17845, hp M) (some (.int r), 129, 17845, hp M') := by
  intro x2 x3 x4 x5 s0 u1 u6 u7 M r M' h
  unfold J212_100 at h
  refine pe_blk mm_212 3 (s' := (104, [some (.ref 31), u1, some (.int x2), some (.int x3), some (.int x4), some (.int x5), u6, some (.int s0)], [.int (-1), .int x3], _, _, _)) rfl ?_
  by_cases q37 : x3 = (-1)
  · rw [if_pos q37] at h
    refine pe_blk mm_212 1 (s' := (if x3 = (-1) then 115 else 107, [some (.ref 31), u1, some (.int x2), some (.int x3), some (.int x4), some (.int x5), u6, some (.int s0)], [], _, _, _)) rfl ?_
    rw [if_pos q37]
    exact J212_115_ev sc n e he rec19 hr19 x2 x4 x5 s0 _ _ _ _ _ _ h
  · rw [if_neg q37] at h
    refine pe_blk mm_212 1 (s' := (if x3 = (-1) then 115 else 107, [some (.ref 31), u1, some (.int x2), some (.int x3), some (.int x4), some (.int x5), u6, some (.int s0)], [], _, _, _)) rfl ?_
    rw [if_neg q37]
    refine pe_blk mm_212 2 (s' := (110, [some (.ref 31), u1, some (.int x2), some (.int x3), some (.int x4), some (.int x5), u6, some (.int s0)], [.int s0, .int x3], _, _, _)) rfl ?_
    by_cases q38 : x3 = s0
    · rw [if_pos q38] at h
      refine pe_blk mm_212 1 (s' := (if x3 = s0 then 115 else 113, [some (.ref 31), u1, some (.int x2), some (.int x3), some (.int x4), some (.int x5), u6, some (.int s0)], [], _, _, _)) rfl ?_
      rw [if_pos q38]
      exact J212_115_ev sc n e he rec19 hr19 x2 x4 x5 s0 _ _ _ _ _ _ h
    · rw [if_neg q38] at h
      refine pe_blk mm_212 1 (s' := (if x3 = s0 then 115 else 113, [some (.ref 31), u1, some (.int x2), some (.int x3), some (.int x4), some (.int x5), u6, some (.int s0)], [], _, _, _)) rfl ?_
      rw [if_neg q38]
      refine pe_blk mm_212 1 (s' := (114, [some (.ref 31), u1, some (.int x2), some (.int x3), some (.int x4), some (.int x5), u6, some (.int s0)], [.int (-1)], _, _, _)) rfl ?_
      cases h
      exact pe_ret mm_212 rfl rfl
def J212_62 (n : Nat) (rec19 : Int32 → Int32 → Int32 → Int32 → Mem → Option (Int32 × Mem)) (x2 : Int32) (x3 : Int32) (x4 : Int32) (x5 : Int32) (x6 : Int32) (M : Mem) : Option (Int32 × Mem) :=
  if x2 = 0 then (match M.2.1 31 4 with | some p25 => (if p25 = 17 then (match M.2.1 31 1 with | some p28 => (if isD p28 then (match F124 n p28 x6 M with | some (v31, M32) => (match F181 n v31 M32 with | some (v34, M35) => (J212_100 n rec19 x2 x3 x4 x5 v34 M35) | none => none) | none => none) else none) | none => none) else none) | none => none) else (match M.2.1 31 4 with | some p39 => (if p39 = 17 then (match F182 n x6 (M.1 32 0) M with | some (v42, M43) => (J212_100 n rec19 x2 x3 x4 x5 v42 M43) | none => none) else none) | none => none)
set_option maxRecDepth 100000 in
set_option maxHeartbeats 4000000 in
theorem J212_62_ev (sc : Option (Nat × (Nat → Int32))) (n : Nat)  (e : Nat) (he : 2 ≤ e) (rec19 : Int32 → Int32 → Int32 → Int32 → Mem → Option (Int32 × Mem)) (hr19 : ∀ (x2 : Int32) (x3 : Int32) (x4 : Int32) (x5 : Int32) (u1 : Option Value) (u6 : Option Value) (u7 : Option Value) (M : Mem) (r : Int32) (M' : Mem), rec19 x2 x3 x4 x5 M = some (r, M') → pm_ev pmT sc e 212 false (19, [some (.ref 31), u1, some (.int x2), some (.int x3), some (.int x4), some (.int x5), u6, u7], [], 129, 17845, hp M) (some (.int r), 129, 17845, hp M')) : ∀ (x2 : Int32) (x3 : Int32) (x4 : Int32) (x5 : Int32) (x6 : Int32) (u1 : Option Value) (u7 : Option Value) (M : Mem) (r : Int32) (M' : Mem), J212_62 n rec19 x2 x3 x4 x5 x6 M = some (r, M') → pm_ev pmT sc e 212 false (62, [some (.ref 31), u1, some (.int x2), some (.int x3), some (.int x4), some (.int x5), some (.int x6), u7], [], 129, 17845, hp M) (some (.int r), 129, 17845, hp M') := by
  intro x2 x3 x4 x5 x6 u1 u7 M r M' h
  unfold J212_62 at h
  refine pe_blk mm_212 1 (s' := (63, [some (.ref 31), u1, some (.int x2), some (.int x3), some (.int x4), some (.int x5), some (.int x6), u7], [.int x2], _, _, _)) rfl ?_
  by_cases q24 : x2 = 0
  · rw [if_pos q24] at h
    refine pe_blk mm_212 1 (s' := (if x2 = 0 then 66 else 85, [some (.ref 31), u1, some (.int x2), some (.int x3), some (.int x4), some (.int x5), some (.int x6), u7], [], _, _, _)) rfl ?_
    rw [if_pos q24]
    refine pe_blk mm_212 1 (s' := (67, [some (.ref 31), u1, some (.int x2), some (.int x3), some (.int x4), some (.int x5), some (.int x6), u7], [.ref 31], _, _, _)) rfl ?_
    refine pe_get mm_212 rfl rfl rfl (by decide) rfl ?_
    show pm_ev _ _ _ _ _ (70, [some (.ref 31), u1, some (.int x2), some (.int x3), some (.int x4), some (.int x5), some (.int x6), u7], va_rf (M.2.1 31 4) :: [], _, _, _) _
    cases hq27 : M.2.1 31 4 with
    | none => rw [hq27] at h; cases h
    | some p25 =>
      rw [hq27] at h
      dsimp only at h
      by_cases f26 : p25 = 17
      · rw [if_pos f26] at h
        subst f26
        show pm_ev _ _ _ _ _ (70, [some (.ref 31), u1, some (.int x2), some (.int x3), some (.int x4), some (.int x5), some (.int x6), u7], [.ref 17], _, _, _) _
        refine pe_blk mm_212 1 (s' := (71, [some (.ref 31), u1, some (.int x2), some (.int x3), some (.int x4), some (.int x5), some (.int x6), u7], [.ref 31, .ref 17], _, _, _)) rfl ?_
        refine pe_get mm_212 rfl rfl rfl (by decide) rfl ?_
        show pm_ev _ _ _ _ _ (74, [some (.ref 31), u1, some (.int x2), some (.int x3), some (.int x4), some (.int x5), some (.int x6), u7], va_rf (M.2.1 31 1) :: [.ref 17], _, _, _) _
        cases hq30 : M.2.1 31 1 with
        | none => rw [hq30] at h; cases h
        | some p28 =>
          rw [hq30] at h
          dsimp only at h
          by_cases f29 : isD p28
          · rw [if_pos f29] at h
            show pm_ev _ _ _ _ _ (74, [some (.ref 31), u1, some (.int x2), some (.int x3), some (.int x4), some (.int x5), some (.int x6), u7], [.ref p28, .ref 17], _, _, _) _
            refine pe_blk mm_212 1 (s' := (76, [some (.ref 31), u1, some (.int x2), some (.int x3), some (.int x4), some (.int x5), some (.int x6), u7], [.int x6, .ref p28, .ref 17], _, _, _)) rfl ?_
            obtain ⟨e1, rfl⟩ : ∃ e1, e = e1 + 1 := ⟨e - 1, by omega⟩
            cases hc33 : F124 n p28 x6 M with
            | none => rw [hc33] at h; cases h
            | some w =>
              obtain ⟨v31, M32⟩ := w
              rw [hc33] at h
              dsimp only at h
              refine pe_virt (al := [.int x6]) (a := p28) (L0 := [some (.ref p28), some (.int x6), none]) (r1 := (some (.int v31), 129, 17845, hp M32)) mm_212 rfl rfl rfl mm_124 (isD_0 f29 _) (by have := isD_lt f29; omega) (by decide) rfl (Nat.le_of_ble_eq_true rfl) (Nat.le_of_ble_eq_true rfl) rfl rfl (F124_ev sc n p28 x6 f29 _ e1 (by omega) _ _ hc33) ?_
              show pm_ev _ _ _ _ _ (79, [some (.ref 31), u1, some (.int x2), some (.int x3), some (.int x4), some (.int x5), some (.int x6), u7], [.int v31, .ref 17], _, _, _) _
              skip
              cases hc36 : F181 n v31 M32 with
              | none => rw [hc36] at h; cases h
              | some w =>
                obtain ⟨v34, M35⟩ := w
                rw [hc36] at h
                dsimp only at h
                refine pe_virt (al := [.int v31]) (a := 17) (L0 := [some (.ref 17), some (.int v31)]) (r1 := (some (.int v34), 129, 17845, hp M35)) mm_212 rfl rfl rfl mm_181 rfl (by decide) (by decide) rfl (Nat.le_of_ble_eq_true rfl) (Nat.le_of_ble_eq_true rfl) rfl rfl (F181_ev sc n v31 _ e1 (by omega) _ _ hc36) ?_
                show pm_ev _ _ _ _ _ (82, [some (.ref 31), u1, some (.int x2), some (.int x3), some (.int x4), some (.int x5), some (.int x6), u7], [.int v34], _, _, _) _
                refine pe_blk mm_212 1 (s' := (100, [some (.ref 31), u1, some (.int x2), some (.int x3), some (.int x4), some (.int x5), some (.int x6), u7], [.int v34], _, _, _)) rfl ?_
                exact J212_100_ev sc n (e1 + 1) he rec19 hr19 x2 x3 x4 x5 v34 _ _ _ _ _ _ h
          · rw [if_neg f29] at h
            cases h
      · rw [if_neg f26] at h
        cases h
  · rw [if_neg q24] at h
    refine pe_blk mm_212 1 (s' := (if x2 = 0 then 66 else 85, [some (.ref 31), u1, some (.int x2), some (.int x3), some (.int x4), some (.int x5), some (.int x6), u7], [], _, _, _)) rfl ?_
    rw [if_neg q24]
    refine pe_blk mm_212 1 (s' := (86, [some (.ref 31), u1, some (.int x2), some (.int x3), some (.int x4), some (.int x5), some (.int x6), u7], [.ref 31], _, _, _)) rfl ?_
    refine pe_get mm_212 rfl rfl rfl (by decide) rfl ?_
    show pm_ev _ _ _ _ _ (89, [some (.ref 31), u1, some (.int x2), some (.int x3), some (.int x4), some (.int x5), some (.int x6), u7], va_rf (M.2.1 31 4) :: [], _, _, _) _
    cases hq41 : M.2.1 31 4 with
    | none => rw [hq41] at h; cases h
    | some p39 =>
      rw [hq41] at h
      dsimp only at h
      by_cases f40 : p39 = 17
      · rw [if_pos f40] at h
        subst f40
        show pm_ev _ _ _ _ _ (89, [some (.ref 31), u1, some (.int x2), some (.int x3), some (.int x4), some (.int x5), some (.int x6), u7], [.ref 17], _, _, _) _
        refine pe_blk mm_212 2 (s' := (92, [some (.ref 31), u1, some (.int x2), some (.int x3), some (.int x4), some (.int x5), some (.int x6), u7], [.ref 31, .int x6, .ref 17], _, _, _)) rfl ?_
        refine pe_get mm_212 rfl rfl rfl (by decide) rfl ?_
        refine pe_blk mm_212 1 (s' := (96, [some (.ref 31), u1, some (.int x2), some (.int x3), some (.int x4), some (.int x5), some (.int x6), u7], [.int 0, .ref 32, .int x6, .ref 17], _, _, _)) rfl ?_
        refine pe_iald (f := M.1 32) mm_212 rfl rfl (by decide) (by decide) ?_
        show pm_ev _ _ _ _ _ (97, [some (.ref 31), u1, some (.int x2), some (.int x3), some (.int x4), some (.int x5), some (.int x6), u7], [.int (M.1 32 0), .int x6, .ref 17], _, _, hp (M)) _
        obtain ⟨e1, rfl⟩ : ∃ e1, e = e1 + 1 := ⟨e - 1, by omega⟩
        cases hc44 : F182 n x6 (M.1 32 0) M with
        | none => rw [hc44] at h; cases h
        | some w =>
          obtain ⟨v42, M43⟩ := w
          rw [hc44] at h
          dsimp only at h
          refine pe_virt (al := [.int (M.1 32 0), .int x6]) (a := 17) (L0 := [some (.ref 17), some (.int x6), some (.int (M.1 32 0)), none, none]) (r1 := (some (.int v42), 129, 17845, hp M43)) mm_212 rfl rfl rfl mm_182 rfl (by decide) (by decide) rfl (Nat.le_of_ble_eq_true rfl) (Nat.le_of_ble_eq_true rfl) rfl rfl (F182_ev sc n x6 (M.1 32 0) _ e1 (by omega) _ _ hc44) ?_
          show pm_ev _ _ _ _ _ (100, [some (.ref 31), u1, some (.int x2), some (.int x3), some (.int x4), some (.int x5), some (.int x6), u7], [.int v42], _, _, _) _
          exact J212_100_ev sc n (e1 + 1) he rec19 hr19 x2 x3 x4 x5 v42 _ _ _ _ _ _ h
      · rw [if_neg f40] at h
        cases h
def J212_38 (n : Nat) (rec19 : Int32 → Int32 → Int32 → Int32 → Mem → Option (Int32 × Mem)) (x2 : Int32) (x3 : Int32) (x4 : Int32) (x5 : Int32) (M : Mem) : Option (Int32 × Mem) :=
  match M.2.1 31 1 with | some p15 => (if isD p15 then (match F109 n p15 (x5 + 1) M with | some (v18, M19) => (match F125 n p15 (M.1 31 2) v18 M19 with | some (v21, M22) => (J212_62 n rec19 x2 x3 x4 x5 v21 M22) | none => none) | none => none) else none) | none => none
set_option maxRecDepth 100000 in
set_option maxHeartbeats 4000000 in
theorem J212_38_ev (sc : Option (Nat × (Nat → Int32))) (n : Nat)  (e : Nat) (he : 2 ≤ e) (rec19 : Int32 → Int32 → Int32 → Int32 → Mem → Option (Int32 × Mem)) (hr19 : ∀ (x2 : Int32) (x3 : Int32) (x4 : Int32) (x5 : Int32) (u1 : Option Value) (u6 : Option Value) (u7 : Option Value) (M : Mem) (r : Int32) (M' : Mem), rec19 x2 x3 x4 x5 M = some (r, M') → pm_ev pmT sc e 212 false (19, [some (.ref 31), u1, some (.int x2), some (.int x3), some (.int x4), some (.int x5), u6, u7], [], 129, 17845, hp M) (some (.int r), 129, 17845, hp M')) : ∀ (x2 : Int32) (x3 : Int32) (x4 : Int32) (x5 : Int32) (u1 : Option Value) (u6 : Option Value) (u7 : Option Value) (M : Mem) (r : Int32) (M' : Mem), J212_38 n rec19 x2 x3 x4 x5 M = some (r, M') → pm_ev pmT sc e 212 false (38, [some (.ref 31), u1, some (.int x2), some (.int x3), some (.int x4), some (.int x5), u6, u7], [], 129, 17845, hp M) (some (.int r), 129, 17845, hp M') := by
  intro x2 x3 x4 x5 u1 u6 u7 M r M' h
  unfold J212_38 at h
  refine pe_blk mm_212 1 (s' := (39, [some (.ref 31), u1, some (.int x2), some (.int x3), some (.int x4), some (.int x5), u6, u7], [.ref 31], _, _, _)) rfl ?_
  refine pe_get mm_212 rfl rfl rfl (by decide) rfl ?_
  show pm_ev _ _ _ _ _ (42, [some (.ref 31), u1, some (.int x2), some (.int x3), some (.int x4), some (.int x5), u6, u7], va_rf (M.2.1 31 1) :: [], _, _, _) _
  cases hq17 : M.2.1 31 1 with
  | none => rw [hq17] at h; cases h
  | some p15 =>
    rw [hq17] at h
    dsimp only at h
    by_cases f16 : isD p15
    · rw [if_pos f16] at h
      show pm_ev _ _ _ _ _ (42, [some (.ref 31), u1, some (.int x2), some (.int x3), some (.int x4), some (.int x5), u6, u7], [.ref p15], _, _, _) _
      refine pe_blk mm_212 1 (s' := (43, [some (.ref 31), u1, some (.int x2), some (.int x3), some (.int x4), some (.int x5), u6, u7], [.ref 31, .ref p15], _, _, _)) rfl ?_
      refine pe_get mm_212 rfl rfl rfl (by decide) rfl ?_
      refine pe_blk mm_212 1 (s' := (47, [some (.ref 31), u1, some (.int x2), some (.int x3), some (.int x4), some (.int x5), u6, u7], [.ref 31, .int (M.1 31 2), .ref p15], _, _, _)) rfl ?_
      refine pe_get mm_212 rfl rfl rfl (by decide) rfl ?_
      show pm_ev _ _ _ _ _ (50, [some (.ref 31), u1, some (.int x2), some (.int x3), some (.int x4), some (.int x5), u6, u7], va_rf (M.2.1 31 1) :: [.int (M.1 31 2), .ref p15], _, _, _) _
      rw [hq17]
      show pm_ev _ _ _ _ _ (50, [some (.ref 31), u1, some (.int x2), some (.int x3), some (.int x4), some (.int x5), u6, u7], [.ref p15, .int (M.1 31 2), .ref p15], _, _, _) _
      refine pe_blk mm_212 3 (s' := (54, [some (.ref 31), u1, some (.int x2), some (.int x3), some (.int x4), some (.int x5), u6, u7], [.int (x5 + 1), .ref p15, .int (M.1 31 2), .ref p15], _, _, _)) rfl ?_
      obtain ⟨e1, rfl⟩ : ∃ e1, e = e1 + 1 := ⟨e - 1, by omega⟩
      cases hc20 : F109 n p15 (x5 + 1) M with
      | none => rw [hc20] at h; cases h
      | some w =>
        obtain ⟨v18, M19⟩ := w
        rw [hc20] at h
        dsimp only at h
        refine pe_virt (al := [.int (x5 + 1)]) (a := p15) (L0 := [some (.ref p15), some (.int (x5 + 1))]) (r1 := (some (.int v18), 129, 17845, hp M19)) mm_212 rfl rfl rfl mm_109 (isD_0 f16 _) (by have := isD_lt f16; omega) (by decide) rfl (Nat.le_of_ble_eq_true rfl) (Nat.le_of_ble_eq_true rfl) rfl rfl (F109_ev sc n p15 (x5 + 1) f16 _ e1 (by omega) _ _ hc20) ?_
        show pm_ev _ _ _ _ _ (57, [some (.ref 31), u1, some (.int x2), some (.int x3), some (.int x4), some (.int x5), u6, u7], [.int v18, .int (M.1 31 2), .ref p15], _, _, _) _
        skip
        cases hc23 : F125 n p15 (M.1 31 2) v18 M19 with
        | none => rw [hc23] at h; cases h
        | some w =>
          obtain ⟨v21, M22⟩ := w
          rw [hc23] at h
          dsimp only at h
          refine pe_virt (al := [.int v18, .int (M.1 31 2)]) (a := p15) (L0 := [some (.ref p15), some (.int (M.1 31 2)), some (.int v18), none, none]) (r1 := (some (.int v21), 129, 17845, hp M22)) mm_212 rfl rfl rfl mm_125 (isD_0 f16 _) (by have := isD_lt f16; omega) (by decide) rfl (Nat.le_of_ble_eq_true rfl) (Nat.le_of_ble_eq_true rfl) rfl rfl (F125_ev sc n p15 (M.1 31 2) v18 f16 _ e1 (by omega) _ _ hc23) ?_
          show pm_ev _ _ _ _ _ (60, [some (.ref 31), u1, some (.int x2), some (.int x3), some (.int x4), some (.int x5), u6, u7], [.int v21], _, _, _) _
          refine pe_blk mm_212 1 (s' := (62, [some (.ref 31), u1, some (.int x2), some (.int x3), some (.int x4), some (.int x5), some (.int v21), u7], [], _, _, _)) rfl ?_
          exact J212_62_ev sc n (e1 + 1) he rec19 hr19 x2 x3 x4 x5 v21 _ _ _ _ _ h
    · rw [if_neg f16] at h
      cases h
def L212_19 (n : Nat) : Nat → Int32 → Int32 → Int32 → Int32 → Mem → Option (Int32 × Mem)
  | 0, _, _, _, _, _ => none
  | k + 1, x2, x3, x4, x5, M => if x4 ≤ x5 then (some (x3, M)) else (match M.2.1 31 1 with | some p8 => (if isD p8 then (match F115 n p8 x5 M with | some (v11, M12) => (if v11 = 0 then (J212_118 n (L212_19 n k) x2 x3 x4 x5 M12) else (J212_38 n (L212_19 n k) x2 x3 x4 x5 M12)) | none => none) else none) | none => none)
set_option maxRecDepth 100000 in
set_option maxHeartbeats 4000000 in
theorem L212_19_ev (sc : Option (Nat × (Nat → Int32))) (n : Nat)  (e : Nat) (he : 2 ≤ e) : ∀ k : Nat, ∀ (x2 : Int32) (x3 : Int32) (x4 : Int32) (x5 : Int32) (u1 : Option Value) (u6 : Option Value) (u7 : Option Value) (M : Mem) (r : Int32) (M' : Mem), L212_19 n k x2 x3 x4 x5 M = some (r, M') → pm_ev pmT sc e 212 false (19, [some (.ref 31), u1, some (.int x2), some (.int x3), some (.int x4), some (.int x5), u6, u7], [], 129, 17845, hp M) (some (.int r), 129, 17845, hp M') := by
  intro k
  induction k with
  | zero => intro x2 x3 x4 x5 u1 u6 u7 M r M' h; cases h
  | succ k hr19 =>
    intro x2 x3 x4 x5 u1 u6 u7 M r M' h
    rw [L212_19] at h
    refine pe_blk mm_212 2 (s' := (23, [some (.ref 31), u1, some (.int x2), some (.int x3), some (.int x4), some (.int x5), u6, u7], [.int x4, .int x5], _, _, _)) rfl ?_
    by_cases q7 : x4 ≤ x5
    · rw [if_pos q7] at h
      refine pe_blk mm_212 1 (s' := (if x4 ≤ x5 then 124 else 26, [some (.ref 31), u1, some (.int x2), some (.int x3), some (.int x4), some (.int x5), u6, u7], [], _, _, _)) rfl ?_
      rw [if_pos q7]
      refine pe_blk mm_212 1 (s' := (125, [some (.ref 31), u1, some (.int x2), some (.int x3), some (.int x4), some (.int x5), u6, u7], [.int x3], _, _, _)) rfl ?_
      cases h
      exact pe_ret mm_212 rfl rfl
    · rw [if_neg q7] at h
      refine pe_blk mm_212 1 (s' := (if x4 ≤ x5 then 124 else 26, [some (.ref 31), u1, some (.int x2), some (.int x3), some (.int x4), some (.int x5), u6, u7], [], _, _, _)) rfl ?_
      rw [if_neg q7]
      refine pe_blk mm_212 1 (s' := (27, [some (.ref 31), u1, some (.int x2), some (.int x3), some (.int x4), some (.int x5), u6, u7], [.ref 31], _, _, _)) rfl ?_
      refine pe_get mm_212 rfl rfl rfl (by decide) rfl ?_
      show pm_ev _ _ _ _ _ (30, [some (.ref 31), u1, some (.int x2), some (.int x3), some (.int x4), some (.int x5), u6, u7], va_rf (M.2.1 31 1) :: [], _, _, _) _
      cases hq10 : M.2.1 31 1 with
      | none => rw [hq10] at h; cases h
      | some p8 =>
        rw [hq10] at h
        dsimp only at h
        by_cases f9 : isD p8
        · rw [if_pos f9] at h
          show pm_ev _ _ _ _ _ (30, [some (.ref 31), u1, some (.int x2), some (.int x3), some (.int x4), some (.int x5), u6, u7], [.ref p8], _, _, _) _
          refine pe_blk mm_212 1 (s' := (32, [some (.ref 31), u1, some (.int x2), some (.int x3), some (.int x4), some (.int x5), u6, u7], [.int x5, .ref p8], _, _, _)) rfl ?_
          obtain ⟨e1, rfl⟩ : ∃ e1, e = e1 + 1 := ⟨e - 1, by omega⟩
          cases hc13 : F115 n p8 x5 M with
          | none => rw [hc13] at h; cases h
          | some w =>
            obtain ⟨v11, M12⟩ := w
            rw [hc13] at h
            dsimp only at h
            refine pe_virt (al := [.int x5]) (a := p8) (L0 := [some (.ref p8), some (.int x5)]) (r1 := (some (.int v11), 129, 17845, hp M12)) mm_212 rfl rfl rfl mm_115 (isD_0 f9 _) (by have := isD_lt f9; omega) (by decide) rfl (Nat.le_of_ble_eq_true rfl) (Nat.le_of_ble_eq_true rfl) rfl rfl (F115_ev sc n p8 x5 f9 _ e1 (by omega) _ _ hc13) ?_
            show pm_ev _ _ _ _ _ (35, [some (.ref 31), u1, some (.int x2), some (.int x3), some (.int x4), some (.int x5), u6, u7], [.int v11], _, _, _) _
            by_cases q14 : v11 = 0
            · rw [if_pos q14] at h
              refine pe_blk mm_212 1 (s' := (if v11 = 0 then 118 else 38, [some (.ref 31), u1, some (.int x2), some (.int x3), some (.int x4), some (.int x5), u6, u7], [], _, _, _)) rfl ?_
              rw [if_pos q14]
              exact J212_118_ev sc n (e1 + 1) he (L212_19 n k) hr19 x2 x3 x4 x5 _ _ _ _ _ _ h
            · rw [if_neg q14] at h
              refine pe_blk mm_212 1 (s' := (if v11 = 0 then 118 else 38, [some (.ref 31), u1, some (.int x2), some (.int x3), some (.int x4), some (.int x5), u6, u7], [], _, _, _)) rfl ?_
              rw [if_neg q14]
              exact J212_38_ev sc n (e1 + 1) he (L212_19 n k) hr19 x2 x3 x4 x5 _ _ _ _ _ _ h
        · rw [if_neg f9] at h
          cases h
/-- ArmExpander$Writer.roundsOf -/
def F212 (n : Nat) (a0 : Int32) (a1 : Int32) (M : Mem) : Option (Int32 × Mem) :=
  match M.2.1 31 1 with | some p1 => (if isD p1 then (match F110 n p1 (a0 + 1) M with | some (v4, M5) => (L212_19 n n a1 (-1) v4 (a0 + 2) M5) | none => none) else none) | none => none
set_option maxRecDepth 100000 in
set_option maxHeartbeats 4000000 in
theorem F212_ev (sc : Option (Nat × (Nat → Int32))) (n : Nat) (a0 : Int32) (a1 : Int32)  (M : Mem) (e : Nat) (he : 2 ≤ e) (r : Int32) (M' : Mem) (h : F212 n a0 a1 M = some (r, M')) : pm_ev pmT sc e 212 false (0, [some (.ref 31), some (.int a0), some (.int a1), none, none, none, none, none], [], 129, 17845, hp M) (some (.int r), 129, 17845, hp M') := by
  unfold F212 at h
  refine pe_blk mm_212 3 (s' := (3, [some (.ref 31), some (.int a0), some (.int a1), some (.int (-1)), none, none, none, none], [.ref 31], _, _, _)) rfl ?_
  refine pe_get mm_212 rfl rfl rfl (by decide) rfl ?_
  show pm_ev _ _ _ _ _ (6, [some (.ref 31), some (.int a0), some (.int a1), some (.int (-1)), none, none, none, none], va_rf (M.2.1 31 1) :: [], _, _, _) _
  cases hq3 : M.2.1 31 1 with
  | none => rw [hq3] at h; cases h
  | some p1 =>
    rw [hq3] at h
    dsimp only at h
    by_cases f2 : isD p1
    · rw [if_pos f2] at h
      show pm_ev _ _ _ _ _ (6, [some (.ref 31), some (.int a0), some (.int a1), some (.int (-1)), none, none, none, none], [.ref p1], _, _, _) _
      refine pe_blk mm_212 3 (s' := (9, [some (.ref 31), some (.int a0), some (.int a1), some (.int (-1)), none, none, none, none], [.int (a0 + 1), .ref p1], _, _, _)) rfl ?_
      obtain ⟨e1, rfl⟩ : ∃ e1, e = e1 + 1 := ⟨e - 1, by omega⟩
      cases hc6 : F110 n p1 (a0 + 1) M with
      | none => rw [hc6] at h; cases h
      | some w =>
        obtain ⟨v4, M5⟩ := w
        rw [hc6] at h
        dsimp only at h
        refine pe_virt (al := [.int (a0 + 1)]) (a := p1) (L0 := [some (.ref p1), some (.int (a0 + 1))]) (r1 := (some (.int v4), 129, 17845, hp M5)) mm_212 rfl rfl rfl mm_110 (isD_0 f2 _) (by have := isD_lt f2; omega) (by decide) rfl (Nat.le_of_ble_eq_true rfl) (Nat.le_of_ble_eq_true rfl) rfl rfl (F110_ev sc n p1 (a0 + 1) f2 _ e1 (by omega) _ _ hc6) ?_
        show pm_ev _ _ _ _ _ (12, [some (.ref 31), some (.int a0), some (.int a1), some (.int (-1)), none, none, none, none], [.int v4], _, _, _) _
        refine pe_blk mm_212 5 (s' := (19, [some (.ref 31), some (.int a0), some (.int a1), some (.int (-1)), some (.int v4), some (.int (a0 + 2)), none, none], [], _, _, _)) rfl ?_
        exact L212_19_ev sc n (e1 + 1) he n a1 (-1) v4 (a0 + 2) _ _ _ _ _ _ h
    · rw [if_neg f2] at h
      cases h
