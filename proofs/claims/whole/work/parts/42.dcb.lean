/-! The methods as functions over Mem; written by program. -/
def J81_178 (n : Nat) (M : Mem) : Option (Int32 × Mem) :=
  some ((-2005), M)
set_option maxRecDepth 100000 in
set_option maxHeartbeats 4000000 in
theorem J81_178_ev (sc : Option (Nat × (Nat → Int32))) (n : Nat)  (e : Nat) (he : 11 ≤ e) : ∀ (u0 : Option Value) (u1 : Option Value) (u2 : Option Value) (u3 : Option Value) (u4 : Option Value) (u5 : Option Value) (M : Mem) (r : Int32) (M' : Mem), J81_178 n  M = some (r, M') → pm_ev pmT sc e 81 false (178, [u0, u1, u2, u3, u4, u5], [], 129, 17845, hp M) (some (.int r), 129, 17845, hp M') := by
  intro u0 u1 u2 u3 u4 u5 M r M' h
  unfold J81_178 at h
  refine pe_blk mm_81 1 (s' := (181, [u0, u1, u2, u3, u4, u5], [.int (-2005)], _, _, _)) rfl ?_
  cases h
  exact pe_ret mm_81 rfl rfl
def J81_203 (n : Nat) (M : Mem) : Option (Int32 × Mem) :=
  some (0, M)
set_option maxRecDepth 100000 in
set_option maxHeartbeats 4000000 in
theorem J81_203_ev (sc : Option (Nat × (Nat → Int32))) (n : Nat)  (e : Nat) (he : 11 ≤ e) : ∀ (u0 : Option Value) (u1 : Option Value) (u2 : Option Value) (u3 : Option Value) (u4 : Option Value) (u5 : Option Value) (M : Mem) (r : Int32) (M' : Mem), J81_203 n  M = some (r, M') → pm_ev pmT sc e 81 false (203, [u0, u1, u2, u3, u4, u5], [], 129, 17845, hp M) (some (.int r), 129, 17845, hp M') := by
  intro u0 u1 u2 u3 u4 u5 M r M' h
  unfold J81_203 at h
  refine pe_blk mm_81 1 (s' := (204, [u0, u1, u2, u3, u4, u5], [.int 0], _, _, _)) rfl ?_
  cases h
  exact pe_ret mm_81 rfl rfl
def J81_182 (n : Nat) (x4 : Int32) (M : Mem) : Option (Int32 × Mem) :=
  mlet (m_i M 83 38 ((M.1 83 38) + 1)) (fun M21 => if (M21.1 83 38) < 0 ∨ 12 ≤ (M21.1 83 38 : Int32).toNatClampNeg then none else (mlet (m_i M21 107 (M21.1 83 38 : Int32).toNatClampNeg x4) (fun M23 => J81_203 n M23)))
set_option maxRecDepth 100000 in
set_option maxHeartbeats 4000000 in
theorem J81_182_ev (sc : Option (Nat × (Nat → Int32))) (n : Nat)  (e : Nat) (he : 11 ≤ e) : ∀ (x4 : Int32) (u1 : Option Value) (u2 : Option Value) (u3 : Option Value) (u5 : Option Value) (M : Mem) (r : Int32) (M' : Mem), J81_182 n x4 M = some (r, M') → pm_ev pmT sc e 81 false (182, [some (.ref 83), u1, u2, u3, some (.int x4), u5], [], 129, 17845, hp M) (some (.int r), 129, 17845, hp M') := by
  intro x4 u1 u2 u3 u5 M r M' h
  unfold J81_182 at h
  refine pe_blk mm_81 2 (s' := (184, [some (.ref 83), u1, u2, u3, some (.int x4), u5], [.ref 83, .ref 83], _, _, _)) rfl ?_
  refine pe_get mm_81 rfl rfl rfl (by decide) rfl ?_
  refine pe_blk mm_81 2 (s' := (189, [some (.ref 83), u1, u2, u3, some (.int x4), u5], [.int ((M.1 83 38) + 1), .ref 83], _, _, _)) rfl ?_
  refine pe_puti mm_81 rfl rfl rfl (by decide) (Nat.le_of_ble_eq_true rfl) rfl rfl ?_
  show pm_ev _ _ _ _ _ (192, [some (.ref 83), u1, u2, u3, some (.int x4), u5], [], _, _, hp (m_i M 83 38 ((M.1 83 38) + 1))) _
  generalize m_i M 83 38 ((M.1 83 38) + 1) = M21 at h ⊢
  rw [mlet] at h
  refine pe_blk mm_81 1 (s' := (193, [some (.ref 83), u1, u2, u3, some (.int x4), u5], [.ref 83], _, _, _)) rfl ?_
  refine pe_get mm_81 rfl rfl rfl (by decide) rfl ?_
  refine pe_blk mm_81 1 (s' := (197, [some (.ref 83), u1, u2, u3, some (.int x4), u5], [.ref 83, .ref 107], _, _, _)) rfl ?_
  refine pe_get mm_81 rfl rfl rfl (by decide) rfl ?_
  refine pe_blk mm_81 1 (s' := (202, [some (.ref 83), u1, u2, u3, some (.int x4), u5], [.int x4, .int (M21.1 83 38), .ref 107], _, _, _)) rfl ?_
  by_cases q22 : (M21.1 83 38) < 0 ∨ 12 ≤ (M21.1 83 38 : Int32).toNatClampNeg
  · rw [if_pos q22] at h
    cases h
  · rw [if_neg q22] at h
    refine pe_iasti mm_81 rfl rfl (by decide) q22 rfl ?_
    show pm_ev _ _ _ _ _ (203, [some (.ref 83), u1, u2, u3, some (.int x4), u5], [], _, _, hp (m_i M21 107 (M21.1 83 38 : Int32).toNatClampNeg x4)) _
    generalize m_i M21 107 (M21.1 83 38 : Int32).toNatClampNeg x4 = M23 at h ⊢
    rw [mlet] at h
    exact J81_203_ev sc n e he _ _ _ _ _ _ _ _ _ h
def J81_150 (n : Nat) (x1 : Int32) (x3 : Int32) (x4 : Int32) (M : Mem) : Option (Int32 × Mem) :=
  match F77 n ((M.1 83 38) + 1) M with | some (v13, M14) => (if v13 = 0 then (some ((-2003), M14)) else (match F80 n x1 (x3 + 1) M14 with | some (v17, M18) => (if v17 = 0 then (J81_178 n M18) else (J81_182 n x4 M18)) | none => none)) | none => none
set_option maxRecDepth 100000 in
set_option maxHeartbeats 4000000 in
theorem J81_150_ev (sc : Option (Nat × (Nat → Int32))) (n : Nat)  (e : Nat) (he : 11 ≤ e) : ∀ (x1 : Int32) (x3 : Int32) (x4 : Int32) (u2 : Option Value) (u5 : Option Value) (M : Mem) (r : Int32) (M' : Mem), J81_150 n x1 x3 x4 M = some (r, M') → pm_ev pmT sc e 81 false (150, [some (.ref 83), some (.int x1), u2, some (.int x3), some (.int x4), u5], [], 129, 17845, hp M) (some (.int r), 129, 17845, hp M') := by
  intro x1 x3 x4 u2 u5 M r M' h
  unfold J81_150 at h
  refine pe_blk mm_81 2 (s' := (152, [some (.ref 83), some (.int x1), u2, some (.int x3), some (.int x4), u5], [.ref 83, .ref 83], _, _, _)) rfl ?_
  refine pe_get mm_81 rfl rfl rfl (by decide) rfl ?_
  refine pe_blk mm_81 2 (s' := (157, [some (.ref 83), some (.int x1), u2, some (.int x3), some (.int x4), u5], [.int ((M.1 83 38) + 1), .ref 83], _, _, _)) rfl ?_
  obtain ⟨e1, rfl⟩ : ∃ e1, e = e1 + 1 := ⟨e - 1, by omega⟩
  cases hc15 : F77 n ((M.1 83 38) + 1) M with
  | none => rw [hc15] at h; cases h
  | some w =>
    obtain ⟨v13, M14⟩ := w
    rw [hc15] at h
    dsimp only at h
    refine pe_virt (al := [.int ((M.1 83 38) + 1)]) (a := 83) (L0 := [some (.ref 83), some (.int ((M.1 83 38) + 1)), none, none, none, none, none, none, none, none, none]) (r1 := (some (.int v13), 129, 17845, hp M14)) mm_81 rfl rfl rfl mm_77 rfl (by decide) (by decide) rfl (Nat.le_of_ble_eq_true rfl) (Nat.le_of_ble_eq_true rfl) rfl rfl (F77_ev sc n ((M.1 83 38) + 1) _ e1 (by omega) _ _ hc15) ?_
    show pm_ev _ _ _ _ _ (160, [some (.ref 83), some (.int x1), u2, some (.int x3), some (.int x4), u5], [.int v13], _, _, _) _
    by_cases q16 : v13 = 0
    · rw [if_pos q16] at h
      refine pe_blk mm_81 1 (s' := (if v13 = 0 then 163 else 167, [some (.ref 83), some (.int x1), u2, some (.int x3), some (.int x4), u5], [], _, _, _)) rfl ?_
      rw [if_pos q16]
      refine pe_blk mm_81 1 (s' := (166, [some (.ref 83), some (.int x1), u2, some (.int x3), some (.int x4), u5], [.int (-2003)], _, _, _)) rfl ?_
      cases h
      exact pe_ret mm_81 rfl rfl
    · rw [if_neg q16] at h
      refine pe_blk mm_81 1 (s' := (if v13 = 0 then 163 else 167, [some (.ref 83), some (.int x1), u2, some (.int x3), some (.int x4), u5], [], _, _, _)) rfl ?_
      rw [if_neg q16]
      refine pe_blk mm_81 5 (s' := (172, [some (.ref 83), some (.int x1), u2, some (.int x3), some (.int x4), u5], [.int (x3 + 1), .int x1, .ref 83], _, _, _)) rfl ?_
      skip
      cases hc19 : F80 n x1 (x3 + 1) M14 with
      | none => rw [hc19] at h; cases h
      | some w =>
        obtain ⟨v17, M18⟩ := w
        rw [hc19] at h
        dsimp only at h
        refine pe_virt (al := [.int (x3 + 1), .int x1]) (a := 83) (L0 := [some (.ref 83), some (.int x1), some (.int (x3 + 1)), none, none]) (r1 := (some (.int v17), 129, 17845, hp M18)) mm_81 rfl rfl rfl mm_80 rfl (by decide) (by decide) rfl (Nat.le_of_ble_eq_true rfl) (Nat.le_of_ble_eq_true rfl) rfl rfl (F80_ev sc n x1 (x3 + 1) _ e1 (by omega) _ _ hc19) ?_
        show pm_ev _ _ _ _ _ (175, [some (.ref 83), some (.int x1), u2, some (.int x3), some (.int x4), u5], [.int v17], _, _, _) _
        by_cases q20 : v17 = 0
        · rw [if_pos q20] at h
          refine pe_blk mm_81 1 (s' := (if v17 = 0 then 178 else 182, [some (.ref 83), some (.int x1), u2, some (.int x3), some (.int x4), u5], [], _, _, _)) rfl ?_
          rw [if_pos q20]
          exact J81_178_ev sc n (e1 + 1) he _ _ _ _ _ _ _ _ _ h
        · rw [if_neg q20] at h
          refine pe_blk mm_81 1 (s' := (if v17 = 0 then 178 else 182, [some (.ref 83), some (.int x1), u2, some (.int x3), some (.int x4), u5], [], _, _, _)) rfl ?_
          rw [if_neg q20]
          exact J81_182_ev sc n (e1 + 1) he x4 _ _ _ _ _ _ _ h
def J81_132 (n : Nat) (s0 : Int32) (M : Mem) : Option (Int32 × Mem) :=
  some (s0, M)
set_option maxRecDepth 100000 in
set_option maxHeartbeats 4000000 in
theorem J81_132_ev (sc : Option (Nat × (Nat → Int32))) (n : Nat)  (e : Nat) (he : 11 ≤ e) : ∀ (s0 : Int32) (u0 : Option Value) (u1 : Option Value) (u2 : Option Value) (u3 : Option Value) (u4 : Option Value) (u5 : Option Value) (M : Mem) (r : Int32) (M' : Mem), J81_132 n s0 M = some (r, M') → pm_ev pmT sc e 81 false (132, [u0, u1, u2, u3, u4, u5], [.int s0], 129, 17845, hp M) (some (.int r), 129, 17845, hp M') := by
  intro s0 u0 u1 u2 u3 u4 u5 M r M' h
  unfold J81_132 at h
  cases h
  exact pe_ret mm_81 rfl rfl
def J81_113 (n : Nat) (x1 : Int32) (x3 : Int32) (x4 : Int32) (x5 : Int32) (M : Mem) : Option (Int32 × Mem) :=
  if 0 < x5 then (if (M.1 83 38) < 10 then (match F73 n M with | some (v10, M11) => (J81_150 n x1 x3 x4 M11) | none => none) else (some ((-2004), M))) else (if 0 ≤ x5 then (J81_132 n (-2001) M) else (J81_132 n (-2002) M))
set_option maxRecDepth 100000 in
set_option maxHeartbeats 4000000 in
theorem J81_113_ev (sc : Option (Nat × (Nat → Int32))) (n : Nat)  (e : Nat) (he : 11 ≤ e) : ∀ (x1 : Int32) (x3 : Int32) (x4 : Int32) (x5 : Int32) (u2 : Option Value) (M : Mem) (r : Int32) (M' : Mem), J81_113 n x1 x3 x4 x5 M = some (r, M') → pm_ev pmT sc e 81 false (113, [some (.ref 83), some (.int x1), u2, some (.int x3), some (.int x4), some (.int x5)], [], 129, 17845, hp M) (some (.int r), 129, 17845, hp M') := by
  intro x1 x3 x4 x5 u2 M r M' h
  unfold J81_113 at h
  refine pe_blk mm_81 1 (s' := (115, [some (.ref 83), some (.int x1), u2, some (.int x3), some (.int x4), some (.int x5)], [.int x5], _, _, _)) rfl ?_
  by_cases q8 : 0 < x5
  · rw [if_pos q8] at h
    refine pe_blk mm_81 1 (s' := (if 0 < x5 then 133 else 118, [some (.ref 83), some (.int x1), u2, some (.int x3), some (.int x4), some (.int x5)], [], _, _, _)) rfl ?_
    rw [if_pos q8]
    refine pe_blk mm_81 1 (s' := (134, [some (.ref 83), some (.int x1), u2, some (.int x3), some (.int x4), some (.int x5)], [.ref 83], _, _, _)) rfl ?_
    refine pe_get mm_81 rfl rfl rfl (by decide) rfl ?_
    refine pe_blk mm_81 1 (s' := (139, [some (.ref 83), some (.int x1), u2, some (.int x3), some (.int x4), some (.int x5)], [.int 10, .int (M.1 83 38)], _, _, _)) rfl ?_
    by_cases q9 : (M.1 83 38) < 10
    · rw [if_pos q9] at h
      refine pe_blk mm_81 1 (s' := (if (M.1 83 38) < 10 then 146 else 142, [some (.ref 83), some (.int x1), u2, some (.int x3), some (.int x4), some (.int x5)], [], _, _, _)) rfl ?_
      rw [if_pos q9]
      refine pe_blk mm_81 1 (s' := (147, [some (.ref 83), some (.int x1), u2, some (.int x3), some (.int x4), some (.int x5)], [.ref 83], _, _, _)) rfl ?_
      obtain ⟨e1, rfl⟩ : ∃ e1, e = e1 + 1 := ⟨e - 1, by omega⟩
      cases hc12 : F73 n M with
      | none => rw [hc12] at h; cases h
      | some w =>
        obtain ⟨v10, M11⟩ := w
        rw [hc12] at h
        dsimp only at h
        refine pe_virt (al := []) (a := 83) (L0 := [some (.ref 83), none, none, none, none]) (r1 := (none, 129, 17845, hp M11)) mm_81 rfl rfl rfl mm_73 rfl (by decide) (by decide) rfl (Nat.le_of_ble_eq_true rfl) (Nat.le_of_ble_eq_true rfl) rfl rfl (F73_ev sc n _ e1 (by omega) _ _ hc12) ?_
        show pm_ev _ _ _ _ _ (150, [some (.ref 83), some (.int x1), u2, some (.int x3), some (.int x4), some (.int x5)], [], _, _, _) _
        exact J81_150_ev sc n (e1 + 1) he x1 x3 x4 _ _ _ _ _ h
    · rw [if_neg q9] at h
      refine pe_blk mm_81 1 (s' := (if (M.1 83 38) < 10 then 146 else 142, [some (.ref 83), some (.int x1), u2, some (.int x3), some (.int x4), some (.int x5)], [], _, _, _)) rfl ?_
      rw [if_neg q9]
      refine pe_blk mm_81 1 (s' := (145, [some (.ref 83), some (.int x1), u2, some (.int x3), some (.int x4), some (.int x5)], [.int (-2004)], _, _, _)) rfl ?_
      cases h
      exact pe_ret mm_81 rfl rfl
  · rw [if_neg q8] at h
    refine pe_blk mm_81 1 (s' := (if 0 < x5 then 133 else 118, [some (.ref 83), some (.int x1), u2, some (.int x3), some (.int x4), some (.int x5)], [], _, _, _)) rfl ?_
    rw [if_neg q8]
    refine pe_blk mm_81 1 (s' := (120, [some (.ref 83), some (.int x1), u2, some (.int x3), some (.int x4), some (.int x5)], [.int x5], _, _, _)) rfl ?_
    by_cases q24 : 0 ≤ x5
    · rw [if_pos q24] at h
      refine pe_blk mm_81 1 (s' := (if 0 ≤ x5 then 129 else 123, [some (.ref 83), some (.int x1), u2, some (.int x3), some (.int x4), some (.int x5)], [], _, _, _)) rfl ?_
      rw [if_pos q24]
      refine pe_blk mm_81 1 (s' := (132, [some (.ref 83), some (.int x1), u2, some (.int x3), some (.int x4), some (.int x5)], [.int (-2001)], _, _, _)) rfl ?_
      exact J81_132_ev sc n e he (-2001) _ _ _ _ _ _ _ _ _ h
    · rw [if_neg q24] at h
      refine pe_blk mm_81 1 (s' := (if 0 ≤ x5 then 129 else 123, [some (.ref 83), some (.int x1), u2, some (.int x3), some (.int x4), some (.int x5)], [], _, _, _)) rfl ?_
      rw [if_neg q24]
      refine pe_blk mm_81 2 (s' := (132, [some (.ref 83), some (.int x1), u2, some (.int x3), some (.int x4), some (.int x5)], [.int (-2002)], _, _, _)) rfl ?_
      exact J81_132_ev sc n e he (-2002) _ _ _ _ _ _ _ _ _ h
def J81_108 (n : Nat) (rec61 : Int32 → Int32 → Int32 → Int32 → Int32 → Mem → Option (Int32 × Mem)) (x1 : Int32) (x2 : Int32) (x3 : Int32) (x5 : Int32) (s0 : Int32) (M : Mem) : Option (Int32 × Mem) :=
  rec61 x1 x2 x3 s0 x5 M
set_option maxRecDepth 100000 in
set_option maxHeartbeats 4000000 in
theorem J81_108_ev (sc : Option (Nat × (Nat → Int32))) (n : Nat)  (e : Nat) (he : 11 ≤ e) (rec61 : Int32 → Int32 → Int32 → Int32 → Int32 → Mem → Option (Int32 × Mem)) (hr61 : ∀ (x1 : Int32) (x2 : Int32) (x3 : Int32) (x4 : Int32) (x5 : Int32) (M : Mem) (r : Int32) (M' : Mem), rec61 x1 x2 x3 x4 x5 M = some (r, M') → pm_ev pmT sc e 81 false (61, [some (.ref 83), some (.int x1), some (.int x2), some (.int x3), some (.int x4), some (.int x5)], [], 129, 17845, hp M) (some (.int r), 129, 17845, hp M')) : ∀ (x1 : Int32) (x2 : Int32) (x3 : Int32) (x5 : Int32) (s0 : Int32) (u4 : Option Value) (M : Mem) (r : Int32) (M' : Mem), J81_108 n rec61 x1 x2 x3 x5 s0 M = some (r, M') → pm_ev pmT sc e 81 false (108, [some (.ref 83), some (.int x1), some (.int x2), some (.int x3), u4, some (.int x5)], [.int s0], 129, 17845, hp M) (some (.int r), 129, 17845, hp M') := by
  intro x1 x2 x3 x5 s0 u4 M r M' h
  unfold J81_108 at h
  refine pe_blk mm_81 2 (s' := (61, [some (.ref 83), some (.int x1), some (.int x2), some (.int x3), some (.int s0), some (.int x5)], [], _, _, _)) rfl ?_
  exact hr61 x1 x2 x3 s0 x5 _ _ _ h
def J81_84 (n : Nat) (rec61 : Int32 → Int32 → Int32 → Int32 → Int32 → Mem → Option (Int32 × Mem)) (x1 : Int32) (x2 : Int32) (x3 : Int32) (x4 : Int32) (M : Mem) : Option (Int32 × Mem) :=
  match F67 n (x1 + 3) x3 M with | some (v29, M30) => (if v29 = 0 then (J81_108 n rec61 x1 x2 x3 v29 (x4 + 1) M30) else (J81_108 n rec61 x1 x2 x3 v29 x4 M30)) | none => none
set_option maxRecDepth 100000 in
set_option maxHeartbeats 4000000 in
theorem J81_84_ev (sc : Option (Nat × (Nat → Int32))) (n : Nat)  (e : Nat) (he : 11 ≤ e) (rec61 : Int32 → Int32 → Int32 → Int32 → Int32 → Mem → Option (Int32 × Mem)) (hr61 : ∀ (x1 : Int32) (x2 : Int32) (x3 : Int32) (x4 : Int32) (x5 : Int32) (M : Mem) (r : Int32) (M' : Mem), rec61 x1 x2 x3 x4 x5 M = some (r, M') → pm_ev pmT sc e 81 false (61, [some (.ref 83), some (.int x1), some (.int x2), some (.int x3), some (.int x4), some (.int x5)], [], 129, 17845, hp M) (some (.int r), 129, 17845, hp M')) : ∀ (x1 : Int32) (x2 : Int32) (x3 : Int32) (x4 : Int32) (u5 : Option Value) (M : Mem) (r : Int32) (M' : Mem), J81_84 n rec61 x1 x2 x3 x4 M = some (r, M') → pm_ev pmT sc e 81 false (84, [some (.ref 83), some (.int x1), some (.int x2), some (.int x3), some (.int x4), u5], [], 129, 17845, hp M) (some (.int r), 129, 17845, hp M') := by
  intro x1 x2 x3 x4 u5 M r M' h
  unfold J81_84 at h
  refine pe_blk mm_81 5 (s' := (89, [some (.ref 83), some (.int x1), some (.int x2), some (.int x3), some (.int x4), u5], [.int x3, .int (x1 + 3), .ref 83], _, _, _)) rfl ?_
  obtain ⟨e1, rfl⟩ : ∃ e1, e = e1 + 1 := ⟨e - 1, by omega⟩
  cases hc31 : F67 n (x1 + 3) x3 M with
  | none => rw [hc31] at h; cases h
  | some w =>
    obtain ⟨v29, M30⟩ := w
    rw [hc31] at h
    dsimp only at h
    refine pe_virt (al := [.int x3, .int (x1 + 3)]) (a := 83) (L0 := [some (.ref 83), some (.int (x1 + 3)), some (.int x3), none, none, none, none]) (r1 := (some (.int v29), 129, 17845, hp M30)) mm_81 rfl rfl rfl mm_67 rfl (by decide) (by decide) rfl (Nat.le_of_ble_eq_true rfl) (Nat.le_of_ble_eq_true rfl) rfl rfl (F67_ev sc n (x1 + 3) x3 _ e1 (by omega) _ _ hc31) ?_
    show pm_ev _ _ _ _ _ (92, [some (.ref 83), some (.int x1), some (.int x2), some (.int x3), some (.int x4), u5], [.int v29], _, _, _) _
    refine pe_blk mm_81 2 (s' := (96, [some (.ref 83), some (.int x1), some (.int x2), some (.int x3), some (.int x4), some (.int v29)], [.int v29], _, _, _)) rfl ?_
    by_cases q32 : v29 = 0
    · rw [if_pos q32] at h
      refine pe_blk mm_81 1 (s' := (if v29 = 0 then 99 else 106, [some (.ref 83), some (.int x1), some (.int x2), some (.int x3), some (.int x4), some (.int v29)], [], _, _, _)) rfl ?_
      rw [if_pos q32]
      refine pe_blk mm_81 4 (s' := (108, [some (.ref 83), some (.int x1), some (.int x2), some (.int x3), some (.int x4), some (.int v29)], [.int (x4 + 1)], _, _, _)) rfl ?_
      exact J81_108_ev sc n (e1 + 1) he rec61 hr61 x1 x2 x3 v29 (x4 + 1) _ _ _ _ h
    · rw [if_neg q32] at h
      refine pe_blk mm_81 1 (s' := (if v29 = 0 then 99 else 106, [some (.ref 83), some (.int x1), some (.int x2), some (.int x3), some (.int x4), some (.int v29)], [], _, _, _)) rfl ?_
      rw [if_neg q32]
      refine pe_blk mm_81 1 (s' := (108, [some (.ref 83), some (.int x1), some (.int x2), some (.int x3), some (.int x4), some (.int v29)], [.int x4], _, _, _)) rfl ?_
      exact J81_108_ev sc n (e1 + 1) he rec61 hr61 x1 x2 x3 v29 x4 _ _ _ _ h
def L81_61 (n : Nat) : Nat → Int32 → Int32 → Int32 → Int32 → Int32 → Mem → Option (Int32 × Mem)
  | 0, _, _, _, _, _, _ => none
  | k + 1, x1, x2, x3, x4, x5, M => if x2 < 0 ∨ 6 ≤ (x2 : Int32).toNatClampNeg then none else (if (M.1 89 (x2 : Int32).toNatClampNeg) ≤ x4 then (J81_113 n x1 x3 x4 x5 M) else (if x5 = 0 then (match F33 n x2 x4 M with | some (v26, M27) => (J81_84 n (L81_61 n k) x1 x2 x3 x4 M27) | none => none) else (J81_113 n x1 x3 x4 x5 M)))
set_option maxRecDepth 100000 in
set_option maxHeartbeats 4000000 in
theorem L81_61_ev (sc : Option (Nat × (Nat → Int32))) (n : Nat)  (e : Nat) (he : 11 ≤ e) : ∀ k : Nat, ∀ (x1 : Int32) (x2 : Int32) (x3 : Int32) (x4 : Int32) (x5 : Int32) (M : Mem) (r : Int32) (M' : Mem), L81_61 n k x1 x2 x3 x4 x5 M = some (r, M') → pm_ev pmT sc e 81 false (61, [some (.ref 83), some (.int x1), some (.int x2), some (.int x3), some (.int x4), some (.int x5)], [], 129, 17845, hp M) (some (.int r), 129, 17845, hp M') := by
  intro k
  induction k with
  | zero => intro x1 x2 x3 x4 x5  M r M' h; cases h
  | succ k hr61 =>
    intro x1 x2 x3 x4 x5  M r M' h
    rw [L81_61] at h
    refine pe_blk mm_81 2 (s' := (64, [some (.ref 83), some (.int x1), some (.int x2), some (.int x3), some (.int x4), some (.int x5)], [.ref 83, .int x4], _, _, _)) rfl ?_
    refine pe_get mm_81 rfl rfl rfl (by decide) rfl ?_
    refine pe_blk mm_81 1 (s' := (68, [some (.ref 83), some (.int x1), some (.int x2), some (.int x3), some (.int x4), some (.int x5)], [.int x2, .ref 89, .int x4], _, _, _)) rfl ?_
    by_cases q6 : x2 < 0 ∨ 6 ≤ (x2 : Int32).toNatClampNeg
    · rw [if_pos q6] at h
      cases h
    · rw [if_neg q6] at h
      refine pe_iald (f := M.1 89) mm_81 rfl rfl (by decide) q6 ?_
      by_cases q7 : (M.1 89 (x2 : Int32).toNatClampNeg) ≤ x4
      · rw [if_pos q7] at h
        refine pe_blk mm_81 1 (s' := (if (M.1 89 (x2 : Int32).toNatClampNeg) ≤ x4 then 113 else 72, [some (.ref 83), some (.int x1), some (.int x2), some (.int x3), some (.int x4), some (.int x5)], [], _, _, _)) rfl ?_
        rw [if_pos q7]
        exact J81_113_ev sc n e he x1 x3 x4 x5 _ _ _ _ h
      · rw [if_neg q7] at h
        refine pe_blk mm_81 1 (s' := (if (M.1 89 (x2 : Int32).toNatClampNeg) ≤ x4 then 113 else 72, [some (.ref 83), some (.int x1), some (.int x2), some (.int x3), some (.int x4), some (.int x5)], [], _, _, _)) rfl ?_
        rw [if_neg q7]
        refine pe_blk mm_81 1 (s' := (74, [some (.ref 83), some (.int x1), some (.int x2), some (.int x3), some (.int x4), some (.int x5)], [.int x5], _, _, _)) rfl ?_
        by_cases q25 : x5 = 0
        · rw [if_pos q25] at h
          refine pe_blk mm_81 1 (s' := (if x5 = 0 then 77 else 113, [some (.ref 83), some (.int x1), some (.int x2), some (.int x3), some (.int x4), some (.int x5)], [], _, _, _)) rfl ?_
          rw [if_pos q25]
          refine pe_blk mm_81 3 (s' := (81, [some (.ref 83), some (.int x1), some (.int x2), some (.int x3), some (.int x4), some (.int x5)], [.int x4, .int x2, .ref 83], _, _, _)) rfl ?_
          obtain ⟨e1, rfl⟩ : ∃ e1, e = e1 + 1 := ⟨e - 1, by omega⟩
          cases hc28 : F33 n x2 x4 M with
          | none => rw [hc28] at h; cases h
          | some w =>
            obtain ⟨v26, M27⟩ := w
            rw [hc28] at h
            dsimp only at h
            refine pe_virt (al := [.int x4, .int x2]) (a := 83) (L0 := [some (.ref 83), some (.int x2), some (.int x4), none]) (r1 := (none, 129, 17845, hp M27)) mm_81 rfl rfl rfl mm_33 rfl (by decide) (by decide) rfl (Nat.le_of_ble_eq_true rfl) (Nat.le_of_ble_eq_true rfl) rfl rfl (F33_ev sc n x2 x4 _ e1 (by omega) _ _ hc28) ?_
            show pm_ev _ _ _ _ _ (84, [some (.ref 83), some (.int x1), some (.int x2), some (.int x3), some (.int x4), some (.int x5)], [], _, _, _) _
            exact J81_84_ev sc n (e1 + 1) he (L81_61 n k) hr61 x1 x2 x3 x4 _ _ _ _ h
        · rw [if_neg q25] at h
          refine pe_blk mm_81 1 (s' := (if x5 = 0 then 77 else 113, [some (.ref 83), some (.int x1), some (.int x2), some (.int x3), some (.int x4), some (.int x5)], [], _, _, _)) rfl ?_
          rw [if_neg q25]
          exact J81_113_ev sc n e he x1 x3 x4 x5 _ _ _ _ h
def J81_32 (n : Nat) (rec4 : Int32 → Int32 → Int32 → Mem → Option (Int32 × Mem)) (x1 : Int32) (x3 : Int32) (s0 : Int32) (M : Mem) : Option (Int32 × Mem) :=
  rec4 x1 s0 (x3 + 1) M
set_option maxRecDepth 100000 in
set_option maxHeartbeats 4000000 in
theorem J81_32_ev (sc : Option (Nat × (Nat → Int32))) (n : Nat)  (e : Nat) (he : 11 ≤ e) (rec4 : Int32 → Int32 → Int32 → Mem → Option (Int32 × Mem)) (hr4 : ∀ (x1 : Int32) (x2 : Int32) (x3 : Int32) (u4 : Option Value) (u5 : Option Value) (M : Mem) (r : Int32) (M' : Mem), rec4 x1 x2 x3 M = some (r, M') → pm_ev pmT sc e 81 false (4, [some (.ref 83), some (.int x1), some (.int x2), some (.int x3), u4, u5], [], 129, 17845, hp M) (some (.int r), 129, 17845, hp M')) : ∀ (x1 : Int32) (x3 : Int32) (s0 : Int32) (u2 : Option Value) (u4 : Option Value) (u5 : Option Value) (M : Mem) (r : Int32) (M' : Mem), J81_32 n rec4 x1 x3 s0 M = some (r, M') → pm_ev pmT sc e 81 false (32, [some (.ref 83), some (.int x1), u2, some (.int x3), u4, u5], [.int s0], 129, 17845, hp M) (some (.int r), 129, 17845, hp M') := by
  intro x1 x3 s0 u2 u4 u5 M r M' h
  unfold J81_32 at h
  refine pe_blk mm_81 3 (s' := (4, [some (.ref 83), some (.int x1), some (.int s0), some (.int (x3 + 1)), u4, u5], [], _, _, _)) rfl ?_
  exact hr4 x1 s0 (x3 + 1) _ _ _ _ _ h
def J81_27 (n : Nat) (rec4 : Int32 → Int32 → Int32 → Mem → Option (Int32 × Mem)) (x1 : Int32) (x3 : Int32) (M : Mem) : Option (Int32 × Mem) :=
  J81_32 n rec4 x1 x3 x3 M
set_option maxRecDepth 100000 in
set_option maxHeartbeats 4000000 in
theorem J81_27_ev (sc : Option (Nat × (Nat → Int32))) (n : Nat)  (e : Nat) (he : 11 ≤ e) (rec4 : Int32 → Int32 → Int32 → Mem → Option (Int32 × Mem)) (hr4 : ∀ (x1 : Int32) (x2 : Int32) (x3 : Int32) (u4 : Option Value) (u5 : Option Value) (M : Mem) (r : Int32) (M' : Mem), rec4 x1 x2 x3 M = some (r, M') → pm_ev pmT sc e 81 false (4, [some (.ref 83), some (.int x1), some (.int x2), some (.int x3), u4, u5], [], 129, 17845, hp M) (some (.int r), 129, 17845, hp M')) : ∀ (x1 : Int32) (x3 : Int32) (u2 : Option Value) (u4 : Option Value) (u5 : Option Value) (M : Mem) (r : Int32) (M' : Mem), J81_27 n rec4 x1 x3 M = some (r, M') → pm_ev pmT sc e 81 false (27, [some (.ref 83), some (.int x1), u2, some (.int x3), u4, u5], [], 129, 17845, hp M) (some (.int r), 129, 17845, hp M') := by
  intro x1 x3 u2 u4 u5 M r M' h
  unfold J81_27 at h
  refine pe_blk mm_81 2 (s' := (32, [some (.ref 83), some (.int x1), u2, some (.int x3), u4, u5], [.int x3], _, _, _)) rfl ?_
  exact J81_32_ev sc n e he rec4 hr4 x1 x3 x3 _ _ _ _ _ _ h
def J81_31 (n : Nat) (rec4 : Int32 → Int32 → Int32 → Mem → Option (Int32 × Mem)) (x1 : Int32) (x2 : Int32) (x3 : Int32) (M : Mem) : Option (Int32 × Mem) :=
  J81_32 n rec4 x1 x3 x2 M
set_option maxRecDepth 100000 in
set_option maxHeartbeats 4000000 in
theorem J81_31_ev (sc : Option (Nat × (Nat → Int32))) (n : Nat)  (e : Nat) (he : 11 ≤ e) (rec4 : Int32 → Int32 → Int32 → Mem → Option (Int32 × Mem)) (hr4 : ∀ (x1 : Int32) (x2 : Int32) (x3 : Int32) (u4 : Option Value) (u5 : Option Value) (M : Mem) (r : Int32) (M' : Mem), rec4 x1 x2 x3 M = some (r, M') → pm_ev pmT sc e 81 false (4, [some (.ref 83), some (.int x1), some (.int x2), some (.int x3), u4, u5], [], 129, 17845, hp M) (some (.int r), 129, 17845, hp M')) : ∀ (x1 : Int32) (x2 : Int32) (x3 : Int32) (u4 : Option Value) (u5 : Option Value) (M : Mem) (r : Int32) (M' : Mem), J81_31 n rec4 x1 x2 x3 M = some (r, M') → pm_ev pmT sc e 81 false (31, [some (.ref 83), some (.int x1), some (.int x2), some (.int x3), u4, u5], [], 129, 17845, hp M) (some (.int r), 129, 17845, hp M') := by
  intro x1 x2 x3 u4 u5 M r M' h
  unfold J81_31 at h
  refine pe_blk mm_81 1 (s' := (32, [some (.ref 83), some (.int x1), some (.int x2), some (.int x3), u4, u5], [.int x2], _, _, _)) rfl ?_
  exact J81_32_ev sc n e he rec4 hr4 x1 x3 x2 _ _ _ _ _ _ h
def L81_4 (n : Nat) : Nat → Int32 → Int32 → Int32 → Mem → Option (Int32 × Mem)
  | 0, _, _, _, _ => none
  | k + 1, x1, x2, x3, M => if (M.1 83 9) ≤ x3 then (if 0 ≤ x2 then (match F61 n (x1 + 2) M with | some (v3, M4) => (L81_61 n n x1 x2 v3 0 0 M4) | none => none) else (some ((-2000), M))) else (if x3 < 0 ∨ 6 ≤ (x3 : Int32).toNatClampNeg then none else (if x1 < 0 ∨ 320 ≤ (x1 : Int32).toNatClampNeg then none else (if (M.1 88 (x3 : Int32).toNatClampNeg) = (M.1 105 (x1 : Int32).toNatClampNeg) then (J81_27 n (L81_4 n k) x1 x3 M) else (J81_31 n (L81_4 n k) x1 x2 x3 M))))
set_option maxRecDepth 100000 in
set_option maxHeartbeats 4000000 in
theorem L81_4_ev (sc : Option (Nat × (Nat → Int32))) (n : Nat)  (e : Nat) (he : 11 ≤ e) : ∀ k : Nat, ∀ (x1 : Int32) (x2 : Int32) (x3 : Int32) (u4 : Option Value) (u5 : Option Value) (M : Mem) (r : Int32) (M' : Mem), L81_4 n k x1 x2 x3 M = some (r, M') → pm_ev pmT sc e 81 false (4, [some (.ref 83), some (.int x1), some (.int x2), some (.int x3), u4, u5], [], 129, 17845, hp M) (some (.int r), 129, 17845, hp M') := by
  intro k
  induction k with
  | zero => intro x1 x2 x3 u4 u5 M r M' h; cases h
  | succ k hr4 =>
    intro x1 x2 x3 u4 u5 M r M' h
    rw [L81_4] at h
    refine pe_blk mm_81 2 (s' := (6, [some (.ref 83), some (.int x1), some (.int x2), some (.int x3), u4, u5], [.ref 83, .int x3], _, _, _)) rfl ?_
    refine pe_get mm_81 rfl rfl rfl (by decide) rfl ?_
    by_cases q1 : (M.1 83 9) ≤ x3
    · rw [if_pos q1] at h
      refine pe_blk mm_81 1 (s' := (if (M.1 83 9) ≤ x3 then 39 else 12, [some (.ref 83), some (.int x1), some (.int x2), some (.int x3), u4, u5], [], _, _, _)) rfl ?_
      rw [if_pos q1]
      refine pe_blk mm_81 1 (s' := (40, [some (.ref 83), some (.int x1), some (.int x2), some (.int x3), u4, u5], [.int x2], _, _, _)) rfl ?_
      by_cases q2 : 0 ≤ x2
      · rw [if_pos q2] at h
        refine pe_blk mm_81 1 (s' := (if 0 ≤ x2 then 47 else 43, [some (.ref 83), some (.int x1), some (.int x2), some (.int x3), u4, u5], [], _, _, _)) rfl ?_
        rw [if_pos q2]
        refine pe_blk mm_81 4 (s' := (51, [some (.ref 83), some (.int x1), some (.int x2), some (.int x3), u4, u5], [.int (x1 + 2), .ref 83], _, _, _)) rfl ?_
        obtain ⟨e1, rfl⟩ : ∃ e1, e = e1 + 1 := ⟨e - 1, by omega⟩
        cases hc5 : F61 n (x1 + 2) M with
        | none => rw [hc5] at h; cases h
        | some w =>
          obtain ⟨v3, M4⟩ := w
          rw [hc5] at h
          dsimp only at h
          refine pe_virt (al := [.int (x1 + 2)]) (a := 83) (L0 := [some (.ref 83), some (.int (x1 + 2)), none, none]) (r1 := (some (.int v3), 129, 17845, hp M4)) mm_81 rfl rfl rfl mm_61 rfl (by decide) (by decide) rfl (Nat.le_of_ble_eq_true rfl) (Nat.le_of_ble_eq_true rfl) rfl rfl (F61_ev sc n (x1 + 2) _ e1 (by omega) _ _ hc5) ?_
          show pm_ev _ _ _ _ _ (54, [some (.ref 83), some (.int x1), some (.int x2), some (.int x3), u4, u5], [.int v3], _, _, _) _
          refine pe_blk mm_81 5 (s' := (61, [some (.ref 83), some (.int x1), some (.int x2), some (.int v3), some (.int 0), some (.int 0)], [], _, _, _)) rfl ?_
          exact L81_61_ev sc n (e1 + 1) he n x1 x2 v3 0 0 _ _ _ h
      · rw [if_neg q2] at h
        refine pe_blk mm_81 1 (s' := (if 0 ≤ x2 then 47 else 43, [some (.ref 83), some (.int x1), some (.int x2), some (.int x3), u4, u5], [], _, _, _)) rfl ?_
        rw [if_neg q2]
        refine pe_blk mm_81 1 (s' := (46, [some (.ref 83), some (.int x1), some (.int x2), some (.int x3), u4, u5], [.int (-2000)], _, _, _)) rfl ?_
        cases h
        exact pe_ret mm_81 rfl rfl
    · rw [if_neg q1] at h
      refine pe_blk mm_81 1 (s' := (if (M.1 83 9) ≤ x3 then 39 else 12, [some (.ref 83), some (.int x1), some (.int x2), some (.int x3), u4, u5], [], _, _, _)) rfl ?_
      rw [if_neg q1]
      refine pe_blk mm_81 1 (s' := (13, [some (.ref 83), some (.int x1), some (.int x2), some (.int x3), u4, u5], [.ref 83], _, _, _)) rfl ?_
      refine pe_get mm_81 rfl rfl rfl (by decide) rfl ?_
      refine pe_blk mm_81 1 (s' := (17, [some (.ref 83), some (.int x1), some (.int x2), some (.int x3), u4, u5], [.int x3, .ref 88], _, _, _)) rfl ?_
      by_cases q33 : x3 < 0 ∨ 6 ≤ (x3 : Int32).toNatClampNeg
      · rw [if_pos q33] at h
        cases h
      · rw [if_neg q33] at h
        refine pe_iald (f := M.1 88) mm_81 rfl rfl (by decide) q33 ?_
        refine pe_blk mm_81 1 (s' := (19, [some (.ref 83), some (.int x1), some (.int x2), some (.int x3), u4, u5], [.ref 83, .int (M.1 88 (x3 : Int32).toNatClampNeg)], _, _, _)) rfl ?_
        refine pe_get mm_81 rfl rfl rfl (by decide) rfl ?_
        refine pe_blk mm_81 1 (s' := (23, [some (.ref 83), some (.int x1), some (.int x2), some (.int x3), u4, u5], [.int x1, .ref 105, .int (M.1 88 (x3 : Int32).toNatClampNeg)], _, _, _)) rfl ?_
        by_cases q34 : x1 < 0 ∨ 320 ≤ (x1 : Int32).toNatClampNeg
        · rw [if_pos q34] at h
          cases h
        · rw [if_neg q34] at h
          refine pe_iald (f := M.1 105) mm_81 rfl rfl (by decide) q34 ?_
          by_cases q35 : (M.1 88 (x3 : Int32).toNatClampNeg) = (M.1 105 (x1 : Int32).toNatClampNeg)
          · rw [if_pos q35] at h
            refine pe_blk mm_81 1 (s' := (if (M.1 88 (x3 : Int32).toNatClampNeg) = (M.1 105 (x1 : Int32).toNatClampNeg) then 27 else 31, [some (.ref 83), some (.int x1), some (.int x2), some (.int x3), u4, u5], [], _, _, _)) rfl ?_
            rw [if_pos q35]
            exact J81_27_ev sc n e he (L81_4 n k) hr4 x1 x3 _ _ _ _ _ _ h
          · rw [if_neg q35] at h
            refine pe_blk mm_81 1 (s' := (if (M.1 88 (x3 : Int32).toNatClampNeg) = (M.1 105 (x1 : Int32).toNatClampNeg) then 27 else 31, [some (.ref 83), some (.int x1), some (.int x2), some (.int x3), u4, u5], [], _, _, _)) rfl ?_
            rw [if_neg q35]
            exact J81_31_ev sc n e he (L81_4 n k) hr4 x1 x2 x3 _ _ _ _ _ h
/-- ArmExpanderModel.call -/
def F81 (n : Nat) (a0 : Int32) (M : Mem) : Option (Int32 × Mem) :=
  L81_4 n n a0 (-1) 0 M
set_option maxRecDepth 100000 in
set_option maxHeartbeats 4000000 in
theorem F81_ev (sc : Option (Nat × (Nat → Int32))) (n : Nat) (a0 : Int32)  (M : Mem) (e : Nat) (he : 11 ≤ e) (r : Int32) (M' : Mem) (h : F81 n a0 M = some (r, M')) : pm_ev pmT sc e 81 false (0, [some (.ref 83), some (.int a0), none, none, none, none], [], 129, 17845, hp M) (some (.int r), 129, 17845, hp M') := by
  unfold F81 at h
  refine pe_blk mm_81 4 (s' := (4, [some (.ref 83), some (.int a0), some (.int (-1)), some (.int 0), none, none], [], _, _, _)) rfl ?_
  exact L81_4_ev sc n e he n a0 (-1) 0 _ _ _ _ _ h
def J82_52 (n : Nat) (rec30 : Int32 → Mem → Option (Int32 × Mem)) (x1 : Int32) (x2 : Int32) (M : Mem) : Option (Int32 × Mem) :=
  if 0 ≤ x2 then (rec30 x1 M) else (some (x2, M))
set_option maxRecDepth 100000 in
set_option maxHeartbeats 4000000 in
theorem J82_52_ev (sc : Option (Nat × (Nat → Int32))) (n : Nat)  (e : Nat) (he : 12 ≤ e) (rec30 : Int32 → Mem → Option (Int32 × Mem)) (hr30 : ∀ (x1 : Int32) (u2 : Option Value) (M : Mem) (r : Int32) (M' : Mem), rec30 x1 M = some (r, M') → pm_ev pmT sc e 82 false (30, [some (.ref 83), some (.int x1), u2], [], 129, 17845, hp M) (some (.int r), 129, 17845, hp M')) : ∀ (x1 : Int32) (x2 : Int32) (M : Mem) (r : Int32) (M' : Mem), J82_52 n rec30 x1 x2 M = some (r, M') → pm_ev pmT sc e 82 false (52, [some (.ref 83), some (.int x1), some (.int x2)], [], 129, 17845, hp M) (some (.int r), 129, 17845, hp M') := by
  intro x1 x2  M r M' h
  unfold J82_52 at h
  refine pe_blk mm_82 1 (s' := (53, [some (.ref 83), some (.int x1), some (.int x2)], [.int x2], _, _, _)) rfl ?_
  by_cases q19 : 0 ≤ x2
  · rw [if_pos q19] at h
    refine pe_blk mm_82 1 (s' := (if 0 ≤ x2 then 58 else 56, [some (.ref 83), some (.int x1), some (.int x2)], [], _, _, _)) rfl ?_
    rw [if_pos q19]
    refine pe_blk mm_82 1 (s' := (30, [some (.ref 83), some (.int x1), some (.int x2)], [], _, _, _)) rfl ?_
    exact hr30 x1 _ _ _ _ h
  · rw [if_neg q19] at h
    refine pe_blk mm_82 1 (s' := (if 0 ≤ x2 then 58 else 56, [some (.ref 83), some (.int x1), some (.int x2)], [], _, _, _)) rfl ?_
    rw [if_neg q19]
    refine pe_blk mm_82 1 (s' := (57, [some (.ref 83), some (.int x1), some (.int x2)], [.int x2], _, _, _)) rfl ?_
    cases h
    exact pe_ret mm_82 rfl rfl
def L82_30 (n : Nat) : Nat → Int32 → Mem → Option (Int32 × Mem)
  | 0, _, _ => none
  | k + 1, x1, M => if (M.1 83 34) ≤ x1 then (mlet (m_i M 83 37 (M.1 83 34)) (fun M11 => some (M11.1 83 37, M11))) else (match F79 n x1 M with | some (v12, M13) => (if v12 = 0 then ((L82_30 n k) (x1 + 1) M13) else (match F81 n x1 M13 with | some (v16, M17) => (J82_52 n (L82_30 n k) x1 v16 M17) | none => none)) | none => none)
set_option maxRecDepth 100000 in
set_option maxHeartbeats 4000000 in
theorem L82_30_ev (sc : Option (Nat × (Nat → Int32))) (n : Nat)  (e : Nat) (he : 12 ≤ e) : ∀ k : Nat, ∀ (x1 : Int32) (u2 : Option Value) (M : Mem) (r : Int32) (M' : Mem), L82_30 n k x1 M = some (r, M') → pm_ev pmT sc e 82 false (30, [some (.ref 83), some (.int x1), u2], [], 129, 17845, hp M) (some (.int r), 129, 17845, hp M') := by
  intro k
  induction k with
  | zero => intro x1 u2 M r M' h; cases h
  | succ k hr30 =>
    intro x1 u2 M r M' h
    rw [L82_30] at h
    refine pe_blk mm_82 2 (s' := (32, [some (.ref 83), some (.int x1), u2], [.ref 83, .int x1], _, _, _)) rfl ?_
    refine pe_get mm_82 rfl rfl rfl (by decide) rfl ?_
    by_cases q10 : (M.1 83 34) ≤ x1
    · rw [if_pos q10] at h
      refine pe_blk mm_82 1 (s' := (if (M.1 83 34) ≤ x1 then 68 else 38, [some (.ref 83), some (.int x1), u2], [], _, _, _)) rfl ?_
      rw [if_pos q10]
      refine pe_blk mm_82 2 (s' := (70, [some (.ref 83), some (.int x1), u2], [.ref 83, .ref 83], _, _, _)) rfl ?_
      refine pe_get mm_82 rfl rfl rfl (by decide) rfl ?_
      refine pe_puti mm_82 rfl rfl rfl (by decide) (Nat.le_of_ble_eq_true rfl) rfl rfl ?_
      show pm_ev _ _ _ _ _ (76, [some (.ref 83), some (.int x1), u2], [], _, _, hp (m_i M 83 37 (M.1 83 34))) _
      generalize m_i M 83 37 (M.1 83 34) = M11 at h ⊢
      rw [mlet] at h
      refine pe_blk mm_82 1 (s' := (77, [some (.ref 83), some (.int x1), u2], [.ref 83], _, _, _)) rfl ?_
      refine pe_get mm_82 rfl rfl rfl (by decide) rfl ?_
      cases h
      exact pe_ret mm_82 rfl rfl
    · rw [if_neg q10] at h
      refine pe_blk mm_82 1 (s' := (if (M.1 83 34) ≤ x1 then 68 else 38, [some (.ref 83), some (.int x1), u2], [], _, _, _)) rfl ?_
      rw [if_neg q10]
      refine pe_blk mm_82 2 (s' := (40, [some (.ref 83), some (.int x1), u2], [.int x1, .ref 83], _, _, _)) rfl ?_
      obtain ⟨e1, rfl⟩ : ∃ e1, e = e1 + 1 := ⟨e - 1, by omega⟩
      cases hc14 : F79 n x1 M with
      | none => rw [hc14] at h; cases h
      | some w =>
        obtain ⟨v12, M13⟩ := w
        rw [hc14] at h
        dsimp only at h
        refine pe_virt (al := [.int x1]) (a := 83) (L0 := [some (.ref 83), some (.int x1)]) (r1 := (some (.int v12), 129, 17845, hp M13)) mm_82 rfl rfl rfl mm_79 rfl (by decide) (by decide) rfl (Nat.le_of_ble_eq_true rfl) (Nat.le_of_ble_eq_true rfl) rfl rfl (F79_ev sc n x1 _ e1 (by omega) _ _ hc14) ?_
        show pm_ev _ _ _ _ _ (43, [some (.ref 83), some (.int x1), u2], [.int v12], _, _, _) _
        by_cases q15 : v12 = 0
        · rw [if_pos q15] at h
          refine pe_blk mm_82 1 (s' := (if v12 = 0 then 61 else 46, [some (.ref 83), some (.int x1), u2], [], _, _, _)) rfl ?_
          rw [if_pos q15]
          refine pe_blk mm_82 5 (s' := (30, [some (.ref 83), some (.int (x1 + 1)), u2], [], _, _, _)) rfl ?_
          exact hr30 (x1 + 1) _ _ _ _ h
        · rw [if_neg q15] at h
          refine pe_blk mm_82 1 (s' := (if v12 = 0 then 61 else 46, [some (.ref 83), some (.int x1), u2], [], _, _, _)) rfl ?_
          rw [if_neg q15]
          refine pe_blk mm_82 2 (s' := (48, [some (.ref 83), some (.int x1), u2], [.int x1, .ref 83], _, _, _)) rfl ?_
          skip
          cases hc18 : F81 n x1 M13 with
          | none => rw [hc18] at h; cases h
          | some w =>
            obtain ⟨v16, M17⟩ := w
            rw [hc18] at h
            dsimp only at h
            refine pe_virt (al := [.int x1]) (a := 83) (L0 := [some (.ref 83), some (.int x1), none, none, none, none]) (r1 := (some (.int v16), 129, 17845, hp M17)) mm_82 rfl rfl rfl mm_81 rfl (by decide) (by decide) rfl (Nat.le_of_ble_eq_true rfl) (Nat.le_of_ble_eq_true rfl) rfl rfl (F81_ev sc n x1 _ e1 (by omega) _ _ hc18) ?_
            show pm_ev _ _ _ _ _ (51, [some (.ref 83), some (.int x1), u2], [.int v16], _, _, _) _
            refine pe_blk mm_82 1 (s' := (52, [some (.ref 83), some (.int x1), some (.int v16)], [], _, _, _)) rfl ?_
            exact J82_52_ev sc n (e1 + 1) he (L82_30 n k) hr30 x1 v16 _ _ _ h
def J82_14 (n : Nat) (M : Mem) : Option (Int32 × Mem) :=
  match F78 n M with | some (v6, M7) => (if v6 = 0 then (some ((-1) - (M7.1 83 8), M7)) else (L82_30 n n 0 M7)) | none => none
set_option maxRecDepth 100000 in
set_option maxHeartbeats 4000000 in
theorem J82_14_ev (sc : Option (Nat × (Nat → Int32))) (n : Nat)  (e : Nat) (he : 12 ≤ e) : ∀ (u1 : Option Value) (u2 : Option Value) (M : Mem) (r : Int32) (M' : Mem), J82_14 n  M = some (r, M') → pm_ev pmT sc e 82 false (14, [some (.ref 83), u1, u2], [], 129, 17845, hp M) (some (.int r), 129, 17845, hp M') := by
  intro u1 u2 M r M' h
  unfold J82_14 at h
  refine pe_blk mm_82 1 (s' := (15, [some (.ref 83), u1, u2], [.ref 83], _, _, _)) rfl ?_
  obtain ⟨e1, rfl⟩ : ∃ e1, e = e1 + 1 := ⟨e - 1, by omega⟩
  cases hc8 : F78 n M with
  | none => rw [hc8] at h; cases h
  | some w =>
    obtain ⟨v6, M7⟩ := w
    rw [hc8] at h
    dsimp only at h
    refine pe_virt (al := []) (a := 83) (L0 := [some (.ref 83), none]) (r1 := (some (.int v6), 129, 17845, hp M7)) mm_82 rfl rfl rfl mm_78 rfl (by decide) (by decide) rfl (Nat.le_of_ble_eq_true rfl) (Nat.le_of_ble_eq_true rfl) rfl rfl (F78_ev sc n _ e1 (by omega) _ _ hc8) ?_
    show pm_ev _ _ _ _ _ (18, [some (.ref 83), u1, u2], [.int v6], _, _, _) _
    by_cases q9 : v6 = 0
    · rw [if_pos q9] at h
      refine pe_blk mm_82 1 (s' := (if v6 = 0 then 21 else 28, [some (.ref 83), u1, u2], [], _, _, _)) rfl ?_
      rw [if_pos q9]
      refine pe_blk mm_82 2 (s' := (23, [some (.ref 83), u1, u2], [.ref 83, .int (-1)], _, _, _)) rfl ?_
      refine pe_get mm_82 rfl rfl rfl (by decide) rfl ?_
      refine pe_blk mm_82 1 (s' := (27, [some (.ref 83), u1, u2], [.int ((-1) - (M7.1 83 8))], _, _, _)) rfl ?_
      obtain ⟨rfl, rfl⟩ := Prod.mk.inj (Option.some.inj h)
      exact pe_ret mm_82 rfl rfl
    · rw [if_neg q9] at h
      refine pe_blk mm_82 1 (s' := (if v6 = 0 then 21 else 28, [some (.ref 83), u1, u2], [], _, _, _)) rfl ?_
      rw [if_neg q9]
      refine pe_blk mm_82 2 (s' := (30, [some (.ref 83), some (.int 0), u2], [], _, _, _)) rfl ?_
      exact L82_30_ev sc n (e1 + 1) he n 0 _ _ _ _ h
/-- ArmExpanderModel.expand -/
def F82 (n : Nat) (M : Mem) : Option (Int32 × Mem) :=
  mlet (m_i M 83 37 0) (fun M1 => mlet (m_i M1 83 38 0) (fun M2 => match F32 n M2 with | some (v3, M4) => (J82_14 n M4) | none => none))
set_option maxRecDepth 100000 in
set_option maxHeartbeats 4000000 in
theorem F82_ev (sc : Option (Nat × (Nat → Int32))) (n : Nat)  (M : Mem) (e : Nat) (he : 12 ≤ e) (r : Int32) (M' : Mem) (h : F82 n M = some (r, M')) : pm_ev pmT sc e 82 false (0, [some (.ref 83), none, none], [], 129, 17845, hp M) (some (.int r), 129, 17845, hp M') := by
  unfold F82 at h
  refine pe_blk mm_82 2 (s' := (2, [some (.ref 83), none, none], [.int 0, .ref 83], _, _, _)) rfl ?_
  refine pe_puti mm_82 rfl rfl rfl (by decide) (Nat.le_of_ble_eq_true rfl) rfl rfl ?_
  show pm_ev _ _ _ _ _ (5, [some (.ref 83), none, none], [], _, _, hp (m_i M 83 37 0)) _
  generalize m_i M 83 37 0 = M1 at h ⊢
  rw [mlet] at h
  refine pe_blk mm_82 2 (s' := (7, [some (.ref 83), none, none], [.int 0, .ref 83], _, _, _)) rfl ?_
  refine pe_puti mm_82 rfl rfl rfl (by decide) (Nat.le_of_ble_eq_true rfl) rfl rfl ?_
  show pm_ev _ _ _ _ _ (10, [some (.ref 83), none, none], [], _, _, hp (m_i M1 83 38 0)) _
  generalize m_i M1 83 38 0 = M2 at h ⊢
  rw [mlet] at h
  refine pe_blk mm_82 1 (s' := (11, [some (.ref 83), none, none], [.ref 83], _, _, _)) rfl ?_
  obtain ⟨e1, rfl⟩ : ∃ e1, e = e1 + 1 := ⟨e - 1, by omega⟩
  cases hc5 : F32 n M2 with
  | none => rw [hc5] at h; cases h
  | some w =>
    obtain ⟨v3, M4⟩ := w
    rw [hc5] at h
    dsimp only at h
    refine pe_virt (al := []) (a := 83) (L0 := [some (.ref 83), none]) (r1 := (none, 129, 17845, hp M4)) mm_82 rfl rfl rfl mm_32 rfl (by decide) (by decide) rfl (Nat.le_of_ble_eq_true rfl) (Nat.le_of_ble_eq_true rfl) rfl rfl (F32_ev sc n _ e1 (by omega) _ _ hc5) ?_
    show pm_ev _ _ _ _ _ (14, [some (.ref 83), none, none], [], _, _, _) _
    exact J82_14_ev sc n (e1 + 1) he _ _ _ _ _ h
def L202_61 (n : Nat) : Nat → Int32 → Int32 → Mem → Option (Int32 × Mem)
  | 0, _, _, _ => none
  | k + 1, x1, x2, M => if (M.1 1 2) ≤ x2 then (some (1000 + x1, M)) else (if x2 < 0 ∨ 120 ≤ (x2 : Int32).toNatClampNeg then none else ((L202_61 n k) ((((x1 * 27) + (M.1 2 (x2 : Int32).toNatClampNeg)) - 97) + 1) (x2 + 1) M))
set_option maxRecDepth 100000 in
set_option maxHeartbeats 4000000 in
theorem L202_61_ev (sc : Option (Nat × (Nat → Int32))) (n : Nat)  (e : Nat) (he : 2 ≤ e) : ∀ k : Nat, ∀ (x1 : Int32) (x2 : Int32) (M : Mem) (r : Int32) (M' : Mem), L202_61 n k x1 x2 M = some (r, M') → pm_ev pmT sc e 202 false (61, [some (.ref 1), some (.int x1), some (.int x2)], [], 129, 17845, hp M) (some (.int r), 129, 17845, hp M') := by
  intro k
  induction k with
  | zero => intro x1 x2  M r M' h; cases h
  | succ k hr61 =>
    intro x1 x2  M r M' h
    rw [L202_61] at h
    refine pe_blk mm_202 2 (s' := (63, [some (.ref 1), some (.int x1), some (.int x2)], [.ref 1, .int x2], _, _, _)) rfl ?_
    refine pe_get mm_202 rfl rfl rfl (by decide) rfl ?_
    by_cases q3 : (M.1 1 2) ≤ x2
    · rw [if_pos q3] at h
      refine pe_blk mm_202 1 (s' := (if (M.1 1 2) ≤ x2 then 92 else 69, [some (.ref 1), some (.int x1), some (.int x2)], [], _, _, _)) rfl ?_
      rw [if_pos q3]
      refine pe_blk mm_202 3 (s' := (97, [some (.ref 1), some (.int x1), some (.int x2)], [.int (1000 + x1)], _, _, _)) rfl ?_
      cases h
      exact pe_ret mm_202 rfl rfl
    · rw [if_neg q3] at h
      refine pe_blk mm_202 1 (s' := (if (M.1 1 2) ≤ x2 then 92 else 69, [some (.ref 1), some (.int x1), some (.int x2)], [], _, _, _)) rfl ?_
      rw [if_neg q3]
      refine pe_blk mm_202 4 (s' := (74, [some (.ref 1), some (.int x1), some (.int x2)], [.ref 1, .int (x1 * 27)], _, _, _)) rfl ?_
      refine pe_get mm_202 rfl rfl rfl (by decide) rfl ?_
      refine pe_blk mm_202 1 (s' := (78, [some (.ref 1), some (.int x1), some (.int x2)], [.int x2, .ref 2, .int (x1 * 27)], _, _, _)) rfl ?_
      by_cases q4 : x2 < 0 ∨ 120 ≤ (x2 : Int32).toNatClampNeg
      · rw [if_pos q4] at h
        cases h
      · rw [if_neg q4] at h
        refine pe_iald (f := M.1 2) mm_202 rfl rfl (by decide) q4 ?_
        refine pe_blk mm_202 8 (s' := (61, [some (.ref 1), some (.int ((((x1 * 27) + (M.1 2 (x2 : Int32).toNatClampNeg)) - 97) + 1)), some (.int (x2 + 1))], [], _, _, _)) rfl ?_
        exact hr61 ((((x1 * 27) + (M.1 2 (x2 : Int32).toNatClampNeg)) - 97) + 1) (x2 + 1) _ _ _ h
def J202_39 (n : Nat) (M : Mem) : Option (Int32 × Mem) :=
  if ((M.1 1 2) - (M.1 1 3)) ≤ 3 then (L202_61 n n 0 (M.1 1 3) M) else (some ((-1), M))
set_option maxRecDepth 100000 in
set_option maxHeartbeats 4000000 in
theorem J202_39_ev (sc : Option (Nat × (Nat → Int32))) (n : Nat)  (e : Nat) (he : 2 ≤ e) : ∀ (u1 : Option Value) (u2 : Option Value) (M : Mem) (r : Int32) (M' : Mem), J202_39 n  M = some (r, M') → pm_ev pmT sc e 202 false (39, [some (.ref 1), u1, u2], [], 129, 17845, hp M) (some (.int r), 129, 17845, hp M') := by
  intro u1 u2 M r M' h
  unfold J202_39 at h
  refine pe_blk mm_202 1 (s' := (40, [some (.ref 1), u1, u2], [.ref 1], _, _, _)) rfl ?_
  refine pe_get mm_202 rfl rfl rfl (by decide) rfl ?_
  refine pe_blk mm_202 1 (s' := (44, [some (.ref 1), u1, u2], [.ref 1, .int (M.1 1 2)], _, _, _)) rfl ?_
  refine pe_get mm_202 rfl rfl rfl (by decide) rfl ?_
  refine pe_blk mm_202 2 (s' := (49, [some (.ref 1), u1, u2], [.int 3, .int ((M.1 1 2) - (M.1 1 3))], _, _, _)) rfl ?_
  by_cases q2 : ((M.1 1 2) - (M.1 1 3)) ≤ 3
  · rw [if_pos q2] at h
    refine pe_blk mm_202 1 (s' := (if ((M.1 1 2) - (M.1 1 3)) ≤ 3 then 54 else 52, [some (.ref 1), u1, u2], [], _, _, _)) rfl ?_
    rw [if_pos q2]
    refine pe_blk mm_202 3 (s' := (57, [some (.ref 1), some (.int 0), u2], [.ref 1], _, _, _)) rfl ?_
    refine pe_get mm_202 rfl rfl rfl (by decide) rfl ?_
    refine pe_blk mm_202 1 (s' := (61, [some (.ref 1), some (.int 0), some (.int (M.1 1 3))], [], _, _, _)) rfl ?_
    exact L202_61_ev sc n e he n 0 (M.1 1 3) _ _ _ h
  · rw [if_neg q2] at h
    refine pe_blk mm_202 1 (s' := (if ((M.1 1 2) - (M.1 1 3)) ≤ 3 then 54 else 52, [some (.ref 1), u1, u2], [], _, _, _)) rfl ?_
    rw [if_neg q2]
    refine pe_blk mm_202 1 (s' := (53, [some (.ref 1), u1, u2], [.int (-1)], _, _, _)) rfl ?_
    cases h
    exact pe_ret mm_202 rfl rfl
def J202_26 (n : Nat) (rec0 : Mem → Option (Int32 × Mem)) (M : Mem) : Option (Int32 × Mem) :=
  mlet (m_i M 1 2 ((M.1 1 2) + 1)) (fun M10 => rec0 M10)
set_option maxRecDepth 100000 in
set_option maxHeartbeats 4000000 in
theorem J202_26_ev (sc : Option (Nat × (Nat → Int32))) (n : Nat)  (e : Nat) (he : 2 ≤ e) (rec0 : Mem → Option (Int32 × Mem)) (hr0 : ∀ (u1 : Option Value) (u2 : Option Value) (M : Mem) (r : Int32) (M' : Mem), rec0  M = some (r, M') → pm_ev pmT sc e 202 false (0, [some (.ref 1), u1, u2], [], 129, 17845, hp M) (some (.int r), 129, 17845, hp M')) : ∀ (u1 : Option Value) (u2 : Option Value) (M : Mem) (r : Int32) (M' : Mem), J202_26 n rec0  M = some (r, M') → pm_ev pmT sc e 202 false (26, [some (.ref 1), u1, u2], [], 129, 17845, hp M) (some (.int r), 129, 17845, hp M') := by
  intro u1 u2 M r M' h
  unfold J202_26 at h
  refine pe_blk mm_202 2 (s' := (28, [some (.ref 1), u1, u2], [.ref 1, .ref 1], _, _, _)) rfl ?_
  refine pe_get mm_202 rfl rfl rfl (by decide) rfl ?_
  refine pe_blk mm_202 2 (s' := (33, [some (.ref 1), u1, u2], [.int ((M.1 1 2) + 1), .ref 1], _, _, _)) rfl ?_
  refine pe_puti mm_202 rfl rfl rfl (by decide) (Nat.le_of_ble_eq_true rfl) rfl rfl ?_
  show pm_ev _ _ _ _ _ (36, [some (.ref 1), u1, u2], [], _, _, hp (m_i M 1 2 ((M.1 1 2) + 1))) _
  generalize m_i M 1 2 ((M.1 1 2) + 1) = M10 at h ⊢
  rw [mlet] at h
  refine pe_blk mm_202 1 (s' := (0, [some (.ref 1), u1, u2], [], _, _, _)) rfl ?_
  exact hr0 _ _ _ _ _ h
def L202_0 (n : Nat) : Nat → Mem → Option (Int32 × Mem)
  | 0, _ => none
  | k + 1, M => if (M.1 1 1) ≤ (M.1 1 2) then (J202_39 n M) else (if (M.1 1 2) < 0 ∨ 120 ≤ (M.1 1 2 : Int32).toNatClampNeg then none else (match F205 n (M.1 2 (M.1 1 2 : Int32).toNatClampNeg) M with | some (v6, M7) => (if v6 = 0 then (J202_39 n M7) else (J202_26 n (L202_0 n k) M7)) | none => none))
set_option maxRecDepth 100000 in
set_option maxHeartbeats 4000000 in
theorem L202_0_ev (sc : Option (Nat × (Nat → Int32))) (n : Nat)  (e : Nat) (he : 2 ≤ e) : ∀ k : Nat, ∀ (u1 : Option Value) (u2 : Option Value) (M : Mem) (r : Int32) (M' : Mem), L202_0 n k  M = some (r, M') → pm_ev pmT sc e 202 false (0, [some (.ref 1), u1, u2], [], 129, 17845, hp M) (some (.int r), 129, 17845, hp M') := by
  intro k
  induction k with
  | zero => intro u1 u2 M r M' h; cases h
  | succ k hr0 =>
    intro u1 u2 M r M' h
    rw [L202_0] at h
    refine pe_blk mm_202 1 (s' := (1, [some (.ref 1), u1, u2], [.ref 1], _, _, _)) rfl ?_
    refine pe_get mm_202 rfl rfl rfl (by decide) rfl ?_
    refine pe_blk mm_202 1 (s' := (5, [some (.ref 1), u1, u2], [.ref 1, .int (M.1 1 2)], _, _, _)) rfl ?_
    refine pe_get mm_202 rfl rfl rfl (by decide) rfl ?_
    by_cases q1 : (M.1 1 1) ≤ (M.1 1 2)
    · rw [if_pos q1] at h
      refine pe_blk mm_202 1 (s' := (if (M.1 1 1) ≤ (M.1 1 2) then 39 else 11, [some (.ref 1), u1, u2], [], _, _, _)) rfl ?_
      rw [if_pos q1]
      exact J202_39_ev sc n e he _ _ _ _ _ h
    · rw [if_neg q1] at h
      refine pe_blk mm_202 1 (s' := (if (M.1 1 1) ≤ (M.1 1 2) then 39 else 11, [some (.ref 1), u1, u2], [], _, _, _)) rfl ?_
      rw [if_neg q1]
      refine pe_blk mm_202 1 (s' := (12, [some (.ref 1), u1, u2], [.ref 1], _, _, _)) rfl ?_
      refine pe_get mm_202 rfl rfl rfl (by decide) rfl ?_
      refine pe_blk mm_202 1 (s' := (16, [some (.ref 1), u1, u2], [.ref 1, .ref 2], _, _, _)) rfl ?_
      refine pe_get mm_202 rfl rfl rfl (by decide) rfl ?_
      by_cases q5 : (M.1 1 2) < 0 ∨ 120 ≤ (M.1 1 2 : Int32).toNatClampNeg
      · rw [if_pos q5] at h
        cases h
      · rw [if_neg q5] at h
        refine pe_iald (f := M.1 2) mm_202 rfl rfl (by decide) q5 ?_
        obtain ⟨e1, rfl⟩ : ∃ e1, e = e1 + 1 := ⟨e - 1, by omega⟩
        cases hc8 : F205 n (M.1 2 (M.1 1 2 : Int32).toNatClampNeg) M with
        | none => rw [hc8] at h; cases h
        | some w =>
          obtain ⟨v6, M7⟩ := w
          rw [hc8] at h
          dsimp only at h
          refine pe_stat (al := [.int (M.1 2 (M.1 1 2 : Int32).toNatClampNeg)]) (L0 := [some (.int (M.1 2 (M.1 1 2 : Int32).toNatClampNeg))]) (r1 := (some (.int v6), 129, 17845, hp M7)) mm_202 rfl rfl rfl mm_205 rfl (Nat.le_of_ble_eq_true rfl) (Nat.le_of_ble_eq_true rfl) rfl rfl (F205_ev sc n (M.1 2 (M.1 1 2 : Int32).toNatClampNeg) _ e1 (by omega) _ _ hc8) ?_
          show pm_ev _ _ _ _ _ (23, [some (.ref 1), u1, u2], [.int v6], _, _, _) _
          by_cases q9 : v6 = 0
          · rw [if_pos q9] at h
            refine pe_blk mm_202 1 (s' := (if v6 = 0 then 39 else 26, [some (.ref 1), u1, u2], [], _, _, _)) rfl ?_
            rw [if_pos q9]
            exact J202_39_ev sc n (e1 + 1) he _ _ _ _ _ h
          · rw [if_neg q9] at h
            refine pe_blk mm_202 1 (s' := (if v6 = 0 then 39 else 26, [some (.ref 1), u1, u2], [], _, _, _)) rfl ?_
            rw [if_neg q9]
            exact J202_26_ev sc n (e1 + 1) he (L202_0 n k) hr0 _ _ _ _ _ h
/-- ArmExpander$TypedText.readWord -/
def F202 (n : Nat) (M : Mem) : Option (Int32 × Mem) :=
  L202_0 n n M
set_option maxRecDepth 100000 in
set_option maxHeartbeats 4000000 in
theorem F202_ev (sc : Option (Nat × (Nat → Int32))) (n : Nat)  (M : Mem) (e : Nat) (he : 2 ≤ e) (r : Int32) (M' : Mem) (h : F202 n M = some (r, M')) : pm_ev pmT sc e 202 false (0, [some (.ref 1), none, none], [], 129, 17845, hp M) (some (.int r), 129, 17845, hp M') := by
  unfold F202 at h
  exact L202_0_ev sc n e he n _ _ _ _ _ h
def J203_73 (n : Nat) (M : Mem) : Option (Int32 × Mem) :=
  some ((-1), M)
set_option maxRecDepth 100000 in
set_option maxHeartbeats 4000000 in
theorem J203_73_ev (sc : Option (Nat × (Nat → Int32))) (n : Nat)  (e : Nat) (he : 2 ≤ e) : ∀ (u0 : Option Value) (u1 : Option Value) (u2 : Option Value) (u3 : Option Value) (M : Mem) (r : Int32) (M' : Mem), J203_73 n  M = some (r, M') → pm_ev pmT sc e 203 false (73, [u0, u1, u2, u3], [], 129, 17845, hp M) (some (.int r), 129, 17845, hp M') := by
  intro u0 u1 u2 u3 M r M' h
  unfold J203_73 at h
  refine pe_blk mm_203 1 (s' := (74, [u0, u1, u2, u3], [.int (-1)], _, _, _)) rfl ?_
  cases h
  exact pe_ret mm_203 rfl rfl
def L203_82 (n : Nat) : Nat → Int32 → Int32 → Mem → Option (Int32 × Mem)
  | 0, _, _, _ => none
  | k + 1, x2, x3, M => if (M.1 1 2) ≤ x3 then (some (300 + x2, M)) else (if x3 < 0 ∨ 120 ≤ (x3 : Int32).toNatClampNeg then none else ((L203_82 n k) (((x2 * 10) + (M.1 2 (x3 : Int32).toNatClampNeg)) - 48) (x3 + 1) M))
set_option maxRecDepth 100000 in
set_option maxHeartbeats 4000000 in
theorem L203_82_ev (sc : Option (Nat × (Nat → Int32))) (n : Nat)  (e : Nat) (he : 2 ≤ e) : ∀ k : Nat, ∀ (x2 : Int32) (x3 : Int32) (u1 : Option Value) (M : Mem) (r : Int32) (M' : Mem), L203_82 n k x2 x3 M = some (r, M') → pm_ev pmT sc e 203 false (82, [some (.ref 1), u1, some (.int x2), some (.int x3)], [], 129, 17845, hp M) (some (.int r), 129, 17845, hp M') := by
  intro k
  induction k with
  | zero => intro x2 x3 u1 M r M' h; cases h
  | succ k hr82 =>
    intro x2 x3 u1 M r M' h
    rw [L203_82] at h
    refine pe_blk mm_203 2 (s' := (84, [some (.ref 1), u1, some (.int x2), some (.int x3)], [.ref 1, .int x3], _, _, _)) rfl ?_
    refine pe_get mm_203 rfl rfl rfl (by decide) rfl ?_
    by_cases q6 : (M.1 1 2) ≤ x3
    · rw [if_pos q6] at h
      refine pe_blk mm_203 1 (s' := (if (M.1 1 2) ≤ x3 then 111 else 90, [some (.ref 1), u1, some (.int x2), some (.int x3)], [], _, _, _)) rfl ?_
      rw [if_pos q6]
      refine pe_blk mm_203 3 (s' := (116, [some (.ref 1), u1, some (.int x2), some (.int x3)], [.int (300 + x2)], _, _, _)) rfl ?_
      cases h
      exact pe_ret mm_203 rfl rfl
    · rw [if_neg q6] at h
      refine pe_blk mm_203 1 (s' := (if (M.1 1 2) ≤ x3 then 111 else 90, [some (.ref 1), u1, some (.int x2), some (.int x3)], [], _, _, _)) rfl ?_
      rw [if_neg q6]
      refine pe_blk mm_203 4 (s' := (95, [some (.ref 1), u1, some (.int x2), some (.int x3)], [.ref 1, .int (x2 * 10)], _, _, _)) rfl ?_
      refine pe_get mm_203 rfl rfl rfl (by decide) rfl ?_
      refine pe_blk mm_203 1 (s' := (99, [some (.ref 1), u1, some (.int x2), some (.int x3)], [.int x3, .ref 2, .int (x2 * 10)], _, _, _)) rfl ?_
      by_cases q7 : x3 < 0 ∨ 120 ≤ (x3 : Int32).toNatClampNeg
      · rw [if_pos q7] at h
        cases h
      · rw [if_neg q7] at h
        refine pe_iald (f := M.1 2) mm_203 rfl rfl (by decide) q7 ?_
        refine pe_blk mm_203 6 (s' := (82, [some (.ref 1), u1, some (.int (((x2 * 10) + (M.1 2 (x3 : Int32).toNatClampNeg)) - 48)), some (.int (x3 + 1))], [], _, _, _)) rfl ?_
        exact hr82 (((x2 * 10) + (M.1 2 (x3 : Int32).toNatClampNeg)) - 48) (x3 + 1) _ _ _ _ h
def J203_75 (n : Nat) (M : Mem) : Option (Int32 × Mem) :=
  L203_82 n n 0 (M.1 1 3) M
set_option maxRecDepth 100000 in
set_option maxHeartbeats 4000000 in
theorem J203_75_ev (sc : Option (Nat × (Nat → Int32))) (n : Nat)  (e : Nat) (he : 2 ≤ e) : ∀ (u1 : Option Value) (u2 : Option Value) (u3 : Option Value) (M : Mem) (r : Int32) (M' : Mem), J203_75 n  M = some (r, M') → pm_ev pmT sc e 203 false (75, [some (.ref 1), u1, u2, u3], [], 129, 17845, hp M) (some (.int r), 129, 17845, hp M') := by
  intro u1 u2 u3 M r M' h
  unfold J203_75 at h
  refine pe_blk mm_203 3 (s' := (78, [some (.ref 1), u1, some (.int 0), u3], [.ref 1], _, _, _)) rfl ?_
  refine pe_get mm_203 rfl rfl rfl (by decide) rfl ?_
  refine pe_blk mm_203 1 (s' := (82, [some (.ref 1), u1, some (.int 0), some (.int (M.1 1 3))], [], _, _, _)) rfl ?_
  exact L203_82_ev sc n e he n 0 (M.1 1 3) _ _ _ _ h
def J203_39 (n : Nat) (M : Mem) : Option (Int32 × Mem) :=
  if 2 < ((M.1 1 2) - (M.1 1 3)) then (J203_73 n M) else (if ((M.1 1 2) - (M.1 1 3)) = 2 then (if (M.1 1 3) < 0 ∨ 120 ≤ (M.1 1 3 : Int32).toNatClampNeg then none else (if (M.1 2 (M.1 1 3 : Int32).toNatClampNeg) = 48 then (J203_73 n M) else (J203_75 n M))) else (J203_75 n M))
set_option maxRecDepth 100000 in
set_option maxHeartbeats 4000000 in
theorem J203_39_ev (sc : Option (Nat × (Nat → Int32))) (n : Nat)  (e : Nat) (he : 2 ≤ e) : ∀ (u1 : Option Value) (u2 : Option Value) (u3 : Option Value) (M : Mem) (r : Int32) (M' : Mem), J203_39 n  M = some (r, M') → pm_ev pmT sc e 203 false (39, [some (.ref 1), u1, u2, u3], [], 129, 17845, hp M) (some (.int r), 129, 17845, hp M') := by
  intro u1 u2 u3 M r M' h
  unfold J203_39 at h
  refine pe_blk mm_203 1 (s' := (40, [some (.ref 1), u1, u2, u3], [.ref 1], _, _, _)) rfl ?_
  refine pe_get mm_203 rfl rfl rfl (by decide) rfl ?_
  refine pe_blk mm_203 1 (s' := (44, [some (.ref 1), u1, u2, u3], [.ref 1, .int (M.1 1 2)], _, _, _)) rfl ?_
  refine pe_get mm_203 rfl rfl rfl (by decide) rfl ?_
  refine pe_blk mm_203 4 (s' := (51, [some (.ref 1), some (.int ((M.1 1 2) - (M.1 1 3))), u2, u3], [.int 2, .int ((M.1 1 2) - (M.1 1 3))], _, _, _)) rfl ?_
  by_cases q2 : 2 < ((M.1 1 2) - (M.1 1 3))
  · rw [if_pos q2] at h
    refine pe_blk mm_203 1 (s' := (if 2 < ((M.1 1 2) - (M.1 1 3)) then 73 else 54, [some (.ref 1), some (.int ((M.1 1 2) - (M.1 1 3))), u2, u3], [], _, _, _)) rfl ?_
    rw [if_pos q2]
    exact J203_73_ev sc n e he _ _ _ _ _ _ _ h
  · rw [if_neg q2] at h
    refine pe_blk mm_203 1 (s' := (if 2 < ((M.1 1 2) - (M.1 1 3)) then 73 else 54, [some (.ref 1), some (.int ((M.1 1 2) - (M.1 1 3))), u2, u3], [], _, _, _)) rfl ?_
    rw [if_neg q2]
    refine pe_blk mm_203 2 (s' := (56, [some (.ref 1), some (.int ((M.1 1 2) - (M.1 1 3))), u2, u3], [.int 2, .int ((M.1 1 2) - (M.1 1 3))], _, _, _)) rfl ?_
    by_cases q3 : ((M.1 1 2) - (M.1 1 3)) = 2
    · rw [if_pos q3] at h
      refine pe_blk mm_203 1 (s' := (if ((M.1 1 2) - (M.1 1 3)) = 2 then 59 else 75, [some (.ref 1), some (.int ((M.1 1 2) - (M.1 1 3))), u2, u3], [], _, _, _)) rfl ?_
      rw [if_pos q3]
      refine pe_blk mm_203 1 (s' := (60, [some (.ref 1), some (.int ((M.1 1 2) - (M.1 1 3))), u2, u3], [.ref 1], _, _, _)) rfl ?_
      refine pe_get mm_203 rfl rfl rfl (by decide) rfl ?_
      refine pe_blk mm_203 1 (s' := (64, [some (.ref 1), some (.int ((M.1 1 2) - (M.1 1 3))), u2, u3], [.ref 1, .ref 2], _, _, _)) rfl ?_
      refine pe_get mm_203 rfl rfl rfl (by decide) rfl ?_
      by_cases q4 : (M.1 1 3) < 0 ∨ 120 ≤ (M.1 1 3 : Int32).toNatClampNeg
      · rw [if_pos q4] at h
        cases h
      · rw [if_neg q4] at h
        refine pe_iald (f := M.1 2) mm_203 rfl rfl (by decide) q4 ?_
        refine pe_blk mm_203 1 (s' := (70, [some (.ref 1), some (.int ((M.1 1 2) - (M.1 1 3))), u2, u3], [.int 48, .int (M.1 2 (M.1 1 3 : Int32).toNatClampNeg)], _, _, _)) rfl ?_
        by_cases q5 : (M.1 2 (M.1 1 3 : Int32).toNatClampNeg) = 48
        · rw [if_pos q5] at h
          refine pe_blk mm_203 1 (s' := (if (M.1 2 (M.1 1 3 : Int32).toNatClampNeg) = 48 then 73 else 75, [some (.ref 1), some (.int ((M.1 1 2) - (M.1 1 3))), u2, u3], [], _, _, _)) rfl ?_
          rw [if_pos q5]
          exact J203_73_ev sc n e he _ _ _ _ _ _ _ h
        · rw [if_neg q5] at h
          refine pe_blk mm_203 1 (s' := (if (M.1 2 (M.1 1 3 : Int32).toNatClampNeg) = 48 then 73 else 75, [some (.ref 1), some (.int ((M.1 1 2) - (M.1 1 3))), u2, u3], [], _, _, _)) rfl ?_
          rw [if_neg q5]
          exact J203_75_ev sc n e he _ _ _ _ _ _ h
    · rw [if_neg q3] at h
      refine pe_blk mm_203 1 (s' := (if ((M.1 1 2) - (M.1 1 3)) = 2 then 59 else 75, [some (.ref 1), some (.int ((M.1 1 2) - (M.1 1 3))), u2, u3], [], _, _, _)) rfl ?_
      rw [if_neg q3]
      exact J203_75_ev sc n e he _ _ _ _ _ _ h
def J203_26 (n : Nat) (rec0 : Mem → Option (Int32 × Mem)) (M : Mem) : Option (Int32 × Mem) :=
  mlet (m_i M 1 2 ((M.1 1 2) + 1)) (fun M13 => rec0 M13)
set_option maxRecDepth 100000 in
set_option maxHeartbeats 4000000 in
theorem J203_26_ev (sc : Option (Nat × (Nat → Int32))) (n : Nat)  (e : Nat) (he : 2 ≤ e) (rec0 : Mem → Option (Int32 × Mem)) (hr0 : ∀ (u1 : Option Value) (u2 : Option Value) (u3 : Option Value) (M : Mem) (r : Int32) (M' : Mem), rec0  M = some (r, M') → pm_ev pmT sc e 203 false (0, [some (.ref 1), u1, u2, u3], [], 129, 17845, hp M) (some (.int r), 129, 17845, hp M')) : ∀ (u1 : Option Value) (u2 : Option Value) (u3 : Option Value) (M : Mem) (r : Int32) (M' : Mem), J203_26 n rec0  M = some (r, M') → pm_ev pmT sc e 203 false (26, [some (.ref 1), u1, u2, u3], [], 129, 17845, hp M) (some (.int r), 129, 17845, hp M') := by
  intro u1 u2 u3 M r M' h
  unfold J203_26 at h
  refine pe_blk mm_203 2 (s' := (28, [some (.ref 1), u1, u2, u3], [.ref 1, .ref 1], _, _, _)) rfl ?_
  refine pe_get mm_203 rfl rfl rfl (by decide) rfl ?_
  refine pe_blk mm_203 2 (s' := (33, [some (.ref 1), u1, u2, u3], [.int ((M.1 1 2) + 1), .ref 1], _, _, _)) rfl ?_
  refine pe_puti mm_203 rfl rfl rfl (by decide) (Nat.le_of_ble_eq_true rfl) rfl rfl ?_
  show pm_ev _ _ _ _ _ (36, [some (.ref 1), u1, u2, u3], [], _, _, hp (m_i M 1 2 ((M.1 1 2) + 1))) _
  generalize m_i M 1 2 ((M.1 1 2) + 1) = M13 at h ⊢
  rw [mlet] at h
  refine pe_blk mm_203 1 (s' := (0, [some (.ref 1), u1, u2, u3], [], _, _, _)) rfl ?_
  exact hr0 _ _ _ _ _ _ h
def L203_0 (n : Nat) : Nat → Mem → Option (Int32 × Mem)
  | 0, _ => none
  | k + 1, M => if (M.1 1 1) ≤ (M.1 1 2) then (J203_39 n M) else (if (M.1 1 2) < 0 ∨ 120 ≤ (M.1 1 2 : Int32).toNatClampNeg then none else (match F206 n (M.1 2 (M.1 1 2 : Int32).toNatClampNeg) M with | some (v9, M10) => (if v9 = 0 then (J203_39 n M10) else (J203_26 n (L203_0 n k) M10)) | none => none))
set_option maxRecDepth 100000 in
set_option maxHeartbeats 4000000 in
theorem L203_0_ev (sc : Option (Nat × (Nat → Int32))) (n : Nat)  (e : Nat) (he : 2 ≤ e) : ∀ k : Nat, ∀ (u1 : Option Value) (u2 : Option Value) (u3 : Option Value) (M : Mem) (r : Int32) (M' : Mem), L203_0 n k  M = some (r, M') → pm_ev pmT sc e 203 false (0, [some (.ref 1), u1, u2, u3], [], 129, 17845, hp M) (some (.int r), 129, 17845, hp M') := by
  intro k
  induction k with
  | zero => intro u1 u2 u3 M r M' h; cases h
  | succ k hr0 =>
    intro u1 u2 u3 M r M' h
    rw [L203_0] at h
    refine pe_blk mm_203 1 (s' := (1, [some (.ref 1), u1, u2, u3], [.ref 1], _, _, _)) rfl ?_
    refine pe_get mm_203 rfl rfl rfl (by decide) rfl ?_
    refine pe_blk mm_203 1 (s' := (5, [some (.ref 1), u1, u2, u3], [.ref 1, .int (M.1 1 2)], _, _, _)) rfl ?_
    refine pe_get mm_203 rfl rfl rfl (by decide) rfl ?_
    by_cases q1 : (M.1 1 1) ≤ (M.1 1 2)
    · rw [if_pos q1] at h
      refine pe_blk mm_203 1 (s' := (if (M.1 1 1) ≤ (M.1 1 2) then 39 else 11, [some (.ref 1), u1, u2, u3], [], _, _, _)) rfl ?_
      rw [if_pos q1]
      exact J203_39_ev sc n e he _ _ _ _ _ _ h
    · rw [if_neg q1] at h
      refine pe_blk mm_203 1 (s' := (if (M.1 1 1) ≤ (M.1 1 2) then 39 else 11, [some (.ref 1), u1, u2, u3], [], _, _, _)) rfl ?_
      rw [if_neg q1]
      refine pe_blk mm_203 1 (s' := (12, [some (.ref 1), u1, u2, u3], [.ref 1], _, _, _)) rfl ?_
      refine pe_get mm_203 rfl rfl rfl (by decide) rfl ?_
      refine pe_blk mm_203 1 (s' := (16, [some (.ref 1), u1, u2, u3], [.ref 1, .ref 2], _, _, _)) rfl ?_
      refine pe_get mm_203 rfl rfl rfl (by decide) rfl ?_
      by_cases q8 : (M.1 1 2) < 0 ∨ 120 ≤ (M.1 1 2 : Int32).toNatClampNeg
      · rw [if_pos q8] at h
        cases h
      · rw [if_neg q8] at h
        refine pe_iald (f := M.1 2) mm_203 rfl rfl (by decide) q8 ?_
        obtain ⟨e1, rfl⟩ : ∃ e1, e = e1 + 1 := ⟨e - 1, by omega⟩
        cases hc11 : F206 n (M.1 2 (M.1 1 2 : Int32).toNatClampNeg) M with
        | none => rw [hc11] at h; cases h
        | some w =>
          obtain ⟨v9, M10⟩ := w
          rw [hc11] at h
          dsimp only at h
          refine pe_stat (al := [.int (M.1 2 (M.1 1 2 : Int32).toNatClampNeg)]) (L0 := [some (.int (M.1 2 (M.1 1 2 : Int32).toNatClampNeg))]) (r1 := (some (.int v9), 129, 17845, hp M10)) mm_203 rfl rfl rfl mm_206 rfl (Nat.le_of_ble_eq_true rfl) (Nat.le_of_ble_eq_true rfl) rfl rfl (F206_ev sc n (M.1 2 (M.1 1 2 : Int32).toNatClampNeg) _ e1 (by omega) _ _ hc11) ?_
          show pm_ev _ _ _ _ _ (23, [some (.ref 1), u1, u2, u3], [.int v9], _, _, _) _
          by_cases q12 : v9 = 0
          · rw [if_pos q12] at h
            refine pe_blk mm_203 1 (s' := (if v9 = 0 then 39 else 26, [some (.ref 1), u1, u2, u3], [], _, _, _)) rfl ?_
            rw [if_pos q12]
            exact J203_39_ev sc n (e1 + 1) he _ _ _ _ _ _ h
          · rw [if_neg q12] at h
            refine pe_blk mm_203 1 (s' := (if v9 = 0 then 39 else 26, [some (.ref 1), u1, u2, u3], [], _, _, _)) rfl ?_
            rw [if_neg q12]
            exact J203_26_ev sc n (e1 + 1) he (L203_0 n k) hr0 _ _ _ _ _ _ h
/-- ArmExpander$TypedText.readNumber -/
def F203 (n : Nat) (M : Mem) : Option (Int32 × Mem) :=
  L203_0 n n M
set_option maxRecDepth 100000 in
set_option maxHeartbeats 4000000 in
theorem F203_ev (sc : Option (Nat × (Nat → Int32))) (n : Nat)  (M : Mem) (e : Nat) (he : 2 ≤ e) (r : Int32) (M' : Mem) (h : F203 n M = some (r, M')) : pm_ev pmT sc e 203 false (0, [some (.ref 1), none, none, none], [], 129, 17845, hp M) (some (.int r), 129, 17845, hp M') := by
  unfold F203 at h
  exact L203_0_ev sc n e he n _ _ _ _ _ _ h
