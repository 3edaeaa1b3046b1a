/-! The methods as functions over Mem; written by program. -/
def J158_81 (n : Nat) (gg : Int32 → Int32 → Mem → Option (Int32 × Mem)) (s0 : Int32) (M : Mem) : Option (Int32 × Mem) :=
  some (s0, M)
set_option maxRecDepth 100000 in
set_option maxHeartbeats 4000000 in
theorem J158_81_ev (sc : Option (Nat × (Nat → Int32))) (n : Nat) (gg : Int32 → Int32 → Mem → Option (Int32 × Mem)) (E : Nat) (hg : ∀ (a0 : Int32) (a1 : Int32)  (M : Mem) (e : Nat), E ≤ e → ∀ (r : Int32) (M' : Mem), gg a0 a1 M = some (r, M') → pm_ev pmT sc e 157 false (0, [some (.ref 16), some (.int a0), some (.int a1), none, none, none, none], [], 129, 17845, hp M) (some (.int r), 129, 17845, hp M')) (e : Nat) (he : 2 + E ≤ e) : ∀ (s0 : Int32) (u0 : Option Value) (u1 : Option Value) (u2 : Option Value) (u3 : Option Value) (u4 : Option Value) (M : Mem) (r : Int32) (M' : Mem), J158_81 n gg s0 M = some (r, M') → pm_ev pmT sc e 158 false (81, [u0, u1, u2, u3, u4], [.int s0], 129, 17845, hp M) (some (.int r), 129, 17845, hp M') := by
  intro s0 u0 u1 u2 u3 u4 M r M' h
  unfold J158_81 at h
  cases h
  exact pe_ret mm_158 rfl rfl
def J158_80 (n : Nat) (gg : Int32 → Int32 → Mem → Option (Int32 × Mem)) (M : Mem) : Option (Int32 × Mem) :=
  J158_81 n gg (-1) M
set_option maxRecDepth 100000 in
set_option maxHeartbeats 4000000 in
theorem J158_80_ev (sc : Option (Nat × (Nat → Int32))) (n : Nat) (gg : Int32 → Int32 → Mem → Option (Int32 × Mem)) (E : Nat) (hg : ∀ (a0 : Int32) (a1 : Int32)  (M : Mem) (e : Nat), E ≤ e → ∀ (r : Int32) (M' : Mem), gg a0 a1 M = some (r, M') → pm_ev pmT sc e 157 false (0, [some (.ref 16), some (.int a0), some (.int a1), none, none, none, none], [], 129, 17845, hp M) (some (.int r), 129, 17845, hp M')) (e : Nat) (he : 2 + E ≤ e) : ∀ (u0 : Option Value) (u1 : Option Value) (u2 : Option Value) (u3 : Option Value) (u4 : Option Value) (M : Mem) (r : Int32) (M' : Mem), J158_80 n gg  M = some (r, M') → pm_ev pmT sc e 158 false (80, [u0, u1, u2, u3, u4], [], 129, 17845, hp M) (some (.int r), 129, 17845, hp M') := by
  intro u0 u1 u2 u3 u4 M r M' h
  unfold J158_80 at h
  refine pe_blk mm_158 1 (s' := (81, [u0, u1, u2, u3, u4], [.int (-1)], _, _, _)) rfl ?_
  exact J158_81_ev sc n gg E hg e he (-1) _ _ _ _ _ _ _ _ h
def J158_73 (n : Nat) (gg : Int32 → Int32 → Mem → Option (Int32 × Mem)) (x4 : Int32) (M : Mem) : Option (Int32 × Mem) :=
  J158_81 n gg (x4 + 1) M
set_option maxRecDepth 100000 in
set_option maxHeartbeats 4000000 in
theorem J158_73_ev (sc : Option (Nat × (Nat → Int32))) (n : Nat) (gg : Int32 → Int32 → Mem → Option (Int32 × Mem)) (E : Nat) (hg : ∀ (a0 : Int32) (a1 : Int32)  (M : Mem) (e : Nat), E ≤ e → ∀ (r : Int32) (M' : Mem), gg a0 a1 M = some (r, M') → pm_ev pmT sc e 157 false (0, [some (.ref 16), some (.int a0), some (.int a1), none, none, none, none], [], 129, 17845, hp M) (some (.int r), 129, 17845, hp M')) (e : Nat) (he : 2 + E ≤ e) : ∀ (x4 : Int32) (u0 : Option Value) (u1 : Option Value) (u2 : Option Value) (u3 : Option Value) (M : Mem) (r : Int32) (M' : Mem), J158_73 n gg x4 M = some (r, M') → pm_ev pmT sc e 158 false (73, [u0, u1, u2, u3, some (.int x4)], [], 129, 17845, hp M) (some (.int r), 129, 17845, hp M') := by
  intro x4 u0 u1 u2 u3 M r M' h
  unfold J158_73 at h
  refine pe_blk mm_158 4 (s' := (81, [u0, u1, u2, u3, some (.int x4)], [.int (x4 + 1)], _, _, _)) rfl ?_
  exact J158_81_ev sc n gg E hg e he (x4 + 1) _ _ _ _ _ _ _ _ h
def J158_41 (n : Nat) (gg : Int32 → Int32 → Mem → Option (Int32 × Mem)) (x1 : Int32) (x2 : Int32) (M : Mem) : Option (Int32 × Mem) :=
  match gg (x1 + 1) (x2 + 1) M with | some (v17, M18) => (if v17 = (-1) then (J158_80 n gg M18) else (match M18.2.1 16 6 with | some p21 => (if isR p21 then (match F170 n p21 v17 M18 with | some (v24, M25) => (if v24 = 41 then (J158_73 n gg v17 M25) else (J158_80 n gg M25)) | none => none) else none) | none => none)) | none => none
set_option maxRecDepth 100000 in
set_option maxHeartbeats 4000000 in
theorem J158_41_ev (sc : Option (Nat × (Nat → Int32))) (n : Nat) (gg : Int32 → Int32 → Mem → Option (Int32 × Mem)) (E : Nat) (hg : ∀ (a0 : Int32) (a1 : Int32)  (M : Mem) (e : Nat), E ≤ e → ∀ (r : Int32) (M' : Mem), gg a0 a1 M = some (r, M') → pm_ev pmT sc e 157 false (0, [some (.ref 16), some (.int a0), some (.int a1), none, none, none, none], [], 129, 17845, hp M) (some (.int r), 129, 17845, hp M')) (e : Nat) (he : 2 + E ≤ e) : ∀ (x1 : Int32) (x2 : Int32) (u3 : Option Value) (u4 : Option Value) (M : Mem) (r : Int32) (M' : Mem), J158_41 n gg x1 x2 M = some (r, M') → pm_ev pmT sc e 158 false (41, [some (.ref 16), some (.int x1), some (.int x2), u3, u4], [], 129, 17845, hp M) (some (.int r), 129, 17845, hp M') := by
  intro x1 x2 u3 u4 M r M' h
  unfold J158_41 at h
  refine pe_blk mm_158 7 (s' := (48, [some (.ref 16), some (.int x1), some (.int x2), u3, u4], [.int (x2 + 1), .int (x1 + 1), .ref 16], _, _, _)) rfl ?_
  obtain ⟨e1, rfl⟩ : ∃ e1, e = e1 + 1 := ⟨e - 1, by omega⟩
  cases hc19 : gg (x1 + 1) (x2 + 1) M with
  | none => rw [hc19] at h; cases h
  | some w =>
    obtain ⟨v17, M18⟩ := w
    rw [hc19] at h
    dsimp only at h
    refine pe_virt (al := [.int (x2 + 1), .int (x1 + 1)]) (a := 16) (L0 := [some (.ref 16), some (.int (x1 + 1)), some (.int (x2 + 1)), none, none, none, none]) (r1 := (some (.int v17), 129, 17845, hp M18)) mm_158 rfl rfl rfl mm_157 rfl (by decide) (by decide) rfl (Nat.le_of_ble_eq_true rfl) (Nat.le_of_ble_eq_true rfl) rfl rfl (hg (x1 + 1) (x2 + 1) _ e1 (by omega) _ _ hc19) ?_
    show pm_ev _ _ _ _ _ (51, [some (.ref 16), some (.int x1), some (.int x2), u3, u4], [.int v17], _, _, _) _
    refine pe_blk mm_158 3 (s' := (56, [some (.ref 16), some (.int x1), some (.int x2), u3, some (.int v17)], [.int (-1), .int v17], _, _, _)) rfl ?_
    by_cases q20 : v17 = (-1)
    · rw [if_pos q20] at h
      refine pe_blk mm_158 1 (s' := (if v17 = (-1) then 80 else 59, [some (.ref 16), some (.int x1), some (.int x2), u3, some (.int v17)], [], _, _, _)) rfl ?_
      rw [if_pos q20]
      exact J158_80_ev sc n gg E hg (e1 + 1) he _ _ _ _ _ _ _ _ h
    · rw [if_neg q20] at h
      refine pe_blk mm_158 1 (s' := (if v17 = (-1) then 80 else 59, [some (.ref 16), some (.int x1), some (.int x2), u3, some (.int v17)], [], _, _, _)) rfl ?_
      rw [if_neg q20]
      refine pe_blk mm_158 1 (s' := (60, [some (.ref 16), some (.int x1), some (.int x2), u3, some (.int v17)], [.ref 16], _, _, _)) rfl ?_
      refine pe_get mm_158 rfl rfl rfl (by decide) rfl ?_
      show pm_ev _ _ _ _ _ (63, [some (.ref 16), some (.int x1), some (.int x2), u3, some (.int v17)], va_rf (M18.2.1 16 6) :: [], _, _, _) _
      cases hq23 : M18.2.1 16 6 with
      | none => rw [hq23] at h; cases h
      | some p21 =>
        rw [hq23] at h
        dsimp only at h
        by_cases f22 : isR p21
        · rw [if_pos f22] at h
          show pm_ev _ _ _ _ _ (63, [some (.ref 16), some (.int x1), some (.int x2), u3, some (.int v17)], [.ref p21], _, _, _) _
          refine pe_blk mm_158 1 (s' := (65, [some (.ref 16), some (.int x1), some (.int x2), u3, some (.int v17)], [.int v17, .ref p21], _, _, _)) rfl ?_
          skip
          cases hc26 : F170 n p21 v17 M18 with
          | none => rw [hc26] at h; cases h
          | some w =>
            obtain ⟨v24, M25⟩ := w
            rw [hc26] at h
            dsimp only at h
            refine pe_virt (al := [.int v17]) (a := p21) (L0 := [some (.ref p21), some (.int v17)]) (r1 := (some (.int v24), 129, 17845, hp M25)) mm_158 rfl rfl rfl mm_170 (isR_0 f22 _) (by have := isR_lt f22; omega) (by decide) rfl (Nat.le_of_ble_eq_true rfl) (Nat.le_of_ble_eq_true rfl) rfl rfl (F170_ev sc n p21 v17 f22 _ e1 (by omega) _ _ hc26) ?_
            show pm_ev _ _ _ _ _ (68, [some (.ref 16), some (.int x1), some (.int x2), u3, some (.int v17)], [.int v24], _, _, _) _
            refine pe_blk mm_158 1 (s' := (70, [some (.ref 16), some (.int x1), some (.int x2), u3, some (.int v17)], [.int 41, .int v24], _, _, _)) rfl ?_
            by_cases q27 : v24 = 41
            · rw [if_pos q27] at h
              refine pe_blk mm_158 1 (s' := (if v24 = 41 then 73 else 80, [some (.ref 16), some (.int x1), some (.int x2), u3, some (.int v17)], [], _, _, _)) rfl ?_
              rw [if_pos q27]
              exact J158_73_ev sc n gg E hg (e1 + 1) he v17 _ _ _ _ _ _ _ h
            · rw [if_neg q27] at h
              refine pe_blk mm_158 1 (s' := (if v24 = 41 then 73 else 80, [some (.ref 16), some (.int x1), some (.int x2), u3, some (.int v17)], [], _, _, _)) rfl ?_
              rw [if_neg q27]
              exact J158_80_ev sc n gg E hg (e1 + 1) he _ _ _ _ _ _ _ _ h
        · rw [if_neg f22] at h
          cases h
def J158_39 (n : Nat) (gg : Int32 → Int32 → Mem → Option (Int32 × Mem)) (M : Mem) : Option (Int32 × Mem) :=
  some ((-1), M)
set_option maxRecDepth 100000 in
set_option maxHeartbeats 4000000 in
theorem J158_39_ev (sc : Option (Nat × (Nat → Int32))) (n : Nat) (gg : Int32 → Int32 → Mem → Option (Int32 × Mem)) (E : Nat) (hg : ∀ (a0 : Int32) (a1 : Int32)  (M : Mem) (e : Nat), E ≤ e → ∀ (r : Int32) (M' : Mem), gg a0 a1 M = some (r, M') → pm_ev pmT sc e 157 false (0, [some (.ref 16), some (.int a0), some (.int a1), none, none, none, none], [], 129, 17845, hp M) (some (.int r), 129, 17845, hp M')) (e : Nat) (he : 2 + E ≤ e) : ∀ (u0 : Option Value) (u1 : Option Value) (u2 : Option Value) (u3 : Option Value) (u4 : Option Value) (M : Mem) (r : Int32) (M' : Mem), J158_39 n gg  M = some (r, M') → pm_ev pmT sc e 158 false (39, [u0, u1, u2, u3, u4], [], 129, 17845, hp M) (some (.int r), 129, 17845, hp M') := by
  intro u0 u1 u2 u3 u4 M r M' h
  unfold J158_39 at h
  refine pe_blk mm_158 1 (s' := (40, [u0, u1, u2, u3, u4], [.int (-1)], _, _, _)) rfl ?_
  cases h
  exact pe_ret mm_158 rfl rfl
def J158_23 (n : Nat) (gg : Int32 → Int32 → Mem → Option (Int32 × Mem)) (x1 : Int32) (M : Mem) : Option (Int32 × Mem) :=
  some (x1 + 1, M)
set_option maxRecDepth 100000 in
set_option maxHeartbeats 4000000 in
theorem J158_23_ev (sc : Option (Nat × (Nat → Int32))) (n : Nat) (gg : Int32 → Int32 → Mem → Option (Int32 × Mem)) (E : Nat) (hg : ∀ (a0 : Int32) (a1 : Int32)  (M : Mem) (e : Nat), E ≤ e → ∀ (r : Int32) (M' : Mem), gg a0 a1 M = some (r, M') → pm_ev pmT sc e 157 false (0, [some (.ref 16), some (.int a0), some (.int a1), none, none, none, none], [], 129, 17845, hp M) (some (.int r), 129, 17845, hp M')) (e : Nat) (he : 2 + E ≤ e) : ∀ (x1 : Int32) (u0 : Option Value) (u2 : Option Value) (u3 : Option Value) (u4 : Option Value) (M : Mem) (r : Int32) (M' : Mem), J158_23 n gg x1 M = some (r, M') → pm_ev pmT sc e 158 false (23, [u0, some (.int x1), u2, u3, u4], [], 129, 17845, hp M) (some (.int r), 129, 17845, hp M') := by
  intro x1 u0 u2 u3 u4 M r M' h
  unfold J158_23 at h
  refine pe_blk mm_158 3 (s' := (26, [u0, some (.int x1), u2, u3, u4], [.int (x1 + 1)], _, _, _)) rfl ?_
  cases h
  exact pe_ret mm_158 rfl rfl
def J158_16 (n : Nat) (gg : Int32 → Int32 → Mem → Option (Int32 × Mem)) (x1 : Int32) (x2 : Int32) (x3 : Int32) (M : Mem) : Option (Int32 × Mem) :=
  match F12 n x3 M with | some (v11, M12) => (if v11 = 0 then (if x3 = 40 then (if x2 < 6 then (J158_41 n gg x1 x2 M12) else (J158_39 n gg M12)) else (J158_39 n gg M12)) else (J158_23 n gg x1 M12)) | none => none
set_option maxRecDepth 100000 in
set_option maxHeartbeats 4000000 in
theorem J158_16_ev (sc : Option (Nat × (Nat → Int32))) (n : Nat) (gg : Int32 → Int32 → Mem → Option (Int32 × Mem)) (E : Nat) (hg : ∀ (a0 : Int32) (a1 : Int32)  (M : Mem) (e : Nat), E ≤ e → ∀ (r : Int32) (M' : Mem), gg a0 a1 M = some (r, M') → pm_ev pmT sc e 157 false (0, [some (.ref 16), some (.int a0), some (.int a1), none, none, none, none], [], 129, 17845, hp M) (some (.int r), 129, 17845, hp M')) (e : Nat) (he : 2 + E ≤ e) : ∀ (x1 : Int32) (x2 : Int32) (x3 : Int32) (u4 : Option Value) (M : Mem) (r : Int32) (M' : Mem), J158_16 n gg x1 x2 x3 M = some (r, M') → pm_ev pmT sc e 158 false (16, [some (.ref 16), some (.int x1), some (.int x2), some (.int x3), u4], [], 129, 17845, hp M) (some (.int r), 129, 17845, hp M') := by
  intro x1 x2 x3 u4 M r M' h
  unfold J158_16 at h
  refine pe_blk mm_158 1 (s' := (17, [some (.ref 16), some (.int x1), some (.int x2), some (.int x3), u4], [.int x3], _, _, _)) rfl ?_
  obtain ⟨e1, rfl⟩ : ∃ e1, e = e1 + 1 := ⟨e - 1, by omega⟩
  cases hc13 : F12 n x3 M with
  | none => rw [hc13] at h; cases h
  | some w =>
    obtain ⟨v11, M12⟩ := w
    rw [hc13] at h
    dsimp only at h
    refine pe_stat (al := [.int x3]) (L0 := [some (.int x3)]) (r1 := (some (.int v11), 129, 17845, hp M12)) mm_158 rfl rfl rfl mm_12 rfl (Nat.le_of_ble_eq_true rfl) (Nat.le_of_ble_eq_true rfl) rfl rfl (F12_ev sc n x3 _ e1 (by omega) _ _ hc13) ?_
    show pm_ev _ _ _ _ _ (20, [some (.ref 16), some (.int x1), some (.int x2), some (.int x3), u4], [.int v11], _, _, _) _
    by_cases q14 : v11 = 0
    · rw [if_pos q14] at h
      refine pe_blk mm_158 1 (s' := (if v11 = 0 then 27 else 23, [some (.ref 16), some (.int x1), some (.int x2), some (.int x3), u4], [], _, _, _)) rfl ?_
      rw [if_pos q14]
      refine pe_blk mm_158 2 (s' := (30, [some (.ref 16), some (.int x1), some (.int x2), some (.int x3), u4], [.int 40, .int x3], _, _, _)) rfl ?_
      by_cases q15 : x3 = 40
      · rw [if_pos q15] at h
        refine pe_blk mm_158 1 (s' := (if x3 = 40 then 33 else 39, [some (.ref 16), some (.int x1), some (.int x2), some (.int x3), u4], [], _, _, _)) rfl ?_
        rw [if_pos q15]
        refine pe_blk mm_158 2 (s' := (36, [some (.ref 16), some (.int x1), some (.int x2), some (.int x3), u4], [.int 6, .int x2], _, _, _)) rfl ?_
        by_cases q16 : x2 < 6
        · rw [if_pos q16] at h
          refine pe_blk mm_158 1 (s' := (if x2 < 6 then 41 else 39, [some (.ref 16), some (.int x1), some (.int x2), some (.int x3), u4], [], _, _, _)) rfl ?_
          rw [if_pos q16]
          exact J158_41_ev sc n gg E hg (e1 + 1) he x1 x2 _ _ _ _ _ h
        · rw [if_neg q16] at h
          refine pe_blk mm_158 1 (s' := (if x2 < 6 then 41 else 39, [some (.ref 16), some (.int x1), some (.int x2), some (.int x3), u4], [], _, _, _)) rfl ?_
          rw [if_neg q16]
          exact J158_39_ev sc n gg E hg (e1 + 1) he _ _ _ _ _ _ _ _ h
      · rw [if_neg q15] at h
        refine pe_blk mm_158 1 (s' := (if x3 = 40 then 33 else 39, [some (.ref 16), some (.int x1), some (.int x2), some (.int x3), u4], [], _, _, _)) rfl ?_
        rw [if_neg q15]
        exact J158_39_ev sc n gg E hg (e1 + 1) he _ _ _ _ _ _ _ _ h
    · rw [if_neg q14] at h
      refine pe_blk mm_158 1 (s' := (if v11 = 0 then 27 else 23, [some (.ref 16), some (.int x1), some (.int x2), some (.int x3), u4], [], _, _, _)) rfl ?_
      rw [if_neg q14]
      exact J158_23_ev sc n gg E hg (e1 + 1) he x1 _ _ _ _ _ _ _ h
/-- ArmExpander$Matcher.endOfOperand -/
def G158 (n : Nat) (gg : Int32 → Int32 → Mem → Option (Int32 × Mem)) (a0 : Int32) (a1 : Int32) (M : Mem) : Option (Int32 × Mem) :=
  match M.2.1 16 6 with | some p1 => (if isR p1 then (match F170 n p1 a0 M with | some (v4, M5) => (match F11 n v4 M5 with | some (v7, M8) => (if v7 = 0 then (J158_16 n gg a0 a1 v4 M8) else (J158_23 n gg a0 M8)) | none => none) | none => none) else none) | none => none
set_option maxRecDepth 100000 in
set_option maxHeartbeats 4000000 in
theorem G158_ev (sc : Option (Nat × (Nat → Int32))) (n : Nat) (gg : Int32 → Int32 → Mem → Option (Int32 × Mem)) (a0 : Int32) (a1 : Int32) (E : Nat) (hg : ∀ (a0 : Int32) (a1 : Int32)  (M : Mem) (e : Nat), E ≤ e → ∀ (r : Int32) (M' : Mem), gg a0 a1 M = some (r, M') → pm_ev pmT sc e 157 false (0, [some (.ref 16), some (.int a0), some (.int a1), none, none, none, none], [], 129, 17845, hp M) (some (.int r), 129, 17845, hp M')) (M : Mem) (e : Nat) (he : 2 + E ≤ e) (r : Int32) (M' : Mem) (h : G158 n gg a0 a1 M = some (r, M')) : pm_ev pmT sc e 158 false (0, [some (.ref 16), some (.int a0), some (.int a1), none, none], [], 129, 17845, hp M) (some (.int r), 129, 17845, hp M') := by
  unfold G158 at h
  refine pe_blk mm_158 1 (s' := (1, [some (.ref 16), some (.int a0), some (.int a1), none, none], [.ref 16], _, _, _)) rfl ?_
  refine pe_get mm_158 rfl rfl rfl (by decide) rfl ?_
  show pm_ev _ _ _ _ _ (4, [some (.ref 16), some (.int a0), some (.int a1), none, none], va_rf (M.2.1 16 6) :: [], _, _, _) _
  cases hq3 : M.2.1 16 6 with
  | none => rw [hq3] at h; cases h
  | some p1 =>
    rw [hq3] at h
    dsimp only at h
    by_cases f2 : isR p1
    · rw [if_pos f2] at h
      show pm_ev _ _ _ _ _ (4, [some (.ref 16), some (.int a0), some (.int a1), none, none], [.ref p1], _, _, _) _
      refine pe_blk mm_158 1 (s' := (5, [some (.ref 16), some (.int a0), some (.int a1), none, none], [.int a0, .ref p1], _, _, _)) rfl ?_
      obtain ⟨e1, rfl⟩ : ∃ e1, e = e1 + 1 := ⟨e - 1, by omega⟩
      cases hc6 : F170 n p1 a0 M with
      | none => rw [hc6] at h; cases h
      | some w =>
        obtain ⟨v4, M5⟩ := w
        rw [hc6] at h
        dsimp only at h
        refine pe_virt (al := [.int a0]) (a := p1) (L0 := [some (.ref p1), some (.int a0)]) (r1 := (some (.int v4), 129, 17845, hp M5)) mm_158 rfl rfl rfl mm_170 (isR_0 f2 _) (by have := isR_lt f2; omega) (by decide) rfl (Nat.le_of_ble_eq_true rfl) (Nat.le_of_ble_eq_true rfl) rfl rfl (F170_ev sc n p1 a0 f2 _ e1 (by omega) _ _ hc6) ?_
        show pm_ev _ _ _ _ _ (8, [some (.ref 16), some (.int a0), some (.int a1), none, none], [.int v4], _, _, _) _
        refine pe_blk mm_158 2 (s' := (10, [some (.ref 16), some (.int a0), some (.int a1), some (.int v4), none], [.int v4], _, _, _)) rfl ?_
        skip
        cases hc9 : F11 n v4 M5 with
        | none => rw [hc9] at h; cases h
        | some w =>
          obtain ⟨v7, M8⟩ := w
          rw [hc9] at h
          dsimp only at h
          refine pe_stat (al := [.int v4]) (L0 := [some (.int v4)]) (r1 := (some (.int v7), 129, 17845, hp M8)) mm_158 rfl rfl rfl mm_11 rfl (Nat.le_of_ble_eq_true rfl) (Nat.le_of_ble_eq_true rfl) rfl rfl (F11_ev sc n v4 _ e1 (by omega) _ _ hc9) ?_
          show pm_ev _ _ _ _ _ (13, [some (.ref 16), some (.int a0), some (.int a1), some (.int v4), none], [.int v7], _, _, _) _
          by_cases q10 : v7 = 0
          · rw [if_pos q10] at h
            refine pe_blk mm_158 1 (s' := (if v7 = 0 then 16 else 23, [some (.ref 16), some (.int a0), some (.int a1), some (.int v4), none], [], _, _, _)) rfl ?_
            rw [if_pos q10]
            exact J158_16_ev sc n gg E hg (e1 + 1) he a0 a1 v4 _ _ _ _ h
          · rw [if_neg q10] at h
            refine pe_blk mm_158 1 (s' := (if v7 = 0 then 16 else 23, [some (.ref 16), some (.int a0), some (.int a1), some (.int v4), none], [], _, _, _)) rfl ?_
            rw [if_neg q10]
            exact J158_23_ev sc n gg E hg (e1 + 1) he a0 _ _ _ _ _ _ _ h
    · rw [if_neg f2] at h
      cases h
def J157_74 (n : Nat) (gg : Int32 → Int32 → Mem → Option (Int32 × Mem)) (x3 : Int32) (M : Mem) : Option (Int32 × Mem) :=
  some (x3, M)
set_option maxRecDepth 100000 in
set_option maxHeartbeats 4000000 in
theorem J157_74_ev (sc : Option (Nat × (Nat → Int32))) (n : Nat) (gg : Int32 → Int32 → Mem → Option (Int32 × Mem)) (E : Nat) (hg : ∀ (a0 : Int32) (a1 : Int32)  (M : Mem) (e : Nat), E ≤ e → ∀ (r : Int32) (M' : Mem), gg a0 a1 M = some (r, M') → pm_ev pmT sc e 157 false (0, [some (.ref 16), some (.int a0), some (.int a1), none, none, none, none], [], 129, 17845, hp M) (some (.int r), 129, 17845, hp M')) (e : Nat) (he : 3 + E ≤ e) : ∀ (x3 : Int32) (u0 : Option Value) (u1 : Option Value) (u2 : Option Value) (u4 : Option Value) (u5 : Option Value) (u6 : Option Value) (M : Mem) (r : Int32) (M' : Mem), J157_74 n gg x3 M = some (r, M') → pm_ev pmT sc e 157 false (74, [u0, u1, u2, some (.int x3), u4, u5, u6], [], 129, 17845, hp M) (some (.int r), 129, 17845, hp M') := by
  intro x3 u0 u1 u2 u4 u5 u6 M r M' h
  unfold J157_74 at h
  refine pe_blk mm_157 1 (s' := (75, [u0, u1, u2, some (.int x3), u4, u5, u6], [.int x3], _, _, _)) rfl ?_
  cases h
  exact pe_ret mm_157 rfl rfl
def J157_66 (n : Nat) (gg : Int32 → Int32 → Mem → Option (Int32 × Mem)) (rec13 : Int32 → Int32 → Int32 → Int32 → Mem → Option (Int32 × Mem)) (x2 : Int32) (x3 : Int32) (x5 : Int32) (s0 : Int32) (M : Mem) : Option (Int32 × Mem) :=
  rec13 x2 x3 s0 (x5 + 1) M
set_option maxRecDepth 100000 in
set_option maxHeartbeats 4000000 in
theorem J157_66_ev (sc : Option (Nat × (Nat → Int32))) (n : Nat) (gg : Int32 → Int32 → Mem → Option (Int32 × Mem)) (E : Nat) (hg : ∀ (a0 : Int32) (a1 : Int32)  (M : Mem) (e : Nat), E ≤ e → ∀ (r : Int32) (M' : Mem), gg a0 a1 M = some (r, M') → pm_ev pmT sc e 157 false (0, [some (.ref 16), some (.int a0), some (.int a1), none, none, none, none], [], 129, 17845, hp M) (some (.int r), 129, 17845, hp M')) (e : Nat) (he : 3 + E ≤ e) (rec13 : Int32 → Int32 → Int32 → Int32 → Mem → Option (Int32 × Mem)) (hr13 : ∀ (x2 : Int32) (x3 : Int32) (x4 : Int32) (x5 : Int32) (u1 : Option Value) (u6 : Option Value) (M : Mem) (r : Int32) (M' : Mem), rec13 x2 x3 x4 x5 M = some (r, M') → pm_ev pmT sc e 157 false (13, [some (.ref 16), u1, some (.int x2), some (.int x3), some (.int x4), some (.int x5), u6], [], 129, 17845, hp M) (some (.int r), 129, 17845, hp M')) : ∀ (x2 : Int32) (x3 : Int32) (x5 : Int32) (s0 : Int32) (u1 : Option Value) (u4 : Option Value) (u6 : Option Value) (M : Mem) (r : Int32) (M' : Mem), J157_66 n gg rec13 x2 x3 x5 s0 M = some (r, M') → pm_ev pmT sc e 157 false (66, [some (.ref 16), u1, some (.int x2), some (.int x3), u4, some (.int x5), u6], [.int s0], 129, 17845, hp M) (some (.int r), 129, 17845, hp M') := by
  intro x2 x3 x5 s0 u1 u4 u6 M r M' h
  unfold J157_66 at h
  refine pe_blk mm_157 3 (s' := (13, [some (.ref 16), u1, some (.int x2), some (.int x3), some (.int s0), some (.int (x5 + 1)), u6], [], _, _, _)) rfl ?_
  exact hr13 x2 x3 s0 (x5 + 1) _ _ _ _ _ h
def J157_54 (n : Nat) (gg : Int32 → Int32 → Mem → Option (Int32 × Mem)) (rec13 : Int32 → Int32 → Int32 → Int32 → Mem → Option (Int32 × Mem)) (x2 : Int32) (x3 : Int32) (x5 : Int32) (M : Mem) : Option (Int32 × Mem) :=
  match G158 n gg (x3 + 1) x2 M with | some (v13, M14) => (J157_66 n gg rec13 x2 x3 x5 v13 M14) | none => none
set_option maxRecDepth 100000 in
set_option maxHeartbeats 4000000 in
theorem J157_54_ev (sc : Option (Nat × (Nat → Int32))) (n : Nat) (gg : Int32 → Int32 → Mem → Option (Int32 × Mem)) (E : Nat) (hg : ∀ (a0 : Int32) (a1 : Int32)  (M : Mem) (e : Nat), E ≤ e → ∀ (r : Int32) (M' : Mem), gg a0 a1 M = some (r, M') → pm_ev pmT sc e 157 false (0, [some (.ref 16), some (.int a0), some (.int a1), none, none, none, none], [], 129, 17845, hp M) (some (.int r), 129, 17845, hp M')) (e : Nat) (he : 3 + E ≤ e) (rec13 : Int32 → Int32 → Int32 → Int32 → Mem → Option (Int32 × Mem)) (hr13 : ∀ (x2 : Int32) (x3 : Int32) (x4 : Int32) (x5 : Int32) (u1 : Option Value) (u6 : Option Value) (M : Mem) (r : Int32) (M' : Mem), rec13 x2 x3 x4 x5 M = some (r, M') → pm_ev pmT sc e 157 false (13, [some (.ref 16), u1, some (.int x2), some (.int x3), some (.int x4), some (.int x5), u6], [], 129, 17845, hp M) (some (.int r), 129, 17845, hp M')) : ∀ (x2 : Int32) (x3 : Int32) (x5 : Int32) (u1 : Option Value) (u4 : Option Value) (u6 : Option Value) (M : Mem) (r : Int32) (M' : Mem), J157_54 n gg rec13 x2 x3 x5 M = some (r, M') → pm_ev pmT sc e 157 false (54, [some (.ref 16), u1, some (.int x2), some (.int x3), u4, some (.int x5), u6], [], 129, 17845, hp M) (some (.int r), 129, 17845, hp M') := by
  intro x2 x3 x5 u1 u4 u6 M r M' h
  unfold J157_54 at h
  refine pe_blk mm_157 5 (s' := (59, [some (.ref 16), u1, some (.int x2), some (.int x3), u4, some (.int x5), u6], [.int x2, .int (x3 + 1), .ref 16], _, _, _)) rfl ?_
  obtain ⟨e1, rfl⟩ : ∃ e1, e = e1 + 1 := ⟨e - 1, by omega⟩
  cases hc15 : G158 n gg (x3 + 1) x2 M with
  | none => rw [hc15] at h; cases h
  | some w =>
    obtain ⟨v13, M14⟩ := w
    rw [hc15] at h
    dsimp only at h
    refine pe_virt (al := [.int x2, .int (x3 + 1)]) (a := 16) (L0 := [some (.ref 16), some (.int (x3 + 1)), some (.int x2), none, none]) (r1 := (some (.int v13), 129, 17845, hp M14)) mm_157 rfl rfl rfl mm_158 rfl (by decide) (by decide) rfl (Nat.le_of_ble_eq_true rfl) (Nat.le_of_ble_eq_true rfl) rfl rfl (G158_ev sc n gg (x3 + 1) x2 E hg _ e1 (by omega) _ _ hc15) ?_
    show pm_ev _ _ _ _ _ (62, [some (.ref 16), u1, some (.int x2), some (.int x3), u4, some (.int x5), u6], [.int v13], _, _, _) _
    refine pe_blk mm_157 1 (s' := (66, [some (.ref 16), u1, some (.int x2), some (.int x3), u4, some (.int x5), u6], [.int v13], _, _, _)) rfl ?_
    exact J157_66_ev sc n gg E hg (e1 + 1) he rec13 hr13 x2 x3 x5 v13 _ _ _ _ _ _ h
def J157_40 (n : Nat) (gg : Int32 → Int32 → Mem → Option (Int32 × Mem)) (rec13 : Int32 → Int32 → Int32 → Int32 → Mem → Option (Int32 × Mem)) (x2 : Int32) (x3 : Int32) (x5 : Int32) (x6 : Int32) (M : Mem) : Option (Int32 × Mem) :=
  if x6 = 43 then (J157_54 n gg rec13 x2 x3 x5 M) else (if x6 = 42 then (J157_54 n gg rec13 x2 x3 x5 M) else (J157_66 n gg rec13 x2 x3 x5 (-1) M))
set_option maxRecDepth 100000 in
set_option maxHeartbeats 4000000 in
theorem J157_40_ev (sc : Option (Nat × (Nat → Int32))) (n : Nat) (gg : Int32 → Int32 → Mem → Option (Int32 × Mem)) (E : Nat) (hg : ∀ (a0 : Int32) (a1 : Int32)  (M : Mem) (e : Nat), E ≤ e → ∀ (r : Int32) (M' : Mem), gg a0 a1 M = some (r, M') → pm_ev pmT sc e 157 false (0, [some (.ref 16), some (.int a0), some (.int a1), none, none, none, none], [], 129, 17845, hp M) (some (.int r), 129, 17845, hp M')) (e : Nat) (he : 3 + E ≤ e) (rec13 : Int32 → Int32 → Int32 → Int32 → Mem → Option (Int32 × Mem)) (hr13 : ∀ (x2 : Int32) (x3 : Int32) (x4 : Int32) (x5 : Int32) (u1 : Option Value) (u6 : Option Value) (M : Mem) (r : Int32) (M' : Mem), rec13 x2 x3 x4 x5 M = some (r, M') → pm_ev pmT sc e 157 false (13, [some (.ref 16), u1, some (.int x2), some (.int x3), some (.int x4), some (.int x5), u6], [], 129, 17845, hp M) (some (.int r), 129, 17845, hp M')) : ∀ (x2 : Int32) (x3 : Int32) (x5 : Int32) (x6 : Int32) (u1 : Option Value) (u4 : Option Value) (M : Mem) (r : Int32) (M' : Mem), J157_40 n gg rec13 x2 x3 x5 x6 M = some (r, M') → pm_ev pmT sc e 157 false (40, [some (.ref 16), u1, some (.int x2), some (.int x3), u4, some (.int x5), some (.int x6)], [], 129, 17845, hp M) (some (.int r), 129, 17845, hp M') := by
  intro x2 x3 x5 x6 u1 u4 M r M' h
  unfold J157_40 at h
  refine pe_blk mm_157 2 (s' := (44, [some (.ref 16), u1, some (.int x2), some (.int x3), u4, some (.int x5), some (.int x6)], [.int 43, .int x6], _, _, _)) rfl ?_
  by_cases q12 : x6 = 43
  · rw [if_pos q12] at h
    refine pe_blk mm_157 1 (s' := (if x6 = 43 then 54 else 47, [some (.ref 16), u1, some (.int x2), some (.int x3), u4, some (.int x5), some (.int x6)], [], _, _, _)) rfl ?_
    rw [if_pos q12]
    exact J157_54_ev sc n gg E hg e he rec13 hr13 x2 x3 x5 _ _ _ _ _ _ h
  · rw [if_neg q12] at h
    refine pe_blk mm_157 1 (s' := (if x6 = 43 then 54 else 47, [some (.ref 16), u1, some (.int x2), some (.int x3), u4, some (.int x5), some (.int x6)], [], _, _, _)) rfl ?_
    rw [if_neg q12]
    refine pe_blk mm_157 2 (s' := (51, [some (.ref 16), u1, some (.int x2), some (.int x3), u4, some (.int x5), some (.int x6)], [.int 42, .int x6], _, _, _)) rfl ?_
    by_cases q16 : x6 = 42
    · rw [if_pos q16] at h
      refine pe_blk mm_157 1 (s' := (if x6 = 42 then 54 else 65, [some (.ref 16), u1, some (.int x2), some (.int x3), u4, some (.int x5), some (.int x6)], [], _, _, _)) rfl ?_
      rw [if_pos q16]
      exact J157_54_ev sc n gg E hg e he rec13 hr13 x2 x3 x5 _ _ _ _ _ _ h
    · rw [if_neg q16] at h
      refine pe_blk mm_157 1 (s' := (if x6 = 42 then 54 else 65, [some (.ref 16), u1, some (.int x2), some (.int x3), u4, some (.int x5), some (.int x6)], [], _, _, _)) rfl ?_
      rw [if_neg q16]
      refine pe_blk mm_157 1 (s' := (66, [some (.ref 16), u1, some (.int x2), some (.int x3), u4, some (.int x5), some (.int x6)], [.int (-1)], _, _, _)) rfl ?_
      exact J157_66_ev sc n gg E hg e he rec13 hr13 x2 x3 x5 (-1) _ _ _ _ _ _ h
def L157_13 (n : Nat) (gg : Int32 → Int32 → Mem → Option (Int32 × Mem)) : Nat → Int32 → Int32 → Int32 → Int32 → Mem → Option (Int32 × Mem)
  | 0, _, _, _, _, _ => none
  | k + 1, x2, x3, x4, x5, M => if 150 ≤ x5 then (J157_74 n gg x3 M) else (if x4 = (-1) then (J157_74 n gg x3 M) else (match M.2.1 16 6 with | some p6 => (if isR p6 then (match F170 n p6 x4 M with | some (v9, M10) => (J157_40 n gg (L157_13 n gg k) x2 x4 x5 v9 M10) | none => none) else none) | none => none))
set_option maxRecDepth 100000 in
set_option maxHeartbeats 4000000 in
theorem L157_13_ev (sc : Option (Nat × (Nat → Int32))) (n : Nat) (gg : Int32 → Int32 → Mem → Option (Int32 × Mem)) (E : Nat) (hg : ∀ (a0 : Int32) (a1 : Int32)  (M : Mem) (e : Nat), E ≤ e → ∀ (r : Int32) (M' : Mem), gg a0 a1 M = some (r, M') → pm_ev pmT sc e 157 false (0, [some (.ref 16), some (.int a0), some (.int a1), none, none, none, none], [], 129, 17845, hp M) (some (.int r), 129, 17845, hp M')) (e : Nat) (he : 3 + E ≤ e) : ∀ k : Nat, ∀ (x2 : Int32) (x3 : Int32) (x4 : Int32) (x5 : Int32) (u1 : Option Value) (u6 : Option Value) (M : Mem) (r : Int32) (M' : Mem), L157_13 n gg k x2 x3 x4 x5 M = some (r, M') → pm_ev pmT sc e 157 false (13, [some (.ref 16), u1, some (.int x2), some (.int x3), some (.int x4), some (.int x5), u6], [], 129, 17845, hp M) (some (.int r), 129, 17845, hp M') := by
  intro k
  induction k with
  | zero => intro x2 x3 x4 x5 u1 u6 M r M' h; cases h
  | succ k hr13 =>
    intro x2 x3 x4 x5 u1 u6 M r M' h
    rw [L157_13] at h
    refine pe_blk mm_157 2 (s' := (18, [some (.ref 16), u1, some (.int x2), some (.int x3), some (.int x4), some (.int x5), u6], [.int 150, .int x5], _, _, _)) rfl ?_
    by_cases q4 : 150 ≤ x5
    · rw [if_pos q4] at h
      refine pe_blk mm_157 1 (s' := (if 150 ≤ x5 then 74 else 21, [some (.ref 16), u1, some (.int x2), some (.int x3), some (.int x4), some (.int x5), u6], [], _, _, _)) rfl ?_
      rw [if_pos q4]
      exact J157_74_ev sc n gg E hg e he x3 _ _ _ _ _ _ _ _ _ h
    · rw [if_neg q4] at h
      refine pe_blk mm_157 1 (s' := (if 150 ≤ x5 then 74 else 21, [some (.ref 16), u1, some (.int x2), some (.int x3), some (.int x4), some (.int x5), u6], [], _, _, _)) rfl ?_
      rw [if_neg q4]
      refine pe_blk mm_157 2 (s' := (24, [some (.ref 16), u1, some (.int x2), some (.int x3), some (.int x4), some (.int x5), u6], [.int (-1), .int x4], _, _, _)) rfl ?_
      by_cases q5 : x4 = (-1)
      · rw [if_pos q5] at h
        refine pe_blk mm_157 1 (s' := (if x4 = (-1) then 74 else 27, [some (.ref 16), u1, some (.int x2), some (.int x3), some (.int x4), some (.int x5), u6], [], _, _, _)) rfl ?_
        rw [if_pos q5]
        exact J157_74_ev sc n gg E hg e he x3 _ _ _ _ _ _ _ _ _ h
      · rw [if_neg q5] at h
        refine pe_blk mm_157 1 (s' := (if x4 = (-1) then 74 else 27, [some (.ref 16), u1, some (.int x2), some (.int x3), some (.int x4), some (.int x5), u6], [], _, _, _)) rfl ?_
        rw [if_neg q5]
        refine pe_blk mm_157 3 (s' := (31, [some (.ref 16), u1, some (.int x2), some (.int x4), some (.int x4), some (.int x5), u6], [.ref 16], _, _, _)) rfl ?_
        refine pe_get mm_157 rfl rfl rfl (by decide) rfl ?_
        show pm_ev _ _ _ _ _ (34, [some (.ref 16), u1, some (.int x2), some (.int x4), some (.int x4), some (.int x5), u6], va_rf (M.2.1 16 6) :: [], _, _, _) _
        cases hq8 : M.2.1 16 6 with
        | none => rw [hq8] at h; cases h
        | some p6 =>
          rw [hq8] at h
          dsimp only at h
          by_cases f7 : isR p6
          · rw [if_pos f7] at h
            show pm_ev _ _ _ _ _ (34, [some (.ref 16), u1, some (.int x2), some (.int x4), some (.int x4), some (.int x5), u6], [.ref p6], _, _, _) _
            refine pe_blk mm_157 1 (s' := (35, [some (.ref 16), u1, some (.int x2), some (.int x4), some (.int x4), some (.int x5), u6], [.int x4, .ref p6], _, _, _)) rfl ?_
            obtain ⟨e1, rfl⟩ : ∃ e1, e = e1 + 1 := ⟨e - 1, by omega⟩
            cases hc11 : F170 n p6 x4 M with
            | none => rw [hc11] at h; cases h
            | some w =>
              obtain ⟨v9, M10⟩ := w
              rw [hc11] at h
              dsimp only at h
              refine pe_virt (al := [.int x4]) (a := p6) (L0 := [some (.ref p6), some (.int x4)]) (r1 := (some (.int v9), 129, 17845, hp M10)) mm_157 rfl rfl rfl mm_170 (isR_0 f7 _) (by have := isR_lt f7; omega) (by decide) rfl (Nat.le_of_ble_eq_true rfl) (Nat.le_of_ble_eq_true rfl) rfl rfl (F170_ev sc n p6 x4 f7 _ e1 (by omega) _ _ hc11) ?_
              show pm_ev _ _ _ _ _ (38, [some (.ref 16), u1, some (.int x2), some (.int x4), some (.int x4), some (.int x5), u6], [.int v9], _, _, _) _
              refine pe_blk mm_157 1 (s' := (40, [some (.ref 16), u1, some (.int x2), some (.int x4), some (.int x4), some (.int x5), some (.int v9)], [], _, _, _)) rfl ?_
              exact J157_40_ev sc n gg E hg (e1 + 1) he (L157_13 n gg k) hr13 x2 x4 x5 v9 _ _ _ _ _ h
          · rw [if_neg f7] at h
            cases h
/-- ArmExpander$Matcher.endOfExpression -/
def G157 (n : Nat) (gg : Int32 → Int32 → Mem → Option (Int32 × Mem)) (a0 : Int32) (a1 : Int32) (M : Mem) : Option (Int32 × Mem) :=
  match G158 n gg a0 a1 M with | some (v1, M2) => (L157_13 n gg n a1 v1 v1 0 M2) | none => none
set_option maxRecDepth 100000 in
set_option maxHeartbeats 4000000 in
theorem G157_ev (sc : Option (Nat × (Nat → Int32))) (n : Nat) (gg : Int32 → Int32 → Mem → Option (Int32 × Mem)) (a0 : Int32) (a1 : Int32) (E : Nat) (hg : ∀ (a0 : Int32) (a1 : Int32)  (M : Mem) (e : Nat), E ≤ e → ∀ (r : Int32) (M' : Mem), gg a0 a1 M = some (r, M') → pm_ev pmT sc e 157 false (0, [some (.ref 16), some (.int a0), some (.int a1), none, none, none, none], [], 129, 17845, hp M) (some (.int r), 129, 17845, hp M')) (M : Mem) (e : Nat) (he : 3 + E ≤ e) (r : Int32) (M' : Mem) (h : G157 n gg a0 a1 M = some (r, M')) : pm_ev pmT sc e 157 false (0, [some (.ref 16), some (.int a0), some (.int a1), none, none, none, none], [], 129, 17845, hp M) (some (.int r), 129, 17845, hp M') := by
  unfold G157 at h
  refine pe_blk mm_157 3 (s' := (3, [some (.ref 16), some (.int a0), some (.int a1), none, none, none, none], [.int a1, .int a0, .ref 16], _, _, _)) rfl ?_
  obtain ⟨e1, rfl⟩ : ∃ e1, e = e1 + 1 := ⟨e - 1, by omega⟩
  cases hc3 : G158 n gg a0 a1 M with
  | none => rw [hc3] at h; cases h
  | some w =>
    obtain ⟨v1, M2⟩ := w
    rw [hc3] at h
    dsimp only at h
    refine pe_virt (al := [.int a1, .int a0]) (a := 16) (L0 := [some (.ref 16), some (.int a0), some (.int a1), none, none]) (r1 := (some (.int v1), 129, 17845, hp M2)) mm_157 rfl rfl rfl mm_158 rfl (by decide) (by decide) rfl (Nat.le_of_ble_eq_true rfl) (Nat.le_of_ble_eq_true rfl) rfl rfl (G158_ev sc n gg a0 a1 E hg _ e1 (by omega) _ _ hc3) ?_
    show pm_ev _ _ _ _ _ (6, [some (.ref 16), some (.int a0), some (.int a1), none, none, none, none], [.int v1], _, _, _) _
    refine pe_blk mm_157 5 (s' := (13, [some (.ref 16), some (.int a0), some (.int a1), some (.int v1), some (.int v1), some (.int 0), none], [], _, _, _)) rfl ?_
    exact L157_13_ev sc n gg E hg (e1 + 1) he n a1 v1 v1 0 _ _ _ _ _ h
def K157 (n : Nat) : Nat → Int32 → Int32 → Mem → Option (Int32 × Mem)
  | 0, _, _, _ => none
  | k + 1, a0, a1, M => G157 n (K157 n k) a0 a1 M
theorem K157_ev (sc : Option (Nat × (Nat → Int32))) (n : Nat) : ∀ (k : Nat) (a0 : Int32) (a1 : Int32)  (M : Mem) (e : Nat), 3 * k ≤ e → ∀ (r : Int32) (M' : Mem), K157 n k a0 a1 M = some (r, M') → pm_ev pmT sc e 157 false (0, [some (.ref 16), some (.int a0), some (.int a1), none, none, none, none], [], 129, 17845, hp M) (some (.int r), 129, 17845, hp M') := by
  intro k
  induction k with
  | zero => intro a0 a1  M e he r M' h; cases h
  | succ k ih => intro a0 a1  M e he r M' h; exact G157_ev sc n (K157 n k) a0 a1 (3 * k) ih  M e (by omega) r M' h
/-- ArmExpander$Matcher.endOfExpression -/
def F157 (n : Nat) (a0 : Int32) (a1 : Int32) (M : Mem) : Option (Int32 × Mem) := K157 n 8 a0 a1 M
theorem F157_ev (sc : Option (Nat × (Nat → Int32))) (n : Nat) (a0 : Int32) (a1 : Int32)  (M : Mem) (e : Nat) (he : 24 ≤ e) (r : Int32) (M' : Mem) (h : F157 n a0 a1 M = some (r, M')) : pm_ev pmT sc e 157 false (0, [some (.ref 16), some (.int a0), some (.int a1), none, none, none, none], [], 129, 17845, hp M) (some (.int r), 129, 17845, hp M') := K157_ev sc n 8 a0 a1  M e he r M' h
def J153_51 (n : Nat) (s0 : Int32) (M : Mem) : Option (Int32 × Mem) :=
  some (s0, M)
set_option maxRecDepth 100000 in
set_option maxHeartbeats 4000000 in
theorem J153_51_ev (sc : Option (Nat × (Nat → Int32))) (n : Nat)  (e : Nat) (he : 25 ≤ e) : ∀ (s0 : Int32) (u0 : Option Value) (u1 : Option Value) (u2 : Option Value) (M : Mem) (r : Int32) (M' : Mem), J153_51 n s0 M = some (r, M') → pm_ev pmT sc e 153 false (51, [u0, u1, u2], [.int s0], 129, 17845, hp M) (some (.int r), 129, 17845, hp M') := by
  intro s0 u0 u1 u2 M r M' h
  unfold J153_51 at h
  cases h
  exact pe_ret mm_153 rfl rfl
def J153_48 (n : Nat) (x2 : Int32) (M : Mem) : Option (Int32 × Mem) :=
  J153_51 n (x2 + 1) M
set_option maxRecDepth 100000 in
set_option maxHeartbeats 4000000 in
theorem J153_48_ev (sc : Option (Nat × (Nat → Int32))) (n : Nat)  (e : Nat) (he : 25 ≤ e) : ∀ (x2 : Int32) (u0 : Option Value) (u1 : Option Value) (M : Mem) (r : Int32) (M' : Mem), J153_48 n x2 M = some (r, M') → pm_ev pmT sc e 153 false (48, [u0, u1, some (.int x2)], [], 129, 17845, hp M) (some (.int r), 129, 17845, hp M') := by
  intro x2 u0 u1 M r M' h
  unfold J153_48 at h
  refine pe_blk mm_153 3 (s' := (51, [u0, u1, some (.int x2)], [.int (x2 + 1)], _, _, _)) rfl ?_
  exact J153_51_ev sc n e he (x2 + 1) _ _ _ _ _ _ h
def J153_35 (n : Nat) (x2 : Int32) (M : Mem) : Option (Int32 × Mem) :=
  match M.2.1 16 6 with | some p16 => (if isR p16 then (match F172 n p16 x2 M with | some (v19, M20) => (J153_51 n (v19 + 1) M20) | none => none) else none) | none => none
set_option maxRecDepth 100000 in
set_option maxHeartbeats 4000000 in
theorem J153_35_ev (sc : Option (Nat × (Nat → Int32))) (n : Nat)  (e : Nat) (he : 25 ≤ e) : ∀ (x2 : Int32) (u1 : Option Value) (M : Mem) (r : Int32) (M' : Mem), J153_35 n x2 M = some (r, M') → pm_ev pmT sc e 153 false (35, [some (.ref 16), u1, some (.int x2)], [], 129, 17845, hp M) (some (.int r), 129, 17845, hp M') := by
  intro x2 u1 M r M' h
  unfold J153_35 at h
  refine pe_blk mm_153 1 (s' := (36, [some (.ref 16), u1, some (.int x2)], [.ref 16], _, _, _)) rfl ?_
  refine pe_get mm_153 rfl rfl rfl (by decide) rfl ?_
  show pm_ev _ _ _ _ _ (39, [some (.ref 16), u1, some (.int x2)], va_rf (M.2.1 16 6) :: [], _, _, _) _
  cases hq18 : M.2.1 16 6 with
  | none => rw [hq18] at h; cases h
  | some p16 =>
    rw [hq18] at h
    dsimp only at h
    by_cases f17 : isR p16
    · rw [if_pos f17] at h
      show pm_ev _ _ _ _ _ (39, [some (.ref 16), u1, some (.int x2)], [.ref p16], _, _, _) _
      refine pe_blk mm_153 1 (s' := (40, [some (.ref 16), u1, some (.int x2)], [.int x2, .ref p16], _, _, _)) rfl ?_
      obtain ⟨e1, rfl⟩ : ∃ e1, e = e1 + 1 := ⟨e - 1, by omega⟩
      cases hc21 : F172 n p16 x2 M with
      | none => rw [hc21] at h; cases h
      | some w =>
        obtain ⟨v19, M20⟩ := w
        rw [hc21] at h
        dsimp only at h
        refine pe_virt (al := [.int x2]) (a := p16) (L0 := [some (.ref p16), some (.int x2), none, none]) (r1 := (some (.int v19), 129, 17845, hp M20)) mm_153 rfl rfl rfl mm_172 (isR_0 f17 _) (by have := isR_lt f17; omega) (by decide) rfl (Nat.le_of_ble_eq_true rfl) (Nat.le_of_ble_eq_true rfl) rfl rfl (F172_ev sc n p16 x2 f17 _ e1 (by omega) _ _ hc21) ?_
        show pm_ev _ _ _ _ _ (43, [some (.ref 16), u1, some (.int x2)], [.int v19], _, _, _) _
        refine pe_blk mm_153 3 (s' := (51, [some (.ref 16), u1, some (.int x2)], [.int (v19 + 1)], _, _, _)) rfl ?_
        exact J153_51_ev sc n (e1 + 1) he (v19 + 1) _ _ _ _ _ _ h
    · rw [if_neg f17] at h
      cases h
/-- ArmExpander$Matcher.endOfTaken -/
def F153 (n : Nat) (a0 : Int32) (a1 : Int32) (M : Mem) : Option (Int32 × Mem) :=
  if a0 = 1159 then (match F157 n a1 0 M with | some (v2, M3) => (some (v2, M3)) | none => none) else (if a0 = 1560 then (match M.2.1 16 6 with | some p6 => (if isR p6 then (match F170 n p6 a1 M with | some (v9, M10) => (match F13 n v9 M10 with | some (v12, M13) => (if v12 = 0 then (J153_48 n a1 M13) else (J153_35 n a1 M13)) | none => none) | none => none) else none) | none => none) else (J153_48 n a1 M))
set_option maxRecDepth 100000 in
set_option maxHeartbeats 4000000 in
theorem F153_ev (sc : Option (Nat × (Nat → Int32))) (n : Nat) (a0 : Int32) (a1 : Int32)  (M : Mem) (e : Nat) (he : 25 ≤ e) (r : Int32) (M' : Mem) (h : F153 n a0 a1 M = some (r, M')) : pm_ev pmT sc e 153 false (0, [some (.ref 16), some (.int a0), some (.int a1)], [], 129, 17845, hp M) (some (.int r), 129, 17845, hp M') := by
  unfold F153 at h
  refine pe_blk mm_153 2 (s' := (4, [some (.ref 16), some (.int a0), some (.int a1)], [.int 1159, .int a0], _, _, _)) rfl ?_
  by_cases q1 : a0 = 1159
  · rw [if_pos q1] at h
    refine pe_blk mm_153 1 (s' := (if a0 = 1159 then 7 else 14, [some (.ref 16), some (.int a0), some (.int a1)], [], _, _, _)) rfl ?_
    rw [if_pos q1]
    refine pe_blk mm_153 3 (s' := (10, [some (.ref 16), some (.int a0), some (.int a1)], [.int 0, .int a1, .ref 16], _, _, _)) rfl ?_
    obtain ⟨e1, rfl⟩ : ∃ e1, e = e1 + 1 := ⟨e - 1, by omega⟩
    cases hc4 : F157 n a1 0 M with
    | none => rw [hc4] at h; cases h
    | some w =>
      obtain ⟨v2, M3⟩ := w
      rw [hc4] at h
      dsimp only at h
      refine pe_virt (al := [.int 0, .int a1]) (a := 16) (L0 := [some (.ref 16), some (.int a1), some (.int 0), none, none, none, none]) (r1 := (some (.int v2), 129, 17845, hp M3)) mm_153 rfl rfl rfl mm_157 rfl (by decide) (by decide) rfl (Nat.le_of_ble_eq_true rfl) (Nat.le_of_ble_eq_true rfl) rfl rfl (F157_ev sc n a1 0 _ e1 (by omega) _ _ hc4) ?_
      show pm_ev _ _ _ _ _ (13, [some (.ref 16), some (.int a0), some (.int a1)], [.int v2], _, _, _) _
      cases h
      exact pe_ret mm_153 rfl rfl
  · rw [if_neg q1] at h
    refine pe_blk mm_153 1 (s' := (if a0 = 1159 then 7 else 14, [some (.ref 16), some (.int a0), some (.int a1)], [], _, _, _)) rfl ?_
    rw [if_neg q1]
    refine pe_blk mm_153 2 (s' := (18, [some (.ref 16), some (.int a0), some (.int a1)], [.int 1560, .int a0], _, _, _)) rfl ?_
    by_cases q5 : a0 = 1560
    · rw [if_pos q5] at h
      refine pe_blk mm_153 1 (s' := (if a0 = 1560 then 21 else 48, [some (.ref 16), some (.int a0), some (.int a1)], [], _, _, _)) rfl ?_
      rw [if_pos q5]
      refine pe_blk mm_153 1 (s' := (22, [some (.ref 16), some (.int a0), some (.int a1)], [.ref 16], _, _, _)) rfl ?_
      refine pe_get mm_153 rfl rfl rfl (by decide) rfl ?_
      show pm_ev _ _ _ _ _ (25, [some (.ref 16), some (.int a0), some (.int a1)], va_rf (M.2.1 16 6) :: [], _, _, _) _
      cases hq8 : M.2.1 16 6 with
      | none => rw [hq8] at h; cases h
      | some p6 =>
        rw [hq8] at h
        dsimp only at h
        by_cases f7 : isR p6
        · rw [if_pos f7] at h
          show pm_ev _ _ _ _ _ (25, [some (.ref 16), some (.int a0), some (.int a1)], [.ref p6], _, _, _) _
          refine pe_blk mm_153 1 (s' := (26, [some (.ref 16), some (.int a0), some (.int a1)], [.int a1, .ref p6], _, _, _)) rfl ?_
          obtain ⟨e1, rfl⟩ : ∃ e1, e = e1 + 1 := ⟨e - 1, by omega⟩
          cases hc11 : F170 n p6 a1 M with
          | none => rw [hc11] at h; cases h
          | some w =>
            obtain ⟨v9, M10⟩ := w
            rw [hc11] at h
            dsimp only at h
            refine pe_virt (al := [.int a1]) (a := p6) (L0 := [some (.ref p6), some (.int a1)]) (r1 := (some (.int v9), 129, 17845, hp M10)) mm_153 rfl rfl rfl mm_170 (isR_0 f7 _) (by have := isR_lt f7; omega) (by decide) rfl (Nat.le_of_ble_eq_true rfl) (Nat.le_of_ble_eq_true rfl) rfl rfl (F170_ev sc n p6 a1 f7 _ e1 (by omega) _ _ hc11) ?_
            show pm_ev _ _ _ _ _ (29, [some (.ref 16), some (.int a0), some (.int a1)], [.int v9], _, _, _) _
            skip
            cases hc14 : F13 n v9 M10 with
            | none => rw [hc14] at h; cases h
            | some w =>
              obtain ⟨v12, M13⟩ := w
              rw [hc14] at h
              dsimp only at h
              refine pe_stat (al := [.int v9]) (L0 := [some (.int v9)]) (r1 := (some (.int v12), 129, 17845, hp M13)) mm_153 rfl rfl rfl mm_13 rfl (Nat.le_of_ble_eq_true rfl) (Nat.le_of_ble_eq_true rfl) rfl rfl (F13_ev sc n v9 _ e1 (by omega) _ _ hc14) ?_
              show pm_ev _ _ _ _ _ (32, [some (.ref 16), some (.int a0), some (.int a1)], [.int v12], _, _, _) _
              by_cases q15 : v12 = 0
              · rw [if_pos q15] at h
                refine pe_blk mm_153 1 (s' := (if v12 = 0 then 48 else 35, [some (.ref 16), some (.int a0), some (.int a1)], [], _, _, _)) rfl ?_
                rw [if_pos q15]
                exact J153_48_ev sc n (e1 + 1) he a1 _ _ _ _ _ h
              · rw [if_neg q15] at h
                refine pe_blk mm_153 1 (s' := (if v12 = 0 then 48 else 35, [some (.ref 16), some (.int a0), some (.int a1)], [], _, _, _)) rfl ?_
                rw [if_neg q15]
                exact J153_35_ev sc n (e1 + 1) he a1 _ _ _ _ h
        · rw [if_neg f7] at h
          cases h
    · rw [if_neg q5] at h
      refine pe_blk mm_153 1 (s' := (if a0 = 1560 then 21 else 48, [some (.ref 16), some (.int a0), some (.int a1)], [], _, _, _)) rfl ?_
      rw [if_neg q5]
      exact J153_48_ev sc n e he a1 _ _ _ _ _ h
def J149_194 (n : Nat) (g0 : Nat) (g2 : Nat) (M : Mem) : Option (Int32 × Mem) :=
  match F150 n M with | some (v33, M34) => (some (v33, M34)) | none => none
set_option maxRecDepth 100000 in
set_option maxHeartbeats 4000000 in
theorem J149_194_ev (sc : Option (Nat × (Nat → Int32))) (n : Nat) (g0 : Nat) (g2 : Nat) (hg0 : isD g0) (hg2 : isR g2) (e : Nat) (he : 39 ≤ e) : ∀ (u1 : Option Value) (u2 : Option Value) (u3 : Option Value) (u4 : Option Value) (u5 : Option Value) (u6 : Option Value) (u7 : Option Value) (u8 : Option Value) (u9 : Option Value) (M : Mem) (r : Int32) (M' : Mem), J149_194 n g0 g2  M = some (r, M') → pm_ev pmT sc e 149 false (194, [some (.ref 16), u1, u2, u3, u4, u5, u6, u7, u8, u9], [], 129, 17845, hp M) (some (.int r), 129, 17845, hp M') := by
  intro u1 u2 u3 u4 u5 u6 u7 u8 u9 M r M' h
  unfold J149_194 at h
  refine pe_blk mm_149 1 (s' := (195, [some (.ref 16), u1, u2, u3, u4, u5, u6, u7, u8, u9], [.ref 16], _, _, _)) rfl ?_
  obtain ⟨e1, rfl⟩ : ∃ e1, e = e1 + 1 := ⟨e - 1, by omega⟩
  cases hc35 : F150 n M with
  | none => rw [hc35] at h; cases h
  | some w =>
    obtain ⟨v33, M34⟩ := w
    rw [hc35] at h
    dsimp only at h
    refine pe_virt (al := []) (a := 16) (L0 := [some (.ref 16), none]) (r1 := (some (.int v33), 129, 17845, hp M34)) mm_149 rfl rfl rfl mm_150 rfl (by decide) (by decide) rfl (Nat.le_of_ble_eq_true rfl) (Nat.le_of_ble_eq_true rfl) rfl rfl (F150_ev sc n _ e1 (by omega) _ _ hc35) ?_
    show pm_ev _ _ _ _ _ (198, [some (.ref 16), u1, u2, u3, u4, u5, u6, u7, u8, u9], [.int v33], _, _, _) _
    cases h
    exact pe_ret mm_149 rfl rfl
def J149_184 (n : Nat) (g0 : Nat) (g2 : Nat) (rec68 : Int32 → Int32 → Int32 → Mem → Option (Int32 × Mem)) (x5 : Int32) (x7 : Int32) (x9 : Int32) (M : Mem) : Option (Int32 × Mem) :=
  rec68 x5 x9 (x7 + 1) M
set_option maxRecDepth 100000 in
set_option maxHeartbeats 4000000 in
theorem J149_184_ev (sc : Option (Nat × (Nat → Int32))) (n : Nat) (g0 : Nat) (g2 : Nat) (hg0 : isD g0) (hg2 : isR g2) (e : Nat) (he : 39 ≤ e) (rec68 : Int32 → Int32 → Int32 → Mem → Option (Int32 × Mem)) (hr68 : ∀ (x5 : Int32) (x6 : Int32) (x7 : Int32) (u1 : Option Value) (u2 : Option Value) (u3 : Option Value) (u4 : Option Value) (u8 : Option Value) (u9 : Option Value) (M : Mem) (r : Int32) (M' : Mem), rec68 x5 x6 x7 M = some (r, M') → pm_ev pmT sc e 149 false (68, [some (.ref 16), u1, u2, u3, u4, some (.int x5), some (.int x6), some (.int x7), u8, u9], [], 129, 17845, hp M) (some (.int r), 129, 17845, hp M')) : ∀ (x5 : Int32) (x7 : Int32) (x9 : Int32) (u1 : Option Value) (u2 : Option Value) (u3 : Option Value) (u4 : Option Value) (u6 : Option Value) (u8 : Option Value) (M : Mem) (r : Int32) (M' : Mem), J149_184 n g0 g2 rec68 x5 x7 x9 M = some (r, M') → pm_ev pmT sc e 149 false (184, [some (.ref 16), u1, u2, u3, u4, some (.int x5), u6, some (.int x7), u8, some (.int x9)], [], 129, 17845, hp M) (some (.int r), 129, 17845, hp M') := by
  intro x5 x7 x9 u1 u2 u3 u4 u6 u8 M r M' h
  unfold J149_184 at h
  refine pe_blk mm_149 4 (s' := (68, [some (.ref 16), u1, u2, u3, u4, some (.int x5), some (.int x9), some (.int (x7 + 1)), u8, some (.int x9)], [], _, _, _)) rfl ?_
  exact hr68 x5 x9 (x7 + 1) _ _ _ _ _ _ _ _ _ h
def J149_140 (n : Nat) (g0 : Nat) (g2 : Nat) (rec68 : Int32 → Int32 → Int32 → Mem → Option (Int32 × Mem)) (x5 : Int32) (x6 : Int32) (x7 : Int32) (x8 : Int32) (s0 : Int32) (M : Mem) : Option (Int32 × Mem) :=
  if s0 = (-1) then (some ((-2001), M)) else (if x8 = (-1) then (match M.2.1 16 6 with | some p50 => (if isR p50 then (match F170 n p50 x6 M with | some (v53, M54) => (match F155 n v53 M54 with | some (v56, M57) => (J149_184 n g0 g2 rec68 x5 x7 s0 M57) | none => none) | none => none) else none) | none => none) else (match F154 n x8 x6 s0 M with | some (v59, M60) => (J149_184 n g0 g2 rec68 x5 x7 s0 M60) | none => none))
set_option maxRecDepth 100000 in
set_option maxHeartbeats 4000000 in
theorem J149_140_ev (sc : Option (Nat × (Nat → Int32))) (n : Nat) (g0 : Nat) (g2 : Nat) (hg0 : isD g0) (hg2 : isR g2) (e : Nat) (he : 39 ≤ e) (rec68 : Int32 → Int32 → Int32 → Mem → Option (Int32 × Mem)) (hr68 : ∀ (x5 : Int32) (x6 : Int32) (x7 : Int32) (u1 : Option Value) (u2 : Option Value) (u3 : Option Value) (u4 : Option Value) (u8 : Option Value) (u9 : Option Value) (M : Mem) (r : Int32) (M' : Mem), rec68 x5 x6 x7 M = some (r, M') → pm_ev pmT sc e 149 false (68, [some (.ref 16), u1, u2, u3, u4, some (.int x5), some (.int x6), some (.int x7), u8, u9], [], 129, 17845, hp M) (some (.int r), 129, 17845, hp M')) : ∀ (x5 : Int32) (x6 : Int32) (x7 : Int32) (x8 : Int32) (s0 : Int32) (u1 : Option Value) (u2 : Option Value) (u3 : Option Value) (u4 : Option Value) (u9 : Option Value) (M : Mem) (r : Int32) (M' : Mem), J149_140 n g0 g2 rec68 x5 x6 x7 x8 s0 M = some (r, M') → pm_ev pmT sc e 149 false (140, [some (.ref 16), u1, u2, u3, u4, some (.int x5), some (.int x6), some (.int x7), some (.int x8), u9], [.int s0], 129, 17845, hp M) (some (.int r), 129, 17845, hp M') := by
  intro x5 x6 x7 x8 s0 u1 u2 u3 u4 u9 M r M' h
  unfold J149_140 at h
  refine pe_blk mm_149 3 (s' := (145, [some (.ref 16), u1, u2, u3, u4, some (.int x5), some (.int x6), some (.int x7), some (.int x8), some (.int s0)], [.int (-1), .int s0], _, _, _)) rfl ?_
  by_cases q48 : s0 = (-1)
  · rw [if_pos q48] at h
    refine pe_blk mm_149 1 (s' := (if s0 = (-1) then 148 else 152, [some (.ref 16), u1, u2, u3, u4, some (.int x5), some (.int x6), some (.int x7), some (.int x8), some (.int s0)], [], _, _, _)) rfl ?_
    rw [if_pos q48]
    refine pe_blk mm_149 1 (s' := (151, [some (.ref 16), u1, u2, u3, u4, some (.int x5), some (.int x6), some (.int x7), some (.int x8), some (.int s0)], [.int (-2001)], _, _, _)) rfl ?_
    cases h
    exact pe_ret mm_149 rfl rfl
  · rw [if_neg q48] at h
    refine pe_blk mm_149 1 (s' := (if s0 = (-1) then 148 else 152, [some (.ref 16), u1, u2, u3, u4, some (.int x5), some (.int x6), some (.int x7), some (.int x8), some (.int s0)], [], _, _, _)) rfl ?_
    rw [if_neg q48]
    refine pe_blk mm_149 2 (s' := (155, [some (.ref 16), u1, u2, u3, u4, some (.int x5), some (.int x6), some (.int x7), some (.int x8), some (.int s0)], [.int (-1), .int x8], _, _, _)) rfl ?_
    by_cases q49 : x8 = (-1)
    · rw [if_pos q49] at h
      refine pe_blk mm_149 1 (s' := (if x8 = (-1) then 158 else 174, [some (.ref 16), u1, u2, u3, u4, some (.int x5), some (.int x6), some (.int x7), some (.int x8), some (.int s0)], [], _, _, _)) rfl ?_
      rw [if_pos q49]
      refine pe_blk mm_149 2 (s' := (160, [some (.ref 16), u1, u2, u3, u4, some (.int x5), some (.int x6), some (.int x7), some (.int x8), some (.int s0)], [.ref 16, .ref 16], _, _, _)) rfl ?_
      refine pe_get mm_149 rfl rfl rfl (by decide) rfl ?_
      show pm_ev _ _ _ _ _ (163, [some (.ref 16), u1, u2, u3, u4, some (.int x5), some (.int x6), some (.int x7), some (.int x8), some (.int s0)], va_rf (M.2.1 16 6) :: [.ref 16], _, _, _) _
      cases hq52 : M.2.1 16 6 with
      | none => rw [hq52] at h; cases h
      | some p50 =>
        rw [hq52] at h
        dsimp only at h
        by_cases f51 : isR p50
        · rw [if_pos f51] at h
          show pm_ev _ _ _ _ _ (163, [some (.ref 16), u1, u2, u3, u4, some (.int x5), some (.int x6), some (.int x7), some (.int x8), some (.int s0)], [.ref p50, .ref 16], _, _, _) _
          refine pe_blk mm_149 1 (s' := (165, [some (.ref 16), u1, u2, u3, u4, some (.int x5), some (.int x6), some (.int x7), some (.int x8), some (.int s0)], [.int x6, .ref p50, .ref 16], _, _, _)) rfl ?_
          obtain ⟨e1, rfl⟩ : ∃ e1, e = e1 + 1 := ⟨e - 1, by omega⟩
          cases hc55 : F170 n p50 x6 M with
          | none => rw [hc55] at h; cases h
          | some w =>
            obtain ⟨v53, M54⟩ := w
            rw [hc55] at h
            dsimp only at h
            refine pe_virt (al := [.int x6]) (a := p50) (L0 := [some (.ref p50), some (.int x6)]) (r1 := (some (.int v53), 129, 17845, hp M54)) mm_149 rfl rfl rfl mm_170 (isR_0 f51 _) (by have := isR_lt f51; omega) (by decide) rfl (Nat.le_of_ble_eq_true rfl) (Nat.le_of_ble_eq_true rfl) rfl rfl (F170_ev sc n p50 x6 f51 _ e1 (by omega) _ _ hc55) ?_
            show pm_ev _ _ _ _ _ (168, [some (.ref 16), u1, u2, u3, u4, some (.int x5), some (.int x6), some (.int x7), some (.int x8), some (.int s0)], [.int v53, .ref 16], _, _, _) _
            skip
            cases hc58 : F155 n v53 M54 with
            | none => rw [hc58] at h; cases h
            | some w =>
              obtain ⟨v56, M57⟩ := w
              rw [hc58] at h
              dsimp only at h
              refine pe_virt (al := [.int v53]) (a := 16) (L0 := [some (.ref 16), some (.int v53), none, none]) (r1 := (none, 129, 17845, hp M57)) mm_149 rfl rfl rfl mm_155 rfl (by decide) (by decide) rfl (Nat.le_of_ble_eq_true rfl) (Nat.le_of_ble_eq_true rfl) rfl rfl (F155_ev sc n v53 _ e1 (by omega) _ _ hc58) ?_
              show pm_ev _ _ _ _ _ (171, [some (.ref 16), u1, u2, u3, u4, some (.int x5), some (.int x6), some (.int x7), some (.int x8), some (.int s0)], [], _, _, _) _
              refine pe_blk mm_149 1 (s' := (184, [some (.ref 16), u1, u2, u3, u4, some (.int x5), some (.int x6), some (.int x7), some (.int x8), some (.int s0)], [], _, _, _)) rfl ?_
              exact J149_184_ev sc n g0 g2 hg0 hg2 (e1 + 1) he rec68 hr68 x5 x7 s0 _ _ _ _ _ _ _ _ _ h
        · rw [if_neg f51] at h
          cases h
    · rw [if_neg q49] at h
      refine pe_blk mm_149 1 (s' := (if x8 = (-1) then 158 else 174, [some (.ref 16), u1, u2, u3, u4, some (.int x5), some (.int x6), some (.int x7), some (.int x8), some (.int s0)], [], _, _, _)) rfl ?_
      rw [if_neg q49]
      refine pe_blk mm_149 4 (s' := (181, [some (.ref 16), u1, u2, u3, u4, some (.int x5), some (.int x6), some (.int x7), some (.int x8), some (.int s0)], [.int s0, .int x6, .int x8, .ref 16], _, _, _)) rfl ?_
      obtain ⟨e1, rfl⟩ : ∃ e1, e = e1 + 1 := ⟨e - 1, by omega⟩
      cases hc61 : F154 n x8 x6 s0 M with
      | none => rw [hc61] at h; cases h
      | some w =>
        obtain ⟨v59, M60⟩ := w
        rw [hc61] at h
        dsimp only at h
        refine pe_virt (al := [.int s0, .int x6, .int x8]) (a := 16) (L0 := [some (.ref 16), some (.int x8), some (.int x6), some (.int s0), none, none]) (r1 := (none, 129, 17845, hp M60)) mm_149 rfl rfl rfl mm_154 rfl (by decide) (by decide) rfl (Nat.le_of_ble_eq_true rfl) (Nat.le_of_ble_eq_true rfl) rfl rfl (F154_ev sc n x8 x6 s0 _ e1 (by omega) _ _ hc61) ?_
        show pm_ev _ _ _ _ _ (184, [some (.ref 16), u1, u2, u3, u4, some (.int x5), some (.int x6), some (.int x7), some (.int x8), some (.int s0)], [], _, _, _) _
        exact J149_184_ev sc n g0 g2 hg0 hg2 (e1 + 1) he rec68 hr68 x5 x7 s0 _ _ _ _ _ _ _ _ _ h
def J149_98 (n : Nat) (g0 : Nat) (g2 : Nat) (rec68 : Int32 → Int32 → Int32 → Mem → Option (Int32 × Mem)) (x5 : Int32) (x6 : Int32) (x7 : Int32) (x8 : Int32) (M : Mem) : Option (Int32 × Mem) :=
  if x8 = (-2002) then (some ((-2002), M)) else (if x8 = (-1) then (J149_140 n g0 g2 rec68 x5 x6 x7 x8 (x6 + 1) M) else (match M.2.1 16 3 with | some p62 => (if isD p62 then (match F109 n p62 (x8 + 3) M with | some (v65, M66) => (match F153 n v65 x6 M66 with | some (v68, M69) => (J149_140 n g0 g2 rec68 x5 x6 x7 x8 v68 M69) | none => none) | none => none) else none) | none => none))
set_option maxRecDepth 100000 in
set_option maxHeartbeats 4000000 in
theorem J149_98_ev (sc : Option (Nat × (Nat → Int32))) (n : Nat) (g0 : Nat) (g2 : Nat) (hg0 : isD g0) (hg2 : isR g2) (e : Nat) (he : 39 ≤ e) (rec68 : Int32 → Int32 → Int32 → Mem → Option (Int32 × Mem)) (hr68 : ∀ (x5 : Int32) (x6 : Int32) (x7 : Int32) (u1 : Option Value) (u2 : Option Value) (u3 : Option Value) (u4 : Option Value) (u8 : Option Value) (u9 : Option Value) (M : Mem) (r : Int32) (M' : Mem), rec68 x5 x6 x7 M = some (r, M') → pm_ev pmT sc e 149 false (68, [some (.ref 16), u1, u2, u3, u4, some (.int x5), some (.int x6), some (.int x7), u8, u9], [], 129, 17845, hp M) (some (.int r), 129, 17845, hp M')) : ∀ (x5 : Int32) (x6 : Int32) (x7 : Int32) (x8 : Int32) (u1 : Option Value) (u2 : Option Value) (u3 : Option Value) (u4 : Option Value) (u9 : Option Value) (M : Mem) (r : Int32) (M' : Mem), J149_98 n g0 g2 rec68 x5 x6 x7 x8 M = some (r, M') → pm_ev pmT sc e 149 false (98, [some (.ref 16), u1, u2, u3, u4, some (.int x5), some (.int x6), some (.int x7), some (.int x8), u9], [], 129, 17845, hp M) (some (.int r), 129, 17845, hp M') := by
  intro x5 x6 x7 x8 u1 u2 u3 u4 u9 M r M' h
  unfold J149_98 at h
  refine pe_blk mm_149 2 (s' := (103, [some (.ref 16), u1, u2, u3, u4, some (.int x5), some (.int x6), some (.int x7), some (.int x8), u9], [.int (-2002), .int x8], _, _, _)) rfl ?_
  by_cases q46 : x8 = (-2002)
  · rw [if_pos q46] at h
    refine pe_blk mm_149 1 (s' := (if x8 = (-2002) then 106 else 110, [some (.ref 16), u1, u2, u3, u4, some (.int x5), some (.int x6), some (.int x7), some (.int x8), u9], [], _, _, _)) rfl ?_
    rw [if_pos q46]
    refine pe_blk mm_149 1 (s' := (109, [some (.ref 16), u1, u2, u3, u4, some (.int x5), some (.int x6), some (.int x7), some (.int x8), u9], [.int (-2002)], _, _, _)) rfl ?_
    cases h
    exact pe_ret mm_149 rfl rfl
  · rw [if_neg q46] at h
    refine pe_blk mm_149 1 (s' := (if x8 = (-2002) then 106 else 110, [some (.ref 16), u1, u2, u3, u4, some (.int x5), some (.int x6), some (.int x7), some (.int x8), u9], [], _, _, _)) rfl ?_
    rw [if_neg q46]
    refine pe_blk mm_149 2 (s' := (113, [some (.ref 16), u1, u2, u3, u4, some (.int x5), some (.int x6), some (.int x7), some (.int x8), u9], [.int (-1), .int x8], _, _, _)) rfl ?_
    by_cases q47 : x8 = (-1)
    · rw [if_pos q47] at h
      refine pe_blk mm_149 1 (s' := (if x8 = (-1) then 116 else 123, [some (.ref 16), u1, u2, u3, u4, some (.int x5), some (.int x6), some (.int x7), some (.int x8), u9], [], _, _, _)) rfl ?_
      rw [if_pos q47]
      refine pe_blk mm_149 4 (s' := (140, [some (.ref 16), u1, u2, u3, u4, some (.int x5), some (.int x6), some (.int x7), some (.int x8), u9], [.int (x6 + 1)], _, _, _)) rfl ?_
      exact J149_140_ev sc n g0 g2 hg0 hg2 e he rec68 hr68 x5 x6 x7 x8 (x6 + 1) _ _ _ _ _ _ _ _ h
    · rw [if_neg q47] at h
      refine pe_blk mm_149 1 (s' := (if x8 = (-1) then 116 else 123, [some (.ref 16), u1, u2, u3, u4, some (.int x5), some (.int x6), some (.int x7), some (.int x8), u9], [], _, _, _)) rfl ?_
      rw [if_neg q47]
      refine pe_blk mm_149 2 (s' := (125, [some (.ref 16), u1, u2, u3, u4, some (.int x5), some (.int x6), some (.int x7), some (.int x8), u9], [.ref 16, .ref 16], _, _, _)) rfl ?_
      refine pe_get mm_149 rfl rfl rfl (by decide) rfl ?_
      show pm_ev _ _ _ _ _ (128, [some (.ref 16), u1, u2, u3, u4, some (.int x5), some (.int x6), some (.int x7), some (.int x8), u9], va_rf (M.2.1 16 3) :: [.ref 16], _, _, _) _
      cases hq64 : M.2.1 16 3 with
      | none => rw [hq64] at h; cases h
      | some p62 =>
        rw [hq64] at h
        dsimp only at h
        by_cases f63 : isD p62
        · rw [if_pos f63] at h
          show pm_ev _ _ _ _ _ (128, [some (.ref 16), u1, u2, u3, u4, some (.int x5), some (.int x6), some (.int x7), some (.int x8), u9], [.ref p62, .ref 16], _, _, _) _
          refine pe_blk mm_149 3 (s' := (132, [some (.ref 16), u1, u2, u3, u4, some (.int x5), some (.int x6), some (.int x7), some (.int x8), u9], [.int (x8 + 3), .ref p62, .ref 16], _, _, _)) rfl ?_
          obtain ⟨e1, rfl⟩ : ∃ e1, e = e1 + 1 := ⟨e - 1, by omega⟩
          cases hc67 : F109 n p62 (x8 + 3) M with
          | none => rw [hc67] at h; cases h
          | some w =>
            obtain ⟨v65, M66⟩ := w
            rw [hc67] at h
            dsimp only at h
            refine pe_virt (al := [.int (x8 + 3)]) (a := p62) (L0 := [some (.ref p62), some (.int (x8 + 3))]) (r1 := (some (.int v65), 129, 17845, hp M66)) mm_149 rfl rfl rfl mm_109 (isD_0 f63 _) (by have := isD_lt f63; omega) (by decide) rfl (Nat.le_of_ble_eq_true rfl) (Nat.le_of_ble_eq_true rfl) rfl rfl (F109_ev sc n p62 (x8 + 3) f63 _ e1 (by omega) _ _ hc67) ?_
            show pm_ev _ _ _ _ _ (135, [some (.ref 16), u1, u2, u3, u4, some (.int x5), some (.int x6), some (.int x7), some (.int x8), u9], [.int v65, .ref 16], _, _, _) _
            refine pe_blk mm_149 1 (s' := (137, [some (.ref 16), u1, u2, u3, u4, some (.int x5), some (.int x6), some (.int x7), some (.int x8), u9], [.int x6, .int v65, .ref 16], _, _, _)) rfl ?_
            skip
            cases hc70 : F153 n v65 x6 M66 with
            | none => rw [hc70] at h; cases h
            | some w =>
              obtain ⟨v68, M69⟩ := w
              rw [hc70] at h
              dsimp only at h
              refine pe_virt (al := [.int x6, .int v65]) (a := 16) (L0 := [some (.ref 16), some (.int v65), some (.int x6)]) (r1 := (some (.int v68), 129, 17845, hp M69)) mm_149 rfl rfl rfl mm_153 rfl (by decide) (by decide) rfl (Nat.le_of_ble_eq_true rfl) (Nat.le_of_ble_eq_true rfl) rfl rfl (F153_ev sc n v65 x6 _ e1 (by omega) _ _ hc70) ?_
              show pm_ev _ _ _ _ _ (140, [some (.ref 16), u1, u2, u3, u4, some (.int x5), some (.int x6), some (.int x7), some (.int x8), u9], [.int v68], _, _, _) _
              exact J149_140_ev sc n g0 g2 hg0 hg2 (e1 + 1) he rec68 hr68 x5 x6 x7 x8 v68 _ _ _ _ _ _ _ _ h
        · rw [if_neg f63] at h
          cases h
def L149_68 (n : Nat) (g0 : Nat) (g2 : Nat) : Nat → Int32 → Int32 → Int32 → Mem → Option (Int32 × Mem)
  | 0, _, _, _, _ => none
  | k + 1, x5, x6, x7, M => if 150 ≤ x7 then (J149_194 n g0 g2 M) else (if x5 ≤ x6 then (J149_194 n g0 g2 M) else (match M.2.1 16 6 with | some p37 => (if isR p37 then (match F170 n p37 x6 M with | some (v40, M41) => (match F151 n v40 M41 with | some (v43, M44) => (J149_98 n g0 g2 (L149_68 n g0 g2 k) x5 x6 x7 v43 M44) | none => none) | none => none) else none) | none => none))
set_option maxRecDepth 100000 in
set_option maxHeartbeats 4000000 in
theorem L149_68_ev (sc : Option (Nat × (Nat → Int32))) (n : Nat) (g0 : Nat) (g2 : Nat) (hg0 : isD g0) (hg2 : isR g2) (e : Nat) (he : 39 ≤ e) : ∀ k : Nat, ∀ (x5 : Int32) (x6 : Int32) (x7 : Int32) (u1 : Option Value) (u2 : Option Value) (u3 : Option Value) (u4 : Option Value) (u8 : Option Value) (u9 : Option Value) (M : Mem) (r : Int32) (M' : Mem), L149_68 n g0 g2 k x5 x6 x7 M = some (r, M') → pm_ev pmT sc e 149 false (68, [some (.ref 16), u1, u2, u3, u4, some (.int x5), some (.int x6), some (.int x7), u8, u9], [], 129, 17845, hp M) (some (.int r), 129, 17845, hp M') := by
  intro k
  induction k with
  | zero => intro x5 x6 x7 u1 u2 u3 u4 u8 u9 M r M' h; cases h
  | succ k hr68 =>
    intro x5 x6 x7 u1 u2 u3 u4 u8 u9 M r M' h
    rw [L149_68] at h
    refine pe_blk mm_149 2 (s' := (73, [some (.ref 16), u1, u2, u3, u4, some (.int x5), some (.int x6), some (.int x7), u8, u9], [.int 150, .int x7], _, _, _)) rfl ?_
    by_cases q32 : 150 ≤ x7
    · rw [if_pos q32] at h
      refine pe_blk mm_149 1 (s' := (if 150 ≤ x7 then 194 else 76, [some (.ref 16), u1, u2, u3, u4, some (.int x5), some (.int x6), some (.int x7), u8, u9], [], _, _, _)) rfl ?_
      rw [if_pos q32]
      exact J149_194_ev sc n g0 g2 hg0 hg2 e he _ _ _ _ _ _ _ _ _ _ _ _ h
    · rw [if_neg q32] at h
      refine pe_blk mm_149 1 (s' := (if 150 ≤ x7 then 194 else 76, [some (.ref 16), u1, u2, u3, u4, some (.int x5), some (.int x6), some (.int x7), u8, u9], [], _, _, _)) rfl ?_
      rw [if_neg q32]
      refine pe_blk mm_149 2 (s' := (80, [some (.ref 16), u1, u2, u3, u4, some (.int x5), some (.int x6), some (.int x7), u8, u9], [.int x5, .int x6], _, _, _)) rfl ?_
      by_cases q36 : x5 ≤ x6
      · rw [if_pos q36] at h
        refine pe_blk mm_149 1 (s' := (if x5 ≤ x6 then 194 else 83, [some (.ref 16), u1, u2, u3, u4, some (.int x5), some (.int x6), some (.int x7), u8, u9], [], _, _, _)) rfl ?_
        rw [if_pos q36]
        exact J149_194_ev sc n g0 g2 hg0 hg2 e he _ _ _ _ _ _ _ _ _ _ _ _ h
      · rw [if_neg q36] at h
        refine pe_blk mm_149 1 (s' := (if x5 ≤ x6 then 194 else 83, [some (.ref 16), u1, u2, u3, u4, some (.int x5), some (.int x6), some (.int x7), u8, u9], [], _, _, _)) rfl ?_
        rw [if_neg q36]
        refine pe_blk mm_149 2 (s' := (85, [some (.ref 16), u1, u2, u3, u4, some (.int x5), some (.int x6), some (.int x7), u8, u9], [.ref 16, .ref 16], _, _, _)) rfl ?_
        refine pe_get mm_149 rfl rfl rfl (by decide) rfl ?_
        show pm_ev _ _ _ _ _ (88, [some (.ref 16), u1, u2, u3, u4, some (.int x5), some (.int x6), some (.int x7), u8, u9], va_rf (M.2.1 16 6) :: [.ref 16], _, _, _) _
        cases hq39 : M.2.1 16 6 with
        | none => rw [hq39] at h; cases h
        | some p37 =>
          rw [hq39] at h
          dsimp only at h
          by_cases f38 : isR p37
          · rw [if_pos f38] at h
            show pm_ev _ _ _ _ _ (88, [some (.ref 16), u1, u2, u3, u4, some (.int x5), some (.int x6), some (.int x7), u8, u9], [.ref p37, .ref 16], _, _, _) _
            refine pe_blk mm_149 1 (s' := (90, [some (.ref 16), u1, u2, u3, u4, some (.int x5), some (.int x6), some (.int x7), u8, u9], [.int x6, .ref p37, .ref 16], _, _, _)) rfl ?_
            obtain ⟨e1, rfl⟩ : ∃ e1, e = e1 + 1 := ⟨e - 1, by omega⟩
            cases hc42 : F170 n p37 x6 M with
            | none => rw [hc42] at h; cases h
            | some w =>
              obtain ⟨v40, M41⟩ := w
              rw [hc42] at h
              dsimp only at h
              refine pe_virt (al := [.int x6]) (a := p37) (L0 := [some (.ref p37), some (.int x6)]) (r1 := (some (.int v40), 129, 17845, hp M41)) mm_149 rfl rfl rfl mm_170 (isR_0 f38 _) (by have := isR_lt f38; omega) (by decide) rfl (Nat.le_of_ble_eq_true rfl) (Nat.le_of_ble_eq_true rfl) rfl rfl (F170_ev sc n p37 x6 f38 _ e1 (by omega) _ _ hc42) ?_
              show pm_ev _ _ _ _ _ (93, [some (.ref 16), u1, u2, u3, u4, some (.int x5), some (.int x6), some (.int x7), u8, u9], [.int v40, .ref 16], _, _, _) _
              skip
              cases hc45 : F151 n v40 M41 with
              | none => rw [hc45] at h; cases h
              | some w =>
                obtain ⟨v43, M44⟩ := w
                rw [hc45] at h
                dsimp only at h
                refine pe_virt (al := [.int v40]) (a := 16) (L0 := [some (.ref 16), some (.int v40), none, none, none, none, none]) (r1 := (some (.int v43), 129, 17845, hp M44)) mm_149 rfl rfl rfl mm_151 rfl (by decide) (by decide) rfl (Nat.le_of_ble_eq_true rfl) (Nat.le_of_ble_eq_true rfl) rfl rfl (F151_ev sc n v40 _ e1 (by omega) _ _ hc45) ?_
                show pm_ev _ _ _ _ _ (96, [some (.ref 16), u1, u2, u3, u4, some (.int x5), some (.int x6), some (.int x7), u8, u9], [.int v43], _, _, _) _
                refine pe_blk mm_149 1 (s' := (98, [some (.ref 16), u1, u2, u3, u4, some (.int x5), some (.int x6), some (.int x7), some (.int v43), u9], [], _, _, _)) rfl ?_
                exact J149_98_ev sc n g0 g2 hg0 hg2 (e1 + 1) he (L149_68 n g0 g2 k) hr68 x5 x6 x7 v43 _ _ _ _ _ _ _ _ h
          · rw [if_neg f38] at h
            cases h
def J149_61 (n : Nat) (g0 : Nat) (g2 : Nat) (x4 : Int32) (x5 : Int32) (M : Mem) : Option (Int32 × Mem) :=
  L149_68 n g0 g2 n x5 x4 0 M
set_option maxRecDepth 100000 in
set_option maxHeartbeats 4000000 in
theorem J149_61_ev (sc : Option (Nat × (Nat → Int32))) (n : Nat) (g0 : Nat) (g2 : Nat) (hg0 : isD g0) (hg2 : isR g2) (e : Nat) (he : 39 ≤ e) : ∀ (x4 : Int32) (x5 : Int32) (u1 : Option Value) (u2 : Option Value) (u3 : Option Value) (u6 : Option Value) (u7 : Option Value) (u8 : Option Value) (u9 : Option Value) (M : Mem) (r : Int32) (M' : Mem), J149_61 n g0 g2 x4 x5 M = some (r, M') → pm_ev pmT sc e 149 false (61, [some (.ref 16), u1, u2, u3, some (.int x4), some (.int x5), u6, u7, u8, u9], [], 129, 17845, hp M) (some (.int r), 129, 17845, hp M') := by
  intro x4 x5 u1 u2 u3 u6 u7 u8 u9 M r M' h
  unfold J149_61 at h
  refine pe_blk mm_149 4 (s' := (68, [some (.ref 16), u1, u2, u3, some (.int x4), some (.int x5), some (.int x4), some (.int 0), u8, u9], [], _, _, _)) rfl ?_
  exact L149_68_ev sc n g0 g2 hg0 hg2 e he n x5 x4 0 _ _ _ _ _ _ _ _ _ h
def J149_43 (n : Nat) (g0 : Nat) (g2 : Nat) (x4 : Int32) (x5 : Int32) (M : Mem) : Option (Int32 × Mem) :=
  match M.2.1 16 1 with | some p20 => (if isT p20 then (match F190 n p20 M with | some (v23, M24) => (match M24.2.1 16 1 with | some p26 => (if isT p26 then (match F192 n p26 (M24.1 16 4) M24 with | some (v29, M30) => (J149_61 n g0 g2 x4 x5 M30) | none => none) else none) | none => none) | none => none) else none) | none => none
set_option maxRecDepth 100000 in
set_option maxHeartbeats 4000000 in
theorem J149_43_ev (sc : Option (Nat × (Nat → Int32))) (n : Nat) (g0 : Nat) (g2 : Nat) (hg0 : isD g0) (hg2 : isR g2) (e : Nat) (he : 39 ≤ e) : ∀ (x4 : Int32) (x5 : Int32) (u1 : Option Value) (u2 : Option Value) (u3 : Option Value) (u6 : Option Value) (u7 : Option Value) (u8 : Option Value) (u9 : Option Value) (M : Mem) (r : Int32) (M' : Mem), J149_43 n g0 g2 x4 x5 M = some (r, M') → pm_ev pmT sc e 149 false (43, [some (.ref 16), u1, u2, u3, some (.int x4), some (.int x5), u6, u7, u8, u9], [], 129, 17845, hp M) (some (.int r), 129, 17845, hp M') := by
  intro x4 x5 u1 u2 u3 u6 u7 u8 u9 M r M' h
  unfold J149_43 at h
  refine pe_blk mm_149 1 (s' := (44, [some (.ref 16), u1, u2, u3, some (.int x4), some (.int x5), u6, u7, u8, u9], [.ref 16], _, _, _)) rfl ?_
  refine pe_get mm_149 rfl rfl rfl (by decide) rfl ?_
  show pm_ev _ _ _ _ _ (47, [some (.ref 16), u1, u2, u3, some (.int x4), some (.int x5), u6, u7, u8, u9], va_rf (M.2.1 16 1) :: [], _, _, _) _
  cases hq22 : M.2.1 16 1 with
  | none => rw [hq22] at h; cases h
  | some p20 =>
    rw [hq22] at h
    dsimp only at h
    by_cases f21 : isT p20
    · rw [if_pos f21] at h
      show pm_ev _ _ _ _ _ (47, [some (.ref 16), u1, u2, u3, some (.int x4), some (.int x5), u6, u7, u8, u9], [.ref p20], _, _, _) _
      obtain ⟨e1, rfl⟩ : ∃ e1, e = e1 + 1 := ⟨e - 1, by omega⟩
      cases hc25 : F190 n p20 M with
      | none => rw [hc25] at h; cases h
      | some w =>
        obtain ⟨v23, M24⟩ := w
        rw [hc25] at h
        dsimp only at h
        refine pe_virt (al := []) (a := p20) (L0 := [some (.ref p20)]) (r1 := (none, 129, 17845, hp M24)) mm_149 rfl rfl rfl mm_190 (isT_0 f21 _) (by have := isT_lt f21; omega) (by decide) rfl (Nat.le_of_ble_eq_true rfl) (Nat.le_of_ble_eq_true rfl) rfl rfl (F190_ev sc n p20 f21 _ e1 (by omega) _ _ hc25) ?_
        show pm_ev _ _ _ _ _ (50, [some (.ref 16), u1, u2, u3, some (.int x4), some (.int x5), u6, u7, u8, u9], [], _, _, _) _
        refine pe_blk mm_149 1 (s' := (51, [some (.ref 16), u1, u2, u3, some (.int x4), some (.int x5), u6, u7, u8, u9], [.ref 16], _, _, _)) rfl ?_
        refine pe_get mm_149 rfl rfl rfl (by decide) rfl ?_
        show pm_ev _ _ _ _ _ (54, [some (.ref 16), u1, u2, u3, some (.int x4), some (.int x5), u6, u7, u8, u9], va_rf (M24.2.1 16 1) :: [], _, _, _) _
        cases hq28 : M24.2.1 16 1 with
        | none => rw [hq28] at h; cases h
        | some p26 =>
          rw [hq28] at h
          dsimp only at h
          by_cases f27 : isT p26
          · rw [if_pos f27] at h
            show pm_ev _ _ _ _ _ (54, [some (.ref 16), u1, u2, u3, some (.int x4), some (.int x5), u6, u7, u8, u9], [.ref p26], _, _, _) _
            refine pe_blk mm_149 1 (s' := (55, [some (.ref 16), u1, u2, u3, some (.int x4), some (.int x5), u6, u7, u8, u9], [.ref 16, .ref p26], _, _, _)) rfl ?_
            refine pe_get mm_149 rfl rfl rfl (by decide) rfl ?_
            skip
            cases hc31 : F192 n p26 (M24.1 16 4) M24 with
            | none => rw [hc31] at h; cases h
            | some w =>
              obtain ⟨v29, M30⟩ := w
              rw [hc31] at h
              dsimp only at h
              refine pe_virt (al := [.int (M24.1 16 4)]) (a := p26) (L0 := [some (.ref p26), some (.int (M24.1 16 4))]) (r1 := (none, 129, 17845, hp M30)) mm_149 rfl rfl rfl mm_192 (isT_0 f27 _) (by have := isT_lt f27; omega) (by decide) rfl (Nat.le_of_ble_eq_true rfl) (Nat.le_of_ble_eq_true rfl) rfl rfl (F192_ev sc n p26 (M24.1 16 4) f27 _ e1 (by omega) _ _ hc31) ?_
              show pm_ev _ _ _ _ _ (61, [some (.ref 16), u1, u2, u3, some (.int x4), some (.int x5), u6, u7, u8, u9], [], _, _, _) _
              exact J149_61_ev sc n g0 g2 hg0 hg2 (e1 + 1) he x4 x5 _ _ _ _ _ _ _ _ _ _ h
          · rw [if_neg f27] at h
            cases h
    · rw [if_neg f21] at h
      cases h
def J149_28 (n : Nat) (g0 : Nat) (g2 : Nat) (x4 : Int32) (x5 : Int32) (M : Mem) : Option (Int32 × Mem) :=
  match F178 n M with | some (v11, M12) => (match M12.2.1 16 1 with | some p14 => (if isT p14 then (match F187 n p14 g0 M12 with | some (v17, M18) => (J149_43 n g0 g2 x4 x5 M18) | none => none) else none) | none => none) | none => none
set_option maxRecDepth 100000 in
set_option maxHeartbeats 4000000 in
theorem J149_28_ev (sc : Option (Nat × (Nat → Int32))) (n : Nat) (g0 : Nat) (g2 : Nat) (hg0 : isD g0) (hg2 : isR g2) (e : Nat) (he : 39 ≤ e) : ∀ (x4 : Int32) (x5 : Int32) (u2 : Option Value) (u3 : Option Value) (u6 : Option Value) (u7 : Option Value) (u8 : Option Value) (u9 : Option Value) (M : Mem) (r : Int32) (M' : Mem), J149_28 n g0 g2 x4 x5 M = some (r, M') → pm_ev pmT sc e 149 false (28, [some (.ref 16), some (.ref g0), u2, u3, some (.int x4), some (.int x5), u6, u7, u8, u9], [], 129, 17845, hp M) (some (.int r), 129, 17845, hp M') := by
  intro x4 x5 u2 u3 u6 u7 u8 u9 M r M' h
  unfold J149_28 at h
  refine pe_blk mm_149 1 (s' := (29, [some (.ref 16), some (.ref g0), u2, u3, some (.int x4), some (.int x5), u6, u7, u8, u9], [.ref 16], _, _, _)) rfl ?_
  refine pe_get mm_149 rfl rfl rfl (by decide) rfl ?_
  obtain ⟨e1, rfl⟩ : ∃ e1, e = e1 + 1 := ⟨e - 1, by omega⟩
  cases hc13 : F178 n M with
  | none => rw [hc13] at h; cases h
  | some w =>
    obtain ⟨v11, M12⟩ := w
    rw [hc13] at h
    dsimp only at h
    refine pe_virt (al := []) (a := 17) (L0 := [some (.ref 17)]) (r1 := (none, 129, 17845, hp M12)) mm_149 rfl rfl rfl mm_178 rfl (by decide) (by decide) rfl (Nat.le_of_ble_eq_true rfl) (Nat.le_of_ble_eq_true rfl) rfl rfl (F178_ev sc n _ e1 (by omega) _ _ hc13) ?_
    show pm_ev _ _ _ _ _ (35, [some (.ref 16), some (.ref g0), u2, u3, some (.int x4), some (.int x5), u6, u7, u8, u9], [], _, _, _) _
    refine pe_blk mm_149 1 (s' := (36, [some (.ref 16), some (.ref g0), u2, u3, some (.int x4), some (.int x5), u6, u7, u8, u9], [.ref 16], _, _, _)) rfl ?_
    refine pe_get mm_149 rfl rfl rfl (by decide) rfl ?_
    show pm_ev _ _ _ _ _ (39, [some (.ref 16), some (.ref g0), u2, u3, some (.int x4), some (.int x5), u6, u7, u8, u9], va_rf (M12.2.1 16 1) :: [], _, _, _) _
    cases hq16 : M12.2.1 16 1 with
    | none => rw [hq16] at h; cases h
    | some p14 =>
      rw [hq16] at h
      dsimp only at h
      by_cases f15 : isT p14
      · rw [if_pos f15] at h
        show pm_ev _ _ _ _ _ (39, [some (.ref 16), some (.ref g0), u2, u3, some (.int x4), some (.int x5), u6, u7, u8, u9], [.ref p14], _, _, _) _
        refine pe_blk mm_149 1 (s' := (40, [some (.ref 16), some (.ref g0), u2, u3, some (.int x4), some (.int x5), u6, u7, u8, u9], [.ref g0, .ref p14], _, _, _)) rfl ?_
        skip
        cases hc19 : F187 n p14 g0 M12 with
        | none => rw [hc19] at h; cases h
        | some w =>
          obtain ⟨v17, M18⟩ := w
          rw [hc19] at h
          dsimp only at h
          refine pe_virt (al := [.ref g0]) (a := p14) (L0 := [some (.ref p14), some (.ref g0)]) (r1 := (none, 129, 17845, hp M18)) mm_149 rfl rfl rfl mm_187 (isT_0 f15 _) (by have := isT_lt f15; omega) (by decide) rfl (Nat.le_of_ble_eq_true rfl) (Nat.le_of_ble_eq_true rfl) rfl rfl (F187_ev sc n p14 g0 f15 hg0 _ e1 (by omega) _ _ hc19) ?_
          show pm_ev _ _ _ _ _ (43, [some (.ref 16), some (.ref g0), u2, u3, some (.int x4), some (.int x5), u6, u7, u8, u9], [], _, _, _) _
          exact J149_43_ev sc n g0 g2 hg0 hg2 (e1 + 1) he x4 x5 _ _ _ _ _ _ _ _ _ _ h
      · rw [if_neg f15] at h
        cases h
def J149_14 (n : Nat) (g0 : Nat) (g2 : Nat) (x2 : Int32) (x4 : Int32) (x5 : Int32) (M : Mem) : Option (Int32 × Mem) :=
  match F112 n g0 x2 M with | some (v6, M7) => (mlet (m_i M7 16 5 v6) (fun M9 => mlet (m_r M9 16 6 (some g2)) (fun M10 => J149_28 n g0 g2 x4 x5 M10))) | none => none
set_option maxRecDepth 100000 in
set_option maxHeartbeats 4000000 in
theorem J149_14_ev (sc : Option (Nat × (Nat → Int32))) (n : Nat) (g0 : Nat) (g2 : Nat) (hg0 : isD g0) (hg2 : isR g2) (e : Nat) (he : 39 ≤ e) : ∀ (x2 : Int32) (x4 : Int32) (x5 : Int32) (u6 : Option Value) (u7 : Option Value) (u8 : Option Value) (u9 : Option Value) (M : Mem) (r : Int32) (M' : Mem), J149_14 n g0 g2 x2 x4 x5 M = some (r, M') → pm_ev pmT sc e 149 false (14, [some (.ref 16), some (.ref g0), some (.int x2), some (.ref g2), some (.int x4), some (.int x5), u6, u7, u8, u9], [], 129, 17845, hp M) (some (.int r), 129, 17845, hp M') := by
  intro x2 x4 x5 u6 u7 u8 u9 M r M' h
  unfold J149_14 at h
  refine pe_blk mm_149 3 (s' := (17, [some (.ref 16), some (.ref g0), some (.int x2), some (.ref g2), some (.int x4), some (.int x5), u6, u7, u8, u9], [.int x2, .ref g0, .ref 16], _, _, _)) rfl ?_
  obtain ⟨e1, rfl⟩ : ∃ e1, e = e1 + 1 := ⟨e - 1, by omega⟩
  cases hc8 : F112 n g0 x2 M with
  | none => rw [hc8] at h; cases h
  | some w =>
    obtain ⟨v6, M7⟩ := w
    rw [hc8] at h
    dsimp only at h
    refine pe_virt (al := [.int x2]) (a := g0) (L0 := [some (.ref g0), some (.int x2)]) (r1 := (some (.int v6), 129, 17845, hp M7)) mm_149 rfl rfl rfl mm_112 (isD_0 hg0 _) (by have := isD_lt hg0; omega) (by decide) rfl (Nat.le_of_ble_eq_true rfl) (Nat.le_of_ble_eq_true rfl) rfl rfl (F112_ev sc n g0 x2 hg0 _ e1 (by omega) _ _ hc8) ?_
    show pm_ev _ _ _ _ _ (20, [some (.ref 16), some (.ref g0), some (.int x2), some (.ref g2), some (.int x4), some (.int x5), u6, u7, u8, u9], [.int v6, .ref 16], _, _, _) _
    refine pe_puti mm_149 rfl rfl rfl (by decide) (Nat.le_of_ble_eq_true rfl) rfl rfl ?_
    show pm_ev _ _ _ _ _ (23, [some (.ref 16), some (.ref g0), some (.int x2), some (.ref g2), some (.int x4), some (.int x5), u6, u7, u8, u9], [], _, _, hp (m_i M7 16 5 v6)) _
    generalize m_i M7 16 5 v6 = M9 at h ⊢
    rw [mlet] at h
    refine pe_blk mm_149 2 (s' := (25, [some (.ref 16), some (.ref g0), some (.int x2), some (.ref g2), some (.int x4), some (.int x5), u6, u7, u8, u9], [.ref g2, .ref 16], _, _, _)) rfl ?_
    refine pe_putr mm_149 rfl rfl rfl (by decide) (Nat.le_of_ble_eq_true rfl) rfl rfl ?_
    show pm_ev _ _ _ _ _ (28, [some (.ref 16), some (.ref g0), some (.int x2), some (.ref g2), some (.int x4), some (.int x5), u6, u7, u8, u9], [], _, _, hp (m_r M9 16 6 (some g2))) _
    generalize m_r M9 16 6 (some g2) = M10 at h ⊢
    rw [mlet] at h
    exact J149_28_ev sc n g0 g2 hg0 hg2 (e1 + 1) he x4 x5 _ _ _ _ _ _ _ _ _ h
/-- ArmExpander$Matcher.match -/
def F149 (n : Nat) (g0 : Nat) (a1 : Int32) (g2 : Nat) (a3 : Int32) (a4 : Int32) (M : Mem) : Option (Int32 × Mem) :=
  mlet (m_r M 16 3 (some g0)) (fun M1 => match F111 n g0 a1 M1 with | some (v2, M3) => (mlet (m_i M3 16 4 v2) (fun M5 => J149_14 n g0 g2 a1 a3 a4 M5)) | none => none)
set_option maxRecDepth 100000 in
set_option maxHeartbeats 4000000 in
theorem F149_ev (sc : Option (Nat × (Nat → Int32))) (n : Nat) (g0 : Nat) (a1 : Int32) (g2 : Nat) (a3 : Int32) (a4 : Int32) (hg0 : isD g0) (hg2 : isR g2) (M : Mem) (e : Nat) (he : 39 ≤ e) (r : Int32) (M' : Mem) (h : F149 n g0 a1 g2 a3 a4 M = some (r, M')) : pm_ev pmT sc e 149 false (0, [some (.ref 16), some (.ref g0), some (.int a1), some (.ref g2), some (.int a3), some (.int a4), none, none, none, none], [], 129, 17845, hp M) (some (.int r), 129, 17845, hp M') := by
  unfold F149 at h
  refine pe_blk mm_149 2 (s' := (2, [some (.ref 16), some (.ref g0), some (.int a1), some (.ref g2), some (.int a3), some (.int a4), none, none, none, none], [.ref g0, .ref 16], _, _, _)) rfl ?_
  refine pe_putr mm_149 rfl rfl rfl (by decide) (Nat.le_of_ble_eq_true rfl) rfl rfl ?_
  show pm_ev _ _ _ _ _ (5, [some (.ref 16), some (.ref g0), some (.int a1), some (.ref g2), some (.int a3), some (.int a4), none, none, none, none], [], _, _, hp (m_r M 16 3 (some g0))) _
  generalize m_r M 16 3 (some g0) = M1 at h ⊢
  rw [mlet] at h
  refine pe_blk mm_149 3 (s' := (8, [some (.ref 16), some (.ref g0), some (.int a1), some (.ref g2), some (.int a3), some (.int a4), none, none, none, none], [.int a1, .ref g0, .ref 16], _, _, _)) rfl ?_
  obtain ⟨e1, rfl⟩ : ∃ e1, e = e1 + 1 := ⟨e - 1, by omega⟩
  cases hc4 : F111 n g0 a1 M1 with
  | none => rw [hc4] at h; cases h
  | some w =>
    obtain ⟨v2, M3⟩ := w
    rw [hc4] at h
    dsimp only at h
    refine pe_virt (al := [.int a1]) (a := g0) (L0 := [some (.ref g0), some (.int a1)]) (r1 := (some (.int v2), 129, 17845, hp M3)) mm_149 rfl rfl rfl mm_111 (isD_0 hg0 _) (by have := isD_lt hg0; omega) (by decide) rfl (Nat.le_of_ble_eq_true rfl) (Nat.le_of_ble_eq_true rfl) rfl rfl (F111_ev sc n g0 a1 hg0 _ e1 (by omega) _ _ hc4) ?_
    show pm_ev _ _ _ _ _ (11, [some (.ref 16), some (.ref g0), some (.int a1), some (.ref g2), some (.int a3), some (.int a4), none, none, none, none], [.int v2, .ref 16], _, _, _) _
    refine pe_puti mm_149 rfl rfl rfl (by decide) (Nat.le_of_ble_eq_true rfl) rfl rfl ?_
    show pm_ev _ _ _ _ _ (14, [some (.ref 16), some (.ref g0), some (.int a1), some (.ref g2), some (.int a3), some (.int a4), none, none, none, none], [], _, _, hp (m_i M3 16 4 v2)) _
    generalize m_i M3 16 4 v2 = M5 at h ⊢
    rw [mlet] at h
    exact J149_14_ev sc n g0 g2 hg0 hg2 (e1 + 1) he a1 a3 a4 _ _ _ _ _ _ _ h
def J145_50 (n : Nat) (g0 : Nat) (s0 : Int32) (M : Mem) : Option (Int32 × Mem) :=
  some (s0, M)
set_option maxRecDepth 100000 in
set_option maxHeartbeats 4000000 in
theorem J145_50_ev (sc : Option (Nat × (Nat → Int32))) (n : Nat) (g0 : Nat) (hg0 : isD g0) (e : Nat) (he : 40 ≤ e) : ∀ (s0 : Int32) (u0 : Option Value) (u1 : Option Value) (u2 : Option Value) (u3 : Option Value) (u4 : Option Value) (u5 : Option Value) (M : Mem) (r : Int32) (M' : Mem), J145_50 n g0 s0 M = some (r, M') → pm_ev pmT sc e 145 false (50, [u0, u1, u2, u3, u4, u5], [.int s0], 129, 17845, hp M) (some (.int r), 129, 17845, hp M') := by
  intro s0 u0 u1 u2 u3 u4 u5 M r M' h
  unfold J145_50 at h
  cases h
  exact pe_ret mm_145 rfl rfl
def J145_30 (n : Nat) (g0 : Nat) (rec3 : Int32 → Int32 → Int32 → Mem → Option (Int32 × Mem)) (x2 : Int32) (x3 : Int32) (x4 : Int32) (x5 : Int32) (M : Mem) : Option (Int32 × Mem) :=
  if x5 = (-2001) then (rec3 x2 x3 (x4 + 1) M) else (if x5 = 0 then (J145_50 n g0 x4 M) else (J145_50 n g0 x5 M))
set_option maxRecDepth 100000 in
set_option maxHeartbeats 4000000 in
theorem J145_30_ev (sc : Option (Nat × (Nat → Int32))) (n : Nat) (g0 : Nat) (hg0 : isD g0) (e : Nat) (he : 40 ≤ e) (rec3 : Int32 → Int32 → Int32 → Mem → Option (Int32 × Mem)) (hr3 : ∀ (x2 : Int32) (x3 : Int32) (x4 : Int32) (u5 : Option Value) (M : Mem) (r : Int32) (M' : Mem), rec3 x2 x3 x4 M = some (r, M') → pm_ev pmT sc e 145 false (3, [some (.ref 12), some (.ref g0), some (.int x2), some (.int x3), some (.int x4), u5], [], 129, 17845, hp M) (some (.int r), 129, 17845, hp M')) : ∀ (x2 : Int32) (x3 : Int32) (x4 : Int32) (x5 : Int32) (M : Mem) (r : Int32) (M' : Mem), J145_30 n g0 rec3 x2 x3 x4 x5 M = some (r, M') → pm_ev pmT sc e 145 false (30, [some (.ref 12), some (.ref g0), some (.int x2), some (.int x3), some (.int x4), some (.int x5)], [], 129, 17845, hp M) (some (.int r), 129, 17845, hp M') := by
  intro x2 x3 x4 x5  M r M' h
  unfold J145_30 at h
  refine pe_blk mm_145 2 (s' := (35, [some (.ref 12), some (.ref g0), some (.int x2), some (.int x3), some (.int x4), some (.int x5)], [.int (-2001), .int x5], _, _, _)) rfl ?_
  by_cases q11 : x5 = (-2001)
  · rw [if_pos q11] at h
    refine pe_blk mm_145 1 (s' := (if x5 = (-2001) then 51 else 38, [some (.ref 12), some (.ref g0), some (.int x2), some (.int x3), some (.int x4), some (.int x5)], [], _, _, _)) rfl ?_
    rw [if_pos q11]
    refine pe_blk mm_145 2 (s' := (3, [some (.ref 12), some (.ref g0), some (.int x2), some (.int x3), some (.int (x4 + 1)), some (.int x5)], [], _, _, _)) rfl ?_
    exact hr3 x2 x3 (x4 + 1) _ _ _ _ h
  · rw [if_neg q11] at h
    refine pe_blk mm_145 1 (s' := (if x5 = (-2001) then 51 else 38, [some (.ref 12), some (.ref g0), some (.int x2), some (.int x3), some (.int x4), some (.int x5)], [], _, _, _)) rfl ?_
    rw [if_neg q11]
    refine pe_blk mm_145 1 (s' := (40, [some (.ref 12), some (.ref g0), some (.int x2), some (.int x3), some (.int x4), some (.int x5)], [.int x5], _, _, _)) rfl ?_
    by_cases q12 : x5 = 0
    · rw [if_pos q12] at h
      refine pe_blk mm_145 1 (s' := (if x5 = 0 then 43 else 48, [some (.ref 12), some (.ref g0), some (.int x2), some (.int x3), some (.int x4), some (.int x5)], [], _, _, _)) rfl ?_
      rw [if_pos q12]
      refine pe_blk mm_145 2 (s' := (50, [some (.ref 12), some (.ref g0), some (.int x2), some (.int x3), some (.int x4), some (.int x5)], [.int x4], _, _, _)) rfl ?_
      exact J145_50_ev sc n g0 hg0 e he x4 _ _ _ _ _ _ _ _ _ h
    · rw [if_neg q12] at h
      refine pe_blk mm_145 1 (s' := (if x5 = 0 then 43 else 48, [some (.ref 12), some (.ref g0), some (.int x2), some (.int x3), some (.int x4), some (.int x5)], [], _, _, _)) rfl ?_
      rw [if_neg q12]
      refine pe_blk mm_145 1 (s' := (50, [some (.ref 12), some (.ref g0), some (.int x2), some (.int x3), some (.int x4), some (.int x5)], [.int x5], _, _, _)) rfl ?_
      exact J145_50_ev sc n g0 hg0 e he x5 _ _ _ _ _ _ _ _ _ h
def L145_3 (n : Nat) (g0 : Nat) : Nat → Int32 → Int32 → Int32 → Mem → Option (Int32 × Mem)
  | 0, _, _, _, _ => none
  | k + 1, x2, x3, x4, M => match F108 n g0 M with | some (v1, M2) => (if v1 ≤ x4 then (some ((-2001), M2)) else (match M2.2.1 12 4 with | some p5 => (if isR p5 then (match F149 n g0 x4 p5 x2 x3 M2 with | some (v8, M9) => (J145_30 n g0 (L145_3 n g0 k) x2 x3 x4 v8 M9) | none => none) else none) | none => none)) | none => none
set_option maxRecDepth 100000 in
set_option maxHeartbeats 4000000 in
theorem L145_3_ev (sc : Option (Nat × (Nat → Int32))) (n : Nat) (g0 : Nat) (hg0 : isD g0) (e : Nat) (he : 40 ≤ e) : ∀ k : Nat, ∀ (x2 : Int32) (x3 : Int32) (x4 : Int32) (u5 : Option Value) (M : Mem) (r : Int32) (M' : Mem), L145_3 n g0 k x2 x3 x4 M = some (r, M') → pm_ev pmT sc e 145 false (3, [some (.ref 12), some (.ref g0), some (.int x2), some (.int x3), some (.int x4), u5], [], 129, 17845, hp M) (some (.int r), 129, 17845, hp M') := by
  intro k
  induction k with
  | zero => intro x2 x3 x4 u5 M r M' h; cases h
  | succ k hr3 =>
    intro x2 x3 x4 u5 M r M' h
    rw [L145_3] at h
    refine pe_blk mm_145 2 (s' := (6, [some (.ref 12), some (.ref g0), some (.int x2), some (.int x3), some (.int x4), u5], [.ref g0, .int x4], _, _, _)) rfl ?_
    obtain ⟨e1, rfl⟩ : ∃ e1, e = e1 + 1 := ⟨e - 1, by omega⟩
    cases hc3 : F108 n g0 M with
    | none => rw [hc3] at h; cases h
    | some w =>
      obtain ⟨v1, M2⟩ := w
      rw [hc3] at h
      dsimp only at h
      refine pe_virt (al := []) (a := g0) (L0 := [some (.ref g0)]) (r1 := (some (.int v1), 129, 17845, hp M2)) mm_145 rfl rfl rfl mm_108 (isD_0 hg0 _) (by have := isD_lt hg0; omega) (by decide) rfl (Nat.le_of_ble_eq_true rfl) (Nat.le_of_ble_eq_true rfl) rfl rfl (F108_ev sc n g0 hg0 _ e1 (by omega) _ _ hc3) ?_
      show pm_ev _ _ _ _ _ (9, [some (.ref 12), some (.ref g0), some (.int x2), some (.int x3), some (.int x4), u5], [.int v1, .int x4], _, _, _) _
      by_cases q4 : v1 ≤ x4
      · rw [if_pos q4] at h
        refine pe_blk mm_145 1 (s' := (if v1 ≤ x4 then 57 else 12, [some (.ref 12), some (.ref g0), some (.int x2), some (.int x3), some (.int x4), u5], [], _, _, _)) rfl ?_
        rw [if_pos q4]
        refine pe_blk mm_145 1 (s' := (60, [some (.ref 12), some (.ref g0), some (.int x2), some (.int x3), some (.int x4), u5], [.int (-2001)], _, _, _)) rfl ?_
        cases h
        exact pe_ret mm_145 rfl rfl
      · rw [if_neg q4] at h
        refine pe_blk mm_145 1 (s' := (if v1 ≤ x4 then 57 else 12, [some (.ref 12), some (.ref g0), some (.int x2), some (.int x3), some (.int x4), u5], [], _, _, _)) rfl ?_
        rw [if_neg q4]
        refine pe_blk mm_145 1 (s' := (13, [some (.ref 12), some (.ref g0), some (.int x2), some (.int x3), some (.int x4), u5], [.ref 12], _, _, _)) rfl ?_
        refine pe_get mm_145 rfl rfl rfl (by decide) rfl ?_
        refine pe_blk mm_145 3 (s' := (20, [some (.ref 12), some (.ref g0), some (.int x2), some (.int x3), some (.int x4), u5], [.ref 12, .int x4, .ref g0, .ref 16], _, _, _)) rfl ?_
        refine pe_get mm_145 rfl rfl rfl (by decide) rfl ?_
        show pm_ev _ _ _ _ _ (23, [some (.ref 12), some (.ref g0), some (.int x2), some (.int x3), some (.int x4), u5], va_rf (M2.2.1 12 4) :: [.int x4, .ref g0, .ref 16], _, _, _) _
        cases hq7 : M2.2.1 12 4 with
        | none => rw [hq7] at h; cases h
        | some p5 =>
          rw [hq7] at h
          dsimp only at h
          by_cases f6 : isR p5
          · rw [if_pos f6] at h
            show pm_ev _ _ _ _ _ (23, [some (.ref 12), some (.ref g0), some (.int x2), some (.int x3), some (.int x4), u5], [.ref p5, .int x4, .ref g0, .ref 16], _, _, _) _
            refine pe_blk mm_145 2 (s' := (25, [some (.ref 12), some (.ref g0), some (.int x2), some (.int x3), some (.int x4), u5], [.int x3, .int x2, .ref p5, .int x4, .ref g0, .ref 16], _, _, _)) rfl ?_
            skip
            cases hc10 : F149 n g0 x4 p5 x2 x3 M2 with
            | none => rw [hc10] at h; cases h
            | some w =>
              obtain ⟨v8, M9⟩ := w
              rw [hc10] at h
              dsimp only at h
              refine pe_virt (al := [.int x3, .int x2, .ref p5, .int x4, .ref g0]) (a := 16) (L0 := [some (.ref 16), some (.ref g0), some (.int x4), some (.ref p5), some (.int x2), some (.int x3), none, none, none, none]) (r1 := (some (.int v8), 129, 17845, hp M9)) mm_145 rfl rfl rfl mm_149 rfl (by decide) (by decide) rfl (Nat.le_of_ble_eq_true rfl) (Nat.le_of_ble_eq_true rfl) rfl rfl (F149_ev sc n g0 x4 p5 x2 x3 hg0 f6 _ e1 (by omega) _ _ hc10) ?_
              show pm_ev _ _ _ _ _ (28, [some (.ref 12), some (.ref g0), some (.int x2), some (.int x3), some (.int x4), u5], [.int v8], _, _, _) _
              refine pe_blk mm_145 1 (s' := (30, [some (.ref 12), some (.ref g0), some (.int x2), some (.int x3), some (.int x4), some (.int v8)], [], _, _, _)) rfl ?_
              exact J145_30_ev sc n g0 hg0 (e1 + 1) he (L145_3 n g0 k) hr3 x2 x3 x4 v8 _ _ _ h
          · rw [if_neg f6] at h
            cases h
/-- ArmExpander$Expander.chooseArm -/
def F145 (n : Nat) (g0 : Nat) (a1 : Int32) (a2 : Int32) (M : Mem) : Option (Int32 × Mem) :=
  L145_3 n g0 n a1 a2 0 M
set_option maxRecDepth 100000 in
set_option maxHeartbeats 4000000 in
theorem F145_ev (sc : Option (Nat × (Nat → Int32))) (n : Nat) (g0 : Nat) (a1 : Int32) (a2 : Int32) (hg0 : isD g0) (M : Mem) (e : Nat) (he : 40 ≤ e) (r : Int32) (M' : Mem) (h : F145 n g0 a1 a2 M = some (r, M')) : pm_ev pmT sc e 145 false (0, [some (.ref 12), some (.ref g0), some (.int a1), some (.int a2), none, none], [], 129, 17845, hp M) (some (.int r), 129, 17845, hp M') := by
  unfold F145 at h
  refine pe_blk mm_145 2 (s' := (3, [some (.ref 12), some (.ref g0), some (.int a1), some (.int a2), some (.int 0), none], [], _, _, _)) rfl ?_
  exact L145_3_ev sc n g0 hg0 e he n a1 a2 0 _ _ _ _ h
