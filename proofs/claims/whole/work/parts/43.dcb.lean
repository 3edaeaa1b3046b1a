/-! The methods as functions over Mem; written by program. -/
def J213_121 (n : Nat) (M : Mem) : Option (Unit × Mem) :=
  some ((), M)
set_option maxRecDepth 100000 in
set_option maxHeartbeats 4000000 in
theorem J213_121_ev (sc : Option (Nat × (Nat → Int32))) (n : Nat)  (e : Nat) (he : 3 ≤ e) : ∀ (u0 : Option Value) (u1 : Option Value) (u2 : Option Value) (u3 : Option Value) (u4 : Option Value) (u5 : Option Value) (M : Mem) (r : Unit) (M' : Mem), J213_121 n  M = some (r, M') → pm_ev pmT sc e 213 false (121, [u0, u1, u2, u3, u4, u5], [], 129, 17845, hp M) (none, 129, 17845, hp M') := by
  intro u0 u1 u2 u3 u4 u5 M r M' h
  unfold J213_121 at h
  cases h
  exact pe_ret mm_213 rfl rfl
def J213_103 (n : Nat) (x5 : Int32) (M : Mem) : Option (Unit × Mem) :=
  if x5 = 0 then (J213_121 n M) else (match M.2.1 31 6 with | some p38 => (if isR p38 then (match F168 n p38 41 (M.1 31 3) M with | some (v41, M42) => (J213_121 n M42) | none => none) else none) | none => none)
set_option maxRecDepth 100000 in
set_option maxHeartbeats 4000000 in
theorem J213_103_ev (sc : Option (Nat × (Nat → Int32))) (n : Nat)  (e : Nat) (he : 3 ≤ e) : ∀ (x5 : Int32) (u1 : Option Value) (u2 : Option Value) (u3 : Option Value) (u4 : Option Value) (M : Mem) (r : Unit) (M' : Mem), J213_103 n x5 M = some (r, M') → pm_ev pmT sc e 213 false (103, [some (.ref 31), u1, u2, u3, u4, some (.int x5)], [], 129, 17845, hp M) (none, 129, 17845, hp M') := by
  intro x5 u1 u2 u3 u4 M r M' h
  unfold J213_103 at h
  refine pe_blk mm_213 1 (s' := (105, [some (.ref 31), u1, u2, u3, u4, some (.int x5)], [.int x5], _, _, _)) rfl ?_
  by_cases q37 : x5 = 0
  · rw [if_pos q37] at h
    refine pe_blk mm_213 1 (s' := (if x5 = 0 then 121 else 108, [some (.ref 31), u1, u2, u3, u4, some (.int x5)], [], _, _, _)) rfl ?_
    rw [if_pos q37]
    exact J213_121_ev sc n e he _ _ _ _ _ _ _ _ _ h
  · rw [if_neg q37] at h
    refine pe_blk mm_213 1 (s' := (if x5 = 0 then 121 else 108, [some (.ref 31), u1, u2, u3, u4, some (.int x5)], [], _, _, _)) rfl ?_
    rw [if_neg q37]
    refine pe_blk mm_213 1 (s' := (109, [some (.ref 31), u1, u2, u3, u4, some (.int x5)], [.ref 31], _, _, _)) rfl ?_
    refine pe_get mm_213 rfl rfl rfl (by decide) rfl ?_
    show pm_ev _ _ _ _ _ (112, [some (.ref 31), u1, u2, u3, u4, some (.int x5)], va_rf (M.2.1 31 6) :: [], _, _, _) _
    cases hq40 : M.2.1 31 6 with
    | none => rw [hq40] at h; cases h
    | some p38 =>
      rw [hq40] at h
      dsimp only at h
      by_cases f39 : isR p38
      · rw [if_pos f39] at h
        show pm_ev _ _ _ _ _ (112, [some (.ref 31), u1, u2, u3, u4, some (.int x5)], [.ref p38], _, _, _) _
        refine pe_blk mm_213 2 (s' := (115, [some (.ref 31), u1, u2, u3, u4, some (.int x5)], [.ref 31, .int 41, .ref p38], _, _, _)) rfl ?_
        refine pe_get mm_213 rfl rfl rfl (by decide) rfl ?_
        obtain ⟨e1, rfl⟩ : ∃ e1, e = e1 + 1 := ⟨e - 1, by omega⟩
        cases hc43 : F168 n p38 41 (M.1 31 3) M with
        | none => rw [hc43] at h; cases h
        | some w =>
          obtain ⟨v41, M42⟩ := w
          rw [hc43] at h
          dsimp only at h
          refine pe_virt (al := [.int (M.1 31 3), .int 41]) (a := p38) (L0 := [some (.ref p38), some (.int 41), some (.int (M.1 31 3))]) (r1 := (none, 129, 17845, hp M42)) mm_213 rfl rfl rfl mm_168 (isR_0 f39 _) (by have := isR_lt f39; omega) (by decide) rfl (Nat.le_of_ble_eq_true rfl) (Nat.le_of_ble_eq_true rfl) rfl rfl (F168_ev sc n p38 41 (M.1 31 3) f39 _ e1 (by omega) _ _ hc43) ?_
          show pm_ev _ _ _ _ _ (121, [some (.ref 31), u1, u2, u3, u4, some (.int x5)], [], _, _, _) _
          exact J213_121_ev sc n (e1 + 1) he _ _ _ _ _ _ _ _ _ h
      · rw [if_neg f39] at h
        cases h
def J213_89 (n : Nat) (x3 : Int32) (x4 : Int32) (x5 : Int32) (M : Mem) : Option (Unit × Mem) :=
  match M.2.1 31 6 with | some p28 => (if isR p28 then (match M.2.1 31 5 with | some p31 => (if isR p31 then (match F169 n p28 p31 x3 x4 M with | some (v34, M35) => (J213_103 n x5 M35) | none => none) else none) | none => none) else none) | none => none
set_option maxRecDepth 100000 in
set_option maxHeartbeats 4000000 in
theorem J213_89_ev (sc : Option (Nat × (Nat → Int32))) (n : Nat)  (e : Nat) (he : 3 ≤ e) : ∀ (x3 : Int32) (x4 : Int32) (x5 : Int32) (u1 : Option Value) (u2 : Option Value) (M : Mem) (r : Unit) (M' : Mem), J213_89 n x3 x4 x5 M = some (r, M') → pm_ev pmT sc e 213 false (89, [some (.ref 31), u1, u2, some (.int x3), some (.int x4), some (.int x5)], [], 129, 17845, hp M) (none, 129, 17845, hp M') := by
  intro x3 x4 x5 u1 u2 M r M' h
  unfold J213_89 at h
  refine pe_blk mm_213 1 (s' := (90, [some (.ref 31), u1, u2, some (.int x3), some (.int x4), some (.int x5)], [.ref 31], _, _, _)) rfl ?_
  refine pe_get mm_213 rfl rfl rfl (by decide) rfl ?_
  show pm_ev _ _ _ _ _ (93, [some (.ref 31), u1, u2, some (.int x3), some (.int x4), some (.int x5)], va_rf (M.2.1 31 6) :: [], _, _, _) _
  cases hq30 : M.2.1 31 6 with
  | none => rw [hq30] at h; cases h
  | some p28 =>
    rw [hq30] at h
    dsimp only at h
    by_cases f29 : isR p28
    · rw [if_pos f29] at h
      show pm_ev _ _ _ _ _ (93, [some (.ref 31), u1, u2, some (.int x3), some (.int x4), some (.int x5)], [.ref p28], _, _, _) _
      refine pe_blk mm_213 1 (s' := (94, [some (.ref 31), u1, u2, some (.int x3), some (.int x4), some (.int x5)], [.ref 31, .ref p28], _, _, _)) rfl ?_
      refine pe_get mm_213 rfl rfl rfl (by decide) rfl ?_
      show pm_ev _ _ _ _ _ (97, [some (.ref 31), u1, u2, some (.int x3), some (.int x4), some (.int x5)], va_rf (M.2.1 31 5) :: [.ref p28], _, _, _) _
      cases hq33 : M.2.1 31 5 with
      | none => rw [hq33] at h; cases h
      | some p31 =>
        rw [hq33] at h
        dsimp only at h
        by_cases f32 : isR p31
        · rw [if_pos f32] at h
          show pm_ev _ _ _ _ _ (97, [some (.ref 31), u1, u2, some (.int x3), some (.int x4), some (.int x5)], [.ref p31, .ref p28], _, _, _) _
          refine pe_blk mm_213 2 (s' := (100, [some (.ref 31), u1, u2, some (.int x3), some (.int x4), some (.int x5)], [.int x4, .int x3, .ref p31, .ref p28], _, _, _)) rfl ?_
          obtain ⟨e1, rfl⟩ : ∃ e1, e = e1 + 1 := ⟨e - 1, by omega⟩
          cases hc36 : F169 n p28 p31 x3 x4 M with
          | none => rw [hc36] at h; cases h
          | some w =>
            obtain ⟨v34, M35⟩ := w
            rw [hc36] at h
            dsimp only at h
            refine pe_virt (al := [.int x4, .int x3, .ref p31]) (a := p28) (L0 := [some (.ref p28), some (.ref p31), some (.int x3), some (.int x4), none]) (r1 := (none, 129, 17845, hp M35)) mm_213 rfl rfl rfl mm_169 (isR_0 f29 _) (by have := isR_lt f29; omega) (by decide) rfl (Nat.le_of_ble_eq_true rfl) (Nat.le_of_ble_eq_true rfl) rfl rfl (F169_ev sc n p28 p31 x3 x4 f29 f32 _ e1 (by omega) _ _ hc36) ?_
            show pm_ev _ _ _ _ _ (103, [some (.ref 31), u1, u2, some (.int x3), some (.int x4), some (.int x5)], [], _, _, _) _
            exact J213_103_ev sc n (e1 + 1) he x5 _ _ _ _ _ _ _ h
        · rw [if_neg f32] at h
          cases h
    · rw [if_neg f29] at h
      cases h
def J213_69 (n : Nat) (x3 : Int32) (x4 : Int32) (s0 : Int32) (M : Mem) : Option (Unit × Mem) :=
  if s0 = 0 then (J213_89 n x3 x4 s0 M) else (match M.2.1 31 6 with | some p44 => (if isR p44 then (match F168 n p44 40 (M.1 31 3) M with | some (v47, M48) => (J213_89 n x3 x4 s0 M48) | none => none) else none) | none => none)
set_option maxRecDepth 100000 in
set_option maxHeartbeats 4000000 in
theorem J213_69_ev (sc : Option (Nat × (Nat → Int32))) (n : Nat)  (e : Nat) (he : 3 ≤ e) : ∀ (x3 : Int32) (x4 : Int32) (s0 : Int32) (u1 : Option Value) (u2 : Option Value) (u5 : Option Value) (M : Mem) (r : Unit) (M' : Mem), J213_69 n x3 x4 s0 M = some (r, M') → pm_ev pmT sc e 213 false (69, [some (.ref 31), u1, u2, some (.int x3), some (.int x4), u5], [.int s0], 129, 17845, hp M) (none, 129, 17845, hp M') := by
  intro x3 x4 s0 u1 u2 u5 M r M' h
  unfold J213_69 at h
  refine pe_blk mm_213 2 (s' := (73, [some (.ref 31), u1, u2, some (.int x3), some (.int x4), some (.int s0)], [.int s0], _, _, _)) rfl ?_
  by_cases q27 : s0 = 0
  · rw [if_pos q27] at h
    refine pe_blk mm_213 1 (s' := (if s0 = 0 then 89 else 76, [some (.ref 31), u1, u2, some (.int x3), some (.int x4), some (.int s0)], [], _, _, _)) rfl ?_
    rw [if_pos q27]
    exact J213_89_ev sc n e he x3 x4 s0 _ _ _ _ _ h
  · rw [if_neg q27] at h
    refine pe_blk mm_213 1 (s' := (if s0 = 0 then 89 else 76, [some (.ref 31), u1, u2, some (.int x3), some (.int x4), some (.int s0)], [], _, _, _)) rfl ?_
    rw [if_neg q27]
    refine pe_blk mm_213 1 (s' := (77, [some (.ref 31), u1, u2, some (.int x3), some (.int x4), some (.int s0)], [.ref 31], _, _, _)) rfl ?_
    refine pe_get mm_213 rfl rfl rfl (by decide) rfl ?_
    show pm_ev _ _ _ _ _ (80, [some (.ref 31), u1, u2, some (.int x3), some (.int x4), some (.int s0)], va_rf (M.2.1 31 6) :: [], _, _, _) _
    cases hq46 : M.2.1 31 6 with
    | none => rw [hq46] at h; cases h
    | some p44 =>
      rw [hq46] at h
      dsimp only at h
      by_cases f45 : isR p44
      · rw [if_pos f45] at h
        show pm_ev _ _ _ _ _ (80, [some (.ref 31), u1, u2, some (.int x3), some (.int x4), some (.int s0)], [.ref p44], _, _, _) _
        refine pe_blk mm_213 2 (s' := (83, [some (.ref 31), u1, u2, some (.int x3), some (.int x4), some (.int s0)], [.ref 31, .int 40, .ref p44], _, _, _)) rfl ?_
        refine pe_get mm_213 rfl rfl rfl (by decide) rfl ?_
        obtain ⟨e1, rfl⟩ : ∃ e1, e = e1 + 1 := ⟨e - 1, by omega⟩
        cases hc49 : F168 n p44 40 (M.1 31 3) M with
        | none => rw [hc49] at h; cases h
        | some w =>
          obtain ⟨v47, M48⟩ := w
          rw [hc49] at h
          dsimp only at h
          refine pe_virt (al := [.int (M.1 31 3), .int 40]) (a := p44) (L0 := [some (.ref p44), some (.int 40), some (.int (M.1 31 3))]) (r1 := (none, 129, 17845, hp M48)) mm_213 rfl rfl rfl mm_168 (isR_0 f45 _) (by have := isR_lt f45; omega) (by decide) rfl (Nat.le_of_ble_eq_true rfl) (Nat.le_of_ble_eq_true rfl) rfl rfl (F168_ev sc n p44 40 (M.1 31 3) f45 _ e1 (by omega) _ _ hc49) ?_
          show pm_ev _ _ _ _ _ (89, [some (.ref 31), u1, u2, some (.int x3), some (.int x4), some (.int s0)], [], _, _, _) _
          exact J213_89_ev sc n (e1 + 1) he x3 x4 s0 _ _ _ _ _ h
      · rw [if_neg f45] at h
        cases h
def J213_68 (n : Nat) (x3 : Int32) (x4 : Int32) (M : Mem) : Option (Unit × Mem) :=
  J213_69 n x3 x4 0 M
set_option maxRecDepth 100000 in
set_option maxHeartbeats 4000000 in
theorem J213_68_ev (sc : Option (Nat × (Nat → Int32))) (n : Nat)  (e : Nat) (he : 3 ≤ e) : ∀ (x3 : Int32) (x4 : Int32) (u1 : Option Value) (u2 : Option Value) (u5 : Option Value) (M : Mem) (r : Unit) (M' : Mem), J213_68 n x3 x4 M = some (r, M') → pm_ev pmT sc e 213 false (68, [some (.ref 31), u1, u2, some (.int x3), some (.int x4), u5], [], 129, 17845, hp M) (none, 129, 17845, hp M') := by
  intro x3 x4 u1 u2 u5 M r M' h
  unfold J213_68 at h
  refine pe_blk mm_213 1 (s' := (69, [some (.ref 31), u1, u2, some (.int x3), some (.int x4), u5], [.int 0], _, _, _)) rfl ?_
  exact J213_69_ev sc n e he x3 x4 0 _ _ _ _ _ _ h
def J213_56 (n : Nat) (x3 : Int32) (x4 : Int32) (M : Mem) : Option (Unit × Mem) :=
  if (x4 - x3) ≤ 1 then (J213_68 n x3 x4 M) else (J213_69 n x3 x4 1 M)
set_option maxRecDepth 100000 in
set_option maxHeartbeats 4000000 in
theorem J213_56_ev (sc : Option (Nat × (Nat → Int32))) (n : Nat)  (e : Nat) (he : 3 ≤ e) : ∀ (x3 : Int32) (x4 : Int32) (u1 : Option Value) (u2 : Option Value) (u5 : Option Value) (M : Mem) (r : Unit) (M' : Mem), J213_56 n x3 x4 M = some (r, M') → pm_ev pmT sc e 213 false (56, [some (.ref 31), u1, u2, some (.int x3), some (.int x4), u5], [], 129, 17845, hp M) (none, 129, 17845, hp M') := by
  intro x3 x4 u1 u2 u5 M r M' h
  unfold J213_56 at h
  refine pe_blk mm_213 4 (s' := (61, [some (.ref 31), u1, u2, some (.int x3), some (.int x4), u5], [.int 1, .int (x4 - x3)], _, _, _)) rfl ?_
  by_cases q26 : (x4 - x3) ≤ 1
  · rw [if_pos q26] at h
    refine pe_blk mm_213 1 (s' := (if (x4 - x3) ≤ 1 then 68 else 64, [some (.ref 31), u1, u2, some (.int x3), some (.int x4), u5], [], _, _, _)) rfl ?_
    rw [if_pos q26]
    exact J213_68_ev sc n e he x3 x4 _ _ _ _ _ _ h
  · rw [if_neg q26] at h
    refine pe_blk mm_213 1 (s' := (if (x4 - x3) ≤ 1 then 68 else 64, [some (.ref 31), u1, u2, some (.int x3), some (.int x4), u5], [], _, _, _)) rfl ?_
    rw [if_neg q26]
    refine pe_blk mm_213 2 (s' := (69, [some (.ref 31), u1, u2, some (.int x3), some (.int x4), u5], [.int 1], _, _, _)) rfl ?_
    exact J213_69_ev sc n e he x3 x4 1 _ _ _ _ _ _ h
def J213_40 (n : Nat) (x1 : Int32) (x3 : Int32) (x4 : Int32) (M : Mem) : Option (Unit × Mem) :=
  match M.2.1 31 1 with | some p19 => (if isD p19 then (match F109 n p19 (x1 + 3) M with | some (v22, M23) => (if v22 = 1159 then (J213_56 n x3 x4 M23) else (J213_68 n x3 x4 M23)) | none => none) else none) | none => none
set_option maxRecDepth 100000 in
set_option maxHeartbeats 4000000 in
theorem J213_40_ev (sc : Option (Nat × (Nat → Int32))) (n : Nat)  (e : Nat) (he : 3 ≤ e) : ∀ (x1 : Int32) (x3 : Int32) (x4 : Int32) (u2 : Option Value) (u5 : Option Value) (M : Mem) (r : Unit) (M' : Mem), J213_40 n x1 x3 x4 M = some (r, M') → pm_ev pmT sc e 213 false (40, [some (.ref 31), some (.int x1), u2, some (.int x3), some (.int x4), u5], [], 129, 17845, hp M) (none, 129, 17845, hp M') := by
  intro x1 x3 x4 u2 u5 M r M' h
  unfold J213_40 at h
  refine pe_blk mm_213 1 (s' := (41, [some (.ref 31), some (.int x1), u2, some (.int x3), some (.int x4), u5], [.ref 31], _, _, _)) rfl ?_
  refine pe_get mm_213 rfl rfl rfl (by decide) rfl ?_
  show pm_ev _ _ _ _ _ (44, [some (.ref 31), some (.int x1), u2, some (.int x3), some (.int x4), u5], va_rf (M.2.1 31 1) :: [], _, _, _) _
  cases hq21 : M.2.1 31 1 with
  | none => rw [hq21] at h; cases h
  | some p19 =>
    rw [hq21] at h
    dsimp only at h
    by_cases f20 : isD p19
    · rw [if_pos f20] at h
      show pm_ev _ _ _ _ _ (44, [some (.ref 31), some (.int x1), u2, some (.int x3), some (.int x4), u5], [.ref p19], _, _, _) _
      refine pe_blk mm_213 3 (s' := (47, [some (.ref 31), some (.int x1), u2, some (.int x3), some (.int x4), u5], [.int (x1 + 3), .ref p19], _, _, _)) rfl ?_
      obtain ⟨e1, rfl⟩ : ∃ e1, e = e1 + 1 := ⟨e - 1, by omega⟩
      cases hc24 : F109 n p19 (x1 + 3) M with
      | none => rw [hc24] at h; cases h
      | some w =>
        obtain ⟨v22, M23⟩ := w
        rw [hc24] at h
        dsimp only at h
        refine pe_virt (al := [.int (x1 + 3)]) (a := p19) (L0 := [some (.ref p19), some (.int (x1 + 3))]) (r1 := (some (.int v22), 129, 17845, hp M23)) mm_213 rfl rfl rfl mm_109 (isD_0 f20 _) (by have := isD_lt f20; omega) (by decide) rfl (Nat.le_of_ble_eq_true rfl) (Nat.le_of_ble_eq_true rfl) rfl rfl (F109_ev sc n p19 (x1 + 3) f20 _ e1 (by omega) _ _ hc24) ?_
        show pm_ev _ _ _ _ _ (50, [some (.ref 31), some (.int x1), u2, some (.int x3), some (.int x4), u5], [.int v22], _, _, _) _
        refine pe_blk mm_213 1 (s' := (53, [some (.ref 31), some (.int x1), u2, some (.int x3), some (.int x4), u5], [.int 1159, .int v22], _, _, _)) rfl ?_
        by_cases q25 : v22 = 1159
        · rw [if_pos q25] at h
          refine pe_blk mm_213 1 (s' := (if v22 = 1159 then 56 else 68, [some (.ref 31), some (.int x1), u2, some (.int x3), some (.int x4), u5], [], _, _, _)) rfl ?_
          rw [if_pos q25]
          exact J213_56_ev sc n (e1 + 1) he x3 x4 _ _ _ _ _ _ h
        · rw [if_neg q25] at h
          refine pe_blk mm_213 1 (s' := (if v22 = 1159 then 56 else 68, [some (.ref 31), some (.int x1), u2, some (.int x3), some (.int x4), u5], [], _, _, _)) rfl ?_
          rw [if_neg q25]
          exact J213_68_ev sc n (e1 + 1) he x3 x4 _ _ _ _ _ _ h
    · rw [if_neg f20] at h
      cases h
def J213_21 (n : Nat) (x1 : Int32) (x2 : Int32) (M : Mem) : Option (Unit × Mem) :=
  match M.2.1 31 4 with | some p7 => (if p7 = 17 then (match F184 n x2 M with | some (v10, M11) => (match M11.2.1 31 4 with | some p13 => (if p13 = 17 then (match F185 n x2 M11 with | some (v16, M17) => (J213_40 n x1 v10 v16 M17) | none => none) else none) | none => none) | none => none) else none) | none => none
set_option maxRecDepth 100000 in
set_option maxHeartbeats 4000000 in
theorem J213_21_ev (sc : Option (Nat × (Nat → Int32))) (n : Nat)  (e : Nat) (he : 3 ≤ e) : ∀ (x1 : Int32) (x2 : Int32) (u3 : Option Value) (u4 : Option Value) (u5 : Option Value) (M : Mem) (r : Unit) (M' : Mem), J213_21 n x1 x2 M = some (r, M') → pm_ev pmT sc e 213 false (21, [some (.ref 31), some (.int x1), some (.int x2), u3, u4, u5], [], 129, 17845, hp M) (none, 129, 17845, hp M') := by
  intro x1 x2 u3 u4 u5 M r M' h
  unfold J213_21 at h
  refine pe_blk mm_213 1 (s' := (22, [some (.ref 31), some (.int x1), some (.int x2), u3, u4, u5], [.ref 31], _, _, _)) rfl ?_
  refine pe_get mm_213 rfl rfl rfl (by decide) rfl ?_
  show pm_ev _ _ _ _ _ (25, [some (.ref 31), some (.int x1), some (.int x2), u3, u4, u5], va_rf (M.2.1 31 4) :: [], _, _, _) _
  cases hq9 : M.2.1 31 4 with
  | none => rw [hq9] at h; cases h
  | some p7 =>
    rw [hq9] at h
    dsimp only at h
    by_cases f8 : p7 = 17
    · rw [if_pos f8] at h
      subst f8
      show pm_ev _ _ _ _ _ (25, [some (.ref 31), some (.int x1), some (.int x2), u3, u4, u5], [.ref 17], _, _, _) _
      refine pe_blk mm_213 1 (s' := (26, [some (.ref 31), some (.int x1), some (.int x2), u3, u4, u5], [.int x2, .ref 17], _, _, _)) rfl ?_
      obtain ⟨e1, rfl⟩ : ∃ e1, e = e1 + 1 := ⟨e - 1, by omega⟩
      cases hc12 : F184 n x2 M with
      | none => rw [hc12] at h; cases h
      | some w =>
        obtain ⟨v10, M11⟩ := w
        rw [hc12] at h
        dsimp only at h
        refine pe_virt (al := [.int x2]) (a := 17) (L0 := [some (.ref 17), some (.int x2)]) (r1 := (some (.int v10), 129, 17845, hp M11)) mm_213 rfl rfl rfl mm_184 rfl (by decide) (by decide) rfl (Nat.le_of_ble_eq_true rfl) (Nat.le_of_ble_eq_true rfl) rfl rfl (F184_ev sc n x2 _ e1 (by omega) _ _ hc12) ?_
        show pm_ev _ _ _ _ _ (29, [some (.ref 31), some (.int x1), some (.int x2), u3, u4, u5], [.int v10], _, _, _) _
        refine pe_blk mm_213 2 (s' := (31, [some (.ref 31), some (.int x1), some (.int x2), some (.int v10), u4, u5], [.ref 31], _, _, _)) rfl ?_
        refine pe_get mm_213 rfl rfl rfl (by decide) rfl ?_
        show pm_ev _ _ _ _ _ (34, [some (.ref 31), some (.int x1), some (.int x2), some (.int v10), u4, u5], va_rf (M11.2.1 31 4) :: [], _, _, _) _
        cases hq15 : M11.2.1 31 4 with
        | none => rw [hq15] at h; cases h
        | some p13 =>
          rw [hq15] at h
          dsimp only at h
          by_cases f14 : p13 = 17
          · rw [if_pos f14] at h
            subst f14
            show pm_ev _ _ _ _ _ (34, [some (.ref 31), some (.int x1), some (.int x2), some (.int v10), u4, u5], [.ref 17], _, _, _) _
            refine pe_blk mm_213 1 (s' := (35, [some (.ref 31), some (.int x1), some (.int x2), some (.int v10), u4, u5], [.int x2, .ref 17], _, _, _)) rfl ?_
            skip
            cases hc18 : F185 n x2 M11 with
            | none => rw [hc18] at h; cases h
            | some w =>
              obtain ⟨v16, M17⟩ := w
              rw [hc18] at h
              dsimp only at h
              refine pe_virt (al := [.int x2]) (a := 17) (L0 := [some (.ref 17), some (.int x2)]) (r1 := (some (.int v16), 129, 17845, hp M17)) mm_213 rfl rfl rfl mm_185 rfl (by decide) (by decide) rfl (Nat.le_of_ble_eq_true rfl) (Nat.le_of_ble_eq_true rfl) rfl rfl (F185_ev sc n x2 _ e1 (by omega) _ _ hc18) ?_
              show pm_ev _ _ _ _ _ (38, [some (.ref 31), some (.int x1), some (.int x2), some (.int v10), u4, u5], [.int v16], _, _, _) _
              refine pe_blk mm_213 1 (s' := (40, [some (.ref 31), some (.int x1), some (.int x2), some (.int v10), some (.int v16), u5], [], _, _, _)) rfl ?_
              exact J213_40_ev sc n (e1 + 1) he x1 v10 v16 _ _ _ _ _ h
          · rw [if_neg f14] at h
            cases h
    · rw [if_neg f8] at h
      cases h
/-- ArmExpander$Writer.writeUse -/
def F213 (n : Nat) (a0 : Int32) (M : Mem) : Option (Unit × Mem) :=
  match M.2.1 31 4 with | some p1 => (if p1 = 17 then (match F183 n a0 (M.1 32 0) (M.1 32 1) M with | some (v4, M5) => (J213_21 n a0 v4 M5) | none => none) else none) | none => none
set_option maxRecDepth 100000 in
set_option maxHeartbeats 4000000 in
theorem F213_ev (sc : Option (Nat × (Nat → Int32))) (n : Nat) (a0 : Int32)  (M : Mem) (e : Nat) (he : 3 ≤ e) (r : Unit) (M' : Mem) (h : F213 n a0 M = some (r, M')) : pm_ev pmT sc e 213 false (0, [some (.ref 31), some (.int a0), none, none, none, none], [], 129, 17845, hp M) (none, 129, 17845, hp M') := by
  unfold F213 at h
  refine pe_blk mm_213 1 (s' := (1, [some (.ref 31), some (.int a0), none, none, none, none], [.ref 31], _, _, _)) rfl ?_
  refine pe_get mm_213 rfl rfl rfl (by decide) rfl ?_
  show pm_ev _ _ _ _ _ (4, [some (.ref 31), some (.int a0), none, none, none, none], va_rf (M.2.1 31 4) :: [], _, _, _) _
  cases hq3 : M.2.1 31 4 with
  | none => rw [hq3] at h; cases h
  | some p1 =>
    rw [hq3] at h
    dsimp only at h
    by_cases f2 : p1 = 17
    · rw [if_pos f2] at h
      subst f2
      show pm_ev _ _ _ _ _ (4, [some (.ref 31), some (.int a0), none, none, none, none], [.ref 17], _, _, _) _
      refine pe_blk mm_213 2 (s' := (6, [some (.ref 31), some (.int a0), none, none, none, none], [.ref 31, .int a0, .ref 17], _, _, _)) rfl ?_
      refine pe_get mm_213 rfl rfl rfl (by decide) rfl ?_
      refine pe_blk mm_213 1 (s' := (10, [some (.ref 31), some (.int a0), none, none, none, none], [.int 0, .ref 32, .int a0, .ref 17], _, _, _)) rfl ?_
      refine pe_iald (f := M.1 32) mm_213 rfl rfl (by decide) (by decide) ?_
      show pm_ev _ _ _ _ _ (11, [some (.ref 31), some (.int a0), none, none, none, none], [.int (M.1 32 0), .int a0, .ref 17], _, _, hp (M)) _
      refine pe_blk mm_213 1 (s' := (12, [some (.ref 31), some (.int a0), none, none, none, none], [.ref 31, .int (M.1 32 0), .int a0, .ref 17], _, _, _)) rfl ?_
      refine pe_get mm_213 rfl rfl rfl (by decide) rfl ?_
      refine pe_blk mm_213 1 (s' := (16, [some (.ref 31), some (.int a0), none, none, none, none], [.int 1, .ref 32, .int (M.1 32 0), .int a0, .ref 17], _, _, _)) rfl ?_
      refine pe_iald (f := M.1 32) mm_213 rfl rfl (by decide) (by decide) ?_
      show pm_ev _ _ _ _ _ (17, [some (.ref 31), some (.int a0), none, none, none, none], [.int (M.1 32 1), .int (M.1 32 0), .int a0, .ref 17], _, _, hp (M)) _
      obtain ⟨e1, rfl⟩ : ∃ e1, e = e1 + 1 := ⟨e - 1, by omega⟩
      cases hc6 : F183 n a0 (M.1 32 0) (M.1 32 1) M with
      | none => rw [hc6] at h; cases h
      | some w =>
        obtain ⟨v4, M5⟩ := w
        rw [hc6] at h
        dsimp only at h
        refine pe_virt (al := [.int (M.1 32 1), .int (M.1 32 0), .int a0]) (a := 17) (L0 := [some (.ref 17), some (.int a0), some (.int (M.1 32 0)), some (.int (M.1 32 1)), none, none]) (r1 := (some (.int v4), 129, 17845, hp M5)) mm_213 rfl rfl rfl mm_183 rfl (by decide) (by decide) rfl (Nat.le_of_ble_eq_true rfl) (Nat.le_of_ble_eq_true rfl) rfl rfl (F183_ev sc n a0 (M.1 32 0) (M.1 32 1) _ e1 (by omega) _ _ hc6) ?_
        show pm_ev _ _ _ _ _ (20, [some (.ref 31), some (.int a0), none, none, none, none], [.int v4], _, _, _) _
        refine pe_blk mm_213 1 (s' := (21, [some (.ref 31), some (.int a0), some (.int v4), none, none, none], [], _, _, _)) rfl ?_
        exact J213_21_ev sc n (e1 + 1) he a0 v4 _ _ _ _ _ _ h
    · rw [if_neg f2] at h
      cases h
/-- ArmExpander.token -/
def F6 (n : Nat) (a0 : Int32) (M : Mem) : Option (Int32 × Mem) :=
  match F136 n M with | some (v1, M2) => (match v1 with | some p4 => (if isR p4 then (match F170 n p4 a0 M2 with | some (v7, M8) => (some (v7, M8)) | none => none) else none) | none => none) | none => none
set_option maxRecDepth 100000 in
set_option maxHeartbeats 4000000 in
theorem F6_ev (sc : Option (Nat × (Nat → Int32))) (n : Nat) (a0 : Int32)  (M : Mem) (e : Nat) (he : 2 ≤ e) (r : Int32) (M' : Mem) (h : F6 n a0 M = some (r, M')) : pm_ev pmT sc e 6 false (0, [some (.ref 0), some (.int a0)], [], 129, 17845, hp M) (some (.int r), 129, 17845, hp M') := by
  unfold F6 at h
  refine pe_blk mm_6 1 (s' := (1, [some (.ref 0), some (.int a0)], [.ref 0], _, _, _)) rfl ?_
  refine pe_get mm_6 rfl rfl rfl (by decide) rfl ?_
  obtain ⟨e1, rfl⟩ : ∃ e1, e = e1 + 1 := ⟨e - 1, by omega⟩
  cases hc3 : F136 n M with
  | none => rw [hc3] at h; cases h
  | some w =>
    obtain ⟨v1, M2⟩ := w
    rw [hc3] at h
    dsimp only at h
    refine pe_virt (al := []) (a := 12) (L0 := [some (.ref 12)]) (r1 := (some (va_rf v1), 129, 17845, hp M2)) mm_6 rfl rfl rfl mm_136 rfl (by decide) (by decide) rfl (Nat.le_of_ble_eq_true rfl) (Nat.le_of_ble_eq_true rfl) rfl rfl (F136_ev sc n _ e1 (by omega) _ _ hc3) ?_
    show pm_ev _ _ _ _ _ (7, [some (.ref 0), some (.int a0)], va_rf (v1) :: [], _, _, _) _
    cases hq6 : v1 with
    | none => rw [hq6] at h; cases h
    | some p4 =>
      rw [hq6] at h
      dsimp only at h
      by_cases f5 : isR p4
      · rw [if_pos f5] at h
        show pm_ev _ _ _ _ _ (7, [some (.ref 0), some (.int a0)], [.ref p4], _, _, _) _
        refine pe_blk mm_6 1 (s' := (8, [some (.ref 0), some (.int a0)], [.int a0, .ref p4], _, _, _)) rfl ?_
        skip
        cases hc9 : F170 n p4 a0 M2 with
        | none => rw [hc9] at h; cases h
        | some w =>
          obtain ⟨v7, M8⟩ := w
          rw [hc9] at h
          dsimp only at h
          refine pe_virt (al := [.int a0]) (a := p4) (L0 := [some (.ref p4), some (.int a0)]) (r1 := (some (.int v7), 129, 17845, hp M8)) mm_6 rfl rfl rfl mm_170 (isR_0 f5 _) (by have := isR_lt f5; omega) (by decide) rfl (Nat.le_of_ble_eq_true rfl) (Nat.le_of_ble_eq_true rfl) rfl rfl (F170_ev sc n p4 a0 f5 _ e1 (by omega) _ _ hc9) ?_
          show pm_ev _ _ _ _ _ (11, [some (.ref 0), some (.int a0)], [.int v7], _, _, _) _
          cases h
          exact pe_ret mm_6 rfl rfl
      · rw [if_neg f5] at h
        cases h
/-- ArmExpander.mark -/
def F7 (n : Nat) (a0 : Int32) (M : Mem) : Option (Int32 × Mem) :=
  match F136 n M with | some (v1, M2) => (match v1 with | some p4 => (if isR p4 then (match F171 n p4 a0 M2 with | some (v7, M8) => (some (v7, M8)) | none => none) else none) | none => none) | none => none
set_option maxRecDepth 100000 in
set_option maxHeartbeats 4000000 in
theorem F7_ev (sc : Option (Nat × (Nat → Int32))) (n : Nat) (a0 : Int32)  (M : Mem) (e : Nat) (he : 2 ≤ e) (r : Int32) (M' : Mem) (h : F7 n a0 M = some (r, M')) : pm_ev pmT sc e 7 false (0, [some (.ref 0), some (.int a0)], [], 129, 17845, hp M) (some (.int r), 129, 17845, hp M') := by
  unfold F7 at h
  refine pe_blk mm_7 1 (s' := (1, [some (.ref 0), some (.int a0)], [.ref 0], _, _, _)) rfl ?_
  refine pe_get mm_7 rfl rfl rfl (by decide) rfl ?_
  obtain ⟨e1, rfl⟩ : ∃ e1, e = e1 + 1 := ⟨e - 1, by omega⟩
  cases hc3 : F136 n M with
  | none => rw [hc3] at h; cases h
  | some w =>
    obtain ⟨v1, M2⟩ := w
    rw [hc3] at h
    dsimp only at h
    refine pe_virt (al := []) (a := 12) (L0 := [some (.ref 12)]) (r1 := (some (va_rf v1), 129, 17845, hp M2)) mm_7 rfl rfl rfl mm_136 rfl (by decide) (by decide) rfl (Nat.le_of_ble_eq_true rfl) (Nat.le_of_ble_eq_true rfl) rfl rfl (F136_ev sc n _ e1 (by omega) _ _ hc3) ?_
    show pm_ev _ _ _ _ _ (7, [some (.ref 0), some (.int a0)], va_rf (v1) :: [], _, _, _) _
    cases hq6 : v1 with
    | none => rw [hq6] at h; cases h
    | some p4 =>
      rw [hq6] at h
      dsimp only at h
      by_cases f5 : isR p4
      · rw [if_pos f5] at h
        show pm_ev _ _ _ _ _ (7, [some (.ref 0), some (.int a0)], [.ref p4], _, _, _) _
        refine pe_blk mm_7 1 (s' := (8, [some (.ref 0), some (.int a0)], [.int a0, .ref p4], _, _, _)) rfl ?_
        skip
        cases hc9 : F171 n p4 a0 M2 with
        | none => rw [hc9] at h; cases h
        | some w =>
          obtain ⟨v7, M8⟩ := w
          rw [hc9] at h
          dsimp only at h
          refine pe_virt (al := [.int a0]) (a := p4) (L0 := [some (.ref p4), some (.int a0)]) (r1 := (some (.int v7), 129, 17845, hp M8)) mm_7 rfl rfl rfl mm_171 (isR_0 f5 _) (by have := isR_lt f5; omega) (by decide) rfl (Nat.le_of_ble_eq_true rfl) (Nat.le_of_ble_eq_true rfl) rfl rfl (F171_ev sc n p4 a0 f5 _ e1 (by omega) _ _ hc9) ?_
          show pm_ev _ _ _ _ _ (11, [some (.ref 0), some (.int a0)], [.int v7], _, _, _) _
          cases h
          exact pe_ret mm_7 rfl rfl
      · rw [if_neg f5] at h
        cases h
/-- ArmExpander.means -/
def F8 (n : Nat) (a0 : Int32) (M : Mem) : Option (Int32 × Mem) :=
  match F136 n M with | some (v1, M2) => (match v1 with | some p4 => (if isR p4 then (match F174 n p4 a0 M2 with | some (v7, M8) => (some (v7, M8)) | none => none) else none) | none => none) | none => none
set_option maxRecDepth 100000 in
set_option maxHeartbeats 4000000 in
theorem F8_ev (sc : Option (Nat × (Nat → Int32))) (n : Nat) (a0 : Int32)  (M : Mem) (e : Nat) (he : 4 ≤ e) (r : Int32) (M' : Mem) (h : F8 n a0 M = some (r, M')) : pm_ev pmT sc e 8 false (0, [some (.ref 0), some (.int a0)], [], 129, 17845, hp M) (some (.int r), 129, 17845, hp M') := by
  unfold F8 at h
  refine pe_blk mm_8 1 (s' := (1, [some (.ref 0), some (.int a0)], [.ref 0], _, _, _)) rfl ?_
  refine pe_get mm_8 rfl rfl rfl (by decide) rfl ?_
  obtain ⟨e1, rfl⟩ : ∃ e1, e = e1 + 1 := ⟨e - 1, by omega⟩
  cases hc3 : F136 n M with
  | none => rw [hc3] at h; cases h
  | some w =>
    obtain ⟨v1, M2⟩ := w
    rw [hc3] at h
    dsimp only at h
    refine pe_virt (al := []) (a := 12) (L0 := [some (.ref 12)]) (r1 := (some (va_rf v1), 129, 17845, hp M2)) mm_8 rfl rfl rfl mm_136 rfl (by decide) (by decide) rfl (Nat.le_of_ble_eq_true rfl) (Nat.le_of_ble_eq_true rfl) rfl rfl (F136_ev sc n _ e1 (by omega) _ _ hc3) ?_
    show pm_ev _ _ _ _ _ (7, [some (.ref 0), some (.int a0)], va_rf (v1) :: [], _, _, _) _
    cases hq6 : v1 with
    | none => rw [hq6] at h; cases h
    | some p4 =>
      rw [hq6] at h
      dsimp only at h
      by_cases f5 : isR p4
      · rw [if_pos f5] at h
        show pm_ev _ _ _ _ _ (7, [some (.ref 0), some (.int a0)], [.ref p4], _, _, _) _
        refine pe_blk mm_8 1 (s' := (8, [some (.ref 0), some (.int a0)], [.int a0, .ref p4], _, _, _)) rfl ?_
        skip
        cases hc9 : F174 n p4 a0 M2 with
        | none => rw [hc9] at h; cases h
        | some w =>
          obtain ⟨v7, M8⟩ := w
          rw [hc9] at h
          dsimp only at h
          refine pe_virt (al := [.int a0]) (a := p4) (L0 := [some (.ref p4), some (.int a0), none, none]) (r1 := (some (.int v7), 129, 17845, hp M8)) mm_8 rfl rfl rfl mm_174 (isR_0 f5 _) (by have := isR_lt f5; omega) (by decide) rfl (Nat.le_of_ble_eq_true rfl) (Nat.le_of_ble_eq_true rfl) rfl rfl (F174_ev sc n p4 a0 f5 _ e1 (by omega) _ _ hc9) ?_
          show pm_ev _ _ _ _ _ (11, [some (.ref 0), some (.int a0)], [.int v7], _, _, _) _
          cases h
          exact pe_ret mm_8 rfl rfl
      · rw [if_neg f5] at h
        cases h
def J131_53 (n : Nat) (s0 : Int32) (M : Mem) : Option (Int32 × Mem) :=
  if s0 = 0 ∨ s0 = 1 then some (s0, M) else none
set_option maxRecDepth 100000 in
set_option maxHeartbeats 4000000 in
theorem J131_53_ev (sc : Option (Nat × (Nat → Int32))) (n : Nat)  (e : Nat) (he : 3 ≤ e) : ∀ (s0 : Int32) (u0 : Option Value) (u1 : Option Value) (M : Mem) (r : Int32) (M' : Mem), J131_53 n s0 M = some (r, M') → pm_ev pmT sc e 131 false (53, [u0, u1], [.int s0], 129, 17845, hp M) (some (.int r), 129, 17845, hp M') := by
  intro s0 u0 u1 M r M' h
  unfold J131_53 at h
  by_cases q14 : s0 = 0 ∨ s0 = 1
  · rw [if_pos q14] at h
    cases h
    exact pe_ret mm_131 rfl (if_pos q14)
  · rw [if_neg q14] at h
    cases h
def J131_48 (n : Nat) (M : Mem) : Option (Int32 × Mem) :=
  J131_53 n 1 M
set_option maxRecDepth 100000 in
set_option maxHeartbeats 4000000 in
theorem J131_48_ev (sc : Option (Nat × (Nat → Int32))) (n : Nat)  (e : Nat) (he : 3 ≤ e) : ∀ (u0 : Option Value) (u1 : Option Value) (M : Mem) (r : Int32) (M' : Mem), J131_48 n  M = some (r, M') → pm_ev pmT sc e 131 false (48, [u0, u1], [], 129, 17845, hp M) (some (.int r), 129, 17845, hp M') := by
  intro u0 u1 M r M' h
  unfold J131_48 at h
  refine pe_blk mm_131 2 (s' := (53, [u0, u1], [.int 1], _, _, _)) rfl ?_
  exact J131_53_ev sc n e he 1 _ _ _ _ _ h
def J131_40 (n : Nat) (x1 : Int32) (M : Mem) : Option (Int32 × Mem) :=
  match F132 n x1 M with | some (v15, M16) => (if v15 = 0 then (J131_53 n 0 M16) else (J131_48 n M16)) | none => none
set_option maxRecDepth 100000 in
set_option maxHeartbeats 4000000 in
theorem J131_40_ev (sc : Option (Nat × (Nat → Int32))) (n : Nat)  (e : Nat) (he : 3 ≤ e) : ∀ (x1 : Int32) (M : Mem) (r : Int32) (M' : Mem), J131_40 n x1 M = some (r, M') → pm_ev pmT sc e 131 false (40, [some (.ref 3), some (.int x1)], [], 129, 17845, hp M) (some (.int r), 129, 17845, hp M') := by
  intro x1  M r M' h
  unfold J131_40 at h
  refine pe_blk mm_131 2 (s' := (42, [some (.ref 3), some (.int x1)], [.int x1, .ref 3], _, _, _)) rfl ?_
  obtain ⟨e1, rfl⟩ : ∃ e1, e = e1 + 1 := ⟨e - 1, by omega⟩
  cases hc17 : F132 n x1 M with
  | none => rw [hc17] at h; cases h
  | some w =>
    obtain ⟨v15, M16⟩ := w
    rw [hc17] at h
    dsimp only at h
    refine pe_virt (al := [.int x1]) (a := 3) (L0 := [some (.ref 3), some (.int x1), none]) (r1 := (some (.int v15), 129, 17845, hp M16)) mm_131 rfl rfl rfl mm_132 rfl (by decide) (by decide) rfl (Nat.le_of_ble_eq_true rfl) (Nat.le_of_ble_eq_true rfl) rfl rfl (F132_ev sc n x1 _ e1 (by omega) _ _ hc17) ?_
    show pm_ev _ _ _ _ _ (45, [some (.ref 3), some (.int x1)], [.int v15], _, _, _) _
    by_cases q18 : v15 = 0
    · rw [if_pos q18] at h
      refine pe_blk mm_131 1 (s' := (if v15 = 0 then 52 else 48, [some (.ref 3), some (.int x1)], [], _, _, _)) rfl ?_
      rw [if_pos q18]
      refine pe_blk mm_131 1 (s' := (53, [some (.ref 3), some (.int x1)], [.int 0], _, _, _)) rfl ?_
      exact J131_53_ev sc n (e1 + 1) he 0 _ _ _ _ _ h
    · rw [if_neg q18] at h
      refine pe_blk mm_131 1 (s' := (if v15 = 0 then 52 else 48, [some (.ref 3), some (.int x1)], [], _, _, _)) rfl ?_
      rw [if_neg q18]
      exact J131_48_ev sc n (e1 + 1) he _ _ _ _ _ h
/-- ArmExpander$DefinitionReader.acceptsPart -/
def F131 (n : Nat) (a0 : Int32) (M : Mem) : Option (Int32 × Mem) :=
  if a0 = 36 then (match F129 n 1 5 M with | some (v2, M3) => (if v2 = 0 ∨ v2 = 1 then some (v2, M3) else none) | none => none) else (match F13 n a0 M with | some (v6, M7) => (if v6 = 0 then (match F14 n a0 M7 with | some (v10, M11) => (if v10 = 0 then (J131_48 n M11) else (J131_40 n a0 M11)) | none => none) else (match F162 n 4 (M7.1 3 3) a0 M7 with | some (v19, M20) => (if v19 = 0 ∨ v19 = 1 then some (v19, M20) else none) | none => none)) | none => none)
set_option maxRecDepth 100000 in
set_option maxHeartbeats 4000000 in
theorem F131_ev (sc : Option (Nat × (Nat → Int32))) (n : Nat) (a0 : Int32)  (M : Mem) (e : Nat) (he : 3 ≤ e) (r : Int32) (M' : Mem) (h : F131 n a0 M = some (r, M')) : pm_ev pmT sc e 131 false (0, [some (.ref 3), some (.int a0)], [], 129, 17845, hp M) (some (.int r), 129, 17845, hp M') := by
  unfold F131 at h
  refine pe_blk mm_131 2 (s' := (3, [some (.ref 3), some (.int a0)], [.int 36, .int a0], _, _, _)) rfl ?_
  by_cases q1 : a0 = 36
  · rw [if_pos q1] at h
    refine pe_blk mm_131 1 (s' := (if a0 = 36 then 6 else 13, [some (.ref 3), some (.int a0)], [], _, _, _)) rfl ?_
    rw [if_pos q1]
    refine pe_blk mm_131 3 (s' := (9, [some (.ref 3), some (.int a0)], [.int 5, .int 1, .ref 3], _, _, _)) rfl ?_
    obtain ⟨e1, rfl⟩ : ∃ e1, e = e1 + 1 := ⟨e - 1, by omega⟩
    cases hc4 : F129 n 1 5 M with
    | none => rw [hc4] at h; cases h
    | some w =>
      obtain ⟨v2, M3⟩ := w
      rw [hc4] at h
      dsimp only at h
      refine pe_virt (al := [.int 5, .int 1]) (a := 3) (L0 := [some (.ref 3), some (.int 1), some (.int 5)]) (r1 := (some (.int v2), 129, 17845, hp M3)) mm_131 rfl rfl rfl mm_129 rfl (by decide) (by decide) rfl (Nat.le_of_ble_eq_true rfl) (Nat.le_of_ble_eq_true rfl) rfl rfl (F129_ev sc n 1 5 _ e1 (by omega) _ _ hc4) ?_
      show pm_ev _ _ _ _ _ (12, [some (.ref 3), some (.int a0)], [.int v2], _, _, _) _
      by_cases q5 : v2 = 0 ∨ v2 = 1
      · rw [if_pos q5] at h
        cases h
        exact pe_ret mm_131 rfl (if_pos q5)
      · rw [if_neg q5] at h
        cases h
  · rw [if_neg q1] at h
    refine pe_blk mm_131 1 (s' := (if a0 = 36 then 6 else 13, [some (.ref 3), some (.int a0)], [], _, _, _)) rfl ?_
    rw [if_neg q1]
    refine pe_blk mm_131 1 (s' := (14, [some (.ref 3), some (.int a0)], [.int a0], _, _, _)) rfl ?_
    obtain ⟨e1, rfl⟩ : ∃ e1, e = e1 + 1 := ⟨e - 1, by omega⟩
    cases hc8 : F13 n a0 M with
    | none => rw [hc8] at h; cases h
    | some w =>
      obtain ⟨v6, M7⟩ := w
      rw [hc8] at h
      dsimp only at h
      refine pe_stat (al := [.int a0]) (L0 := [some (.int a0)]) (r1 := (some (.int v6), 129, 17845, hp M7)) mm_131 rfl rfl rfl mm_13 rfl (Nat.le_of_ble_eq_true rfl) (Nat.le_of_ble_eq_true rfl) rfl rfl (F13_ev sc n a0 _ e1 (by omega) _ _ hc8) ?_
      show pm_ev _ _ _ _ _ (17, [some (.ref 3), some (.int a0)], [.int v6], _, _, _) _
      by_cases q9 : v6 = 0
      · rw [if_pos q9] at h
        refine pe_blk mm_131 1 (s' := (if v6 = 0 then 33 else 20, [some (.ref 3), some (.int a0)], [], _, _, _)) rfl ?_
        rw [if_pos q9]
        refine pe_blk mm_131 1 (s' := (34, [some (.ref 3), some (.int a0)], [.int a0], _, _, _)) rfl ?_
        skip
        cases hc12 : F14 n a0 M7 with
        | none => rw [hc12] at h; cases h
        | some w =>
          obtain ⟨v10, M11⟩ := w
          rw [hc12] at h
          dsimp only at h
          refine pe_stat (al := [.int a0]) (L0 := [some (.int a0)]) (r1 := (some (.int v10), 129, 17845, hp M11)) mm_131 rfl rfl rfl mm_14 rfl (Nat.le_of_ble_eq_true rfl) (Nat.le_of_ble_eq_true rfl) rfl rfl (F14_ev sc n a0 _ e1 (by omega) _ _ hc12) ?_
          show pm_ev _ _ _ _ _ (37, [some (.ref 3), some (.int a0)], [.int v10], _, _, _) _
          by_cases q13 : v10 = 0
          · rw [if_pos q13] at h
            refine pe_blk mm_131 1 (s' := (if v10 = 0 then 48 else 40, [some (.ref 3), some (.int a0)], [], _, _, _)) rfl ?_
            rw [if_pos q13]
            exact J131_48_ev sc n (e1 + 1) he _ _ _ _ _ h
          · rw [if_neg q13] at h
            refine pe_blk mm_131 1 (s' := (if v10 = 0 then 48 else 40, [some (.ref 3), some (.int a0)], [], _, _, _)) rfl ?_
            rw [if_neg q13]
            exact J131_40_ev sc n (e1 + 1) he a0 _ _ _ h
      · rw [if_neg q9] at h
        refine pe_blk mm_131 1 (s' := (if v6 = 0 then 33 else 20, [some (.ref 3), some (.int a0)], [], _, _, _)) rfl ?_
        rw [if_neg q9]
        refine pe_blk mm_131 1 (s' := (21, [some (.ref 3), some (.int a0)], [.ref 3], _, _, _)) rfl ?_
        refine pe_get mm_131 rfl rfl rfl (by decide) rfl ?_
        refine pe_blk mm_131 1 (s' := (25, [some (.ref 3), some (.int a0)], [.ref 3, .ref 4], _, _, _)) rfl ?_
        refine pe_get mm_131 rfl rfl rfl (by decide) rfl ?_
        refine pe_blk mm_131 1 (s' := (29, [some (.ref 3), some (.int a0)], [.int a0, .int (M7.1 3 3), .ref 4], _, _, _)) rfl ?_
        skip
        cases hc21 : F162 n 4 (M7.1 3 3) a0 M7 with
        | none => rw [hc21] at h; cases h
        | some w =>
          obtain ⟨v19, M20⟩ := w
          rw [hc21] at h
          dsimp only at h
          refine pe_virt (al := [.int a0, .int (M7.1 3 3)]) (a := 4) (L0 := [some (.ref 4), some (.int (M7.1 3 3)), some (.int a0)]) (r1 := (some (.int v19), 129, 17845, hp M20)) mm_131 rfl rfl rfl mm_162 rfl (by decide) (by decide) rfl (Nat.le_of_ble_eq_true rfl) (Nat.le_of_ble_eq_true rfl) rfl rfl (F162_ev sc n 4 (M7.1 3 3) a0 (by decide) _ e1 (by omega) _ _ hc21) ?_
          show pm_ev _ _ _ _ _ (32, [some (.ref 3), some (.int a0)], [.int v19], _, _, _) _
          by_cases q22 : v19 = 0 ∨ v19 = 1
          · rw [if_pos q22] at h
            cases h
            exact pe_ret mm_131 rfl (if_pos q22)
          · rw [if_neg q22] at h
            cases h
