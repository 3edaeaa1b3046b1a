/-! The methods as functions over Mem; written by program. -/
def J128_76 (n : Nat) (x1 : Int32) (M : Mem) : Option (Int32 × Mem) :=
  match F11 n x1 M with | some (v13, M14) => (match F129 n v13 1 M14 with | some (v16, M17) => (if v16 = 0 ∨ v16 = 1 then some (v16, M17) else none) | none => none) | none => none
set_option maxRecDepth 100000 in
set_option maxHeartbeats 4000000 in
theorem J128_76_ev (sc : Option (Nat × (Nat → Int32))) (n : Nat)  (e : Nat) (he : 4 ≤ e) : ∀ (x1 : Int32) (u2 : Option Value) (M : Mem) (r : Int32) (M' : Mem), J128_76 n x1 M = some (r, M') → pm_ev pmT sc e 128 false (76, [some (.ref 3), some (.int x1), u2], [], 129, 17845, hp M) (some (.int r), 129, 17845, hp M') := by
  intro x1 u2 M r M' h
  unfold J128_76 at h
  refine pe_blk mm_128 2 (s' := (78, [some (.ref 3), some (.int x1), u2], [.int x1, .ref 3], _, _, _)) rfl ?_
  obtain ⟨e1, rfl⟩ : ∃ e1, e = e1 + 1 := ⟨e - 1, by omega⟩
  cases hc15 : F11 n x1 M with
  | none => rw [hc15] at h; cases h
  | some w =>
    obtain ⟨v13, M14⟩ := w
    rw [hc15] at h
    dsimp only at h
    refine pe_stat (al := [.int x1]) (L0 := [some (.int x1)]) (r1 := (some (.int v13), 129, 17845, hp M14)) mm_128 rfl rfl rfl mm_11 rfl (Nat.le_of_ble_eq_true rfl) (Nat.le_of_ble_eq_true rfl) rfl rfl (F11_ev sc n x1 _ e1 (by omega) _ _ hc15) ?_
    show pm_ev _ _ _ _ _ (81, [some (.ref 3), some (.int x1), u2], [.int v13, .ref 3], _, _, _) _
    refine pe_blk mm_128 1 (s' := (82, [some (.ref 3), some (.int x1), u2], [.int 1, .int v13, .ref 3], _, _, _)) rfl ?_
    skip
    cases hc18 : F129 n v13 1 M14 with
    | none => rw [hc18] at h; cases h
    | some w =>
      obtain ⟨v16, M17⟩ := w
      rw [hc18] at h
      dsimp only at h
      refine pe_virt (al := [.int 1, .int v13]) (a := 3) (L0 := [some (.ref 3), some (.int v13), some (.int 1)]) (r1 := (some (.int v16), 129, 17845, hp M17)) mm_128 rfl rfl rfl mm_129 rfl (by decide) (by decide) rfl (Nat.le_of_ble_eq_true rfl) (Nat.le_of_ble_eq_true rfl) rfl rfl (F129_ev sc n v13 1 _ e1 (by omega) _ _ hc18) ?_
      show pm_ev _ _ _ _ _ (85, [some (.ref 3), some (.int x1), u2], [.int v16], _, _, _) _
      by_cases q19 : v16 = 0 ∨ v16 = 1
      · rw [if_pos q19] at h
        cases h
        exact pe_ret mm_128 rfl (if_pos q19)
      · rw [if_neg q19] at h
        cases h
def J128_86 (n : Nat) (x1 : Int32) (M : Mem) : Option (Int32 × Mem) :=
  match F130 n x1 M with | some (v20, M21) => (if v20 = 0 ∨ v20 = 1 then some (v20, M21) else none) | none => none
set_option maxRecDepth 100000 in
set_option maxHeartbeats 4000000 in
theorem J128_86_ev (sc : Option (Nat × (Nat → Int32))) (n : Nat)  (e : Nat) (he : 4 ≤ e) : ∀ (x1 : Int32) (u2 : Option Value) (M : Mem) (r : Int32) (M' : Mem), J128_86 n x1 M = some (r, M') → pm_ev pmT sc e 128 false (86, [some (.ref 3), some (.int x1), u2], [], 129, 17845, hp M) (some (.int r), 129, 17845, hp M') := by
  intro x1 u2 M r M' h
  unfold J128_86 at h
  refine pe_blk mm_128 2 (s' := (88, [some (.ref 3), some (.int x1), u2], [.int x1, .ref 3], _, _, _)) rfl ?_
  obtain ⟨e1, rfl⟩ : ∃ e1, e = e1 + 1 := ⟨e - 1, by omega⟩
  cases hc22 : F130 n x1 M with
  | none => rw [hc22] at h; cases h
  | some w =>
    obtain ⟨v20, M21⟩ := w
    rw [hc22] at h
    dsimp only at h
    refine pe_virt (al := [.int x1]) (a := 3) (L0 := [some (.ref 3), some (.int x1)]) (r1 := (some (.int v20), 129, 17845, hp M21)) mm_128 rfl rfl rfl mm_130 rfl (by decide) (by decide) rfl (Nat.le_of_ble_eq_true rfl) (Nat.le_of_ble_eq_true rfl) rfl rfl (F130_ev sc n x1 _ e1 (by omega) _ _ hc22) ?_
    show pm_ev _ _ _ _ _ (91, [some (.ref 3), some (.int x1), u2], [.int v20], _, _, _) _
    by_cases q23 : v20 = 0 ∨ v20 = 1
    · rw [if_pos q23] at h
      cases h
      exact pe_ret mm_128 rfl (if_pos q23)
    · rw [if_neg q23] at h
      cases h
def J128_124 (n : Nat) (s0 : Int32) (M : Mem) : Option (Int32 × Mem) :=
  match F129 n s0 4 M with | some (v30, M31) => (if v30 = 0 ∨ v30 = 1 then some (v30, M31) else none) | none => none
set_option maxRecDepth 100000 in
set_option maxHeartbeats 4000000 in
theorem J128_124_ev (sc : Option (Nat × (Nat → Int32))) (n : Nat)  (e : Nat) (he : 4 ≤ e) : ∀ (s0 : Int32) (u0 : Option Value) (u1 : Option Value) (u2 : Option Value) (M : Mem) (r : Int32) (M' : Mem), J128_124 n s0 M = some (r, M') → pm_ev pmT sc e 128 false (124, [u0, u1, u2], [.int s0, .ref 3], 129, 17845, hp M) (some (.int r), 129, 17845, hp M') := by
  intro s0 u0 u1 u2 M r M' h
  unfold J128_124 at h
  refine pe_blk mm_128 1 (s' := (125, [u0, u1, u2], [.int 4, .int s0, .ref 3], _, _, _)) rfl ?_
  obtain ⟨e1, rfl⟩ : ∃ e1, e = e1 + 1 := ⟨e - 1, by omega⟩
  cases hc32 : F129 n s0 4 M with
  | none => rw [hc32] at h; cases h
  | some w =>
    obtain ⟨v30, M31⟩ := w
    rw [hc32] at h
    dsimp only at h
    refine pe_virt (al := [.int 4, .int s0]) (a := 3) (L0 := [some (.ref 3), some (.int s0), some (.int 4)]) (r1 := (some (.int v30), 129, 17845, hp M31)) mm_128 rfl rfl rfl mm_129 rfl (by decide) (by decide) rfl (Nat.le_of_ble_eq_true rfl) (Nat.le_of_ble_eq_true rfl) rfl rfl (F129_ev sc n s0 4 _ e1 (by omega) _ _ hc32) ?_
    show pm_ev _ _ _ _ _ (128, [u0, u1, u2], [.int v30], _, _, _) _
    by_cases q33 : v30 = 0 ∨ v30 = 1
    · rw [if_pos q33] at h
      cases h
      exact pe_ret mm_128 rfl (if_pos q33)
    · rw [if_neg q33] at h
      cases h
def J128_123 (n : Nat) (M : Mem) : Option (Int32 × Mem) :=
  J128_124 n 0 M
set_option maxRecDepth 100000 in
set_option maxHeartbeats 4000000 in
theorem J128_123_ev (sc : Option (Nat × (Nat → Int32))) (n : Nat)  (e : Nat) (he : 4 ≤ e) : ∀ (u0 : Option Value) (u1 : Option Value) (u2 : Option Value) (M : Mem) (r : Int32) (M' : Mem), J128_123 n  M = some (r, M') → pm_ev pmT sc e 128 false (123, [u0, u1, u2], [.ref 3], 129, 17845, hp M) (some (.int r), 129, 17845, hp M') := by
  intro u0 u1 u2 M r M' h
  unfold J128_123 at h
  refine pe_blk mm_128 1 (s' := (124, [u0, u1, u2], [.int 0, .ref 3], _, _, _)) rfl ?_
  exact J128_124_ev sc n e he 0 _ _ _ _ _ _ h
def J128_92 (n : Nat) (x1 : Int32) (M : Mem) : Option (Int32 × Mem) :=
  mlet (m_i M 3 4 0) (fun M24 => if x1 = 123 then (match F162 n 4 (M24.1 3 3) x1 M24 with | some (v26, M27) => (if v26 = 0 then (J128_123 n M27) else (J128_124 n 1 M27)) | none => none) else (J128_123 n M24))
set_option maxRecDepth 100000 in
set_option maxHeartbeats 4000000 in
theorem J128_92_ev (sc : Option (Nat × (Nat → Int32))) (n : Nat)  (e : Nat) (he : 4 ≤ e) : ∀ (x1 : Int32) (u2 : Option Value) (M : Mem) (r : Int32) (M' : Mem), J128_92 n x1 M = some (r, M') → pm_ev pmT sc e 128 false (92, [some (.ref 3), some (.int x1), u2], [], 129, 17845, hp M) (some (.int r), 129, 17845, hp M') := by
  intro x1 u2 M r M' h
  unfold J128_92 at h
  refine pe_blk mm_128 2 (s' := (94, [some (.ref 3), some (.int x1), u2], [.int 0, .ref 3], _, _, _)) rfl ?_
  refine pe_puti mm_128 rfl rfl rfl (by decide) (Nat.le_of_ble_eq_true rfl) rfl rfl ?_
  show pm_ev _ _ _ _ _ (97, [some (.ref 3), some (.int x1), u2], [], _, _, hp (m_i M 3 4 0)) _
  generalize m_i M 3 4 0 = M24 at h ⊢
  rw [mlet] at h
  refine pe_blk mm_128 3 (s' := (101, [some (.ref 3), some (.int x1), u2], [.int 123, .int x1, .ref 3], _, _, _)) rfl ?_
  by_cases q25 : x1 = 123
  · rw [if_pos q25] at h
    refine pe_blk mm_128 1 (s' := (if x1 = 123 then 104 else 123, [some (.ref 3), some (.int x1), u2], [.ref 3], _, _, _)) rfl ?_
    rw [if_pos q25]
    refine pe_blk mm_128 1 (s' := (105, [some (.ref 3), some (.int x1), u2], [.ref 3, .ref 3], _, _, _)) rfl ?_
    refine pe_get mm_128 rfl rfl rfl (by decide) rfl ?_
    refine pe_blk mm_128 1 (s' := (109, [some (.ref 3), some (.int x1), u2], [.ref 3, .ref 4, .ref 3], _, _, _)) rfl ?_
    refine pe_get mm_128 rfl rfl rfl (by decide) rfl ?_
    refine pe_blk mm_128 1 (s' := (113, [some (.ref 3), some (.int x1), u2], [.int x1, .int (M24.1 3 3), .ref 4, .ref 3], _, _, _)) rfl ?_
    obtain ⟨e1, rfl⟩ : ∃ e1, e = e1 + 1 := ⟨e - 1, by omega⟩
    cases hc28 : F162 n 4 (M24.1 3 3) x1 M24 with
    | none => rw [hc28] at h; cases h
    | some w =>
      obtain ⟨v26, M27⟩ := w
      rw [hc28] at h
      dsimp only at h
      refine pe_virt (al := [.int x1, .int (M24.1 3 3)]) (a := 4) (L0 := [some (.ref 4), some (.int (M24.1 3 3)), some (.int x1)]) (r1 := (some (.int v26), 129, 17845, hp M27)) mm_128 rfl rfl rfl mm_162 rfl (by decide) (by decide) rfl (Nat.le_of_ble_eq_true rfl) (Nat.le_of_ble_eq_true rfl) rfl rfl (F162_ev sc n 4 (M24.1 3 3) x1 (by decide) _ e1 (by omega) _ _ hc28) ?_
      show pm_ev _ _ _ _ _ (116, [some (.ref 3), some (.int x1), u2], [.int v26, .ref 3], _, _, _) _
      by_cases q29 : v26 = 0
      · rw [if_pos q29] at h
        refine pe_blk mm_128 1 (s' := (if v26 = 0 then 123 else 119, [some (.ref 3), some (.int x1), u2], [.ref 3], _, _, _)) rfl ?_
        rw [if_pos q29]
        exact J128_123_ev sc n (e1 + 1) he _ _ _ _ _ _ h
      · rw [if_neg q29] at h
        refine pe_blk mm_128 1 (s' := (if v26 = 0 then 123 else 119, [some (.ref 3), some (.int x1), u2], [.ref 3], _, _, _)) rfl ?_
        rw [if_neg q29]
        refine pe_blk mm_128 2 (s' := (124, [some (.ref 3), some (.int x1), u2], [.int 1, .ref 3], _, _, _)) rfl ?_
        exact J128_124_ev sc n (e1 + 1) he 1 _ _ _ _ _ _ h
  · rw [if_neg q25] at h
    refine pe_blk mm_128 1 (s' := (if x1 = 123 then 104 else 123, [some (.ref 3), some (.int x1), u2], [.ref 3], _, _, _)) rfl ?_
    rw [if_neg q25]
    exact J128_123_ev sc n e he _ _ _ _ _ _ h
def J128_152 (n : Nat) (s0 : Int32) (M : Mem) : Option (Int32 × Mem) :=
  match F129 n s0 1 M with | some (v42, M43) => (if v42 = 0 ∨ v42 = 1 then some (v42, M43) else none) | none => none
set_option maxRecDepth 100000 in
set_option maxHeartbeats 4000000 in
theorem J128_152_ev (sc : Option (Nat × (Nat → Int32))) (n : Nat)  (e : Nat) (he : 4 ≤ e) : ∀ (s0 : Int32) (u0 : Option Value) (u1 : Option Value) (u2 : Option Value) (M : Mem) (r : Int32) (M' : Mem), J128_152 n s0 M = some (r, M') → pm_ev pmT sc e 128 false (152, [u0, u1, u2], [.int s0, .ref 3], 129, 17845, hp M) (some (.int r), 129, 17845, hp M') := by
  intro s0 u0 u1 u2 M r M' h
  unfold J128_152 at h
  refine pe_blk mm_128 1 (s' := (153, [u0, u1, u2], [.int 1, .int s0, .ref 3], _, _, _)) rfl ?_
  obtain ⟨e1, rfl⟩ : ∃ e1, e = e1 + 1 := ⟨e - 1, by omega⟩
  cases hc44 : F129 n s0 1 M with
  | none => rw [hc44] at h; cases h
  | some w =>
    obtain ⟨v42, M43⟩ := w
    rw [hc44] at h
    dsimp only at h
    refine pe_virt (al := [.int 1, .int s0]) (a := 3) (L0 := [some (.ref 3), some (.int s0), some (.int 1)]) (r1 := (some (.int v42), 129, 17845, hp M43)) mm_128 rfl rfl rfl mm_129 rfl (by decide) (by decide) rfl (Nat.le_of_ble_eq_true rfl) (Nat.le_of_ble_eq_true rfl) rfl rfl (F129_ev sc n s0 1 _ e1 (by omega) _ _ hc44) ?_
    show pm_ev _ _ _ _ _ (156, [u0, u1, u2], [.int v42], _, _, _) _
    by_cases q45 : v42 = 0 ∨ v42 = 1
    · rw [if_pos q45] at h
      cases h
      exact pe_ret mm_128 rfl (if_pos q45)
    · rw [if_neg q45] at h
      cases h
def J128_151 (n : Nat) (M : Mem) : Option (Int32 × Mem) :=
  J128_152 n 0 M
set_option maxRecDepth 100000 in
set_option maxHeartbeats 4000000 in
theorem J128_151_ev (sc : Option (Nat × (Nat → Int32))) (n : Nat)  (e : Nat) (he : 4 ≤ e) : ∀ (u0 : Option Value) (u1 : Option Value) (u2 : Option Value) (M : Mem) (r : Int32) (M' : Mem), J128_151 n  M = some (r, M') → pm_ev pmT sc e 128 false (151, [u0, u1, u2], [.ref 3], 129, 17845, hp M) (some (.int r), 129, 17845, hp M') := by
  intro u0 u1 u2 M r M' h
  unfold J128_151 at h
  refine pe_blk mm_128 1 (s' := (152, [u0, u1, u2], [.int 0, .ref 3], _, _, _)) rfl ?_
  exact J128_152_ev sc n e he 0 _ _ _ _ _ _ h
def J128_129 (n : Nat) (x1 : Int32) (M : Mem) : Option (Int32 × Mem) :=
  if x1 = 59 then (match M.2.1 3 1 with | some p35 => (if isD p35 then (match F108 n p35 M with | some (v38, M39) => (if 3 ≤ v38 then (J128_151 n M39) else (J128_152 n 1 M39)) | none => none) else none) | none => none) else (J128_151 n M)
set_option maxRecDepth 100000 in
set_option maxHeartbeats 4000000 in
theorem J128_129_ev (sc : Option (Nat × (Nat → Int32))) (n : Nat)  (e : Nat) (he : 4 ≤ e) : ∀ (x1 : Int32) (u2 : Option Value) (M : Mem) (r : Int32) (M' : Mem), J128_129 n x1 M = some (r, M') → pm_ev pmT sc e 128 false (129, [some (.ref 3), some (.int x1), u2], [], 129, 17845, hp M) (some (.int r), 129, 17845, hp M') := by
  intro x1 u2 M r M' h
  unfold J128_129 at h
  refine pe_blk mm_128 3 (s' := (133, [some (.ref 3), some (.int x1), u2], [.int 59, .int x1, .ref 3], _, _, _)) rfl ?_
  by_cases q34 : x1 = 59
  · rw [if_pos q34] at h
    refine pe_blk mm_128 1 (s' := (if x1 = 59 then 136 else 151, [some (.ref 3), some (.int x1), u2], [.ref 3], _, _, _)) rfl ?_
    rw [if_pos q34]
    refine pe_blk mm_128 1 (s' := (137, [some (.ref 3), some (.int x1), u2], [.ref 3, .ref 3], _, _, _)) rfl ?_
    refine pe_get mm_128 rfl rfl rfl (by decide) rfl ?_
    show pm_ev _ _ _ _ _ (140, [some (.ref 3), some (.int x1), u2], va_rf (M.2.1 3 1) :: [.ref 3], _, _, _) _
    cases hq37 : M.2.1 3 1 with
    | none => rw [hq37] at h; cases h
    | some p35 =>
      rw [hq37] at h
      dsimp only at h
      by_cases f36 : isD p35
      · rw [if_pos f36] at h
        show pm_ev _ _ _ _ _ (140, [some (.ref 3), some (.int x1), u2], [.ref p35, .ref 3], _, _, _) _
        obtain ⟨e1, rfl⟩ : ∃ e1, e = e1 + 1 := ⟨e - 1, by omega⟩
        cases hc40 : F108 n p35 M with
        | none => rw [hc40] at h; cases h
        | some w =>
          obtain ⟨v38, M39⟩ := w
          rw [hc40] at h
          dsimp only at h
          refine pe_virt (al := []) (a := p35) (L0 := [some (.ref p35)]) (r1 := (some (.int v38), 129, 17845, hp M39)) mm_128 rfl rfl rfl mm_108 (isD_0 f36 _) (by have := isD_lt f36; omega) (by decide) rfl (Nat.le_of_ble_eq_true rfl) (Nat.le_of_ble_eq_true rfl) rfl rfl (F108_ev sc n p35 f36 _ e1 (by omega) _ _ hc40) ?_
          show pm_ev _ _ _ _ _ (143, [some (.ref 3), some (.int x1), u2], [.int v38, .ref 3], _, _, _) _
          refine pe_blk mm_128 1 (s' := (144, [some (.ref 3), some (.int x1), u2], [.int 3, .int v38, .ref 3], _, _, _)) rfl ?_
          by_cases q41 : 3 ≤ v38
          · rw [if_pos q41] at h
            refine pe_blk mm_128 1 (s' := (if 3 ≤ v38 then 151 else 147, [some (.ref 3), some (.int x1), u2], [.ref 3], _, _, _)) rfl ?_
            rw [if_pos q41]
            exact J128_151_ev sc n (e1 + 1) he _ _ _ _ _ _ h
          · rw [if_neg q41] at h
            refine pe_blk mm_128 1 (s' := (if 3 ≤ v38 then 151 else 147, [some (.ref 3), some (.int x1), u2], [.ref 3], _, _, _)) rfl ?_
            rw [if_neg q41]
            refine pe_blk mm_128 2 (s' := (152, [some (.ref 3), some (.int x1), u2], [.int 1, .ref 3], _, _, _)) rfl ?_
            exact J128_152_ev sc n (e1 + 1) he 1 _ _ _ _ _ _ h
      · rw [if_neg f36] at h
        cases h
  · rw [if_neg q34] at h
    refine pe_blk mm_128 1 (s' := (if x1 = 59 then 136 else 151, [some (.ref 3), some (.int x1), u2], [.ref 3], _, _, _)) rfl ?_
    rw [if_neg q34]
    exact J128_151_ev sc n e he _ _ _ _ _ _ h
def J128_235 (n : Nat) (x1 : Int32) (M : Mem) : Option (Int32 × Mem) :=
  match F131 n x1 M with | some (v46, M47) => (if v46 = 0 ∨ v46 = 1 then some (v46, M47) else none) | none => none
set_option maxRecDepth 100000 in
set_option maxHeartbeats 4000000 in
theorem J128_235_ev (sc : Option (Nat × (Nat → Int32))) (n : Nat)  (e : Nat) (he : 4 ≤ e) : ∀ (x1 : Int32) (u2 : Option Value) (M : Mem) (r : Int32) (M' : Mem), J128_235 n x1 M = some (r, M') → pm_ev pmT sc e 128 false (235, [some (.ref 3), some (.int x1), u2], [], 129, 17845, hp M) (some (.int r), 129, 17845, hp M') := by
  intro x1 u2 M r M' h
  unfold J128_235 at h
  refine pe_blk mm_128 2 (s' := (237, [some (.ref 3), some (.int x1), u2], [.int x1, .ref 3], _, _, _)) rfl ?_
  obtain ⟨e1, rfl⟩ : ∃ e1, e = e1 + 1 := ⟨e - 1, by omega⟩
  cases hc48 : F131 n x1 M with
  | none => rw [hc48] at h; cases h
  | some w =>
    obtain ⟨v46, M47⟩ := w
    rw [hc48] at h
    dsimp only at h
    refine pe_virt (al := [.int x1]) (a := 3) (L0 := [some (.ref 3), some (.int x1)]) (r1 := (some (.int v46), 129, 17845, hp M47)) mm_128 rfl rfl rfl mm_131 rfl (by decide) (by decide) rfl (Nat.le_of_ble_eq_true rfl) (Nat.le_of_ble_eq_true rfl) rfl rfl (F131_ev sc n x1 _ e1 (by omega) _ _ hc48) ?_
    show pm_ev _ _ _ _ _ (240, [some (.ref 3), some (.int x1), u2], [.int v46], _, _, _) _
    by_cases q49 : v46 = 0 ∨ v46 = 1
    · rw [if_pos q49] at h
      cases h
      exact pe_ret mm_128 rfl (if_pos q49)
    · rw [if_neg q49] at h
      cases h
def J128_157 (n : Nat) (x1 : Int32) (M : Mem) : Option (Int32 × Mem) :=
  match F133 n x1 M with | some (v50, M51) => (if v50 = 0 ∨ v50 = 1 then some (v50, M51) else none) | none => none
set_option maxRecDepth 100000 in
set_option maxHeartbeats 4000000 in
theorem J128_157_ev (sc : Option (Nat × (Nat → Int32))) (n : Nat)  (e : Nat) (he : 4 ≤ e) : ∀ (x1 : Int32) (u2 : Option Value) (M : Mem) (r : Int32) (M' : Mem), J128_157 n x1 M = some (r, M') → pm_ev pmT sc e 128 false (157, [some (.ref 3), some (.int x1), u2], [], 129, 17845, hp M) (some (.int r), 129, 17845, hp M') := by
  intro x1 u2 M r M' h
  unfold J128_157 at h
  refine pe_blk mm_128 2 (s' := (159, [some (.ref 3), some (.int x1), u2], [.int x1, .ref 3], _, _, _)) rfl ?_
  obtain ⟨e1, rfl⟩ : ∃ e1, e = e1 + 1 := ⟨e - 1, by omega⟩
  cases hc52 : F133 n x1 M with
  | none => rw [hc52] at h; cases h
  | some w =>
    obtain ⟨v50, M51⟩ := w
    rw [hc52] at h
    dsimp only at h
    refine pe_virt (al := [.int x1]) (a := 3) (L0 := [some (.ref 3), some (.int x1), none]) (r1 := (some (.int v50), 129, 17845, hp M51)) mm_128 rfl rfl rfl mm_133 rfl (by decide) (by decide) rfl (Nat.le_of_ble_eq_true rfl) (Nat.le_of_ble_eq_true rfl) rfl rfl (F133_ev sc n x1 _ e1 (by omega) _ _ hc52) ?_
    show pm_ev _ _ _ _ _ (162, [some (.ref 3), some (.int x1), u2], [.int v50], _, _, _) _
    by_cases q53 : v50 = 0 ∨ v50 = 1
    · rw [if_pos q53] at h
      cases h
      exact pe_ret mm_128 rfl (if_pos q53)
    · rw [if_neg q53] at h
      cases h
def J128_175 (n : Nat) (s0 : Int32) (M : Mem) : Option (Int32 × Mem) :=
  match F129 n s0 7 M with | some (v55, M56) => (if v55 = 0 ∨ v55 = 1 then some (v55, M56) else none) | none => none
set_option maxRecDepth 100000 in
set_option maxHeartbeats 4000000 in
theorem J128_175_ev (sc : Option (Nat × (Nat → Int32))) (n : Nat)  (e : Nat) (he : 4 ≤ e) : ∀ (s0 : Int32) (u0 : Option Value) (u1 : Option Value) (u2 : Option Value) (M : Mem) (r : Int32) (M' : Mem), J128_175 n s0 M = some (r, M') → pm_ev pmT sc e 128 false (175, [u0, u1, u2], [.int s0, .ref 3], 129, 17845, hp M) (some (.int r), 129, 17845, hp M') := by
  intro s0 u0 u1 u2 M r M' h
  unfold J128_175 at h
  refine pe_blk mm_128 1 (s' := (177, [u0, u1, u2], [.int 7, .int s0, .ref 3], _, _, _)) rfl ?_
  obtain ⟨e1, rfl⟩ : ∃ e1, e = e1 + 1 := ⟨e - 1, by omega⟩
  cases hc57 : F129 n s0 7 M with
  | none => rw [hc57] at h; cases h
  | some w =>
    obtain ⟨v55, M56⟩ := w
    rw [hc57] at h
    dsimp only at h
    refine pe_virt (al := [.int 7, .int s0]) (a := 3) (L0 := [some (.ref 3), some (.int s0), some (.int 7)]) (r1 := (some (.int v55), 129, 17845, hp M56)) mm_128 rfl rfl rfl mm_129 rfl (by decide) (by decide) rfl (Nat.le_of_ble_eq_true rfl) (Nat.le_of_ble_eq_true rfl) rfl rfl (F129_ev sc n s0 7 _ e1 (by omega) _ _ hc57) ?_
    show pm_ev _ _ _ _ _ (180, [u0, u1, u2], [.int v55], _, _, _) _
    by_cases q58 : v55 = 0 ∨ v55 = 1
    · rw [if_pos q58] at h
      cases h
      exact pe_ret mm_128 rfl (if_pos q58)
    · rw [if_neg q58] at h
      cases h
def J128_163 (n : Nat) (x1 : Int32) (M : Mem) : Option (Int32 × Mem) :=
  if x1 = 58 then (J128_175 n 1 M) else (J128_175 n 0 M)
set_option maxRecDepth 100000 in
set_option maxHeartbeats 4000000 in
theorem J128_163_ev (sc : Option (Nat × (Nat → Int32))) (n : Nat)  (e : Nat) (he : 4 ≤ e) : ∀ (x1 : Int32) (u2 : Option Value) (M : Mem) (r : Int32) (M' : Mem), J128_163 n x1 M = some (r, M') → pm_ev pmT sc e 128 false (163, [some (.ref 3), some (.int x1), u2], [], 129, 17845, hp M) (some (.int r), 129, 17845, hp M') := by
  intro x1 u2 M r M' h
  unfold J128_163 at h
  refine pe_blk mm_128 3 (s' := (167, [some (.ref 3), some (.int x1), u2], [.int 58, .int x1, .ref 3], _, _, _)) rfl ?_
  by_cases q54 : x1 = 58
  · rw [if_pos q54] at h
    refine pe_blk mm_128 1 (s' := (if x1 = 58 then 170 else 174, [some (.ref 3), some (.int x1), u2], [.ref 3], _, _, _)) rfl ?_
    rw [if_pos q54]
    refine pe_blk mm_128 2 (s' := (175, [some (.ref 3), some (.int x1), u2], [.int 1, .ref 3], _, _, _)) rfl ?_
    exact J128_175_ev sc n e he 1 _ _ _ _ _ _ h
  · rw [if_neg q54] at h
    refine pe_blk mm_128 1 (s' := (if x1 = 58 then 170 else 174, [some (.ref 3), some (.int x1), u2], [.ref 3], _, _, _)) rfl ?_
    rw [if_neg q54]
    refine pe_blk mm_128 1 (s' := (175, [some (.ref 3), some (.int x1), u2], [.int 0, .ref 3], _, _, _)) rfl ?_
    exact J128_175_ev sc n e he 0 _ _ _ _ _ _ h
def J128_181 (n : Nat) (x1 : Int32) (M : Mem) : Option (Int32 × Mem) :=
  match F16 n x1 M with | some (v59, M60) => (match F129 n v59 4 M60 with | some (v62, M63) => (if v62 = 0 ∨ v62 = 1 then some (v62, M63) else none) | none => none) | none => none
set_option maxRecDepth 100000 in
set_option maxHeartbeats 4000000 in
theorem J128_181_ev (sc : Option (Nat × (Nat → Int32))) (n : Nat)  (e : Nat) (he : 4 ≤ e) : ∀ (x1 : Int32) (u2 : Option Value) (M : Mem) (r : Int32) (M' : Mem), J128_181 n x1 M = some (r, M') → pm_ev pmT sc e 128 false (181, [some (.ref 3), some (.int x1), u2], [], 129, 17845, hp M) (some (.int r), 129, 17845, hp M') := by
  intro x1 u2 M r M' h
  unfold J128_181 at h
  refine pe_blk mm_128 2 (s' := (183, [some (.ref 3), some (.int x1), u2], [.int x1, .ref 3], _, _, _)) rfl ?_
  obtain ⟨e1, rfl⟩ : ∃ e1, e = e1 + 1 := ⟨e - 1, by omega⟩
  cases hc61 : F16 n x1 M with
  | none => rw [hc61] at h; cases h
  | some w =>
    obtain ⟨v59, M60⟩ := w
    rw [hc61] at h
    dsimp only at h
    refine pe_stat (al := [.int x1]) (L0 := [some (.int x1)]) (r1 := (some (.int v59), 129, 17845, hp M60)) mm_128 rfl rfl rfl mm_16 rfl (Nat.le_of_ble_eq_true rfl) (Nat.le_of_ble_eq_true rfl) rfl rfl (F16_ev sc n x1 _ e1 (by omega) _ _ hc61) ?_
    show pm_ev _ _ _ _ _ (186, [some (.ref 3), some (.int x1), u2], [.int v59, .ref 3], _, _, _) _
    refine pe_blk mm_128 1 (s' := (187, [some (.ref 3), some (.int x1), u2], [.int 4, .int v59, .ref 3], _, _, _)) rfl ?_
    skip
    cases hc64 : F129 n v59 4 M60 with
    | none => rw [hc64] at h; cases h
    | some w =>
      obtain ⟨v62, M63⟩ := w
      rw [hc64] at h
      dsimp only at h
      refine pe_virt (al := [.int 4, .int v59]) (a := 3) (L0 := [some (.ref 3), some (.int v59), some (.int 4)]) (r1 := (some (.int v62), 129, 17845, hp M63)) mm_128 rfl rfl rfl mm_129 rfl (by decide) (by decide) rfl (Nat.le_of_ble_eq_true rfl) (Nat.le_of_ble_eq_true rfl) rfl rfl (F129_ev sc n v59 4 _ e1 (by omega) _ _ hc64) ?_
      show pm_ev _ _ _ _ _ (190, [some (.ref 3), some (.int x1), u2], [.int v62], _, _, _) _
      by_cases q65 : v62 = 0 ∨ v62 = 1
      · rw [if_pos q65] at h
        cases h
        exact pe_ret mm_128 rfl (if_pos q65)
      · rw [if_neg q65] at h
        cases h
def J128_191 (n : Nat) (x1 : Int32) (M : Mem) : Option (Int32 × Mem) :=
  match F134 n x1 M with | some (v66, M67) => (if v66 = 0 ∨ v66 = 1 then some (v66, M67) else none) | none => none
set_option maxRecDepth 100000 in
set_option maxHeartbeats 4000000 in
theorem J128_191_ev (sc : Option (Nat × (Nat → Int32))) (n : Nat)  (e : Nat) (he : 4 ≤ e) : ∀ (x1 : Int32) (u2 : Option Value) (M : Mem) (r : Int32) (M' : Mem), J128_191 n x1 M = some (r, M') → pm_ev pmT sc e 128 false (191, [some (.ref 3), some (.int x1), u2], [], 129, 17845, hp M) (some (.int r), 129, 17845, hp M') := by
  intro x1 u2 M r M' h
  unfold J128_191 at h
  refine pe_blk mm_128 2 (s' := (193, [some (.ref 3), some (.int x1), u2], [.int x1, .ref 3], _, _, _)) rfl ?_
  obtain ⟨e1, rfl⟩ : ∃ e1, e = e1 + 1 := ⟨e - 1, by omega⟩
  cases hc68 : F134 n x1 M with
  | none => rw [hc68] at h; cases h
  | some w =>
    obtain ⟨v66, M67⟩ := w
    rw [hc68] at h
    dsimp only at h
    refine pe_virt (al := [.int x1]) (a := 3) (L0 := [some (.ref 3), some (.int x1)]) (r1 := (some (.int v66), 129, 17845, hp M67)) mm_128 rfl rfl rfl mm_134 rfl (by decide) (by decide) rfl (Nat.le_of_ble_eq_true rfl) (Nat.le_of_ble_eq_true rfl) rfl rfl (F134_ev sc n x1 _ e1 (by omega) _ _ hc68) ?_
    show pm_ev _ _ _ _ _ (196, [some (.ref 3), some (.int x1), u2], [.int v66], _, _, _) _
    by_cases q69 : v66 = 0 ∨ v66 = 1
    · rw [if_pos q69] at h
      cases h
      exact pe_ret mm_128 rfl (if_pos q69)
    · rw [if_neg q69] at h
      cases h
def J128_230 (n : Nat) (s0 : Int32) (M : Mem) : Option (Int32 × Mem) :=
  match F129 n s0 4 M with | some (v77, M78) => (if v77 = 0 ∨ v77 = 1 then some (v77, M78) else none) | none => none
set_option maxRecDepth 100000 in
set_option maxHeartbeats 4000000 in
theorem J128_230_ev (sc : Option (Nat × (Nat → Int32))) (n : Nat)  (e : Nat) (he : 4 ≤ e) : ∀ (s0 : Int32) (u0 : Option Value) (u1 : Option Value) (u2 : Option Value) (M : Mem) (r : Int32) (M' : Mem), J128_230 n s0 M = some (r, M') → pm_ev pmT sc e 128 false (230, [u0, u1, u2], [.int s0, .ref 3], 129, 17845, hp M) (some (.int r), 129, 17845, hp M') := by
  intro s0 u0 u1 u2 M r M' h
  unfold J128_230 at h
  refine pe_blk mm_128 1 (s' := (231, [u0, u1, u2], [.int 4, .int s0, .ref 3], _, _, _)) rfl ?_
  obtain ⟨e1, rfl⟩ : ∃ e1, e = e1 + 1 := ⟨e - 1, by omega⟩
  cases hc79 : F129 n s0 4 M with
  | none => rw [hc79] at h; cases h
  | some w =>
    obtain ⟨v77, M78⟩ := w
    rw [hc79] at h
    dsimp only at h
    refine pe_virt (al := [.int 4, .int s0]) (a := 3) (L0 := [some (.ref 3), some (.int s0), some (.int 4)]) (r1 := (some (.int v77), 129, 17845, hp M78)) mm_128 rfl rfl rfl mm_129 rfl (by decide) (by decide) rfl (Nat.le_of_ble_eq_true rfl) (Nat.le_of_ble_eq_true rfl) rfl rfl (F129_ev sc n s0 4 _ e1 (by omega) _ _ hc79) ?_
    show pm_ev _ _ _ _ _ (234, [u0, u1, u2], [.int v77], _, _, _) _
    by_cases q80 : v77 = 0 ∨ v77 = 1
    · rw [if_pos q80] at h
      cases h
      exact pe_ret mm_128 rfl (if_pos q80)
    · rw [if_neg q80] at h
      cases h
def J128_225 (n : Nat) (M : Mem) : Option (Int32 × Mem) :=
  J128_230 n 1 M
set_option maxRecDepth 100000 in
set_option maxHeartbeats 4000000 in
theorem J128_225_ev (sc : Option (Nat × (Nat → Int32))) (n : Nat)  (e : Nat) (he : 4 ≤ e) : ∀ (u0 : Option Value) (u1 : Option Value) (u2 : Option Value) (M : Mem) (r : Int32) (M' : Mem), J128_225 n  M = some (r, M') → pm_ev pmT sc e 128 false (225, [u0, u1, u2], [.ref 3], 129, 17845, hp M) (some (.int r), 129, 17845, hp M') := by
  intro u0 u1 u2 M r M' h
  unfold J128_225 at h
  refine pe_blk mm_128 2 (s' := (230, [u0, u1, u2], [.int 1, .ref 3], _, _, _)) rfl ?_
  exact J128_230_ev sc n e he 1 _ _ _ _ _ _ h
def J128_212 (n : Nat) (x1 : Int32) (M : Mem) : Option (Int32 × Mem) :=
  if x1 = 42 then (J128_225 n M) else (if x1 = 43 then (J128_225 n M) else (J128_230 n 0 M))
set_option maxRecDepth 100000 in
set_option maxHeartbeats 4000000 in
theorem J128_212_ev (sc : Option (Nat × (Nat → Int32))) (n : Nat)  (e : Nat) (he : 4 ≤ e) : ∀ (x1 : Int32) (u2 : Option Value) (M : Mem) (r : Int32) (M' : Mem), J128_212 n x1 M = some (r, M') → pm_ev pmT sc e 128 false (212, [some (.ref 3), some (.int x1), u2], [], 129, 17845, hp M) (some (.int r), 129, 17845, hp M') := by
  intro x1 u2 M r M' h
  unfold J128_212 at h
  refine pe_blk mm_128 3 (s' := (216, [some (.ref 3), some (.int x1), u2], [.int 42, .int x1, .ref 3], _, _, _)) rfl ?_
  by_cases q76 : x1 = 42
  · rw [if_pos q76] at h
    refine pe_blk mm_128 1 (s' := (if x1 = 42 then 225 else 219, [some (.ref 3), some (.int x1), u2], [.ref 3], _, _, _)) rfl ?_
    rw [if_pos q76]
    exact J128_225_ev sc n e he _ _ _ _ _ _ h
  · rw [if_neg q76] at h
    refine pe_blk mm_128 1 (s' := (if x1 = 42 then 225 else 219, [some (.ref 3), some (.int x1), u2], [.ref 3], _, _, _)) rfl ?_
    rw [if_neg q76]
    refine pe_blk mm_128 2 (s' := (222, [some (.ref 3), some (.int x1), u2], [.int 43, .int x1, .ref 3], _, _, _)) rfl ?_
    by_cases q81 : x1 = 43
    · rw [if_pos q81] at h
      refine pe_blk mm_128 1 (s' := (if x1 = 43 then 225 else 229, [some (.ref 3), some (.int x1), u2], [.ref 3], _, _, _)) rfl ?_
      rw [if_pos q81]
      exact J128_225_ev sc n e he _ _ _ _ _ _ h
    · rw [if_neg q81] at h
      refine pe_blk mm_128 1 (s' := (if x1 = 43 then 225 else 229, [some (.ref 3), some (.int x1), u2], [.ref 3], _, _, _)) rfl ?_
      rw [if_neg q81]
      refine pe_blk mm_128 1 (s' := (230, [some (.ref 3), some (.int x1), u2], [.int 0, .ref 3], _, _, _)) rfl ?_
      exact J128_230_ev sc n e he 0 _ _ _ _ _ _ h
def J128_197 (n : Nat) (x1 : Int32) (M : Mem) : Option (Int32 × Mem) :=
  match M.2.1 3 1 with | some p70 => (if isD p70 then (match F105 n p70 (M.1 3 7) (M.1 3 3) M with | some (v73, M74) => (J128_212 n x1 M74) | none => none) else none) | none => none
set_option maxRecDepth 100000 in
set_option maxHeartbeats 4000000 in
theorem J128_197_ev (sc : Option (Nat × (Nat → Int32))) (n : Nat)  (e : Nat) (he : 4 ≤ e) : ∀ (x1 : Int32) (u2 : Option Value) (M : Mem) (r : Int32) (M' : Mem), J128_197 n x1 M = some (r, M') → pm_ev pmT sc e 128 false (197, [some (.ref 3), some (.int x1), u2], [], 129, 17845, hp M) (some (.int r), 129, 17845, hp M') := by
  intro x1 u2 M r M' h
  unfold J128_197 at h
  refine pe_blk mm_128 1 (s' := (198, [some (.ref 3), some (.int x1), u2], [.ref 3], _, _, _)) rfl ?_
  refine pe_get mm_128 rfl rfl rfl (by decide) rfl ?_
  show pm_ev _ _ _ _ _ (201, [some (.ref 3), some (.int x1), u2], va_rf (M.2.1 3 1) :: [], _, _, _) _
  cases hq72 : M.2.1 3 1 with
  | none => rw [hq72] at h; cases h
  | some p70 =>
    rw [hq72] at h
    dsimp only at h
    by_cases f71 : isD p70
    · rw [if_pos f71] at h
      show pm_ev _ _ _ _ _ (201, [some (.ref 3), some (.int x1), u2], [.ref p70], _, _, _) _
      refine pe_blk mm_128 1 (s' := (202, [some (.ref 3), some (.int x1), u2], [.ref 3, .ref p70], _, _, _)) rfl ?_
      refine pe_get mm_128 rfl rfl rfl (by decide) rfl ?_
      refine pe_blk mm_128 1 (s' := (206, [some (.ref 3), some (.int x1), u2], [.ref 3, .int (M.1 3 7), .ref p70], _, _, _)) rfl ?_
      refine pe_get mm_128 rfl rfl rfl (by decide) rfl ?_
      obtain ⟨e1, rfl⟩ : ∃ e1, e = e1 + 1 := ⟨e - 1, by omega⟩
      cases hc75 : F105 n p70 (M.1 3 7) (M.1 3 3) M with
      | none => rw [hc75] at h; cases h
      | some w =>
        obtain ⟨v73, M74⟩ := w
        rw [hc75] at h
        dsimp only at h
        refine pe_virt (al := [.int (M.1 3 3), .int (M.1 3 7)]) (a := p70) (L0 := [some (.ref p70), some (.int (M.1 3 7)), some (.int (M.1 3 3))]) (r1 := (none, 129, 17845, hp M74)) mm_128 rfl rfl rfl mm_105 (isD_0 f71 _) (by have := isD_lt f71; omega) (by decide) rfl (Nat.le_of_ble_eq_true rfl) (Nat.le_of_ble_eq_true rfl) rfl rfl (F105_ev sc n p70 (M.1 3 7) (M.1 3 3) f71 _ e1 (by omega) _ _ hc75) ?_
        show pm_ev _ _ _ _ _ (212, [some (.ref 3), some (.int x1), u2], [], _, _, _) _
        exact J128_212_ev sc n (e1 + 1) he x1 _ _ _ _ h
    · rw [if_neg f71] at h
      cases h
def J128_17 (n : Nat) (x1 : Int32) (M : Mem) : Option (Int32 × Mem) :=
  if (M.1 3 2).toInt < 0 ∨ 9 < (M.1 3 2).toInt then (match F131 n x1 M with | some (v9, M10) => (if v9 = 0 ∨ v9 = 1 then some (v9, M10) else none) | none => none) else (if (M.1 3 2) = 0 then (J128_76 n x1 M) else (if (M.1 3 2) = 1 then (J128_86 n x1 M) else (if (M.1 3 2) = 2 then (J128_92 n x1 M) else (if (M.1 3 2) = 3 then (J128_129 n x1 M) else (if (M.1 3 2) = 4 then (J128_235 n x1 M) else (if (M.1 3 2) = 5 then (J128_157 n x1 M) else (if (M.1 3 2) = 6 then (J128_163 n x1 M) else (if (M.1 3 2) = 7 then (J128_181 n x1 M) else (if (M.1 3 2) = 8 then (J128_191 n x1 M) else (if (M.1 3 2) = 9 then (J128_197 n x1 M) else (none)))))))))))
set_option maxRecDepth 100000 in
set_option maxHeartbeats 4000000 in
theorem J128_17_ev (sc : Option (Nat × (Nat → Int32))) (n : Nat)  (e : Nat) (he : 4 ≤ e) : ∀ (x1 : Int32) (u2 : Option Value) (M : Mem) (r : Int32) (M' : Mem), J128_17 n x1 M = some (r, M') → pm_ev pmT sc e 128 false (17, [some (.ref 3), some (.int x1), u2], [], 129, 17845, hp M) (some (.int r), 129, 17845, hp M') := by
  intro x1 u2 M r M' h
  unfold J128_17 at h
  refine pe_blk mm_128 1 (s' := (18, [some (.ref 3), some (.int x1), u2], [.ref 3], _, _, _)) rfl ?_
  refine pe_get mm_128 rfl rfl rfl (by decide) rfl ?_
  by_cases q8 : (M.1 3 2).toInt < 0 ∨ 9 < (M.1 3 2).toInt
  · rw [if_pos q8] at h
    refine pe_tout mm_128 rfl q8 (by decide) ?_
    show pm_ev _ _ _ _ _ (235, [some (.ref 3), some (.int x1), u2], [], _, _, _) _
    refine pe_blk mm_128 2 (s' := (237, [some (.ref 3), some (.int x1), u2], [.int x1, .ref 3], _, _, _)) rfl ?_
    obtain ⟨e1, rfl⟩ : ∃ e1, e = e1 + 1 := ⟨e - 1, by omega⟩
    cases hc11 : F131 n x1 M with
    | none => rw [hc11] at h; cases h
    | some w =>
      obtain ⟨v9, M10⟩ := w
      rw [hc11] at h
      dsimp only at h
      refine pe_virt (al := [.int x1]) (a := 3) (L0 := [some (.ref 3), some (.int x1)]) (r1 := (some (.int v9), 129, 17845, hp M10)) mm_128 rfl rfl rfl mm_131 rfl (by decide) (by decide) rfl (Nat.le_of_ble_eq_true rfl) (Nat.le_of_ble_eq_true rfl) rfl rfl (F131_ev sc n x1 _ e1 (by omega) _ _ hc11) ?_
      show pm_ev _ _ _ _ _ (240, [some (.ref 3), some (.int x1), u2], [.int v9], _, _, _) _
      by_cases q12 : v9 = 0 ∨ v9 = 1
      · rw [if_pos q12] at h
        cases h
        exact pe_ret mm_128 rfl (if_pos q12)
      · rw [if_neg q12] at h
        cases h
  · rw [if_neg q8] at h
    by_cases q82 : (M.1 3 2) = 0
    · rw [if_pos q82] at h
      rw [q82]
      refine pe_blk mm_128 1 (s' := (76, [some (.ref 3), some (.int x1), u2], [], _, _, _)) rfl ?_
      exact J128_76_ev sc n e he x1 _ _ _ _ h
    rw [if_neg q82] at h
    by_cases q83 : (M.1 3 2) = 1
    · rw [if_pos q83] at h
      rw [q83]
      refine pe_blk mm_128 1 (s' := (86, [some (.ref 3), some (.int x1), u2], [], _, _, _)) rfl ?_
      exact J128_86_ev sc n e he x1 _ _ _ _ h
    rw [if_neg q83] at h
    by_cases q84 : (M.1 3 2) = 2
    · rw [if_pos q84] at h
      rw [q84]
      refine pe_blk mm_128 1 (s' := (92, [some (.ref 3), some (.int x1), u2], [], _, _, _)) rfl ?_
      exact J128_92_ev sc n e he x1 _ _ _ _ h
    rw [if_neg q84] at h
    by_cases q85 : (M.1 3 2) = 3
    · rw [if_pos q85] at h
      rw [q85]
      refine pe_blk mm_128 1 (s' := (129, [some (.ref 3), some (.int x1), u2], [], _, _, _)) rfl ?_
      exact J128_129_ev sc n e he x1 _ _ _ _ h
    rw [if_neg q85] at h
    by_cases q86 : (M.1 3 2) = 4
    · rw [if_pos q86] at h
      rw [q86]
      refine pe_blk mm_128 1 (s' := (235, [some (.ref 3), some (.int x1), u2], [], _, _, _)) rfl ?_
      exact J128_235_ev sc n e he x1 _ _ _ _ h
    rw [if_neg q86] at h
    by_cases q87 : (M.1 3 2) = 5
    · rw [if_pos q87] at h
      rw [q87]
      refine pe_blk mm_128 1 (s' := (157, [some (.ref 3), some (.int x1), u2], [], _, _, _)) rfl ?_
      exact J128_157_ev sc n e he x1 _ _ _ _ h
    rw [if_neg q87] at h
    by_cases q88 : (M.1 3 2) = 6
    · rw [if_pos q88] at h
      rw [q88]
      refine pe_blk mm_128 1 (s' := (163, [some (.ref 3), some (.int x1), u2], [], _, _, _)) rfl ?_
      exact J128_163_ev sc n e he x1 _ _ _ _ h
    rw [if_neg q88] at h
    by_cases q89 : (M.1 3 2) = 7
    · rw [if_pos q89] at h
      rw [q89]
      refine pe_blk mm_128 1 (s' := (181, [some (.ref 3), some (.int x1), u2], [], _, _, _)) rfl ?_
      exact J128_181_ev sc n e he x1 _ _ _ _ h
    rw [if_neg q89] at h
    by_cases q90 : (M.1 3 2) = 8
    · rw [if_pos q90] at h
      rw [q90]
      refine pe_blk mm_128 1 (s' := (191, [some (.ref 3), some (.int x1), u2], [], _, _, _)) rfl ?_
      exact J128_191_ev sc n e he x1 _ _ _ _ h
    rw [if_neg q90] at h
    by_cases q91 : (M.1 3 2) = 9
    · rw [if_pos q91] at h
      rw [q91]
      refine pe_blk mm_128 1 (s' := (197, [some (.ref 3), some (.int x1), u2], [], _, _, _)) rfl ?_
      exact J128_197_ev sc n e he x1 _ _ _ _ h
    rw [if_neg q91] at h
    cases h
/-- ArmExpander$DefinitionReader.accepts -/
def F128 (n : Nat) (a0 : Int32) (a1 : Int32) (M : Mem) : Option (Int32 × Mem) :=
  mlet (m_i M 3 3 a1) (fun M1 => match M1.2.1 3 1 with | some p2 => (if isD p2 then (match F102 n p2 a0 (M1.1 3 6) M1 with | some (v5, M6) => (J128_17 n a0 M6) | none => none) else none) | none => none)
set_option maxRecDepth 100000 in
set_option maxHeartbeats 4000000 in
theorem F128_ev (sc : Option (Nat × (Nat → Int32))) (n : Nat) (a0 : Int32) (a1 : Int32)  (M : Mem) (e : Nat) (he : 4 ≤ e) (r : Int32) (M' : Mem) (h : F128 n a0 a1 M = some (r, M')) : pm_ev pmT sc e 128 false (0, [some (.ref 3), some (.int a0), some (.int a1)], [], 129, 17845, hp M) (some (.int r), 129, 17845, hp M') := by
  unfold F128 at h
  refine pe_blk mm_128 2 (s' := (2, [some (.ref 3), some (.int a0), some (.int a1)], [.int a1, .ref 3], _, _, _)) rfl ?_
  refine pe_puti mm_128 rfl rfl rfl (by decide) (Nat.le_of_ble_eq_true rfl) rfl rfl ?_
  show pm_ev _ _ _ _ _ (5, [some (.ref 3), some (.int a0), some (.int a1)], [], _, _, hp (m_i M 3 3 a1)) _
  generalize m_i M 3 3 a1 = M1 at h ⊢
  rw [mlet] at h
  refine pe_blk mm_128 1 (s' := (6, [some (.ref 3), some (.int a0), some (.int a1)], [.ref 3], _, _, _)) rfl ?_
  refine pe_get mm_128 rfl rfl rfl (by decide) rfl ?_
  show pm_ev _ _ _ _ _ (9, [some (.ref 3), some (.int a0), some (.int a1)], va_rf (M1.2.1 3 1) :: [], _, _, _) _
  cases hq4 : M1.2.1 3 1 with
  | none => rw [hq4] at h; cases h
  | some p2 =>
    rw [hq4] at h
    dsimp only at h
    by_cases f3 : isD p2
    · rw [if_pos f3] at h
      show pm_ev _ _ _ _ _ (9, [some (.ref 3), some (.int a0), some (.int a1)], [.ref p2], _, _, _) _
      refine pe_blk mm_128 2 (s' := (11, [some (.ref 3), some (.int a0), some (.int a1)], [.ref 3, .int a0, .ref p2], _, _, _)) rfl ?_
      refine pe_get mm_128 rfl rfl rfl (by decide) rfl ?_
      obtain ⟨e1, rfl⟩ : ∃ e1, e = e1 + 1 := ⟨e - 1, by omega⟩
      cases hc7 : F102 n p2 a0 (M1.1 3 6) M1 with
      | none => rw [hc7] at h; cases h
      | some w =>
        obtain ⟨v5, M6⟩ := w
        rw [hc7] at h
        dsimp only at h
        refine pe_virt (al := [.int (M1.1 3 6), .int a0]) (a := p2) (L0 := [some (.ref p2), some (.int a0), some (.int (M1.1 3 6))]) (r1 := (none, 129, 17845, hp M6)) mm_128 rfl rfl rfl mm_102 (isD_0 f3 _) (by have := isD_lt f3; omega) (by decide) rfl (Nat.le_of_ble_eq_true rfl) (Nat.le_of_ble_eq_true rfl) rfl rfl (F102_ev sc n p2 a0 (M1.1 3 6) f3 _ e1 (by omega) _ _ hc7) ?_
        show pm_ev _ _ _ _ _ (17, [some (.ref 3), some (.int a0), some (.int a1)], [], _, _, _) _
        exact J128_17_ev sc n (e1 + 1) he a0 _ _ _ _ h
    · rw [if_neg f3] at h
      cases h
