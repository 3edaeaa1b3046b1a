/-! The methods as functions over Mem; written by program. -/
def J152_84 (n : Nat) (s0 : Int32) (M : Mem) : Option (Int32 × Mem) :=
  if s0 = 0 ∨ s0 = 1 then some (s0, M) else none
set_option maxRecDepth 100000 in
set_option maxHeartbeats 4000000 in
theorem J152_84_ev (sc : Option (Nat × (Nat → Int32))) (n : Nat)  (e : Nat) (he : 2 ≤ e) : ∀ (s0 : Int32) (u0 : Option Value) (u1 : Option Value) (M : Mem) (r : Int32) (M' : Mem), J152_84 n s0 M = some (r, M') → pm_ev pmT sc e 152 false (84, [u0, u1], [.int s0], 129, 17845, hp M) (some (.int r), 129, 17845, hp M') := by
  intro s0 u0 u1 M r M' h
  unfold J152_84 at h
  by_cases q10 : s0 = 0 ∨ s0 = 1
  · rw [if_pos q10] at h
    cases h
    exact pe_ret mm_152 rfl (if_pos q10)
  · rw [if_neg q10] at h
    cases h
def J152_79 (n : Nat) (M : Mem) : Option (Int32 × Mem) :=
  J152_84 n 1 M
set_option maxRecDepth 100000 in
set_option maxHeartbeats 4000000 in
theorem J152_79_ev (sc : Option (Nat × (Nat → Int32))) (n : Nat)  (e : Nat) (he : 2 ≤ e) : ∀ (u0 : Option Value) (u1 : Option Value) (M : Mem) (r : Int32) (M' : Mem), J152_79 n  M = some (r, M') → pm_ev pmT sc e 152 false (79, [u0, u1], [], 129, 17845, hp M) (some (.int r), 129, 17845, hp M') := by
  intro u0 u1 M r M' h
  unfold J152_79 at h
  refine pe_blk mm_152 2 (s' := (84, [u0, u1], [.int 1], _, _, _)) rfl ?_
  exact J152_84_ev sc n e he 1 _ _ _ _ _ h
def J152_73 (n : Nat) (x1 : Int32) (M : Mem) : Option (Int32 × Mem) :=
  if x1 = 40 then (J152_79 n M) else (J152_84 n 0 M)
set_option maxRecDepth 100000 in
set_option maxHeartbeats 4000000 in
theorem J152_73_ev (sc : Option (Nat × (Nat → Int32))) (n : Nat)  (e : Nat) (he : 2 ≤ e) : ∀ (x1 : Int32) (u0 : Option Value) (M : Mem) (r : Int32) (M' : Mem), J152_73 n x1 M = some (r, M') → pm_ev pmT sc e 152 false (73, [u0, some (.int x1)], [], 129, 17845, hp M) (some (.int r), 129, 17845, hp M') := by
  intro x1 u0 M r M' h
  unfold J152_73 at h
  refine pe_blk mm_152 2 (s' := (76, [u0, some (.int x1)], [.int 40, .int x1], _, _, _)) rfl ?_
  by_cases q9 : x1 = 40
  · rw [if_pos q9] at h
    refine pe_blk mm_152 1 (s' := (if x1 = 40 then 79 else 83, [u0, some (.int x1)], [], _, _, _)) rfl ?_
    rw [if_pos q9]
    exact J152_79_ev sc n e he _ _ _ _ _ h
  · rw [if_neg q9] at h
    refine pe_blk mm_152 1 (s' := (if x1 = 40 then 79 else 83, [u0, some (.int x1)], [], _, _, _)) rfl ?_
    rw [if_neg q9]
    refine pe_blk mm_152 1 (s' := (84, [u0, some (.int x1)], [.int 0], _, _, _)) rfl ?_
    exact J152_84_ev sc n e he 0 _ _ _ _ _ h
def J152_58 (n : Nat) (s0 : Int32) (M : Mem) : Option (Int32 × Mem) :=
  if s0 = 0 ∨ s0 = 1 then some (s0, M) else none
set_option maxRecDepth 100000 in
set_option maxHeartbeats 4000000 in
theorem J152_58_ev (sc : Option (Nat × (Nat → Int32))) (n : Nat)  (e : Nat) (he : 2 ≤ e) : ∀ (s0 : Int32) (u0 : Option Value) (u1 : Option Value) (M : Mem) (r : Int32) (M' : Mem), J152_58 n s0 M = some (r, M') → pm_ev pmT sc e 152 false (58, [u0, u1], [.int s0], 129, 17845, hp M) (some (.int r), 129, 17845, hp M') := by
  intro s0 u0 u1 M r M' h
  unfold J152_58 at h
  by_cases q19 : s0 = 0 ∨ s0 = 1
  · rw [if_pos q19] at h
    cases h
    exact pe_ret mm_152 rfl (if_pos q19)
  · rw [if_neg q19] at h
    cases h
/-- ArmExpander$Matcher.canBegin -/
def F152 (n : Nat) (a0 : Int32) (a1 : Int32) (M : Mem) : Option (Int32 × Mem) :=
  if a0 = 1247 then (match F11 n a1 M with | some (v11, M12) => (if v11 = 0 ∨ v11 = 1 then some (v11, M12) else none) | none => none) else (if a0 = 1560 then (match F14 n a1 M with | some (v15, M16) => (if v15 = 0 then (J152_58 n 1 M16) else (J152_58 n 0 M16)) | none => none) else (if a0 = 11786 then (match F12 n a1 M with | some (v20, M21) => (if v20 = 0 ∨ v20 = 1 then some (v20, M21) else none) | none => none) else (match F11 n a1 M with | some (v1, M2) => (if v1 = 0 then (match F12 n a1 M2 with | some (v5, M6) => (if v5 = 0 then (J152_73 n a1 M6) else (J152_79 n M6)) | none => none) else (J152_79 n M2)) | none => none)))
set_option maxRecDepth 100000 in
set_option maxHeartbeats 4000000 in
theorem F152_ev (sc : Option (Nat × (Nat → Int32))) (n : Nat) (a0 : Int32) (a1 : Int32)  (M : Mem) (e : Nat) (he : 2 ≤ e) (r : Int32) (M' : Mem) (h : F152 n a0 a1 M = some (r, M')) : pm_ev pmT sc e 152 false (0, [some (.int a0), some (.int a1)], [], 129, 17845, hp M) (some (.int r), 129, 17845, hp M') := by
  unfold F152 at h
  refine pe_blk mm_152 1 (s' := (1, [some (.int a0), some (.int a1)], [.int a0], _, _, _)) rfl ?_
  by_cases q24 : a0 = 1247
  · rw [if_pos q24] at h
    refine pe_lk (off := 35) mm_152 rfl (by decide) (by rw [q24]; rfl) (by decide) ?_
    show pm_ev _ _ _ _ _ (36, [some (.int a0), some (.int a1)], [], _, _, _) _
    refine pe_blk mm_152 1 (s' := (37, [some (.int a0), some (.int a1)], [.int a1], _, _, _)) rfl ?_
    obtain ⟨e1, rfl⟩ : ∃ e1, e = e1 + 1 := ⟨e - 1, by omega⟩
    cases hc13 : F11 n a1 M with
    | none => rw [hc13] at h; cases h
    | some w =>
      obtain ⟨v11, M12⟩ := w
      rw [hc13] at h
      dsimp only at h
      refine pe_stat (al := [.int a1]) (L0 := [some (.int a1)]) (r1 := (some (.int v11), 129, 17845, hp M12)) mm_152 rfl rfl rfl mm_11 rfl (Nat.le_of_ble_eq_true rfl) (Nat.le_of_ble_eq_true rfl) rfl rfl (F11_ev sc n a1 _ e1 (by omega) _ _ hc13) ?_
      show pm_ev _ _ _ _ _ (40, [some (.int a0), some (.int a1)], [.int v11], _, _, _) _
      by_cases q14 : v11 = 0 ∨ v11 = 1
      · rw [if_pos q14] at h
        cases h
        exact pe_ret mm_152 rfl (if_pos q14)
      · rw [if_neg q14] at h
        cases h
  rw [if_neg q24] at h
  by_cases q25 : a0 = 1560
  · rw [if_pos q25] at h
    refine pe_lk (off := 45) mm_152 rfl (by decide) (by rw [q25]; rfl) (by decide) ?_
    show pm_ev _ _ _ _ _ (46, [some (.int a0), some (.int a1)], [], _, _, _) _
    refine pe_blk mm_152 1 (s' := (47, [some (.int a0), some (.int a1)], [.int a1], _, _, _)) rfl ?_
    obtain ⟨e1, rfl⟩ : ∃ e1, e = e1 + 1 := ⟨e - 1, by omega⟩
    cases hc17 : F14 n a1 M with
    | none => rw [hc17] at h; cases h
    | some w =>
      obtain ⟨v15, M16⟩ := w
      rw [hc17] at h
      dsimp only at h
      refine pe_stat (al := [.int a1]) (L0 := [some (.int a1)]) (r1 := (some (.int v15), 129, 17845, hp M16)) mm_152 rfl rfl rfl mm_14 rfl (Nat.le_of_ble_eq_true rfl) (Nat.le_of_ble_eq_true rfl) rfl rfl (F14_ev sc n a1 _ e1 (by omega) _ _ hc17) ?_
      show pm_ev _ _ _ _ _ (50, [some (.int a0), some (.int a1)], [.int v15], _, _, _) _
      by_cases q18 : v15 = 0
      · rw [if_pos q18] at h
        refine pe_blk mm_152 1 (s' := (if v15 = 0 then 53 else 57, [some (.int a0), some (.int a1)], [], _, _, _)) rfl ?_
        rw [if_pos q18]
        refine pe_blk mm_152 2 (s' := (58, [some (.int a0), some (.int a1)], [.int 1], _, _, _)) rfl ?_
        exact J152_58_ev sc n (e1 + 1) he 1 _ _ _ _ _ h
      · rw [if_neg q18] at h
        refine pe_blk mm_152 1 (s' := (if v15 = 0 then 53 else 57, [some (.int a0), some (.int a1)], [], _, _, _)) rfl ?_
        rw [if_neg q18]
        refine pe_blk mm_152 1 (s' := (58, [some (.int a0), some (.int a1)], [.int 0], _, _, _)) rfl ?_
        exact J152_58_ev sc n (e1 + 1) he 0 _ _ _ _ _ h
  rw [if_neg q25] at h
  by_cases q26 : a0 = 11786
  · rw [if_pos q26] at h
    refine pe_lk (off := 40) mm_152 rfl (by decide) (by rw [q26]; rfl) (by decide) ?_
    show pm_ev _ _ _ _ _ (41, [some (.int a0), some (.int a1)], [], _, _, _) _
    refine pe_blk mm_152 1 (s' := (42, [some (.int a0), some (.int a1)], [.int a1], _, _, _)) rfl ?_
    obtain ⟨e1, rfl⟩ : ∃ e1, e = e1 + 1 := ⟨e - 1, by omega⟩
    cases hc22 : F12 n a1 M with
    | none => rw [hc22] at h; cases h
    | some w =>
      obtain ⟨v20, M21⟩ := w
      rw [hc22] at h
      dsimp only at h
      refine pe_stat (al := [.int a1]) (L0 := [some (.int a1)]) (r1 := (some (.int v20), 129, 17845, hp M21)) mm_152 rfl rfl rfl mm_12 rfl (Nat.le_of_ble_eq_true rfl) (Nat.le_of_ble_eq_true rfl) rfl rfl (F12_ev sc n a1 _ e1 (by omega) _ _ hc22) ?_
      show pm_ev _ _ _ _ _ (45, [some (.int a0), some (.int a1)], [.int v20], _, _, _) _
      by_cases q23 : v20 = 0 ∨ v20 = 1
      · rw [if_pos q23] at h
        cases h
        exact pe_ret mm_152 rfl (if_pos q23)
      · rw [if_neg q23] at h
        cases h
  rw [if_neg q26] at h
  have nq24 : ¬ (1247 : Int) = (a0 : Int32).toInt := fun z => q24 (Int32.toInt_inj.mp (z.symm.trans (rfl : (1247 : Int) = (1247 : Int32).toInt)))
  have nq25 : ¬ (1560 : Int) = (a0 : Int32).toInt := fun z => q25 (Int32.toInt_inj.mp (z.symm.trans (rfl : (1560 : Int) = (1560 : Int32).toInt)))
  have nq26 : ¬ (11786 : Int) = (a0 : Int32).toInt := fun z => q26 (Int32.toInt_inj.mp (z.symm.trans (rfl : (11786 : Int) = (11786 : Int32).toInt)))
  refine pe_lk (off := 58) mm_152 rfl (by decide) (by simp [Op.lookupswitch.offset, nq24, nq25, nq26]) (by decide) ?_
  show pm_ev _ _ _ _ _ (59, [some (.int a0), some (.int a1)], [], _, _, _) _
  refine pe_blk mm_152 1 (s' := (60, [some (.int a0), some (.int a1)], [.int a1], _, _, _)) rfl ?_
  obtain ⟨e1, rfl⟩ : ∃ e1, e = e1 + 1 := ⟨e - 1, by omega⟩
  cases hc3 : F11 n a1 M with
  | none => rw [hc3] at h; cases h
  | some w =>
    obtain ⟨v1, M2⟩ := w
    rw [hc3] at h
    dsimp only at h
    refine pe_stat (al := [.int a1]) (L0 := [some (.int a1)]) (r1 := (some (.int v1), 129, 17845, hp M2)) mm_152 rfl rfl rfl mm_11 rfl (Nat.le_of_ble_eq_true rfl) (Nat.le_of_ble_eq_true rfl) rfl rfl (F11_ev sc n a1 _ e1 (by omega) _ _ hc3) ?_
    show pm_ev _ _ _ _ _ (63, [some (.int a0), some (.int a1)], [.int v1], _, _, _) _
    by_cases q4 : v1 = 0
    · rw [if_pos q4] at h
      refine pe_blk mm_152 1 (s' := (if v1 = 0 then 66 else 79, [some (.int a0), some (.int a1)], [], _, _, _)) rfl ?_
      rw [if_pos q4]
      refine pe_blk mm_152 1 (s' := (67, [some (.int a0), some (.int a1)], [.int a1], _, _, _)) rfl ?_
      skip
      cases hc7 : F12 n a1 M2 with
      | none => rw [hc7] at h; cases h
      | some w =>
        obtain ⟨v5, M6⟩ := w
        rw [hc7] at h
        dsimp only at h
        refine pe_stat (al := [.int a1]) (L0 := [some (.int a1)]) (r1 := (some (.int v5), 129, 17845, hp M6)) mm_152 rfl rfl rfl mm_12 rfl (Nat.le_of_ble_eq_true rfl) (Nat.le_of_ble_eq_true rfl) rfl rfl (F12_ev sc n a1 _ e1 (by omega) _ _ hc7) ?_
        show pm_ev _ _ _ _ _ (70, [some (.int a0), some (.int a1)], [.int v5], _, _, _) _
        by_cases q8 : v5 = 0
        · rw [if_pos q8] at h
          refine pe_blk mm_152 1 (s' := (if v5 = 0 then 73 else 79, [some (.int a0), some (.int a1)], [], _, _, _)) rfl ?_
          rw [if_pos q8]
          exact J152_73_ev sc n (e1 + 1) he a1 _ _ _ _ h
        · rw [if_neg q8] at h
          refine pe_blk mm_152 1 (s' := (if v5 = 0 then 73 else 79, [some (.int a0), some (.int a1)], [], _, _, _)) rfl ?_
          rw [if_neg q8]
          exact J152_79_ev sc n (e1 + 1) he _ _ _ _ _ h
    · rw [if_neg q4] at h
      refine pe_blk mm_152 1 (s' := (if v1 = 0 then 66 else 79, [some (.int a0), some (.int a1)], [], _, _, _)) rfl ?_
      rw [if_neg q4]
      exact J152_79_ev sc n (e1 + 1) he _ _ _ _ _ h
def J151_137 (n : Nat) (s0 : Int32) (M : Mem) : Option (Int32 × Mem) :=
  some (s0, M)
set_option maxRecDepth 100000 in
set_option maxHeartbeats 4000000 in
theorem J151_137_ev (sc : Option (Nat × (Nat → Int32))) (n : Nat)  (e : Nat) (he : 3 ≤ e) : ∀ (s0 : Int32) (u0 : Option Value) (u1 : Option Value) (u2 : Option Value) (u3 : Option Value) (u4 : Option Value) (u5 : Option Value) (u6 : Option Value) (M : Mem) (r : Int32) (M' : Mem), J151_137 n s0 M = some (r, M') → pm_ev pmT sc e 151 false (137, [u0, u1, u2, u3, u4, u5, u6], [.int s0], 129, 17845, hp M) (some (.int r), 129, 17845, hp M') := by
  intro s0 u0 u1 u2 u3 u4 u5 u6 M r M' h
  unfold J151_137 at h
  cases h
  exact pe_ret mm_151 rfl rfl
def J151_129 (n : Nat) (M : Mem) : Option (Int32 × Mem) :=
  J151_137 n (-2002) M
set_option maxRecDepth 100000 in
set_option maxHeartbeats 4000000 in
theorem J151_129_ev (sc : Option (Nat × (Nat → Int32))) (n : Nat)  (e : Nat) (he : 3 ≤ e) : ∀ (u0 : Option Value) (u1 : Option Value) (u2 : Option Value) (u3 : Option Value) (u4 : Option Value) (u5 : Option Value) (u6 : Option Value) (M : Mem) (r : Int32) (M' : Mem), J151_129 n  M = some (r, M') → pm_ev pmT sc e 151 false (129, [u0, u1, u2, u3, u4, u5, u6], [], 129, 17845, hp M) (some (.int r), 129, 17845, hp M') := by
  intro u0 u1 u2 u3 u4 u5 u6 M r M' h
  unfold J151_129 at h
  refine pe_blk mm_151 2 (s' := (137, [u0, u1, u2, u3, u4, u5, u6], [.int (-2002)], _, _, _)) rfl ?_
  exact J151_137_ev sc n e he (-2002) _ _ _ _ _ _ _ _ _ _ h
def J151_135 (n : Nat) (x4 : Int32) (M : Mem) : Option (Int32 × Mem) :=
  J151_137 n x4 M
set_option maxRecDepth 100000 in
set_option maxHeartbeats 4000000 in
theorem J151_135_ev (sc : Option (Nat × (Nat → Int32))) (n : Nat)  (e : Nat) (he : 3 ≤ e) : ∀ (x4 : Int32) (u0 : Option Value) (u1 : Option Value) (u2 : Option Value) (u3 : Option Value) (u5 : Option Value) (u6 : Option Value) (M : Mem) (r : Int32) (M' : Mem), J151_135 n x4 M = some (r, M') → pm_ev pmT sc e 151 false (135, [u0, u1, u2, u3, some (.int x4), u5, u6], [], 129, 17845, hp M) (some (.int r), 129, 17845, hp M') := by
  intro x4 u0 u1 u2 u3 u5 u6 M r M' h
  unfold J151_135 at h
  refine pe_blk mm_151 1 (s' := (137, [u0, u1, u2, u3, some (.int x4), u5, u6], [.int x4], _, _, _)) rfl ?_
  exact J151_137_ev sc n e he x4 _ _ _ _ _ _ _ _ _ _ h
def J151_109 (n : Nat) (rec13 : Int32 → Int32 → Int32 → Int32 → Int32 → Mem → Option (Int32 × Mem)) (x1 : Int32) (x2 : Int32) (x3 : Int32) (x4 : Int32) (x5 : Int32) (M : Mem) : Option (Int32 × Mem) :=
  rec13 x1 x2 x3 x4 (x5 + 1) M
set_option maxRecDepth 100000 in
set_option maxHeartbeats 4000000 in
theorem J151_109_ev (sc : Option (Nat × (Nat → Int32))) (n : Nat)  (e : Nat) (he : 3 ≤ e) (rec13 : Int32 → Int32 → Int32 → Int32 → Int32 → Mem → Option (Int32 × Mem)) (hr13 : ∀ (x1 : Int32) (x2 : Int32) (x3 : Int32) (x4 : Int32) (x5 : Int32) (u6 : Option Value) (M : Mem) (r : Int32) (M' : Mem), rec13 x1 x2 x3 x4 x5 M = some (r, M') → pm_ev pmT sc e 151 false (13, [some (.ref 16), some (.int x1), some (.int x2), some (.int x3), some (.int x4), some (.int x5), u6], [], 129, 17845, hp M) (some (.int r), 129, 17845, hp M')) : ∀ (x1 : Int32) (x2 : Int32) (x3 : Int32) (x4 : Int32) (x5 : Int32) (u6 : Option Value) (M : Mem) (r : Int32) (M' : Mem), J151_109 n rec13 x1 x2 x3 x4 x5 M = some (r, M') → pm_ev pmT sc e 151 false (109, [some (.ref 16), some (.int x1), some (.int x2), some (.int x3), some (.int x4), some (.int x5), u6], [], 129, 17845, hp M) (some (.int r), 129, 17845, hp M') := by
  intro x1 x2 x3 x4 x5 u6 M r M' h
  unfold J151_109 at h
  refine pe_blk mm_151 2 (s' := (13, [some (.ref 16), some (.int x1), some (.int x2), some (.int x3), some (.int x4), some (.int (x5 + 1)), u6], [], _, _, _)) rfl ?_
  exact hr13 x1 x2 x3 x4 (x5 + 1) _ _ _ _ h
def J151_100 (n : Nat) (rec13 : Int32 → Int32 → Int32 → Int32 → Int32 → Mem → Option (Int32 × Mem)) (x1 : Int32) (x2 : Int32) (x3 : Int32) (x5 : Int32) (x6 : Int32) (M : Mem) : Option (Int32 × Mem) :=
  J151_109 n rec13 x1 (x2 + x6) x3 x5 x5 M
set_option maxRecDepth 100000 in
set_option maxHeartbeats 4000000 in
theorem J151_100_ev (sc : Option (Nat × (Nat → Int32))) (n : Nat)  (e : Nat) (he : 3 ≤ e) (rec13 : Int32 → Int32 → Int32 → Int32 → Int32 → Mem → Option (Int32 × Mem)) (hr13 : ∀ (x1 : Int32) (x2 : Int32) (x3 : Int32) (x4 : Int32) (x5 : Int32) (u6 : Option Value) (M : Mem) (r : Int32) (M' : Mem), rec13 x1 x2 x3 x4 x5 M = some (r, M') → pm_ev pmT sc e 151 false (13, [some (.ref 16), some (.int x1), some (.int x2), some (.int x3), some (.int x4), some (.int x5), u6], [], 129, 17845, hp M) (some (.int r), 129, 17845, hp M')) : ∀ (x1 : Int32) (x2 : Int32) (x3 : Int32) (x5 : Int32) (x6 : Int32) (u4 : Option Value) (M : Mem) (r : Int32) (M' : Mem), J151_100 n rec13 x1 x2 x3 x5 x6 M = some (r, M') → pm_ev pmT sc e 151 false (100, [some (.ref 16), some (.int x1), some (.int x2), some (.int x3), u4, some (.int x5), some (.int x6)], [], 129, 17845, hp M) (some (.int r), 129, 17845, hp M') := by
  intro x1 x2 x3 x5 x6 u4 M r M' h
  unfold J151_100 at h
  refine pe_blk mm_151 6 (s' := (109, [some (.ref 16), some (.int x1), some (.int (x2 + x6)), some (.int x3), some (.int x5), some (.int x5), some (.int x6)], [], _, _, _)) rfl ?_
  exact J151_109_ev sc n e he rec13 hr13 x1 (x2 + x6) x3 x5 x5 _ _ _ _ h
def J151_82 (n : Nat) (rec13 : Int32 → Int32 → Int32 → Int32 → Int32 → Mem → Option (Int32 × Mem)) (x1 : Int32) (x2 : Int32) (x3 : Int32) (x4 : Int32) (x5 : Int32) (x6 : Int32) (M : Mem) : Option (Int32 × Mem) :=
  match M.2.1 16 3 with | some p20 => (if isD p20 then (match F109 n p20 (x5 + 3) M with | some (v23, M24) => (match F152 n v23 x1 M24 with | some (v26, M27) => (if v26 = 0 then (J151_109 n rec13 x1 x2 x3 x4 x5 M27) else (J151_100 n rec13 x1 x2 x3 x5 x6 M27)) | none => none) | none => none) else none) | none => none
set_option maxRecDepth 100000 in
set_option maxHeartbeats 4000000 in
theorem J151_82_ev (sc : Option (Nat × (Nat → Int32))) (n : Nat)  (e : Nat) (he : 3 ≤ e) (rec13 : Int32 → Int32 → Int32 → Int32 → Int32 → Mem → Option (Int32 × Mem)) (hr13 : ∀ (x1 : Int32) (x2 : Int32) (x3 : Int32) (x4 : Int32) (x5 : Int32) (u6 : Option Value) (M : Mem) (r : Int32) (M' : Mem), rec13 x1 x2 x3 x4 x5 M = some (r, M') → pm_ev pmT sc e 151 false (13, [some (.ref 16), some (.int x1), some (.int x2), some (.int x3), some (.int x4), some (.int x5), u6], [], 129, 17845, hp M) (some (.int r), 129, 17845, hp M')) : ∀ (x1 : Int32) (x2 : Int32) (x3 : Int32) (x4 : Int32) (x5 : Int32) (x6 : Int32) (M : Mem) (r : Int32) (M' : Mem), J151_82 n rec13 x1 x2 x3 x4 x5 x6 M = some (r, M') → pm_ev pmT sc e 151 false (82, [some (.ref 16), some (.int x1), some (.int x2), some (.int x3), some (.int x4), some (.int x5), some (.int x6)], [], 129, 17845, hp M) (some (.int r), 129, 17845, hp M') := by
  intro x1 x2 x3 x4 x5 x6  M r M' h
  unfold J151_82 at h
  refine pe_blk mm_151 1 (s' := (83, [some (.ref 16), some (.int x1), some (.int x2), some (.int x3), some (.int x4), some (.int x5), some (.int x6)], [.ref 16], _, _, _)) rfl ?_
  refine pe_get mm_151 rfl rfl rfl (by decide) rfl ?_
  show pm_ev _ _ _ _ _ (86, [some (.ref 16), some (.int x1), some (.int x2), some (.int x3), some (.int x4), some (.int x5), some (.int x6)], va_rf (M.2.1 16 3) :: [], _, _, _) _
  cases hq22 : M.2.1 16 3 with
  | none => rw [hq22] at h; cases h
  | some p20 =>
    rw [hq22] at h
    dsimp only at h
    by_cases f21 : isD p20
    · rw [if_pos f21] at h
      show pm_ev _ _ _ _ _ (86, [some (.ref 16), some (.int x1), some (.int x2), some (.int x3), some (.int x4), some (.int x5), some (.int x6)], [.ref p20], _, _, _) _
      refine pe_blk mm_151 3 (s' := (90, [some (.ref 16), some (.int x1), some (.int x2), some (.int x3), some (.int x4), some (.int x5), some (.int x6)], [.int (x5 + 3), .ref p20], _, _, _)) rfl ?_
      obtain ⟨e1, rfl⟩ : ∃ e1, e = e1 + 1 := ⟨e - 1, by omega⟩
      cases hc25 : F109 n p20 (x5 + 3) M with
      | none => rw [hc25] at h; cases h
      | some w =>
        obtain ⟨v23, M24⟩ := w
        rw [hc25] at h
        dsimp only at h
        refine pe_virt (al := [.int (x5 + 3)]) (a := p20) (L0 := [some (.ref p20), some (.int (x5 + 3))]) (r1 := (some (.int v23), 129, 17845, hp M24)) mm_151 rfl rfl rfl mm_109 (isD_0 f21 _) (by have := isD_lt f21; omega) (by decide) rfl (Nat.le_of_ble_eq_true rfl) (Nat.le_of_ble_eq_true rfl) rfl rfl (F109_ev sc n p20 (x5 + 3) f21 _ e1 (by omega) _ _ hc25) ?_
        show pm_ev _ _ _ _ _ (93, [some (.ref 16), some (.int x1), some (.int x2), some (.int x3), some (.int x4), some (.int x5), some (.int x6)], [.int v23], _, _, _) _
        refine pe_blk mm_151 1 (s' := (94, [some (.ref 16), some (.int x1), some (.int x2), some (.int x3), some (.int x4), some (.int x5), some (.int x6)], [.int x1, .int v23], _, _, _)) rfl ?_
        skip
        cases hc28 : F152 n v23 x1 M24 with
        | none => rw [hc28] at h; cases h
        | some w =>
          obtain ⟨v26, M27⟩ := w
          rw [hc28] at h
          dsimp only at h
          refine pe_stat (al := [.int x1, .int v23]) (L0 := [some (.int v23), some (.int x1)]) (r1 := (some (.int v26), 129, 17845, hp M27)) mm_151 rfl rfl rfl mm_152 rfl (Nat.le_of_ble_eq_true rfl) (Nat.le_of_ble_eq_true rfl) rfl rfl (F152_ev sc n v23 x1 _ e1 (by omega) _ _ hc28) ?_
          show pm_ev _ _ _ _ _ (97, [some (.ref 16), some (.int x1), some (.int x2), some (.int x3), some (.int x4), some (.int x5), some (.int x6)], [.int v26], _, _, _) _
          by_cases q29 : v26 = 0
          · rw [if_pos q29] at h
            refine pe_blk mm_151 1 (s' := (if v26 = 0 then 109 else 100, [some (.ref 16), some (.int x1), some (.int x2), some (.int x3), some (.int x4), some (.int x5), some (.int x6)], [], _, _, _)) rfl ?_
            rw [if_pos q29]
            exact J151_109_ev sc n (e1 + 1) he rec13 hr13 x1 x2 x3 x4 x5 _ _ _ _ h
          · rw [if_neg q29] at h
            refine pe_blk mm_151 1 (s' := (if v26 = 0 then 109 else 100, [some (.ref 16), some (.int x1), some (.int x2), some (.int x3), some (.int x4), some (.int x5), some (.int x6)], [], _, _, _)) rfl ?_
            rw [if_neg q29]
            exact J151_100_ev sc n (e1 + 1) he rec13 hr13 x1 x2 x3 x5 x6 _ _ _ _ h
    · rw [if_neg f21] at h
      cases h
def J151_65 (n : Nat) (rec13 : Int32 → Int32 → Int32 → Int32 → Int32 → Mem → Option (Int32 × Mem)) (x1 : Int32) (x2 : Int32) (x3 : Int32) (x4 : Int32) (x5 : Int32) (x6 : Int32) (M : Mem) : Option (Int32 × Mem) :=
  if x6 ≤ 0 then (J151_109 n rec13 x1 x2 x3 x4 x5 M) else (match M.2.1 16 3 with | some p13 => (if isD p13 then (match F115 n p13 x5 M with | some (v16, M17) => (if v16 = 0 then (J151_109 n rec13 x1 x2 x3 x4 x5 M17) else (J151_82 n rec13 x1 x2 x3 x4 x5 x6 M17)) | none => none) else none) | none => none)
set_option maxRecDepth 100000 in
set_option maxHeartbeats 4000000 in
theorem J151_65_ev (sc : Option (Nat × (Nat → Int32))) (n : Nat)  (e : Nat) (he : 3 ≤ e) (rec13 : Int32 → Int32 → Int32 → Int32 → Int32 → Mem → Option (Int32 × Mem)) (hr13 : ∀ (x1 : Int32) (x2 : Int32) (x3 : Int32) (x4 : Int32) (x5 : Int32) (u6 : Option Value) (M : Mem) (r : Int32) (M' : Mem), rec13 x1 x2 x3 x4 x5 M = some (r, M') → pm_ev pmT sc e 151 false (13, [some (.ref 16), some (.int x1), some (.int x2), some (.int x3), some (.int x4), some (.int x5), u6], [], 129, 17845, hp M) (some (.int r), 129, 17845, hp M')) : ∀ (x1 : Int32) (x2 : Int32) (x3 : Int32) (x4 : Int32) (x5 : Int32) (x6 : Int32) (M : Mem) (r : Int32) (M' : Mem), J151_65 n rec13 x1 x2 x3 x4 x5 x6 M = some (r, M') → pm_ev pmT sc e 151 false (65, [some (.ref 16), some (.int x1), some (.int x2), some (.int x3), some (.int x4), some (.int x5), some (.int x6)], [], 129, 17845, hp M) (some (.int r), 129, 17845, hp M') := by
  intro x1 x2 x3 x4 x5 x6  M r M' h
  unfold J151_65 at h
  refine pe_blk mm_151 1 (s' := (67, [some (.ref 16), some (.int x1), some (.int x2), some (.int x3), some (.int x4), some (.int x5), some (.int x6)], [.int x6], _, _, _)) rfl ?_
  by_cases q12 : x6 ≤ 0
  · rw [if_pos q12] at h
    refine pe_blk mm_151 1 (s' := (if x6 ≤ 0 then 109 else 70, [some (.ref 16), some (.int x1), some (.int x2), some (.int x3), some (.int x4), some (.int x5), some (.int x6)], [], _, _, _)) rfl ?_
    rw [if_pos q12]
    exact J151_109_ev sc n e he rec13 hr13 x1 x2 x3 x4 x5 _ _ _ _ h
  · rw [if_neg q12] at h
    refine pe_blk mm_151 1 (s' := (if x6 ≤ 0 then 109 else 70, [some (.ref 16), some (.int x1), some (.int x2), some (.int x3), some (.int x4), some (.int x5), some (.int x6)], [], _, _, _)) rfl ?_
    rw [if_neg q12]
    refine pe_blk mm_151 1 (s' := (71, [some (.ref 16), some (.int x1), some (.int x2), some (.int x3), some (.int x4), some (.int x5), some (.int x6)], [.ref 16], _, _, _)) rfl ?_
    refine pe_get mm_151 rfl rfl rfl (by decide) rfl ?_
    show pm_ev _ _ _ _ _ (74, [some (.ref 16), some (.int x1), some (.int x2), some (.int x3), some (.int x4), some (.int x5), some (.int x6)], va_rf (M.2.1 16 3) :: [], _, _, _) _
    cases hq15 : M.2.1 16 3 with
    | none => rw [hq15] at h; cases h
    | some p13 =>
      rw [hq15] at h
      dsimp only at h
      by_cases f14 : isD p13
      · rw [if_pos f14] at h
        show pm_ev _ _ _ _ _ (74, [some (.ref 16), some (.int x1), some (.int x2), some (.int x3), some (.int x4), some (.int x5), some (.int x6)], [.ref p13], _, _, _) _
        refine pe_blk mm_151 1 (s' := (76, [some (.ref 16), some (.int x1), some (.int x2), some (.int x3), some (.int x4), some (.int x5), some (.int x6)], [.int x5, .ref p13], _, _, _)) rfl ?_
        obtain ⟨e1, rfl⟩ : ∃ e1, e = e1 + 1 := ⟨e - 1, by omega⟩
        cases hc18 : F115 n p13 x5 M with
        | none => rw [hc18] at h; cases h
        | some w =>
          obtain ⟨v16, M17⟩ := w
          rw [hc18] at h
          dsimp only at h
          refine pe_virt (al := [.int x5]) (a := p13) (L0 := [some (.ref p13), some (.int x5)]) (r1 := (some (.int v16), 129, 17845, hp M17)) mm_151 rfl rfl rfl mm_115 (isD_0 f14 _) (by have := isD_lt f14; omega) (by decide) rfl (Nat.le_of_ble_eq_true rfl) (Nat.le_of_ble_eq_true rfl) rfl rfl (F115_ev sc n p13 x5 f14 _ e1 (by omega) _ _ hc18) ?_
          show pm_ev _ _ _ _ _ (79, [some (.ref 16), some (.int x1), some (.int x2), some (.int x3), some (.int x4), some (.int x5), some (.int x6)], [.int v16], _, _, _) _
          by_cases q19 : v16 = 0
          · rw [if_pos q19] at h
            refine pe_blk mm_151 1 (s' := (if v16 = 0 then 109 else 82, [some (.ref 16), some (.int x1), some (.int x2), some (.int x3), some (.int x4), some (.int x5), some (.int x6)], [], _, _, _)) rfl ?_
            rw [if_pos q19]
            exact J151_109_ev sc n (e1 + 1) he rec13 hr13 x1 x2 x3 x4 x5 _ _ _ _ h
          · rw [if_neg q19] at h
            refine pe_blk mm_151 1 (s' := (if v16 = 0 then 109 else 82, [some (.ref 16), some (.int x1), some (.int x2), some (.int x3), some (.int x4), some (.int x5), some (.int x6)], [], _, _, _)) rfl ?_
            rw [if_neg q19]
            exact J151_82_ev sc n (e1 + 1) he rec13 hr13 x1 x2 x3 x4 x5 x6 _ _ _ h
      · rw [if_neg f14] at h
        cases h
def J151_51 (n : Nat) (rec13 : Int32 → Int32 → Int32 → Int32 → Int32 → Mem → Option (Int32 × Mem)) (x1 : Int32) (x2 : Int32) (x3 : Int32) (x4 : Int32) (x5 : Int32) (x6 : Int32) (M : Mem) : Option (Int32 × Mem) :=
  if x1 = 36 then (J151_65 n rec13 x1 x2 x3 x4 x5 x6 M) else (J151_109 n rec13 x1 x2 (x3 + x6) x4 x5 M)
set_option maxRecDepth 100000 in
set_option maxHeartbeats 4000000 in
theorem J151_51_ev (sc : Option (Nat × (Nat → Int32))) (n : Nat)  (e : Nat) (he : 3 ≤ e) (rec13 : Int32 → Int32 → Int32 → Int32 → Int32 → Mem → Option (Int32 × Mem)) (hr13 : ∀ (x1 : Int32) (x2 : Int32) (x3 : Int32) (x4 : Int32) (x5 : Int32) (u6 : Option Value) (M : Mem) (r : Int32) (M' : Mem), rec13 x1 x2 x3 x4 x5 M = some (r, M') → pm_ev pmT sc e 151 false (13, [some (.ref 16), some (.int x1), some (.int x2), some (.int x3), some (.int x4), some (.int x5), u6], [], 129, 17845, hp M) (some (.int r), 129, 17845, hp M')) : ∀ (x1 : Int32) (x2 : Int32) (x3 : Int32) (x4 : Int32) (x5 : Int32) (x6 : Int32) (M : Mem) (r : Int32) (M' : Mem), J151_51 n rec13 x1 x2 x3 x4 x5 x6 M = some (r, M') → pm_ev pmT sc e 151 false (51, [some (.ref 16), some (.int x1), some (.int x2), some (.int x3), some (.int x4), some (.int x5), some (.int x6)], [], 129, 17845, hp M) (some (.int r), 129, 17845, hp M') := by
  intro x1 x2 x3 x4 x5 x6  M r M' h
  unfold J151_51 at h
  refine pe_blk mm_151 2 (s' := (54, [some (.ref 16), some (.int x1), some (.int x2), some (.int x3), some (.int x4), some (.int x5), some (.int x6)], [.int 36, .int x1], _, _, _)) rfl ?_
  by_cases q37 : x1 = 36
  · rw [if_pos q37] at h
    refine pe_blk mm_151 1 (s' := (if x1 = 36 then 65 else 57, [some (.ref 16), some (.int x1), some (.int x2), some (.int x3), some (.int x4), some (.int x5), some (.int x6)], [], _, _, _)) rfl ?_
    rw [if_pos q37]
    exact J151_65_ev sc n e he rec13 hr13 x1 x2 x3 x4 x5 x6 _ _ _ h
  · rw [if_neg q37] at h
    refine pe_blk mm_151 1 (s' := (if x1 = 36 then 65 else 57, [some (.ref 16), some (.int x1), some (.int x2), some (.int x3), some (.int x4), some (.int x5), some (.int x6)], [], _, _, _)) rfl ?_
    rw [if_neg q37]
    refine pe_blk mm_151 5 (s' := (109, [some (.ref 16), some (.int x1), some (.int x2), some (.int (x3 + x6)), some (.int x4), some (.int x5), some (.int x6)], [], _, _, _)) rfl ?_
    exact J151_109_ev sc n e he rec13 hr13 x1 x2 (x3 + x6) x4 x5 _ _ _ _ h
def J151_33 (n : Nat) (rec13 : Int32 → Int32 → Int32 → Int32 → Int32 → Mem → Option (Int32 × Mem)) (x1 : Int32) (x2 : Int32) (x3 : Int32) (x4 : Int32) (x5 : Int32) (x6 : Int32) (M : Mem) : Option (Int32 × Mem) :=
  if x6 ≤ 0 then (J151_65 n rec13 x1 x2 x3 x4 x5 x6 M) else (match M.2.1 16 3 with | some p30 => (if isD p30 then (match F109 n p30 x5 M with | some (v33, M34) => (if v33 = x1 then (J151_51 n rec13 x1 x2 x3 x4 x5 x6 M34) else (J151_65 n rec13 x1 x2 x3 x4 x5 x6 M34)) | none => none) else none) | none => none)
set_option maxRecDepth 100000 in
set_option maxHeartbeats 4000000 in
theorem J151_33_ev (sc : Option (Nat × (Nat → Int32))) (n : Nat)  (e : Nat) (he : 3 ≤ e) (rec13 : Int32 → Int32 → Int32 → Int32 → Int32 → Mem → Option (Int32 × Mem)) (hr13 : ∀ (x1 : Int32) (x2 : Int32) (x3 : Int32) (x4 : Int32) (x5 : Int32) (u6 : Option Value) (M : Mem) (r : Int32) (M' : Mem), rec13 x1 x2 x3 x4 x5 M = some (r, M') → pm_ev pmT sc e 151 false (13, [some (.ref 16), some (.int x1), some (.int x2), some (.int x3), some (.int x4), some (.int x5), u6], [], 129, 17845, hp M) (some (.int r), 129, 17845, hp M')) : ∀ (x1 : Int32) (x2 : Int32) (x3 : Int32) (x4 : Int32) (x5 : Int32) (x6 : Int32) (M : Mem) (r : Int32) (M' : Mem), J151_33 n rec13 x1 x2 x3 x4 x5 x6 M = some (r, M') → pm_ev pmT sc e 151 false (33, [some (.ref 16), some (.int x1), some (.int x2), some (.int x3), some (.int x4), some (.int x5), some (.int x6)], [], 129, 17845, hp M) (some (.int r), 129, 17845, hp M') := by
  intro x1 x2 x3 x4 x5 x6  M r M' h
  unfold J151_33 at h
  refine pe_blk mm_151 1 (s' := (35, [some (.ref 16), some (.int x1), some (.int x2), some (.int x3), some (.int x4), some (.int x5), some (.int x6)], [.int x6], _, _, _)) rfl ?_
  by_cases q11 : x6 ≤ 0
  · rw [if_pos q11] at h
    refine pe_blk mm_151 1 (s' := (if x6 ≤ 0 then 65 else 38, [some (.ref 16), some (.int x1), some (.int x2), some (.int x3), some (.int x4), some (.int x5), some (.int x6)], [], _, _, _)) rfl ?_
    rw [if_pos q11]
    exact J151_65_ev sc n e he rec13 hr13 x1 x2 x3 x4 x5 x6 _ _ _ h
  · rw [if_neg q11] at h
    refine pe_blk mm_151 1 (s' := (if x6 ≤ 0 then 65 else 38, [some (.ref 16), some (.int x1), some (.int x2), some (.int x3), some (.int x4), some (.int x5), some (.int x6)], [], _, _, _)) rfl ?_
    rw [if_neg q11]
    refine pe_blk mm_151 1 (s' := (39, [some (.ref 16), some (.int x1), some (.int x2), some (.int x3), some (.int x4), some (.int x5), some (.int x6)], [.ref 16], _, _, _)) rfl ?_
    refine pe_get mm_151 rfl rfl rfl (by decide) rfl ?_
    show pm_ev _ _ _ _ _ (42, [some (.ref 16), some (.int x1), some (.int x2), some (.int x3), some (.int x4), some (.int x5), some (.int x6)], va_rf (M.2.1 16 3) :: [], _, _, _) _
    cases hq32 : M.2.1 16 3 with
    | none => rw [hq32] at h; cases h
    | some p30 =>
      rw [hq32] at h
      dsimp only at h
      by_cases f31 : isD p30
      · rw [if_pos f31] at h
        show pm_ev _ _ _ _ _ (42, [some (.ref 16), some (.int x1), some (.int x2), some (.int x3), some (.int x4), some (.int x5), some (.int x6)], [.ref p30], _, _, _) _
        refine pe_blk mm_151 1 (s' := (44, [some (.ref 16), some (.int x1), some (.int x2), some (.int x3), some (.int x4), some (.int x5), some (.int x6)], [.int x5, .ref p30], _, _, _)) rfl ?_
        obtain ⟨e1, rfl⟩ : ∃ e1, e = e1 + 1 := ⟨e - 1, by omega⟩
        cases hc35 : F109 n p30 x5 M with
        | none => rw [hc35] at h; cases h
        | some w =>
          obtain ⟨v33, M34⟩ := w
          rw [hc35] at h
          dsimp only at h
          refine pe_virt (al := [.int x5]) (a := p30) (L0 := [some (.ref p30), some (.int x5)]) (r1 := (some (.int v33), 129, 17845, hp M34)) mm_151 rfl rfl rfl mm_109 (isD_0 f31 _) (by have := isD_lt f31; omega) (by decide) rfl (Nat.le_of_ble_eq_true rfl) (Nat.le_of_ble_eq_true rfl) rfl rfl (F109_ev sc n p30 x5 f31 _ e1 (by omega) _ _ hc35) ?_
          show pm_ev _ _ _ _ _ (47, [some (.ref 16), some (.int x1), some (.int x2), some (.int x3), some (.int x4), some (.int x5), some (.int x6)], [.int v33], _, _, _) _
          refine pe_blk mm_151 1 (s' := (48, [some (.ref 16), some (.int x1), some (.int x2), some (.int x3), some (.int x4), some (.int x5), some (.int x6)], [.int x1, .int v33], _, _, _)) rfl ?_
          by_cases q36 : v33 = x1
          · rw [if_pos q36] at h
            refine pe_blk mm_151 1 (s' := (if v33 = x1 then 51 else 65, [some (.ref 16), some (.int x1), some (.int x2), some (.int x3), some (.int x4), some (.int x5), some (.int x6)], [], _, _, _)) rfl ?_
            rw [if_pos q36]
            exact J151_51_ev sc n (e1 + 1) he rec13 hr13 x1 x2 x3 x4 x5 x6 _ _ _ h
          · rw [if_neg q36] at h
            refine pe_blk mm_151 1 (s' := (if v33 = x1 then 51 else 65, [some (.ref 16), some (.int x1), some (.int x2), some (.int x3), some (.int x4), some (.int x5), some (.int x6)], [], _, _, _)) rfl ?_
            rw [if_neg q36]
            exact J151_65_ev sc n (e1 + 1) he rec13 hr13 x1 x2 x3 x4 x5 x6 _ _ _ h
      · rw [if_neg f31] at h
        cases h
def L151_13 (n : Nat) : Nat → Int32 → Int32 → Int32 → Int32 → Int32 → Mem → Option (Int32 × Mem)
  | 0, _, _, _, _, _, _ => none
  | k + 1, x1, x2, x3, x4, x5, M => if (M.1 16 5) ≤ x5 then (if 1 < x2 then (J151_129 n M) else (if x2 = 1 then (if x3 ≤ 0 then (J151_135 n x4 M) else (J151_129 n M)) else (J151_135 n x4 M))) else (match M.2.1 16 1 with | some p5 => (if isT p5 then (match F188 n p5 x5 M with | some (v8, M9) => (J151_33 n (L151_13 n k) x1 x2 x3 x4 x5 v8 M9) | none => none) else none) | none => none)
set_option maxRecDepth 100000 in
set_option maxHeartbeats 4000000 in
theorem L151_13_ev (sc : Option (Nat × (Nat → Int32))) (n : Nat)  (e : Nat) (he : 3 ≤ e) : ∀ k : Nat, ∀ (x1 : Int32) (x2 : Int32) (x3 : Int32) (x4 : Int32) (x5 : Int32) (u6 : Option Value) (M : Mem) (r : Int32) (M' : Mem), L151_13 n k x1 x2 x3 x4 x5 M = some (r, M') → pm_ev pmT sc e 151 false (13, [some (.ref 16), some (.int x1), some (.int x2), some (.int x3), some (.int x4), some (.int x5), u6], [], 129, 17845, hp M) (some (.int r), 129, 17845, hp M') := by
  intro k
  induction k with
  | zero => intro x1 x2 x3 x4 x5 u6 M r M' h; cases h
  | succ k hr13 =>
    intro x1 x2 x3 x4 x5 u6 M r M' h
    rw [L151_13] at h
    refine pe_blk mm_151 2 (s' := (16, [some (.ref 16), some (.int x1), some (.int x2), some (.int x3), some (.int x4), some (.int x5), u6], [.ref 16, .int x5], _, _, _)) rfl ?_
    refine pe_get mm_151 rfl rfl rfl (by decide) rfl ?_
    by_cases q1 : (M.1 16 5) ≤ x5
    · rw [if_pos q1] at h
      refine pe_blk mm_151 1 (s' := (if (M.1 16 5) ≤ x5 then 115 else 22, [some (.ref 16), some (.int x1), some (.int x2), some (.int x3), some (.int x4), some (.int x5), u6], [], _, _, _)) rfl ?_
      rw [if_pos q1]
      refine pe_blk mm_151 2 (s' := (117, [some (.ref 16), some (.int x1), some (.int x2), some (.int x3), some (.int x4), some (.int x5), u6], [.int 1, .int x2], _, _, _)) rfl ?_
      by_cases q2 : 1 < x2
      · rw [if_pos q2] at h
        refine pe_blk mm_151 1 (s' := (if 1 < x2 then 129 else 120, [some (.ref 16), some (.int x1), some (.int x2), some (.int x3), some (.int x4), some (.int x5), u6], [], _, _, _)) rfl ?_
        rw [if_pos q2]
        exact J151_129_ev sc n e he _ _ _ _ _ _ _ _ _ _ h
      · rw [if_neg q2] at h
        refine pe_blk mm_151 1 (s' := (if 1 < x2 then 129 else 120, [some (.ref 16), some (.int x1), some (.int x2), some (.int x3), some (.int x4), some (.int x5), u6], [], _, _, _)) rfl ?_
        rw [if_neg q2]
        refine pe_blk mm_151 2 (s' := (122, [some (.ref 16), some (.int x1), some (.int x2), some (.int x3), some (.int x4), some (.int x5), u6], [.int 1, .int x2], _, _, _)) rfl ?_
        by_cases q3 : x2 = 1
        · rw [if_pos q3] at h
          refine pe_blk mm_151 1 (s' := (if x2 = 1 then 125 else 135, [some (.ref 16), some (.int x1), some (.int x2), some (.int x3), some (.int x4), some (.int x5), u6], [], _, _, _)) rfl ?_
          rw [if_pos q3]
          refine pe_blk mm_151 1 (s' := (126, [some (.ref 16), some (.int x1), some (.int x2), some (.int x3), some (.int x4), some (.int x5), u6], [.int x3], _, _, _)) rfl ?_
          by_cases q4 : x3 ≤ 0
          · rw [if_pos q4] at h
            refine pe_blk mm_151 1 (s' := (if x3 ≤ 0 then 135 else 129, [some (.ref 16), some (.int x1), some (.int x2), some (.int x3), some (.int x4), some (.int x5), u6], [], _, _, _)) rfl ?_
            rw [if_pos q4]
            exact J151_135_ev sc n e he x4 _ _ _ _ _ _ _ _ _ h
          · rw [if_neg q4] at h
            refine pe_blk mm_151 1 (s' := (if x3 ≤ 0 then 135 else 129, [some (.ref 16), some (.int x1), some (.int x2), some (.int x3), some (.int x4), some (.int x5), u6], [], _, _, _)) rfl ?_
            rw [if_neg q4]
            exact J151_129_ev sc n e he _ _ _ _ _ _ _ _ _ _ h
        · rw [if_neg q3] at h
          refine pe_blk mm_151 1 (s' := (if x2 = 1 then 125 else 135, [some (.ref 16), some (.int x1), some (.int x2), some (.int x3), some (.int x4), some (.int x5), u6], [], _, _, _)) rfl ?_
          rw [if_neg q3]
          exact J151_135_ev sc n e he x4 _ _ _ _ _ _ _ _ _ h
    · rw [if_neg q1] at h
      refine pe_blk mm_151 1 (s' := (if (M.1 16 5) ≤ x5 then 115 else 22, [some (.ref 16), some (.int x1), some (.int x2), some (.int x3), some (.int x4), some (.int x5), u6], [], _, _, _)) rfl ?_
      rw [if_neg q1]
      refine pe_blk mm_151 1 (s' := (23, [some (.ref 16), some (.int x1), some (.int x2), some (.int x3), some (.int x4), some (.int x5), u6], [.ref 16], _, _, _)) rfl ?_
      refine pe_get mm_151 rfl rfl rfl (by decide) rfl ?_
      show pm_ev _ _ _ _ _ (26, [some (.ref 16), some (.int x1), some (.int x2), some (.int x3), some (.int x4), some (.int x5), u6], va_rf (M.2.1 16 1) :: [], _, _, _) _
      cases hq7 : M.2.1 16 1 with
      | none => rw [hq7] at h; cases h
      | some p5 =>
        rw [hq7] at h
        dsimp only at h
        by_cases f6 : isT p5
        · rw [if_pos f6] at h
          show pm_ev _ _ _ _ _ (26, [some (.ref 16), some (.int x1), some (.int x2), some (.int x3), some (.int x4), some (.int x5), u6], [.ref p5], _, _, _) _
          refine pe_blk mm_151 1 (s' := (28, [some (.ref 16), some (.int x1), some (.int x2), some (.int x3), some (.int x4), some (.int x5), u6], [.int x5, .ref p5], _, _, _)) rfl ?_
          obtain ⟨e1, rfl⟩ : ∃ e1, e = e1 + 1 := ⟨e - 1, by omega⟩
          cases hc10 : F188 n p5 x5 M with
          | none => rw [hc10] at h; cases h
          | some w =>
            obtain ⟨v8, M9⟩ := w
            rw [hc10] at h
            dsimp only at h
            refine pe_virt (al := [.int x5]) (a := p5) (L0 := [some (.ref p5), some (.int x5)]) (r1 := (some (.int v8), 129, 17845, hp M9)) mm_151 rfl rfl rfl mm_188 (isT_0 f6 _) (by have := isT_lt f6; omega) (by decide) rfl (Nat.le_of_ble_eq_true rfl) (Nat.le_of_ble_eq_true rfl) rfl rfl (F188_ev sc n p5 x5 f6 _ e1 (by omega) _ _ hc10) ?_
            show pm_ev _ _ _ _ _ (31, [some (.ref 16), some (.int x1), some (.int x2), some (.int x3), some (.int x4), some (.int x5), u6], [.int v8], _, _, _) _
            refine pe_blk mm_151 1 (s' := (33, [some (.ref 16), some (.int x1), some (.int x2), some (.int x3), some (.int x4), some (.int x5), some (.int v8)], [], _, _, _)) rfl ?_
            exact J151_33_ev sc n (e1 + 1) he (L151_13 n k) hr13 x1 x2 x3 x4 x5 v8 _ _ _ h
        · rw [if_neg f6] at h
          cases h
/-- ArmExpander$Matcher.findFitting -/
def F151 (n : Nat) (a0 : Int32) (M : Mem) : Option (Int32 × Mem) :=
  L151_13 n n a0 0 0 (-1) (M.1 16 4) M
set_option maxRecDepth 100000 in
set_option maxHeartbeats 4000000 in
theorem F151_ev (sc : Option (Nat × (Nat → Int32))) (n : Nat) (a0 : Int32)  (M : Mem) (e : Nat) (he : 3 ≤ e) (r : Int32) (M' : Mem) (h : F151 n a0 M = some (r, M')) : pm_ev pmT sc e 151 false (0, [some (.ref 16), some (.int a0), none, none, none, none, none], [], 129, 17845, hp M) (some (.int r), 129, 17845, hp M') := by
  unfold F151 at h
  refine pe_blk mm_151 7 (s' := (8, [some (.ref 16), some (.int a0), some (.int 0), some (.int 0), some (.int (-1)), none, none], [.ref 16], _, _, _)) rfl ?_
  refine pe_get mm_151 rfl rfl rfl (by decide) rfl ?_
  refine pe_blk mm_151 1 (s' := (13, [some (.ref 16), some (.int a0), some (.int 0), some (.int 0), some (.int (-1)), some (.int (M.1 16 4)), none], [], _, _, _)) rfl ?_
  exact L151_13_ev sc n e he n a0 0 0 (-1) (M.1 16 4) _ _ _ _ h
