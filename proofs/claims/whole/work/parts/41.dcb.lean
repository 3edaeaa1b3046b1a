/-! The methods as functions over Mem; written by program. -/
def J97_61 (n : Nat) (g0 : Nat) (rec12 : Int32 → Int32 → Int32 → Mem → Option (Int32 × Mem)) (x1 : Int32) (x2 : Int32) (x3 : Int32) (M : Mem) : Option (Int32 × Mem) :=
  rec12 x1 x2 (x3 + 1) M
set_option maxRecDepth 100000 in
set_option maxHeartbeats 4000000 in
theorem J97_61_ev (sc : Option (Nat × (Nat → Int32))) (n : Nat) (g0 : Nat) (hg0 : isD g0) (e : Nat) (he : 3 ≤ e) (rec12 : Int32 → Int32 → Int32 → Mem → Option (Int32 × Mem)) (hr12 : ∀ (x1 : Int32) (x2 : Int32) (x3 : Int32) (u4 : Option Value) (M : Mem) (r : Int32) (M' : Mem), rec12 x1 x2 x3 M = some (r, M') → pm_ev pmT sc e 97 false (12, [some (.ref g0), some (.int x1), some (.int x2), some (.int x3), u4], [], 129, 17845, hp M) (some (.int r), 129, 17845, hp M')) : ∀ (x1 : Int32) (x2 : Int32) (x3 : Int32) (u4 : Option Value) (M : Mem) (r : Int32) (M' : Mem), J97_61 n g0 rec12 x1 x2 x3 M = some (r, M') → pm_ev pmT sc e 97 false (61, [some (.ref g0), some (.int x1), some (.int x2), some (.int x3), u4], [], 129, 17845, hp M) (some (.int r), 129, 17845, hp M') := by
  intro x1 x2 x3 u4 M r M' h
  unfold J97_61 at h
  refine pe_blk mm_97 2 (s' := (12, [some (.ref g0), some (.int x1), some (.int x2), some (.int (x3 + 1)), u4], [], _, _, _)) rfl ?_
  exact hr12 x1 x2 (x3 + 1) _ _ _ _ h
def J97_59 (n : Nat) (g0 : Nat) (M : Mem) : Option (Int32 × Mem) :=
  some (1, M)
set_option maxRecDepth 100000 in
set_option maxHeartbeats 4000000 in
theorem J97_59_ev (sc : Option (Nat × (Nat → Int32))) (n : Nat) (g0 : Nat) (hg0 : isD g0) (e : Nat) (he : 3 ≤ e) : ∀ (u0 : Option Value) (u1 : Option Value) (u2 : Option Value) (u3 : Option Value) (u4 : Option Value) (M : Mem) (r : Int32) (M' : Mem), J97_59 n g0  M = some (r, M') → pm_ev pmT sc e 97 false (59, [u0, u1, u2, u3, u4], [], 129, 17845, hp M) (some (.int r), 129, 17845, hp M') := by
  intro u0 u1 u2 u3 u4 M r M' h
  unfold J97_59 at h
  refine pe_blk mm_97 1 (s' := (60, [u0, u1, u2, u3, u4], [.int 1], _, _, _)) rfl ?_
  cases h
  exact pe_ret mm_97 rfl rfl
def L97_12 (n : Nat) (g0 : Nat) : Nat → Int32 → Int32 → Int32 → Mem → Option (Int32 × Mem)
  | 0, _, _, _, _ => none
  | k + 1, x1, x2, x3, M => if x2 ≤ x3 then (some (0, M)) else (match F115 n g0 x3 M with | some (v8, M9) => (if v8 = 0 then (J97_61 n g0 (L97_12 n g0 k) x1 x2 x3 M9) else (match F109 n g0 (x3 + 1) M9 with | some (v12, M13) => (match F125 n g0 x1 v12 M13 with | some (v15, M16) => (if v15 = (-1) then (J97_59 n g0 M16) else (match F122 n g0 v15 M16 with | some (v19, M20) => (match F122 n g0 x3 M20 with | some (v22, M23) => (if v19 = v22 then (J97_61 n g0 (L97_12 n g0 k) x1 x2 x3 M23) else (J97_59 n g0 M23)) | none => none) | none => none)) | none => none) | none => none)) | none => none)
set_option maxRecDepth 100000 in
set_option maxHeartbeats 4000000 in
theorem L97_12_ev (sc : Option (Nat × (Nat → Int32))) (n : Nat) (g0 : Nat) (hg0 : isD g0) (e : Nat) (he : 3 ≤ e) : ∀ k : Nat, ∀ (x1 : Int32) (x2 : Int32) (x3 : Int32) (u4 : Option Value) (M : Mem) (r : Int32) (M' : Mem), L97_12 n g0 k x1 x2 x3 M = some (r, M') → pm_ev pmT sc e 97 false (12, [some (.ref g0), some (.int x1), some (.int x2), some (.int x3), u4], [], 129, 17845, hp M) (some (.int r), 129, 17845, hp M') := by
  intro k
  induction k with
  | zero => intro x1 x2 x3 u4 M r M' h; cases h
  | succ k hr12 =>
    intro x1 x2 x3 u4 M r M' h
    rw [L97_12] at h
    refine pe_blk mm_97 2 (s' := (14, [some (.ref g0), some (.int x1), some (.int x2), some (.int x3), u4], [.int x2, .int x3], _, _, _)) rfl ?_
    by_cases q7 : x2 ≤ x3
    · rw [if_pos q7] at h
      refine pe_blk mm_97 1 (s' := (if x2 ≤ x3 then 67 else 17, [some (.ref g0), some (.int x1), some (.int x2), some (.int x3), u4], [], _, _, _)) rfl ?_
      rw [if_pos q7]
      refine pe_blk mm_97 1 (s' := (68, [some (.ref g0), some (.int x1), some (.int x2), some (.int x3), u4], [.int 0], _, _, _)) rfl ?_
      cases h
      exact pe_ret mm_97 rfl rfl
    · rw [if_neg q7] at h
      refine pe_blk mm_97 1 (s' := (if x2 ≤ x3 then 67 else 17, [some (.ref g0), some (.int x1), some (.int x2), some (.int x3), u4], [], _, _, _)) rfl ?_
      rw [if_neg q7]
      refine pe_blk mm_97 2 (s' := (19, [some (.ref g0), some (.int x1), some (.int x2), some (.int x3), u4], [.int x3, .ref g0], _, _, _)) rfl ?_
      obtain ⟨e1, rfl⟩ : ∃ e1, e = e1 + 1 := ⟨e - 1, by omega⟩
      cases hc10 : F115 n g0 x3 M with
      | none => rw [hc10] at h; cases h
      | some w =>
        obtain ⟨v8, M9⟩ := w
        rw [hc10] at h
        dsimp only at h
        refine pe_virt (al := [.int x3]) (a := g0) (L0 := [some (.ref g0), some (.int x3)]) (r1 := (some (.int v8), 129, 17845, hp M9)) mm_97 rfl rfl rfl mm_115 (isD_0 hg0 _) (by have := isD_lt hg0; omega) (by decide) rfl (Nat.le_of_ble_eq_true rfl) (Nat.le_of_ble_eq_true rfl) rfl rfl (F115_ev sc n g0 x3 hg0 _ e1 (by omega) _ _ hc10) ?_
        show pm_ev _ _ _ _ _ (22, [some (.ref g0), some (.int x1), some (.int x2), some (.int x3), u4], [.int v8], _, _, _) _
        by_cases q11 : v8 = 0
        · rw [if_pos q11] at h
          refine pe_blk mm_97 1 (s' := (if v8 = 0 then 61 else 25, [some (.ref g0), some (.int x1), some (.int x2), some (.int x3), u4], [], _, _, _)) rfl ?_
          rw [if_pos q11]
          exact J97_61_ev sc n g0 hg0 (e1 + 1) he (L97_12 n g0 k) hr12 x1 x2 x3 _ _ _ _ h
        · rw [if_neg q11] at h
          refine pe_blk mm_97 1 (s' := (if v8 = 0 then 61 else 25, [some (.ref g0), some (.int x1), some (.int x2), some (.int x3), u4], [], _, _, _)) rfl ?_
          rw [if_neg q11]
          refine pe_blk mm_97 6 (s' := (31, [some (.ref g0), some (.int x1), some (.int x2), some (.int x3), u4], [.int (x3 + 1), .ref g0, .int x1, .ref g0], _, _, _)) rfl ?_
          skip
          cases hc14 : F109 n g0 (x3 + 1) M9 with
          | none => rw [hc14] at h; cases h
          | some w =>
            obtain ⟨v12, M13⟩ := w
            rw [hc14] at h
            dsimp only at h
            refine pe_virt (al := [.int (x3 + 1)]) (a := g0) (L0 := [some (.ref g0), some (.int (x3 + 1))]) (r1 := (some (.int v12), 129, 17845, hp M13)) mm_97 rfl rfl rfl mm_109 (isD_0 hg0 _) (by have := isD_lt hg0; omega) (by decide) rfl (Nat.le_of_ble_eq_true rfl) (Nat.le_of_ble_eq_true rfl) rfl rfl (F109_ev sc n g0 (x3 + 1) hg0 _ e1 (by omega) _ _ hc14) ?_
            show pm_ev _ _ _ _ _ (34, [some (.ref g0), some (.int x1), some (.int x2), some (.int x3), u4], [.int v12, .int x1, .ref g0], _, _, _) _
            skip
            cases hc17 : F125 n g0 x1 v12 M13 with
            | none => rw [hc17] at h; cases h
            | some w =>
              obtain ⟨v15, M16⟩ := w
              rw [hc17] at h
              dsimp only at h
              refine pe_virt (al := [.int v12, .int x1]) (a := g0) (L0 := [some (.ref g0), some (.int x1), some (.int v12), none, none]) (r1 := (some (.int v15), 129, 17845, hp M16)) mm_97 rfl rfl rfl mm_125 (isD_0 hg0 _) (by have := isD_lt hg0; omega) (by decide) rfl (Nat.le_of_ble_eq_true rfl) (Nat.le_of_ble_eq_true rfl) rfl rfl (F125_ev sc n g0 x1 v12 hg0 _ e1 (by omega) _ _ hc17) ?_
              show pm_ev _ _ _ _ _ (37, [some (.ref g0), some (.int x1), some (.int x2), some (.int x3), u4], [.int v15], _, _, _) _
              refine pe_blk mm_97 3 (s' := (42, [some (.ref g0), some (.int x1), some (.int x2), some (.int x3), some (.int v15)], [.int (-1), .int v15], _, _, _)) rfl ?_
              by_cases q18 : v15 = (-1)
              · rw [if_pos q18] at h
                refine pe_blk mm_97 1 (s' := (if v15 = (-1) then 59 else 45, [some (.ref g0), some (.int x1), some (.int x2), some (.int x3), some (.int v15)], [], _, _, _)) rfl ?_
                rw [if_pos q18]
                exact J97_59_ev sc n g0 hg0 (e1 + 1) he _ _ _ _ _ _ _ _ h
              · rw [if_neg q18] at h
                refine pe_blk mm_97 1 (s' := (if v15 = (-1) then 59 else 45, [some (.ref g0), some (.int x1), some (.int x2), some (.int x3), some (.int v15)], [], _, _, _)) rfl ?_
                rw [if_neg q18]
                refine pe_blk mm_97 2 (s' := (48, [some (.ref g0), some (.int x1), some (.int x2), some (.int x3), some (.int v15)], [.int v15, .ref g0], _, _, _)) rfl ?_
                skip
                cases hc21 : F122 n g0 v15 M16 with
                | none => rw [hc21] at h; cases h
                | some w =>
                  obtain ⟨v19, M20⟩ := w
                  rw [hc21] at h
                  dsimp only at h
                  refine pe_virt (al := [.int v15]) (a := g0) (L0 := [some (.ref g0), some (.int v15), none]) (r1 := (some (.int v19), 129, 17845, hp M20)) mm_97 rfl rfl rfl mm_122 (isD_0 hg0 _) (by have := isD_lt hg0; omega) (by decide) rfl (Nat.le_of_ble_eq_true rfl) (Nat.le_of_ble_eq_true rfl) rfl rfl (F122_ev sc n g0 v15 hg0 _ e1 (by omega) _ _ hc21) ?_
                  show pm_ev _ _ _ _ _ (51, [some (.ref g0), some (.int x1), some (.int x2), some (.int x3), some (.int v15)], [.int v19], _, _, _) _
                  refine pe_blk mm_97 2 (s' := (53, [some (.ref g0), some (.int x1), some (.int x2), some (.int x3), some (.int v15)], [.int x3, .ref g0, .int v19], _, _, _)) rfl ?_
                  skip
                  cases hc24 : F122 n g0 x3 M20 with
                  | none => rw [hc24] at h; cases h
                  | some w =>
                    obtain ⟨v22, M23⟩ := w
                    rw [hc24] at h
                    dsimp only at h
                    refine pe_virt (al := [.int x3]) (a := g0) (L0 := [some (.ref g0), some (.int x3), none]) (r1 := (some (.int v22), 129, 17845, hp M23)) mm_97 rfl rfl rfl mm_122 (isD_0 hg0 _) (by have := isD_lt hg0; omega) (by decide) rfl (Nat.le_of_ble_eq_true rfl) (Nat.le_of_ble_eq_true rfl) rfl rfl (F122_ev sc n g0 x3 hg0 _ e1 (by omega) _ _ hc24) ?_
                    show pm_ev _ _ _ _ _ (56, [some (.ref g0), some (.int x1), some (.int x2), some (.int x3), some (.int v15)], [.int v22, .int v19], _, _, _) _
                    by_cases q25 : v19 = v22
                    · rw [if_pos q25] at h
                      refine pe_blk mm_97 1 (s' := (if v19 = v22 then 61 else 59, [some (.ref g0), some (.int x1), some (.int x2), some (.int x3), some (.int v15)], [], _, _, _)) rfl ?_
                      rw [if_pos q25]
                      exact J97_61_ev sc n g0 hg0 (e1 + 1) he (L97_12 n g0 k) hr12 x1 x2 x3 _ _ _ _ h
                    · rw [if_neg q25] at h
                      refine pe_blk mm_97 1 (s' := (if v19 = v22 then 61 else 59, [some (.ref g0), some (.int x1), some (.int x2), some (.int x3), some (.int v15)], [], _, _, _)) rfl ?_
                      rw [if_neg q25]
                      exact J97_59_ev sc n g0 hg0 (e1 + 1) he _ _ _ _ _ _ _ _ h
/-- ArmExpander$Checker.hasWrongUse -/
def F97 (n : Nat) (g0 : Nat) (a1 : Int32) (M : Mem) : Option (Int32 × Mem) :=
  match F114 n g0 a1 M with | some (v1, M2) => (match F113 n g0 a1 M2 with | some (v4, M5) => (L97_12 n g0 n a1 v1 v4 M5) | none => none) | none => none
set_option maxRecDepth 100000 in
set_option maxHeartbeats 4000000 in
theorem F97_ev (sc : Option (Nat × (Nat → Int32))) (n : Nat) (g0 : Nat) (a1 : Int32) (hg0 : isD g0) (M : Mem) (e : Nat) (he : 3 ≤ e) (r : Int32) (M' : Mem) (h : F97 n g0 a1 M = some (r, M')) : pm_ev pmT sc e 97 false (0, [some (.ref g0), some (.int a1), none, none, none], [], 129, 17845, hp M) (some (.int r), 129, 17845, hp M') := by
  unfold F97 at h
  refine pe_blk mm_97 2 (s' := (2, [some (.ref g0), some (.int a1), none, none, none], [.int a1, .ref g0], _, _, _)) rfl ?_
  obtain ⟨e1, rfl⟩ : ∃ e1, e = e1 + 1 := ⟨e - 1, by omega⟩
  cases hc3 : F114 n g0 a1 M with
  | none => rw [hc3] at h; cases h
  | some w =>
    obtain ⟨v1, M2⟩ := w
    rw [hc3] at h
    dsimp only at h
    refine pe_virt (al := [.int a1]) (a := g0) (L0 := [some (.ref g0), some (.int a1)]) (r1 := (some (.int v1), 129, 17845, hp M2)) mm_97 rfl rfl rfl mm_114 (isD_0 hg0 _) (by have := isD_lt hg0; omega) (by decide) rfl (Nat.le_of_ble_eq_true rfl) (Nat.le_of_ble_eq_true rfl) rfl rfl (F114_ev sc n g0 a1 hg0 _ e1 (by omega) _ _ hc3) ?_
    show pm_ev _ _ _ _ _ (5, [some (.ref g0), some (.int a1), none, none, none], [.int v1], _, _, _) _
    refine pe_blk mm_97 3 (s' := (8, [some (.ref g0), some (.int a1), some (.int v1), none, none], [.int a1, .ref g0], _, _, _)) rfl ?_
    skip
    cases hc6 : F113 n g0 a1 M2 with
    | none => rw [hc6] at h; cases h
    | some w =>
      obtain ⟨v4, M5⟩ := w
      rw [hc6] at h
      dsimp only at h
      refine pe_virt (al := [.int a1]) (a := g0) (L0 := [some (.ref g0), some (.int a1)]) (r1 := (some (.int v4), 129, 17845, hp M5)) mm_97 rfl rfl rfl mm_113 (isD_0 hg0 _) (by have := isD_lt hg0; omega) (by decide) rfl (Nat.le_of_ble_eq_true rfl) (Nat.le_of_ble_eq_true rfl) rfl rfl (F113_ev sc n g0 a1 hg0 _ e1 (by omega) _ _ hc6) ?_
      show pm_ev _ _ _ _ _ (11, [some (.ref g0), some (.int a1), some (.int v1), none, none], [.int v4], _, _, _) _
      refine pe_blk mm_97 1 (s' := (12, [some (.ref g0), some (.int a1), some (.int v1), some (.int v4), none], [], _, _, _)) rfl ?_
      exact L97_12_ev sc n g0 hg0 (e1 + 1) he n a1 v1 v4 _ _ _ _ h
def L99_12 (n : Nat) (g0 : Nat) : Nat → Int32 → Int32 → Mem → Option (Int32 × Mem)
  | 0, _, _, _ => none
  | k + 1, x2, x3, M => if x2 ≤ x3 then (some (0, M)) else (match F115 n g0 x3 M with | some (v5, M6) => (if v5 = 0 then ((L99_12 n g0 k) x2 (x3 + 1) M6) else (some (1, M6))) | none => none)
set_option maxRecDepth 100000 in
set_option maxHeartbeats 4000000 in
theorem L99_12_ev (sc : Option (Nat × (Nat → Int32))) (n : Nat) (g0 : Nat) (hg0 : isD g0) (e : Nat) (he : 2 ≤ e) : ∀ k : Nat, ∀ (x2 : Int32) (x3 : Int32) (u1 : Option Value) (M : Mem) (r : Int32) (M' : Mem), L99_12 n g0 k x2 x3 M = some (r, M') → pm_ev pmT sc e 99 false (12, [some (.ref g0), u1, some (.int x2), some (.int x3)], [], 129, 17845, hp M) (some (.int r), 129, 17845, hp M') := by
  intro k
  induction k with
  | zero => intro x2 x3 u1 M r M' h; cases h
  | succ k hr12 =>
    intro x2 x3 u1 M r M' h
    rw [L99_12] at h
    refine pe_blk mm_99 2 (s' := (14, [some (.ref g0), u1, some (.int x2), some (.int x3)], [.int x2, .int x3], _, _, _)) rfl ?_
    by_cases q4 : x2 ≤ x3
    · rw [if_pos q4] at h
      refine pe_blk mm_99 1 (s' := (if x2 ≤ x3 then 33 else 17, [some (.ref g0), u1, some (.int x2), some (.int x3)], [], _, _, _)) rfl ?_
      rw [if_pos q4]
      refine pe_blk mm_99 1 (s' := (34, [some (.ref g0), u1, some (.int x2), some (.int x3)], [.int 0], _, _, _)) rfl ?_
      cases h
      exact pe_ret mm_99 rfl rfl
    · rw [if_neg q4] at h
      refine pe_blk mm_99 1 (s' := (if x2 ≤ x3 then 33 else 17, [some (.ref g0), u1, some (.int x2), some (.int x3)], [], _, _, _)) rfl ?_
      rw [if_neg q4]
      refine pe_blk mm_99 2 (s' := (19, [some (.ref g0), u1, some (.int x2), some (.int x3)], [.int x3, .ref g0], _, _, _)) rfl ?_
      obtain ⟨e1, rfl⟩ : ∃ e1, e = e1 + 1 := ⟨e - 1, by omega⟩
      cases hc7 : F115 n g0 x3 M with
      | none => rw [hc7] at h; cases h
      | some w =>
        obtain ⟨v5, M6⟩ := w
        rw [hc7] at h
        dsimp only at h
        refine pe_virt (al := [.int x3]) (a := g0) (L0 := [some (.ref g0), some (.int x3)]) (r1 := (some (.int v5), 129, 17845, hp M6)) mm_99 rfl rfl rfl mm_115 (isD_0 hg0 _) (by have := isD_lt hg0; omega) (by decide) rfl (Nat.le_of_ble_eq_true rfl) (Nat.le_of_ble_eq_true rfl) rfl rfl (F115_ev sc n g0 x3 hg0 _ e1 (by omega) _ _ hc7) ?_
        show pm_ev _ _ _ _ _ (22, [some (.ref g0), u1, some (.int x2), some (.int x3)], [.int v5], _, _, _) _
        by_cases q8 : v5 = 0
        · rw [if_pos q8] at h
          refine pe_blk mm_99 1 (s' := (if v5 = 0 then 27 else 25, [some (.ref g0), u1, some (.int x2), some (.int x3)], [], _, _, _)) rfl ?_
          rw [if_pos q8]
          refine pe_blk mm_99 2 (s' := (12, [some (.ref g0), u1, some (.int x2), some (.int (x3 + 1))], [], _, _, _)) rfl ?_
          exact hr12 x2 (x3 + 1) _ _ _ _ h
        · rw [if_neg q8] at h
          refine pe_blk mm_99 1 (s' := (if v5 = 0 then 27 else 25, [some (.ref g0), u1, some (.int x2), some (.int x3)], [], _, _, _)) rfl ?_
          rw [if_neg q8]
          refine pe_blk mm_99 1 (s' := (26, [some (.ref g0), u1, some (.int x2), some (.int x3)], [.int 1], _, _, _)) rfl ?_
          cases h
          exact pe_ret mm_99 rfl rfl
/-- ArmExpander$Checker.hasUse -/
def F99 (n : Nat) (g0 : Nat) (a1 : Int32) (M : Mem) : Option (Int32 × Mem) :=
  match F110 n g0 (a1 + 1) M with | some (v1, M2) => (L99_12 n g0 n v1 (a1 + 2) M2) | none => none
set_option maxRecDepth 100000 in
set_option maxHeartbeats 4000000 in
theorem F99_ev (sc : Option (Nat × (Nat → Int32))) (n : Nat) (g0 : Nat) (a1 : Int32) (hg0 : isD g0) (M : Mem) (e : Nat) (he : 2 ≤ e) (r : Int32) (M' : Mem) (h : F99 n g0 a1 M = some (r, M')) : pm_ev pmT sc e 99 false (0, [some (.ref g0), some (.int a1), none, none], [], 129, 17845, hp M) (some (.int r), 129, 17845, hp M') := by
  unfold F99 at h
  refine pe_blk mm_99 4 (s' := (4, [some (.ref g0), some (.int a1), none, none], [.int (a1 + 1), .ref g0], _, _, _)) rfl ?_
  obtain ⟨e1, rfl⟩ : ∃ e1, e = e1 + 1 := ⟨e - 1, by omega⟩
  cases hc3 : F110 n g0 (a1 + 1) M with
  | none => rw [hc3] at h; cases h
  | some w =>
    obtain ⟨v1, M2⟩ := w
    rw [hc3] at h
    dsimp only at h
    refine pe_virt (al := [.int (a1 + 1)]) (a := g0) (L0 := [some (.ref g0), some (.int (a1 + 1))]) (r1 := (some (.int v1), 129, 17845, hp M2)) mm_99 rfl rfl rfl mm_110 (isD_0 hg0 _) (by have := isD_lt hg0; omega) (by decide) rfl (Nat.le_of_ble_eq_true rfl) (Nat.le_of_ble_eq_true rfl) rfl rfl (F110_ev sc n g0 (a1 + 1) hg0 _ e1 (by omega) _ _ hc3) ?_
    show pm_ev _ _ _ _ _ (7, [some (.ref g0), some (.int a1), none, none], [.int v1], _, _, _) _
    refine pe_blk mm_99 5 (s' := (12, [some (.ref g0), some (.int a1), some (.int v1), some (.int (a1 + 2))], [], _, _, _)) rfl ?_
    exact L99_12_ev sc n g0 hg0 (e1 + 1) he n v1 (a1 + 2) _ _ _ _ h
def J141_41 (n : Nat) (s0 : Int32) (M : Mem) : Option (Int32 × Mem) :=
  if s0 = 0 ∨ s0 = 1 then some (s0, M) else none
set_option maxRecDepth 100000 in
set_option maxHeartbeats 4000000 in
theorem J141_41_ev (sc : Option (Nat × (Nat → Int32))) (n : Nat)  (e : Nat) (he : 3 ≤ e) : ∀ (s0 : Int32) (u0 : Option Value) (u1 : Option Value) (u2 : Option Value) (M : Mem) (r : Int32) (M' : Mem), J141_41 n s0 M = some (r, M') → pm_ev pmT sc e 141 false (41, [u0, u1, u2], [.int s0], 129, 17845, hp M) (some (.int r), 129, 17845, hp M') := by
  intro s0 u0 u1 u2 M r M' h
  unfold J141_41 at h
  by_cases q9 : s0 = 0 ∨ s0 = 1
  · rw [if_pos q9] at h
    cases h
    exact pe_ret mm_141 rfl (if_pos q9)
  · rw [if_neg q9] at h
    cases h
def J141_36 (n : Nat) (M : Mem) : Option (Int32 × Mem) :=
  J141_41 n 1 M
set_option maxRecDepth 100000 in
set_option maxHeartbeats 4000000 in
theorem J141_36_ev (sc : Option (Nat × (Nat → Int32))) (n : Nat)  (e : Nat) (he : 3 ≤ e) : ∀ (u0 : Option Value) (u1 : Option Value) (u2 : Option Value) (M : Mem) (r : Int32) (M' : Mem), J141_36 n  M = some (r, M') → pm_ev pmT sc e 141 false (36, [u0, u1, u2], [], 129, 17845, hp M) (some (.int r), 129, 17845, hp M') := by
  intro u0 u1 u2 M r M' h
  unfold J141_36 at h
  refine pe_blk mm_141 2 (s' := (41, [u0, u1, u2], [.int 1], _, _, _)) rfl ?_
  exact J141_41_ev sc n e he 1 _ _ _ _ _ _ h
/-- ArmExpander$Expander.isBalanced -/
def F141 (n : Nat) (a0 : Int32) (a1 : Int32) (M : Mem) : Option (Int32 × Mem) :=
  match F13 n a0 M with | some (v1, M2) => (if v1 = 0 then (match F14 n a0 M2 with | some (v5, M6) => (if v5 = 0 then (J141_36 n M6) else (match F163 n 13 a0 M6 with | some (v10, M11) => (if v10 = (-1) then (J141_41 n 0 M11) else (J141_36 n M11)) | none => none)) | none => none) else (match F162 n 13 a1 a0 M2 with | some (v14, M15) => (if v14 = 0 ∨ v14 = 1 then some (v14, M15) else none) | none => none)) | none => none
set_option maxRecDepth 100000 in
set_option maxHeartbeats 4000000 in
theorem F141_ev (sc : Option (Nat × (Nat → Int32))) (n : Nat) (a0 : Int32) (a1 : Int32)  (M : Mem) (e : Nat) (he : 3 ≤ e) (r : Int32) (M' : Mem) (h : F141 n a0 a1 M = some (r, M')) : pm_ev pmT sc e 141 false (0, [some (.ref 12), some (.int a0), some (.int a1)], [], 129, 17845, hp M) (some (.int r), 129, 17845, hp M') := by
  unfold F141 at h
  refine pe_blk mm_141 1 (s' := (1, [some (.ref 12), some (.int a0), some (.int a1)], [.int a0], _, _, _)) rfl ?_
  obtain ⟨e1, rfl⟩ : ∃ e1, e = e1 + 1 := ⟨e - 1, by omega⟩
  cases hc3 : F13 n a0 M with
  | none => rw [hc3] at h; cases h
  | some w =>
    obtain ⟨v1, M2⟩ := w
    rw [hc3] at h
    dsimp only at h
    refine pe_stat (al := [.int a0]) (L0 := [some (.int a0)]) (r1 := (some (.int v1), 129, 17845, hp M2)) mm_141 rfl rfl rfl mm_13 rfl (Nat.le_of_ble_eq_true rfl) (Nat.le_of_ble_eq_true rfl) rfl rfl (F13_ev sc n a0 _ e1 (by omega) _ _ hc3) ?_
    show pm_ev _ _ _ _ _ (4, [some (.ref 12), some (.int a0), some (.int a1)], [.int v1], _, _, _) _
    by_cases q4 : v1 = 0
    · rw [if_pos q4] at h
      refine pe_blk mm_141 1 (s' := (if v1 = 0 then 17 else 7, [some (.ref 12), some (.int a0), some (.int a1)], [], _, _, _)) rfl ?_
      rw [if_pos q4]
      refine pe_blk mm_141 1 (s' := (18, [some (.ref 12), some (.int a0), some (.int a1)], [.int a0], _, _, _)) rfl ?_
      skip
      cases hc7 : F14 n a0 M2 with
      | none => rw [hc7] at h; cases h
      | some w =>
        obtain ⟨v5, M6⟩ := w
        rw [hc7] at h
        dsimp only at h
        refine pe_stat (al := [.int a0]) (L0 := [some (.int a0)]) (r1 := (some (.int v5), 129, 17845, hp M6)) mm_141 rfl rfl rfl mm_14 rfl (Nat.le_of_ble_eq_true rfl) (Nat.le_of_ble_eq_true rfl) rfl rfl (F14_ev sc n a0 _ e1 (by omega) _ _ hc7) ?_
        show pm_ev _ _ _ _ _ (21, [some (.ref 12), some (.int a0), some (.int a1)], [.int v5], _, _, _) _
        by_cases q8 : v5 = 0
        · rw [if_pos q8] at h
          refine pe_blk mm_141 1 (s' := (if v5 = 0 then 36 else 24, [some (.ref 12), some (.int a0), some (.int a1)], [], _, _, _)) rfl ?_
          rw [if_pos q8]
          exact J141_36_ev sc n (e1 + 1) he _ _ _ _ _ _ h
        · rw [if_neg q8] at h
          refine pe_blk mm_141 1 (s' := (if v5 = 0 then 36 else 24, [some (.ref 12), some (.int a0), some (.int a1)], [], _, _, _)) rfl ?_
          rw [if_neg q8]
          refine pe_blk mm_141 1 (s' := (25, [some (.ref 12), some (.int a0), some (.int a1)], [.ref 12], _, _, _)) rfl ?_
          refine pe_get mm_141 rfl rfl rfl (by decide) rfl ?_
          refine pe_blk mm_141 1 (s' := (29, [some (.ref 12), some (.int a0), some (.int a1)], [.int a0, .ref 13], _, _, _)) rfl ?_
          skip
          cases hc12 : F163 n 13 a0 M6 with
          | none => rw [hc12] at h; cases h
          | some w =>
            obtain ⟨v10, M11⟩ := w
            rw [hc12] at h
            dsimp only at h
            refine pe_virt (al := [.int a0]) (a := 13) (L0 := [some (.ref 13), some (.int a0)]) (r1 := (some (.int v10), 129, 17845, hp M11)) mm_141 rfl rfl rfl mm_163 rfl (by decide) (by decide) rfl (Nat.le_of_ble_eq_true rfl) (Nat.le_of_ble_eq_true rfl) rfl rfl (F163_ev sc n 13 a0 (by decide) _ e1 (by omega) _ _ hc12) ?_
            show pm_ev _ _ _ _ _ (32, [some (.ref 12), some (.int a0), some (.int a1)], [.int v10], _, _, _) _
            refine pe_blk mm_141 1 (s' := (33, [some (.ref 12), some (.int a0), some (.int a1)], [.int (-1), .int v10], _, _, _)) rfl ?_
            by_cases q13 : v10 = (-1)
            · rw [if_pos q13] at h
              refine pe_blk mm_141 1 (s' := (if v10 = (-1) then 40 else 36, [some (.ref 12), some (.int a0), some (.int a1)], [], _, _, _)) rfl ?_
              rw [if_pos q13]
              refine pe_blk mm_141 1 (s' := (41, [some (.ref 12), some (.int a0), some (.int a1)], [.int 0], _, _, _)) rfl ?_
              exact J141_41_ev sc n (e1 + 1) he 0 _ _ _ _ _ _ h
            · rw [if_neg q13] at h
              refine pe_blk mm_141 1 (s' := (if v10 = (-1) then 40 else 36, [some (.ref 12), some (.int a0), some (.int a1)], [], _, _, _)) rfl ?_
              rw [if_neg q13]
              exact J141_36_ev sc n (e1 + 1) he _ _ _ _ _ _ h
    · rw [if_neg q4] at h
      refine pe_blk mm_141 1 (s' := (if v1 = 0 then 17 else 7, [some (.ref 12), some (.int a0), some (.int a1)], [], _, _, _)) rfl ?_
      rw [if_neg q4]
      refine pe_blk mm_141 1 (s' := (8, [some (.ref 12), some (.int a0), some (.int a1)], [.ref 12], _, _, _)) rfl ?_
      refine pe_get mm_141 rfl rfl rfl (by decide) rfl ?_
      refine pe_blk mm_141 2 (s' := (13, [some (.ref 12), some (.int a0), some (.int a1)], [.int a0, .int a1, .ref 13], _, _, _)) rfl ?_
      skip
      cases hc16 : F162 n 13 a1 a0 M2 with
      | none => rw [hc16] at h; cases h
      | some w =>
        obtain ⟨v14, M15⟩ := w
        rw [hc16] at h
        dsimp only at h
        refine pe_virt (al := [.int a0, .int a1]) (a := 13) (L0 := [some (.ref 13), some (.int a1), some (.int a0)]) (r1 := (some (.int v14), 129, 17845, hp M15)) mm_141 rfl rfl rfl mm_162 rfl (by decide) (by decide) rfl (Nat.le_of_ble_eq_true rfl) (Nat.le_of_ble_eq_true rfl) rfl rfl (F162_ev sc n 13 a1 a0 (by decide) _ e1 (by omega) _ _ hc16) ?_
        show pm_ev _ _ _ _ _ (16, [some (.ref 12), some (.int a0), some (.int a1)], [.int v14], _, _, _) _
        by_cases q17 : v14 = 0 ∨ v14 = 1
        · rw [if_pos q17] at h
          cases h
          exact pe_ret mm_141 rfl (if_pos q17)
        · rw [if_neg q17] at h
          cases h
def L169_3 (n : Nat) (b : Nat) (g0 : Nat) : Nat → Int32 → Int32 → Mem → Option (Unit × Mem)
  | 0, _, _, _ => none
  | k + 1, x3, x4, M => if x3 ≤ x4 then (some ((), M)) else (match F170 n g0 x4 M with | some (v2, M3) => (match F171 n g0 x4 M3 with | some (v5, M6) => (match F168 n b v2 v5 M6 with | some (v8, M9) => ((L169_3 n b g0 k) x3 (x4 + 1) M9) | none => none) | none => none) | none => none)
set_option maxRecDepth 100000 in
set_option maxHeartbeats 4000000 in
theorem L169_3_ev (sc : Option (Nat × (Nat → Int32))) (n : Nat) (b : Nat) (g0 : Nat) (hb : isR b) (hg0 : isR g0) (e : Nat) (he : 2 ≤ e) : ∀ k : Nat, ∀ (x3 : Int32) (x4 : Int32) (u2 : Option Value) (M : Mem) (r : Unit) (M' : Mem), L169_3 n b g0 k x3 x4 M = some (r, M') → pm_ev pmT sc e 169 false (3, [some (.ref b), some (.ref g0), u2, some (.int x3), some (.int x4)], [], 129, 17845, hp M) (none, 129, 17845, hp M') := by
  intro k
  induction k with
  | zero => intro x3 x4 u2 M r M' h; cases h
  | succ k hr3 =>
    intro x3 x4 u2 M r M' h
    rw [L169_3] at h
    refine pe_blk mm_169 2 (s' := (6, [some (.ref b), some (.ref g0), u2, some (.int x3), some (.int x4)], [.int x3, .int x4], _, _, _)) rfl ?_
    by_cases q1 : x3 ≤ x4
    · rw [if_pos q1] at h
      refine pe_blk mm_169 1 (s' := (if x3 ≤ x4 then 31 else 9, [some (.ref b), some (.ref g0), u2, some (.int x3), some (.int x4)], [], _, _, _)) rfl ?_
      rw [if_pos q1]
      cases h
      exact pe_ret mm_169 rfl rfl
    · rw [if_neg q1] at h
      refine pe_blk mm_169 1 (s' := (if x3 ≤ x4 then 31 else 9, [some (.ref b), some (.ref g0), u2, some (.int x3), some (.int x4)], [], _, _, _)) rfl ?_
      rw [if_neg q1]
      refine pe_blk mm_169 3 (s' := (13, [some (.ref b), some (.ref g0), u2, some (.int x3), some (.int x4)], [.int x4, .ref g0, .ref b], _, _, _)) rfl ?_
      obtain ⟨e1, rfl⟩ : ∃ e1, e = e1 + 1 := ⟨e - 1, by omega⟩
      cases hc4 : F170 n g0 x4 M with
      | none => rw [hc4] at h; cases h
      | some w =>
        obtain ⟨v2, M3⟩ := w
        rw [hc4] at h
        dsimp only at h
        refine pe_virt (al := [.int x4]) (a := g0) (L0 := [some (.ref g0), some (.int x4)]) (r1 := (some (.int v2), 129, 17845, hp M3)) mm_169 rfl rfl rfl mm_170 (isR_0 hg0 _) (by have := isR_lt hg0; omega) (by decide) rfl (Nat.le_of_ble_eq_true rfl) (Nat.le_of_ble_eq_true rfl) rfl rfl (F170_ev sc n g0 x4 hg0 _ e1 (by omega) _ _ hc4) ?_
        show pm_ev _ _ _ _ _ (16, [some (.ref b), some (.ref g0), u2, some (.int x3), some (.int x4)], [.int v2, .ref b], _, _, _) _
        refine pe_blk mm_169 2 (s' := (19, [some (.ref b), some (.ref g0), u2, some (.int x3), some (.int x4)], [.int x4, .ref g0, .int v2, .ref b], _, _, _)) rfl ?_
        skip
        cases hc7 : F171 n g0 x4 M3 with
        | none => rw [hc7] at h; cases h
        | some w =>
          obtain ⟨v5, M6⟩ := w
          rw [hc7] at h
          dsimp only at h
          refine pe_virt (al := [.int x4]) (a := g0) (L0 := [some (.ref g0), some (.int x4)]) (r1 := (some (.int v5), 129, 17845, hp M6)) mm_169 rfl rfl rfl mm_171 (isR_0 hg0 _) (by have := isR_lt hg0; omega) (by decide) rfl (Nat.le_of_ble_eq_true rfl) (Nat.le_of_ble_eq_true rfl) rfl rfl (F171_ev sc n g0 x4 hg0 _ e1 (by omega) _ _ hc7) ?_
          show pm_ev _ _ _ _ _ (22, [some (.ref b), some (.ref g0), u2, some (.int x3), some (.int x4)], [.int v5, .int v2, .ref b], _, _, _) _
          skip
          cases hc10 : F168 n b v2 v5 M6 with
          | none => rw [hc10] at h; cases h
          | some w =>
            obtain ⟨v8, M9⟩ := w
            rw [hc10] at h
            dsimp only at h
            refine pe_virt (al := [.int v5, .int v2]) (a := b) (L0 := [some (.ref b), some (.int v2), some (.int v5)]) (r1 := (none, 129, 17845, hp M9)) mm_169 rfl rfl rfl mm_168 (isR_0 hb _) (by have := isR_lt hb; omega) (by decide) rfl (Nat.le_of_ble_eq_true rfl) (Nat.le_of_ble_eq_true rfl) rfl rfl (F168_ev sc n b v2 v5 hb _ e1 (by omega) _ _ hc10) ?_
            show pm_ev _ _ _ _ _ (25, [some (.ref b), some (.ref g0), u2, some (.int x3), some (.int x4)], [], _, _, _) _
            refine pe_blk mm_169 2 (s' := (3, [some (.ref b), some (.ref g0), u2, some (.int x3), some (.int (x4 + 1))], [], _, _, _)) rfl ?_
            exact hr3 x3 (x4 + 1) _ _ _ _ h
/-- ArmExpander$Row.addAll -/
def F169 (n : Nat) (b : Nat) (g0 : Nat) (a1 : Int32) (a2 : Int32) (M : Mem) : Option (Unit × Mem) :=
  L169_3 n b g0 n a2 a1 M
set_option maxRecDepth 100000 in
set_option maxHeartbeats 4000000 in
theorem F169_ev (sc : Option (Nat × (Nat → Int32))) (n : Nat) (b : Nat) (g0 : Nat) (a1 : Int32) (a2 : Int32) (hb : isR b) (hg0 : isR g0) (M : Mem) (e : Nat) (he : 2 ≤ e) (r : Unit) (M' : Mem) (h : F169 n b g0 a1 a2 M = some (r, M')) : pm_ev pmT sc e 169 false (0, [some (.ref b), some (.ref g0), some (.int a1), some (.int a2), none], [], 129, 17845, hp M) (none, 129, 17845, hp M') := by
  unfold F169 at h
  refine pe_blk mm_169 2 (s' := (3, [some (.ref b), some (.ref g0), some (.int a1), some (.int a2), some (.int a1)], [], _, _, _)) rfl ?_
  exact L169_3_ev sc n b g0 hb hg0 e he n a2 a1 _ _ _ _ h
def J174_97 (n : Nat) (b : Nat) (rec29 : Int32 → Int32 → Int32 → Mem → Option (Int32 × Mem)) (x1 : Int32) (x2 : Int32) (x3 : Int32) (M : Mem) : Option (Int32 × Mem) :=
  rec29 x1 x2 (x3 + (-1)) M
set_option maxRecDepth 100000 in
set_option maxHeartbeats 4000000 in
theorem J174_97_ev (sc : Option (Nat × (Nat → Int32))) (n : Nat) (b : Nat) (hb : isR b) (e : Nat) (he : 3 ≤ e) (rec29 : Int32 → Int32 → Int32 → Mem → Option (Int32 × Mem)) (hr29 : ∀ (x1 : Int32) (x2 : Int32) (x3 : Int32) (M : Mem) (r : Int32) (M' : Mem), rec29 x1 x2 x3 M = some (r, M') → pm_ev pmT sc e 174 false (29, [some (.ref b), some (.int x1), some (.int x2), some (.int x3)], [], 129, 17845, hp M) (some (.int r), 129, 17845, hp M')) : ∀ (x1 : Int32) (x2 : Int32) (x3 : Int32) (M : Mem) (r : Int32) (M' : Mem), J174_97 n b rec29 x1 x2 x3 M = some (r, M') → pm_ev pmT sc e 174 false (97, [some (.ref b), some (.int x1), some (.int x2), some (.int x3)], [], 129, 17845, hp M) (some (.int r), 129, 17845, hp M') := by
  intro x1 x2 x3  M r M' h
  unfold J174_97 at h
  refine pe_blk mm_174 2 (s' := (29, [some (.ref b), some (.int x1), some (.int x2), some (.int (x3 + (-1)))], [], _, _, _)) rfl ?_
  exact hr29 x1 x2 (x3 + (-1)) _ _ _ h
def L174_29 (n : Nat) (b : Nat) : Nat → Int32 → Int32 → Int32 → Mem → Option (Int32 × Mem)
  | 0, _, _, _, _ => none
  | k + 1, x1, x2, x3, M => if x3 < 0 then (some ((-1), M)) else (if x3 < 0 ∨ 150 ≤ (x3 : Int32).toNatClampNeg then none else (match F14 n (M.1 (b + 1) (x3 : Int32).toNatClampNeg) M with | some (v14, M15) => (if v14 = 0 then (if x3 < 0 ∨ 150 ≤ (x3 : Int32).toNatClampNeg then none else (match F13 n (M15.1 (b + 1) (x3 : Int32).toNatClampNeg) M15 with | some (v19, M20) => (if v19 = 0 then (if x2 = 0 then (match F176 n b x3 x1 M20 with | some (v24, M25) => (if v24 = 0 then (J174_97 n b (L174_29 n b k) x1 x2 x3 M25) else (match F175 n b x3 M25 with | some (v28, M29) => (if v28 = 0 then (J174_97 n b (L174_29 n b k) x1 x2 x3 M29) else (some (x3, M29))) | none => none)) | none => none) else (J174_97 n b (L174_29 n b k) x1 x2 x3 M20)) else (J174_97 n b (L174_29 n b k) x1 (if 0 < (x2 - 1) then (x2 - 1) else 0) x3 M20)) | none => none)) else (J174_97 n b (L174_29 n b k) x1 (x2 + 1) x3 M15)) | none => none))
set_option maxRecDepth 100000 in
set_option maxHeartbeats 4000000 in
theorem L174_29_ev (sc : Option (Nat × (Nat → Int32))) (n : Nat) (b : Nat) (hb : isR b) (e : Nat) (he : 3 ≤ e) : ∀ k : Nat, ∀ (x1 : Int32) (x2 : Int32) (x3 : Int32) (M : Mem) (r : Int32) (M' : Mem), L174_29 n b k x1 x2 x3 M = some (r, M') → pm_ev pmT sc e 174 false (29, [some (.ref b), some (.int x1), some (.int x2), some (.int x3)], [], 129, 17845, hp M) (some (.int r), 129, 17845, hp M') := by
  intro k
  induction k with
  | zero => intro x1 x2 x3  M r M' h; cases h
  | succ k hr29 =>
    intro x1 x2 x3  M r M' h
    rw [L174_29] at h
    refine pe_blk mm_174 1 (s' := (30, [some (.ref b), some (.int x1), some (.int x2), some (.int x3)], [.int x3], _, _, _)) rfl ?_
    by_cases q12 : x3 < 0
    · rw [if_pos q12] at h
      refine pe_blk mm_174 1 (s' := (if x3 < 0 then 103 else 33, [some (.ref b), some (.int x1), some (.int x2), some (.int x3)], [], _, _, _)) rfl ?_
      rw [if_pos q12]
      refine pe_blk mm_174 1 (s' := (104, [some (.ref b), some (.int x1), some (.int x2), some (.int x3)], [.int (-1)], _, _, _)) rfl ?_
      cases h
      exact pe_ret mm_174 rfl rfl
    · rw [if_neg q12] at h
      refine pe_blk mm_174 1 (s' := (if x3 < 0 then 103 else 33, [some (.ref b), some (.int x1), some (.int x2), some (.int x3)], [], _, _, _)) rfl ?_
      rw [if_neg q12]
      refine pe_blk mm_174 1 (s' := (34, [some (.ref b), some (.int x1), some (.int x2), some (.int x3)], [.ref b], _, _, _)) rfl ?_
      refine pe_get mm_174 rfl rfl (isR_0 hb _) (by have := isR_lt hb; omega) rfl ?_
      refine pe_blk mm_174 1 (s' := (38, [some (.ref b), some (.int x1), some (.int x2), some (.int x3)], [.int x3, .ref (b + 1)], _, _, _)) rfl ?_
      by_cases q13 : x3 < 0 ∨ 150 ≤ (x3 : Int32).toNatClampNeg
      · rw [if_pos q13] at h
        cases h
      · rw [if_neg q13] at h
        refine pe_iald (f := M.1 (b + 1)) mm_174 rfl (isR_1 hb _) (by have := isR_lt hb; omega) q13 ?_
        obtain ⟨e1, rfl⟩ : ∃ e1, e = e1 + 1 := ⟨e - 1, by omega⟩
        cases hc16 : F14 n (M.1 (b + 1) (x3 : Int32).toNatClampNeg) M with
        | none => rw [hc16] at h; cases h
        | some w =>
          obtain ⟨v14, M15⟩ := w
          rw [hc16] at h
          dsimp only at h
          refine pe_stat (al := [.int (M.1 (b + 1) (x3 : Int32).toNatClampNeg)]) (L0 := [some (.int (M.1 (b + 1) (x3 : Int32).toNatClampNeg))]) (r1 := (some (.int v14), 129, 17845, hp M15)) mm_174 rfl rfl rfl mm_14 rfl (Nat.le_of_ble_eq_true rfl) (Nat.le_of_ble_eq_true rfl) rfl rfl (F14_ev sc n (M.1 (b + 1) (x3 : Int32).toNatClampNeg) _ e1 (by omega) _ _ hc16) ?_
          show pm_ev _ _ _ _ _ (42, [some (.ref b), some (.int x1), some (.int x2), some (.int x3)], [.int v14], _, _, _) _
          by_cases q17 : v14 = 0
          · rw [if_pos q17] at h
            refine pe_blk mm_174 1 (s' := (if v14 = 0 then 51 else 45, [some (.ref b), some (.int x1), some (.int x2), some (.int x3)], [], _, _, _)) rfl ?_
            rw [if_pos q17]
            refine pe_blk mm_174 1 (s' := (52, [some (.ref b), some (.int x1), some (.int x2), some (.int x3)], [.ref b], _, _, _)) rfl ?_
            refine pe_get mm_174 rfl rfl (isR_0 hb _) (by have := isR_lt hb; omega) rfl ?_
            refine pe_blk mm_174 1 (s' := (56, [some (.ref b), some (.int x1), some (.int x2), some (.int x3)], [.int x3, .ref (b + 1)], _, _, _)) rfl ?_
            by_cases q18 : x3 < 0 ∨ 150 ≤ (x3 : Int32).toNatClampNeg
            · rw [if_pos q18] at h
              cases h
            · rw [if_neg q18] at h
              refine pe_iald (f := M15.1 (b + 1)) mm_174 rfl (isR_1 hb _) (by have := isR_lt hb; omega) q18 ?_
              skip
              cases hc21 : F13 n (M15.1 (b + 1) (x3 : Int32).toNatClampNeg) M15 with
              | none => rw [hc21] at h; cases h
              | some w =>
                obtain ⟨v19, M20⟩ := w
                rw [hc21] at h
                dsimp only at h
                refine pe_stat (al := [.int (M15.1 (b + 1) (x3 : Int32).toNatClampNeg)]) (L0 := [some (.int (M15.1 (b + 1) (x3 : Int32).toNatClampNeg))]) (r1 := (some (.int v19), 129, 17845, hp M20)) mm_174 rfl rfl rfl mm_13 rfl (Nat.le_of_ble_eq_true rfl) (Nat.le_of_ble_eq_true rfl) rfl rfl (F13_ev sc n (M15.1 (b + 1) (x3 : Int32).toNatClampNeg) _ e1 (by omega) _ _ hc21) ?_
                show pm_ev _ _ _ _ _ (60, [some (.ref b), some (.int x1), some (.int x2), some (.int x3)], [.int v19], _, _, _) _
                by_cases q22 : v19 = 0
                · rw [if_pos q22] at h
                  refine pe_blk mm_174 1 (s' := (if v19 = 0 then 74 else 63, [some (.ref b), some (.int x1), some (.int x2), some (.int x3)], [], _, _, _)) rfl ?_
                  rw [if_pos q22]
                  refine pe_blk mm_174 1 (s' := (75, [some (.ref b), some (.int x1), some (.int x2), some (.int x3)], [.int x2], _, _, _)) rfl ?_
                  by_cases q23 : x2 = 0
                  · rw [if_pos q23] at h
                    refine pe_blk mm_174 1 (s' := (if x2 = 0 then 78 else 97, [some (.ref b), some (.int x1), some (.int x2), some (.int x3)], [], _, _, _)) rfl ?_
                    rw [if_pos q23]
                    refine pe_blk mm_174 3 (s' := (81, [some (.ref b), some (.int x1), some (.int x2), some (.int x3)], [.int x1, .int x3, .ref b], _, _, _)) rfl ?_
                    skip
                    cases hc26 : F176 n b x3 x1 M20 with
                    | none => rw [hc26] at h; cases h
                    | some w =>
                      obtain ⟨v24, M25⟩ := w
                      rw [hc26] at h
                      dsimp only at h
                      refine pe_virt (al := [.int x1, .int x3]) (a := b) (L0 := [some (.ref b), some (.int x3), some (.int x1)]) (r1 := (some (.int v24), 129, 17845, hp M25)) mm_174 rfl rfl rfl mm_176 (isR_0 hb _) (by have := isR_lt hb; omega) (by decide) rfl (Nat.le_of_ble_eq_true rfl) (Nat.le_of_ble_eq_true rfl) rfl rfl (F176_ev sc n b x3 x1 hb _ e1 (by omega) _ _ hc26) ?_
                      show pm_ev _ _ _ _ _ (84, [some (.ref b), some (.int x1), some (.int x2), some (.int x3)], [.int v24], _, _, _) _
                      by_cases q27 : v24 = 0
                      · rw [if_pos q27] at h
                        refine pe_blk mm_174 1 (s' := (if v24 = 0 then 97 else 87, [some (.ref b), some (.int x1), some (.int x2), some (.int x3)], [], _, _, _)) rfl ?_
                        rw [if_pos q27]
                        exact J174_97_ev sc n b hb (e1 + 1) he (L174_29 n b k) hr29 x1 x2 x3 _ _ _ h
                      · rw [if_neg q27] at h
                        refine pe_blk mm_174 1 (s' := (if v24 = 0 then 97 else 87, [some (.ref b), some (.int x1), some (.int x2), some (.int x3)], [], _, _, _)) rfl ?_
                        rw [if_neg q27]
                        refine pe_blk mm_174 2 (s' := (89, [some (.ref b), some (.int x1), some (.int x2), some (.int x3)], [.int x3, .ref b], _, _, _)) rfl ?_
                        skip
                        cases hc30 : F175 n b x3 M25 with
                        | none => rw [hc30] at h; cases h
                        | some w =>
                          obtain ⟨v28, M29⟩ := w
                          rw [hc30] at h
                          dsimp only at h
                          refine pe_virt (al := [.int x3]) (a := b) (L0 := [some (.ref b), some (.int x3)]) (r1 := (some (.int v28), 129, 17845, hp M29)) mm_174 rfl rfl rfl mm_175 (isR_0 hb _) (by have := isR_lt hb; omega) (by decide) rfl (Nat.le_of_ble_eq_true rfl) (Nat.le_of_ble_eq_true rfl) rfl rfl (F175_ev sc n b x3 hb _ e1 (by omega) _ _ hc30) ?_
                          show pm_ev _ _ _ _ _ (92, [some (.ref b), some (.int x1), some (.int x2), some (.int x3)], [.int v28], _, _, _) _
                          by_cases q31 : v28 = 0
                          · rw [if_pos q31] at h
                            refine pe_blk mm_174 1 (s' := (if v28 = 0 then 97 else 95, [some (.ref b), some (.int x1), some (.int x2), some (.int x3)], [], _, _, _)) rfl ?_
                            rw [if_pos q31]
                            exact J174_97_ev sc n b hb (e1 + 1) he (L174_29 n b k) hr29 x1 x2 x3 _ _ _ h
                          · rw [if_neg q31] at h
                            refine pe_blk mm_174 1 (s' := (if v28 = 0 then 97 else 95, [some (.ref b), some (.int x1), some (.int x2), some (.int x3)], [], _, _, _)) rfl ?_
                            rw [if_neg q31]
                            refine pe_blk mm_174 1 (s' := (96, [some (.ref b), some (.int x1), some (.int x2), some (.int x3)], [.int x3], _, _, _)) rfl ?_
                            cases h
                            exact pe_ret mm_174 rfl rfl
                  · rw [if_neg q23] at h
                    refine pe_blk mm_174 1 (s' := (if x2 = 0 then 78 else 97, [some (.ref b), some (.int x1), some (.int x2), some (.int x3)], [], _, _, _)) rfl ?_
                    rw [if_neg q23]
                    exact J174_97_ev sc n b hb (e1 + 1) he (L174_29 n b k) hr29 x1 x2 x3 _ _ _ h
                · rw [if_neg q22] at h
                  refine pe_blk mm_174 1 (s' := (if v19 = 0 then 74 else 63, [some (.ref b), some (.int x1), some (.int x2), some (.int x3)], [], _, _, _)) rfl ?_
                  rw [if_neg q22]
                  refine pe_blk mm_174 7 (s' := (97, [some (.ref b), some (.int x1), some (.int (if 0 < (x2 - 1) then (x2 - 1) else 0)), some (.int x3)], [], _, _, _)) rfl ?_
                  exact J174_97_ev sc n b hb (e1 + 1) he (L174_29 n b k) hr29 x1 (if 0 < (x2 - 1) then (x2 - 1) else 0) x3 _ _ _ h
          · rw [if_neg q17] at h
            refine pe_blk mm_174 1 (s' := (if v14 = 0 then 51 else 45, [some (.ref b), some (.int x1), some (.int x2), some (.int x3)], [], _, _, _)) rfl ?_
            rw [if_neg q17]
            refine pe_blk mm_174 2 (s' := (97, [some (.ref b), some (.int x1), some (.int (x2 + 1)), some (.int x3)], [], _, _, _)) rfl ?_
            exact J174_97_ev sc n b hb (e1 + 1) he (L174_29 n b k) hr29 x1 (x2 + 1) x3 _ _ _ h
/-- ArmExpander$Row.binderOf -/
def F174 (n : Nat) (b : Nat) (a0 : Int32) (M : Mem) : Option (Int32 × Mem) :=
  match F170 n b a0 M with | some (v1, M2) => (match F11 n v1 M2 with | some (v4, M5) => (if v4 = 0 then (some ((-1), M5)) else (match F175 n b a0 M5 with | some (v8, M9) => (if v8 = 0 then (L174_29 n b n a0 0 (a0 - 1) M9) else (some (a0, M9))) | none => none)) | none => none) | none => none
set_option maxRecDepth 100000 in
set_option maxHeartbeats 4000000 in
theorem F174_ev (sc : Option (Nat × (Nat → Int32))) (n : Nat) (b : Nat) (a0 : Int32) (hb : isR b) (M : Mem) (e : Nat) (he : 3 ≤ e) (r : Int32) (M' : Mem) (h : F174 n b a0 M = some (r, M')) : pm_ev pmT sc e 174 false (0, [some (.ref b), some (.int a0), none, none], [], 129, 17845, hp M) (some (.int r), 129, 17845, hp M') := by
  unfold F174 at h
  refine pe_blk mm_174 2 (s' := (2, [some (.ref b), some (.int a0), none, none], [.int a0, .ref b], _, _, _)) rfl ?_
  obtain ⟨e1, rfl⟩ : ∃ e1, e = e1 + 1 := ⟨e - 1, by omega⟩
  cases hc3 : F170 n b a0 M with
  | none => rw [hc3] at h; cases h
  | some w =>
    obtain ⟨v1, M2⟩ := w
    rw [hc3] at h
    dsimp only at h
    refine pe_virt (al := [.int a0]) (a := b) (L0 := [some (.ref b), some (.int a0)]) (r1 := (some (.int v1), 129, 17845, hp M2)) mm_174 rfl rfl rfl mm_170 (isR_0 hb _) (by have := isR_lt hb; omega) (by decide) rfl (Nat.le_of_ble_eq_true rfl) (Nat.le_of_ble_eq_true rfl) rfl rfl (F170_ev sc n b a0 hb _ e1 (by omega) _ _ hc3) ?_
    show pm_ev _ _ _ _ _ (5, [some (.ref b), some (.int a0), none, none], [.int v1], _, _, _) _
    skip
    cases hc6 : F11 n v1 M2 with
    | none => rw [hc6] at h; cases h
    | some w =>
      obtain ⟨v4, M5⟩ := w
      rw [hc6] at h
      dsimp only at h
      refine pe_stat (al := [.int v1]) (L0 := [some (.int v1)]) (r1 := (some (.int v4), 129, 17845, hp M5)) mm_174 rfl rfl rfl mm_11 rfl (Nat.le_of_ble_eq_true rfl) (Nat.le_of_ble_eq_true rfl) rfl rfl (F11_ev sc n v1 _ e1 (by omega) _ _ hc6) ?_
      show pm_ev _ _ _ _ _ (8, [some (.ref b), some (.int a0), none, none], [.int v4], _, _, _) _
      by_cases q7 : v4 = 0
      · rw [if_pos q7] at h
        refine pe_blk mm_174 1 (s' := (if v4 = 0 then 11 else 13, [some (.ref b), some (.int a0), none, none], [], _, _, _)) rfl ?_
        rw [if_pos q7]
        refine pe_blk mm_174 1 (s' := (12, [some (.ref b), some (.int a0), none, none], [.int (-1)], _, _, _)) rfl ?_
        cases h
        exact pe_ret mm_174 rfl rfl
      · rw [if_neg q7] at h
        refine pe_blk mm_174 1 (s' := (if v4 = 0 then 11 else 13, [some (.ref b), some (.int a0), none, none], [], _, _, _)) rfl ?_
        rw [if_neg q7]
        refine pe_blk mm_174 2 (s' := (15, [some (.ref b), some (.int a0), none, none], [.int a0, .ref b], _, _, _)) rfl ?_
        skip
        cases hc10 : F175 n b a0 M5 with
        | none => rw [hc10] at h; cases h
        | some w =>
          obtain ⟨v8, M9⟩ := w
          rw [hc10] at h
          dsimp only at h
          refine pe_virt (al := [.int a0]) (a := b) (L0 := [some (.ref b), some (.int a0)]) (r1 := (some (.int v8), 129, 17845, hp M9)) mm_174 rfl rfl rfl mm_175 (isR_0 hb _) (by have := isR_lt hb; omega) (by decide) rfl (Nat.le_of_ble_eq_true rfl) (Nat.le_of_ble_eq_true rfl) rfl rfl (F175_ev sc n b a0 hb _ e1 (by omega) _ _ hc10) ?_
          show pm_ev _ _ _ _ _ (18, [some (.ref b), some (.int a0), none, none], [.int v8], _, _, _) _
          by_cases q11 : v8 = 0
          · rw [if_pos q11] at h
            refine pe_blk mm_174 1 (s' := (if v8 = 0 then 23 else 21, [some (.ref b), some (.int a0), none, none], [], _, _, _)) rfl ?_
            rw [if_pos q11]
            refine pe_blk mm_174 6 (s' := (29, [some (.ref b), some (.int a0), some (.int 0), some (.int (a0 - 1))], [], _, _, _)) rfl ?_
            exact L174_29_ev sc n b hb (e1 + 1) he n a0 0 (a0 - 1) _ _ _ h
          · rw [if_neg q11] at h
            refine pe_blk mm_174 1 (s' := (if v8 = 0 then 23 else 21, [some (.ref b), some (.int a0), none, none], [], _, _, _)) rfl ?_
            rw [if_neg q11]
            refine pe_blk mm_174 1 (s' := (22, [some (.ref b), some (.int a0), none, none], [.int a0], _, _, _)) rfl ?_
            cases h
            exact pe_ret mm_174 rfl rfl
def J197_21 (n : Nat) (M : Mem) : Option (Int32 × Mem) :=
  some (0, M)
set_option maxRecDepth 100000 in
set_option maxHeartbeats 4000000 in
theorem J197_21_ev (sc : Option (Nat × (Nat → Int32))) (n : Nat)  (e : Nat) (he : 2 ≤ e) : ∀ (u0 : Option Value) (u1 : Option Value) (u2 : Option Value) (u3 : Option Value) (u4 : Option Value) (M : Mem) (r : Int32) (M' : Mem), J197_21 n  M = some (r, M') → pm_ev pmT sc e 197 false (21, [u0, u1, u2, u3, u4], [], 129, 17845, hp M) (some (.int r), 129, 17845, hp M') := by
  intro u0 u1 u2 u3 u4 M r M' h
  unfold J197_21 at h
  refine pe_blk mm_197 1 (s' := (22, [u0, u1, u2, u3, u4], [.int 0], _, _, _)) rfl ?_
  cases h
  exact pe_ret mm_197 rfl rfl
def L197_63 (n : Nat) : Nat → Int32 → Int32 → Mem → Option (Int32 × Mem)
  | 0, _, _, _ => none
  | k + 1, x1, x3, M => if x3 < 0 then (some (1, M)) else (match F204 n x1 x3 M with | some (v6, M7) => (if (M.1 1 1) < 0 ∨ 120 ≤ (M.1 1 1 : Int32).toNatClampNeg then none else (mlet (m_i M7 2 (M.1 1 1 : Int32).toNatClampNeg v6) (fun M10 => mlet (m_i M10 1 1 ((M10.1 1 1) + 1)) (fun M11 => (L197_63 n k) x1 (x3 + (-1)) M11)))) | none => none)
set_option maxRecDepth 100000 in
set_option maxHeartbeats 4000000 in
theorem L197_63_ev (sc : Option (Nat × (Nat → Int32))) (n : Nat)  (e : Nat) (he : 2 ≤ e) : ∀ k : Nat, ∀ (x1 : Int32) (x3 : Int32) (u2 : Option Value) (u4 : Option Value) (M : Mem) (r : Int32) (M' : Mem), L197_63 n k x1 x3 M = some (r, M') → pm_ev pmT sc e 197 false (63, [some (.ref 1), some (.int x1), u2, some (.int x3), u4], [], 129, 17845, hp M) (some (.int r), 129, 17845, hp M') := by
  intro k
  induction k with
  | zero => intro x1 x3 u2 u4 M r M' h; cases h
  | succ k hr63 =>
    intro x1 x3 u2 u4 M r M' h
    rw [L197_63] at h
    refine pe_blk mm_197 1 (s' := (64, [some (.ref 1), some (.int x1), u2, some (.int x3), u4], [.int x3], _, _, _)) rfl ?_
    by_cases q5 : x3 < 0
    · rw [if_pos q5] at h
      refine pe_blk mm_197 1 (s' := (if x3 < 0 then 97 else 67, [some (.ref 1), some (.int x1), u2, some (.int x3), u4], [], _, _, _)) rfl ?_
      rw [if_pos q5]
      refine pe_blk mm_197 1 (s' := (98, [some (.ref 1), some (.int x1), u2, some (.int x3), u4], [.int 1], _, _, _)) rfl ?_
      cases h
      exact pe_ret mm_197 rfl rfl
    · rw [if_neg q5] at h
      refine pe_blk mm_197 1 (s' := (if x3 < 0 then 97 else 67, [some (.ref 1), some (.int x1), u2, some (.int x3), u4], [], _, _, _)) rfl ?_
      rw [if_neg q5]
      refine pe_blk mm_197 1 (s' := (68, [some (.ref 1), some (.int x1), u2, some (.int x3), u4], [.ref 1], _, _, _)) rfl ?_
      refine pe_get mm_197 rfl rfl rfl (by decide) rfl ?_
      refine pe_blk mm_197 1 (s' := (72, [some (.ref 1), some (.int x1), u2, some (.int x3), u4], [.ref 1, .ref 2], _, _, _)) rfl ?_
      refine pe_get mm_197 rfl rfl rfl (by decide) rfl ?_
      refine pe_blk mm_197 2 (s' := (77, [some (.ref 1), some (.int x1), u2, some (.int x3), u4], [.int x3, .int x1, .int (M.1 1 1), .ref 2], _, _, _)) rfl ?_
      obtain ⟨e1, rfl⟩ : ∃ e1, e = e1 + 1 := ⟨e - 1, by omega⟩
      cases hc8 : F204 n x1 x3 M with
      | none => rw [hc8] at h; cases h
      | some w =>
        obtain ⟨v6, M7⟩ := w
        rw [hc8] at h
        dsimp only at h
        refine pe_stat (al := [.int x3, .int x1]) (L0 := [some (.int x1), some (.int x3)]) (r1 := (some (.int v6), 129, 17845, hp M7)) mm_197 rfl rfl rfl mm_204 rfl (Nat.le_of_ble_eq_true rfl) (Nat.le_of_ble_eq_true rfl) rfl rfl (F204_ev sc n x1 x3 _ e1 (by omega) _ _ hc8) ?_
        show pm_ev _ _ _ _ _ (80, [some (.ref 1), some (.int x1), u2, some (.int x3), u4], [.int v6, .int (M.1 1 1), .ref 2], _, _, _) _
        by_cases q9 : (M.1 1 1) < 0 ∨ 120 ≤ (M.1 1 1 : Int32).toNatClampNeg
        · rw [if_pos q9] at h
          cases h
        · rw [if_neg q9] at h
          refine pe_iasti mm_197 rfl rfl (by decide) q9 rfl ?_
          show pm_ev _ _ _ _ _ (81, [some (.ref 1), some (.int x1), u2, some (.int x3), u4], [], _, _, hp (m_i M7 2 (M.1 1 1 : Int32).toNatClampNeg v6)) _
          generalize m_i M7 2 (M.1 1 1 : Int32).toNatClampNeg v6 = M10 at h ⊢
          rw [mlet] at h
          refine pe_blk mm_197 2 (s' := (83, [some (.ref 1), some (.int x1), u2, some (.int x3), u4], [.ref 1, .ref 1], _, _, _)) rfl ?_
          refine pe_get mm_197 rfl rfl rfl (by decide) rfl ?_
          refine pe_blk mm_197 2 (s' := (88, [some (.ref 1), some (.int x1), u2, some (.int x3), u4], [.int ((M10.1 1 1) + 1), .ref 1], _, _, _)) rfl ?_
          refine pe_puti mm_197 rfl rfl rfl (by decide) (Nat.le_of_ble_eq_true rfl) rfl rfl ?_
          show pm_ev _ _ _ _ _ (91, [some (.ref 1), some (.int x1), u2, some (.int x3), u4], [], _, _, hp (m_i M10 1 1 ((M10.1 1 1) + 1))) _
          generalize m_i M10 1 1 ((M10.1 1 1) + 1) = M11 at h ⊢
          rw [mlet] at h
          refine pe_blk mm_197 2 (s' := (63, [some (.ref 1), some (.int x1), u2, some (.int (x3 + (-1))), u4], [], _, _, _)) rfl ?_
          exact hr63 x1 (x3 + (-1)) _ _ _ _ _ h
def J197_51 (n : Nat) (M : Mem) : Option (Int32 × Mem) :=
  some (0, M)
set_option maxRecDepth 100000 in
set_option maxHeartbeats 4000000 in
theorem J197_51_ev (sc : Option (Nat × (Nat → Int32))) (n : Nat)  (e : Nat) (he : 2 ≤ e) : ∀ (u0 : Option Value) (u1 : Option Value) (u2 : Option Value) (u3 : Option Value) (u4 : Option Value) (M : Mem) (r : Int32) (M' : Mem), J197_51 n  M = some (r, M') → pm_ev pmT sc e 197 false (51, [u0, u1, u2, u3, u4], [], 129, 17845, hp M) (some (.int r), 129, 17845, hp M') := by
  intro u0 u1 u2 u3 u4 M r M' h
  unfold J197_51 at h
  refine pe_blk mm_197 1 (s' := (52, [u0, u1, u2, u3, u4], [.int 0], _, _, _)) rfl ?_
  cases h
  exact pe_ret mm_197 rfl rfl
def L197_25 (n : Nat) : Nat → Int32 → Int32 → Int32 → Mem → Option (Int32 × Mem)
  | 0, _, _, _, _ => none
  | k + 1, x1, x2, x3, M => if x2 ≤ x3 then (L197_63 n n x1 (x2 - 1) M) else (match F204 n x1 x3 M with | some (v12, M13) => (if v12 < 32 then (J197_51 n M13) else (if v12 ≤ 126 then ((L197_25 n k) x1 x2 (x3 + 1) M13) else (J197_51 n M13))) | none => none)
set_option maxRecDepth 100000 in
set_option maxHeartbeats 4000000 in
theorem L197_25_ev (sc : Option (Nat × (Nat → Int32))) (n : Nat)  (e : Nat) (he : 2 ≤ e) : ∀ k : Nat, ∀ (x1 : Int32) (x2 : Int32) (x3 : Int32) (u4 : Option Value) (M : Mem) (r : Int32) (M' : Mem), L197_25 n k x1 x2 x3 M = some (r, M') → pm_ev pmT sc e 197 false (25, [some (.ref 1), some (.int x1), some (.int x2), some (.int x3), u4], [], 129, 17845, hp M) (some (.int r), 129, 17845, hp M') := by
  intro k
  induction k with
  | zero => intro x1 x2 x3 u4 M r M' h; cases h
  | succ k hr25 =>
    intro x1 x2 x3 u4 M r M' h
    rw [L197_25] at h
    refine pe_blk mm_197 2 (s' := (27, [some (.ref 1), some (.int x1), some (.int x2), some (.int x3), u4], [.int x2, .int x3], _, _, _)) rfl ?_
    by_cases q4 : x2 ≤ x3
    · rw [if_pos q4] at h
      refine pe_blk mm_197 1 (s' := (if x2 ≤ x3 then 59 else 30, [some (.ref 1), some (.int x1), some (.int x2), some (.int x3), u4], [], _, _, _)) rfl ?_
      rw [if_pos q4]
      refine pe_blk mm_197 4 (s' := (63, [some (.ref 1), some (.int x1), some (.int x2), some (.int (x2 - 1)), u4], [], _, _, _)) rfl ?_
      exact L197_63_ev sc n e he n x1 (x2 - 1) _ _ _ _ _ h
    · rw [if_neg q4] at h
      refine pe_blk mm_197 1 (s' := (if x2 ≤ x3 then 59 else 30, [some (.ref 1), some (.int x1), some (.int x2), some (.int x3), u4], [], _, _, _)) rfl ?_
      rw [if_neg q4]
      refine pe_blk mm_197 2 (s' := (32, [some (.ref 1), some (.int x1), some (.int x2), some (.int x3), u4], [.int x3, .int x1], _, _, _)) rfl ?_
      obtain ⟨e1, rfl⟩ : ∃ e1, e = e1 + 1 := ⟨e - 1, by omega⟩
      cases hc14 : F204 n x1 x3 M with
      | none => rw [hc14] at h; cases h
      | some w =>
        obtain ⟨v12, M13⟩ := w
        rw [hc14] at h
        dsimp only at h
        refine pe_stat (al := [.int x3, .int x1]) (L0 := [some (.int x1), some (.int x3)]) (r1 := (some (.int v12), 129, 17845, hp M13)) mm_197 rfl rfl rfl mm_204 rfl (Nat.le_of_ble_eq_true rfl) (Nat.le_of_ble_eq_true rfl) rfl rfl (F204_ev sc n x1 x3 _ e1 (by omega) _ _ hc14) ?_
        show pm_ev _ _ _ _ _ (35, [some (.ref 1), some (.int x1), some (.int x2), some (.int x3), u4], [.int v12], _, _, _) _
        refine pe_blk mm_197 3 (s' := (41, [some (.ref 1), some (.int x1), some (.int x2), some (.int x3), some (.int v12)], [.int 32, .int v12], _, _, _)) rfl ?_
        by_cases q15 : v12 < 32
        · rw [if_pos q15] at h
          refine pe_blk mm_197 1 (s' := (if v12 < 32 then 51 else 44, [some (.ref 1), some (.int x1), some (.int x2), some (.int x3), some (.int v12)], [], _, _, _)) rfl ?_
          rw [if_pos q15]
          exact J197_51_ev sc n (e1 + 1) he _ _ _ _ _ _ _ _ h
        · rw [if_neg q15] at h
          refine pe_blk mm_197 1 (s' := (if v12 < 32 then 51 else 44, [some (.ref 1), some (.int x1), some (.int x2), some (.int x3), some (.int v12)], [], _, _, _)) rfl ?_
          rw [if_neg q15]
          refine pe_blk mm_197 2 (s' := (48, [some (.ref 1), some (.int x1), some (.int x2), some (.int x3), some (.int v12)], [.int 126, .int v12], _, _, _)) rfl ?_
          by_cases q16 : v12 ≤ 126
          · rw [if_pos q16] at h
            refine pe_blk mm_197 1 (s' := (if v12 ≤ 126 then 53 else 51, [some (.ref 1), some (.int x1), some (.int x2), some (.int x3), some (.int v12)], [], _, _, _)) rfl ?_
            rw [if_pos q16]
            refine pe_blk mm_197 2 (s' := (25, [some (.ref 1), some (.int x1), some (.int x2), some (.int (x3 + 1)), some (.int v12)], [], _, _, _)) rfl ?_
            exact hr25 x1 x2 (x3 + 1) _ _ _ _ h
          · rw [if_neg q16] at h
            refine pe_blk mm_197 1 (s' := (if v12 ≤ 126 then 53 else 51, [some (.ref 1), some (.int x1), some (.int x2), some (.int x3), some (.int v12)], [], _, _, _)) rfl ?_
            rw [if_neg q16]
            exact J197_51_ev sc n (e1 + 1) he _ _ _ _ _ _ _ _ h
/-- ArmExpander$TypedText.append -/
def F197 (n : Nat) (a0 : Int32) (a1 : Int32) (M : Mem) : Option (Int32 × Mem) :=
  if a1 < 1 then (J197_21 n M) else (if 4 < a1 then (J197_21 n M) else (if ((M.1 1 1) + a1) ≤ 120 then (L197_25 n n a0 a1 0 M) else (J197_21 n M)))
set_option maxRecDepth 100000 in
set_option maxHeartbeats 4000000 in
theorem F197_ev (sc : Option (Nat × (Nat → Int32))) (n : Nat) (a0 : Int32) (a1 : Int32)  (M : Mem) (e : Nat) (he : 2 ≤ e) (r : Int32) (M' : Mem) (h : F197 n a0 a1 M = some (r, M')) : pm_ev pmT sc e 197 false (0, [some (.ref 1), some (.int a0), some (.int a1), none, none], [], 129, 17845, hp M) (some (.int r), 129, 17845, hp M') := by
  unfold F197 at h
  refine pe_blk mm_197 2 (s' := (2, [some (.ref 1), some (.int a0), some (.int a1), none, none], [.int 1, .int a1], _, _, _)) rfl ?_
  by_cases q1 : a1 < 1
  · rw [if_pos q1] at h
    refine pe_blk mm_197 1 (s' := (if a1 < 1 then 21 else 5, [some (.ref 1), some (.int a0), some (.int a1), none, none], [], _, _, _)) rfl ?_
    rw [if_pos q1]
    exact J197_21_ev sc n e he _ _ _ _ _ _ _ _ h
  · rw [if_neg q1] at h
    refine pe_blk mm_197 1 (s' := (if a1 < 1 then 21 else 5, [some (.ref 1), some (.int a0), some (.int a1), none, none], [], _, _, _)) rfl ?_
    rw [if_neg q1]
    refine pe_blk mm_197 2 (s' := (7, [some (.ref 1), some (.int a0), some (.int a1), none, none], [.int 4, .int a1], _, _, _)) rfl ?_
    by_cases q2 : 4 < a1
    · rw [if_pos q2] at h
      refine pe_blk mm_197 1 (s' := (if 4 < a1 then 21 else 10, [some (.ref 1), some (.int a0), some (.int a1), none, none], [], _, _, _)) rfl ?_
      rw [if_pos q2]
      exact J197_21_ev sc n e he _ _ _ _ _ _ _ _ h
    · rw [if_neg q2] at h
      refine pe_blk mm_197 1 (s' := (if 4 < a1 then 21 else 10, [some (.ref 1), some (.int a0), some (.int a1), none, none], [], _, _, _)) rfl ?_
      rw [if_neg q2]
      refine pe_blk mm_197 1 (s' := (11, [some (.ref 1), some (.int a0), some (.int a1), none, none], [.ref 1], _, _, _)) rfl ?_
      refine pe_get mm_197 rfl rfl rfl (by decide) rfl ?_
      refine pe_blk mm_197 3 (s' := (18, [some (.ref 1), some (.int a0), some (.int a1), none, none], [.int 120, .int ((M.1 1 1) + a1)], _, _, _)) rfl ?_
      by_cases q3 : ((M.1 1 1) + a1) ≤ 120
      · rw [if_pos q3] at h
        refine pe_blk mm_197 1 (s' := (if ((M.1 1 1) + a1) ≤ 120 then 23 else 21, [some (.ref 1), some (.int a0), some (.int a1), none, none], [], _, _, _)) rfl ?_
        rw [if_pos q3]
        refine pe_blk mm_197 2 (s' := (25, [some (.ref 1), some (.int a0), some (.int a1), some (.int 0), none], [], _, _, _)) rfl ?_
        exact L197_25_ev sc n e he n a0 a1 0 _ _ _ _ h
      · rw [if_neg q3] at h
        refine pe_blk mm_197 1 (s' := (if ((M.1 1 1) + a1) ≤ 120 then 23 else 21, [some (.ref 1), some (.int a0), some (.int a1), none, none], [], _, _, _)) rfl ?_
        rw [if_neg q3]
        exact J197_21_ev sc n e he _ _ _ _ _ _ _ _ h
/-- ArmExpander.type -/
def F1 (n : Nat) (a0 : Int32) (a1 : Int32) (M : Mem) : Option (Int32 × Mem) :=
  match F197 n a0 a1 M with | some (v1, M2) => (if v1 = 0 ∨ v1 = 1 then some (v1, M2) else none) | none => none
set_option maxRecDepth 100000 in
set_option maxHeartbeats 4000000 in
theorem F1_ev (sc : Option (Nat × (Nat → Int32))) (n : Nat) (a0 : Int32) (a1 : Int32)  (M : Mem) (e : Nat) (he : 3 ≤ e) (r : Int32) (M' : Mem) (h : F1 n a0 a1 M = some (r, M')) : pm_ev pmT sc e 1 false (0, [some (.ref 0), some (.int a0), some (.int a1)], [], 129, 17845, hp M) (some (.int r), 129, 17845, hp M') := by
  unfold F1 at h
  refine pe_blk mm_1 1 (s' := (1, [some (.ref 0), some (.int a0), some (.int a1)], [.ref 0], _, _, _)) rfl ?_
  refine pe_get mm_1 rfl rfl rfl (by decide) rfl ?_
  refine pe_blk mm_1 2 (s' := (6, [some (.ref 0), some (.int a0), some (.int a1)], [.int a1, .int a0, .ref 1], _, _, _)) rfl ?_
  obtain ⟨e1, rfl⟩ : ∃ e1, e = e1 + 1 := ⟨e - 1, by omega⟩
  cases hc3 : F197 n a0 a1 M with
  | none => rw [hc3] at h; cases h
  | some w =>
    obtain ⟨v1, M2⟩ := w
    rw [hc3] at h
    dsimp only at h
    refine pe_virt (al := [.int a1, .int a0]) (a := 1) (L0 := [some (.ref 1), some (.int a0), some (.int a1), none, none]) (r1 := (some (.int v1), 129, 17845, hp M2)) mm_1 rfl rfl rfl mm_197 rfl (by decide) (by decide) rfl (Nat.le_of_ble_eq_true rfl) (Nat.le_of_ble_eq_true rfl) rfl rfl (F197_ev sc n a0 a1 _ e1 (by omega) _ _ hc3) ?_
    show pm_ev _ _ _ _ _ (9, [some (.ref 0), some (.int a0), some (.int a1)], [.int v1], _, _, _) _
    by_cases q4 : v1 = 0 ∨ v1 = 1
    · rw [if_pos q4] at h
      cases h
      exact pe_ret mm_1 rfl (if_pos q4)
    · rw [if_neg q4] at h
      cases h
def L33_12 (n : Nat) : Nat → Int32 → Int32 → Int32 → Mem → Option (Unit × Mem)
  | 0, _, _, _, _ => none
  | k + 1, x1, x2, x3, M => if (M.1 83 3) ≤ x3 then (match F34 n x2 M with | some (v4, M5) => (some ((), M5)) | none => none) else (if ((120 * x1) + x3) < 0 ∨ 600 ≤ ((120 * x1) + x3 : Int32).toNatClampNeg then none else (if x3 < 0 ∨ 120 ≤ (x3 : Int32).toNatClampNeg then none else (mlet (m_i M 85 (x3 : Int32).toNatClampNeg (M.1 86 ((120 * x1) + x3 : Int32).toNatClampNeg)) (fun M9 => (L33_12 n k) x1 x2 (x3 + 1) M9))))
set_option maxRecDepth 100000 in
set_option maxHeartbeats 4000000 in
theorem L33_12_ev (sc : Option (Nat × (Nat → Int32))) (n : Nat)  (e : Nat) (he : 10 ≤ e) : ∀ k : Nat, ∀ (x1 : Int32) (x2 : Int32) (x3 : Int32) (M : Mem) (r : Unit) (M' : Mem), L33_12 n k x1 x2 x3 M = some (r, M') → pm_ev pmT sc e 33 false (12, [some (.ref 83), some (.int x1), some (.int x2), some (.int x3)], [], 129, 17845, hp M) (none, 129, 17845, hp M') := by
  intro k
  induction k with
  | zero => intro x1 x2 x3  M r M' h; cases h
  | succ k hr12 =>
    intro x1 x2 x3  M r M' h
    rw [L33_12] at h
    refine pe_blk mm_33 2 (s' := (14, [some (.ref 83), some (.int x1), some (.int x2), some (.int x3)], [.ref 83, .int x3], _, _, _)) rfl ?_
    refine pe_get mm_33 rfl rfl rfl (by decide) rfl ?_
    by_cases q3 : (M.1 83 3) ≤ x3
    · rw [if_pos q3] at h
      refine pe_blk mm_33 1 (s' := (if (M.1 83 3) ≤ x3 then 43 else 20, [some (.ref 83), some (.int x1), some (.int x2), some (.int x3)], [], _, _, _)) rfl ?_
      rw [if_pos q3]
      refine pe_blk mm_33 2 (s' := (45, [some (.ref 83), some (.int x1), some (.int x2), some (.int x3)], [.int x2, .ref 83], _, _, _)) rfl ?_
      obtain ⟨e1, rfl⟩ : ∃ e1, e = e1 + 1 := ⟨e - 1, by omega⟩
      cases hc6 : F34 n x2 M with
      | none => rw [hc6] at h; cases h
      | some w =>
        obtain ⟨v4, M5⟩ := w
        rw [hc6] at h
        dsimp only at h
        refine pe_virt (al := [.int x2]) (a := 83) (L0 := [some (.ref 83), some (.int x2)]) (r1 := (some (.int v4), 129, 17845, hp M5)) mm_33 rfl rfl rfl mm_34 rfl (by decide) (by decide) rfl (Nat.le_of_ble_eq_true rfl) (Nat.le_of_ble_eq_true rfl) rfl rfl (F34_ev sc n x2 _ e1 (by omega) _ _ hc6) ?_
        show pm_ev _ _ _ _ _ (48, [some (.ref 83), some (.int x1), some (.int x2), some (.int x3)], [.int v4], _, _, _) _
        refine pe_blk mm_33 1 (s' := (49, [some (.ref 83), some (.int x1), some (.int x2), some (.int x3)], [], _, _, _)) rfl ?_
        cases h
        exact pe_ret mm_33 rfl rfl
    · rw [if_neg q3] at h
      refine pe_blk mm_33 1 (s' := (if (M.1 83 3) ≤ x3 then 43 else 20, [some (.ref 83), some (.int x1), some (.int x2), some (.int x3)], [], _, _, _)) rfl ?_
      rw [if_neg q3]
      refine pe_blk mm_33 1 (s' := (21, [some (.ref 83), some (.int x1), some (.int x2), some (.int x3)], [.ref 83], _, _, _)) rfl ?_
      refine pe_get mm_33 rfl rfl rfl (by decide) rfl ?_
      refine pe_blk mm_33 2 (s' := (26, [some (.ref 83), some (.int x1), some (.int x2), some (.int x3)], [.ref 83, .int x3, .ref 85], _, _, _)) rfl ?_
      refine pe_get mm_33 rfl rfl rfl (by decide) rfl ?_
      refine pe_blk mm_33 5 (s' := (35, [some (.ref 83), some (.int x1), some (.int x2), some (.int x3)], [.int ((120 * x1) + x3), .ref 86, .int x3, .ref 85], _, _, _)) rfl ?_
      by_cases q7 : ((120 * x1) + x3) < 0 ∨ 600 ≤ ((120 * x1) + x3 : Int32).toNatClampNeg
      · rw [if_pos q7] at h
        cases h
      · rw [if_neg q7] at h
        refine pe_iald (f := M.1 86) mm_33 rfl rfl (by decide) q7 ?_
        by_cases q8 : x3 < 0 ∨ 120 ≤ (x3 : Int32).toNatClampNeg
        · rw [if_pos q8] at h
          cases h
        · rw [if_neg q8] at h
          refine pe_iasti mm_33 rfl rfl (by decide) q8 rfl ?_
          show pm_ev _ _ _ _ _ (37, [some (.ref 83), some (.int x1), some (.int x2), some (.int x3)], [], _, _, hp (m_i M 85 (x3 : Int32).toNatClampNeg (M.1 86 ((120 * x1) + x3 : Int32).toNatClampNeg))) _
          generalize m_i M 85 (x3 : Int32).toNatClampNeg (M.1 86 ((120 * x1) + x3 : Int32).toNatClampNeg) = M9 at h ⊢
          rw [mlet] at h
          refine pe_blk mm_33 2 (s' := (12, [some (.ref 83), some (.int x1), some (.int x2), some (.int (x3 + 1))], [], _, _, _)) rfl ?_
          exact hr12 x1 x2 (x3 + 1) _ _ _ h
/-- ArmExpanderModel.loadArm -/
def F33 (n : Nat) (a0 : Int32) (a1 : Int32) (M : Mem) : Option (Unit × Mem) :=
  if a0 < 0 ∨ 5 ≤ (a0 : Int32).toNatClampNeg then none else (mlet (m_i M 83 3 (M.1 87 (a0 : Int32).toNatClampNeg)) (fun M2 => L33_12 n n a0 a1 0 M2))
set_option maxRecDepth 100000 in
set_option maxHeartbeats 4000000 in
theorem F33_ev (sc : Option (Nat × (Nat → Int32))) (n : Nat) (a0 : Int32) (a1 : Int32)  (M : Mem) (e : Nat) (he : 10 ≤ e) (r : Unit) (M' : Mem) (h : F33 n a0 a1 M = some (r, M')) : pm_ev pmT sc e 33 false (0, [some (.ref 83), some (.int a0), some (.int a1), none], [], 129, 17845, hp M) (none, 129, 17845, hp M') := by
  unfold F33 at h
  refine pe_blk mm_33 2 (s' := (2, [some (.ref 83), some (.int a0), some (.int a1), none], [.ref 83, .ref 83], _, _, _)) rfl ?_
  refine pe_get mm_33 rfl rfl rfl (by decide) rfl ?_
  refine pe_blk mm_33 1 (s' := (6, [some (.ref 83), some (.int a0), some (.int a1), none], [.int a0, .ref 87, .ref 83], _, _, _)) rfl ?_
  by_cases q1 : a0 < 0 ∨ 5 ≤ (a0 : Int32).toNatClampNeg
  · rw [if_pos q1] at h
    cases h
  · rw [if_neg q1] at h
    refine pe_iald (f := M.1 87) mm_33 rfl rfl (by decide) q1 ?_
    refine pe_puti mm_33 rfl rfl rfl (by decide) (Nat.le_of_ble_eq_true rfl) rfl rfl ?_
    show pm_ev _ _ _ _ _ (10, [some (.ref 83), some (.int a0), some (.int a1), none], [], _, _, hp (m_i M 83 3 (M.1 87 (a0 : Int32).toNatClampNeg))) _
    generalize m_i M 83 3 (M.1 87 (a0 : Int32).toNatClampNeg) = M2 at h ⊢
    rw [mlet] at h
    refine pe_blk mm_33 2 (s' := (12, [some (.ref 83), some (.int a0), some (.int a1), some (.int 0)], [], _, _, _)) rfl ?_
    exact L33_12_ev sc n e he n a0 a1 0 _ _ _ h
def J93_35 (n : Nat) (g0 : Nat) (rec12 : Int32 → Int32 → Mem → Option (Int32 × Mem)) (x2 : Int32) (x3 : Int32) (M : Mem) : Option (Int32 × Mem) :=
  rec12 x2 (x3 + 1) M
set_option maxRecDepth 100000 in
set_option maxHeartbeats 4000000 in
theorem J93_35_ev (sc : Option (Nat × (Nat → Int32))) (n : Nat) (g0 : Nat) (hg0 : isD g0) (e : Nat) (he : 3 ≤ e) (rec12 : Int32 → Int32 → Mem → Option (Int32 × Mem)) (hr12 : ∀ (x2 : Int32) (x3 : Int32) (u1 : Option Value) (M : Mem) (r : Int32) (M' : Mem), rec12 x2 x3 M = some (r, M') → pm_ev pmT sc e 93 false (12, [some (.ref g0), u1, some (.int x2), some (.int x3)], [], 129, 17845, hp M) (some (.int r), 129, 17845, hp M')) : ∀ (x2 : Int32) (x3 : Int32) (u1 : Option Value) (M : Mem) (r : Int32) (M' : Mem), J93_35 n g0 rec12 x2 x3 M = some (r, M') → pm_ev pmT sc e 93 false (35, [some (.ref g0), u1, some (.int x2), some (.int x3)], [], 129, 17845, hp M) (some (.int r), 129, 17845, hp M') := by
  intro x2 x3 u1 M r M' h
  unfold J93_35 at h
  refine pe_blk mm_93 2 (s' := (12, [some (.ref g0), u1, some (.int x2), some (.int (x3 + 1))], [], _, _, _)) rfl ?_
  exact hr12 x2 (x3 + 1) _ _ _ _ h
def L93_12 (n : Nat) (g0 : Nat) : Nat → Int32 → Int32 → Mem → Option (Int32 × Mem)
  | 0, _, _, _ => none
  | k + 1, x2, x3, M => if x2 ≤ x3 then (some (0, M)) else (match F116 n g0 x3 M with | some (v8, M9) => (if v8 = 0 then (J93_35 n g0 (L93_12 n g0 k) x2 x3 M9) else (match F94 n g0 x3 M9 with | some (v12, M13) => (if v12 = 0 then (J93_35 n g0 (L93_12 n g0 k) x2 x3 M13) else (some (1, M13))) | none => none)) | none => none)
set_option maxRecDepth 100000 in
set_option maxHeartbeats 4000000 in
theorem L93_12_ev (sc : Option (Nat × (Nat → Int32))) (n : Nat) (g0 : Nat) (hg0 : isD g0) (e : Nat) (he : 3 ≤ e) : ∀ k : Nat, ∀ (x2 : Int32) (x3 : Int32) (u1 : Option Value) (M : Mem) (r : Int32) (M' : Mem), L93_12 n g0 k x2 x3 M = some (r, M') → pm_ev pmT sc e 93 false (12, [some (.ref g0), u1, some (.int x2), some (.int x3)], [], 129, 17845, hp M) (some (.int r), 129, 17845, hp M') := by
  intro k
  induction k with
  | zero => intro x2 x3 u1 M r M' h; cases h
  | succ k hr12 =>
    intro x2 x3 u1 M r M' h
    rw [L93_12] at h
    refine pe_blk mm_93 2 (s' := (14, [some (.ref g0), u1, some (.int x2), some (.int x3)], [.int x2, .int x3], _, _, _)) rfl ?_
    by_cases q7 : x2 ≤ x3
    · rw [if_pos q7] at h
      refine pe_blk mm_93 1 (s' := (if x2 ≤ x3 then 41 else 17, [some (.ref g0), u1, some (.int x2), some (.int x3)], [], _, _, _)) rfl ?_
      rw [if_pos q7]
      refine pe_blk mm_93 1 (s' := (42, [some (.ref g0), u1, some (.int x2), some (.int x3)], [.int 0], _, _, _)) rfl ?_
      cases h
      exact pe_ret mm_93 rfl rfl
    · rw [if_neg q7] at h
      refine pe_blk mm_93 1 (s' := (if x2 ≤ x3 then 41 else 17, [some (.ref g0), u1, some (.int x2), some (.int x3)], [], _, _, _)) rfl ?_
      rw [if_neg q7]
      refine pe_blk mm_93 2 (s' := (19, [some (.ref g0), u1, some (.int x2), some (.int x3)], [.int x3, .ref g0], _, _, _)) rfl ?_
      obtain ⟨e1, rfl⟩ : ∃ e1, e = e1 + 1 := ⟨e - 1, by omega⟩
      cases hc10 : F116 n g0 x3 M with
      | none => rw [hc10] at h; cases h
      | some w =>
        obtain ⟨v8, M9⟩ := w
        rw [hc10] at h
        dsimp only at h
        refine pe_virt (al := [.int x3]) (a := g0) (L0 := [some (.ref g0), some (.int x3)]) (r1 := (some (.int v8), 129, 17845, hp M9)) mm_93 rfl rfl rfl mm_116 (isD_0 hg0 _) (by have := isD_lt hg0; omega) (by decide) rfl (Nat.le_of_ble_eq_true rfl) (Nat.le_of_ble_eq_true rfl) rfl rfl (F116_ev sc n g0 x3 hg0 _ e1 (by omega) _ _ hc10) ?_
        show pm_ev _ _ _ _ _ (22, [some (.ref g0), u1, some (.int x2), some (.int x3)], [.int v8], _, _, _) _
        by_cases q11 : v8 = 0
        · rw [if_pos q11] at h
          refine pe_blk mm_93 1 (s' := (if v8 = 0 then 35 else 25, [some (.ref g0), u1, some (.int x2), some (.int x3)], [], _, _, _)) rfl ?_
          rw [if_pos q11]
          exact J93_35_ev sc n g0 hg0 (e1 + 1) he (L93_12 n g0 k) hr12 x2 x3 _ _ _ _ h
        · rw [if_neg q11] at h
          refine pe_blk mm_93 1 (s' := (if v8 = 0 then 35 else 25, [some (.ref g0), u1, some (.int x2), some (.int x3)], [], _, _, _)) rfl ?_
          rw [if_neg q11]
          refine pe_blk mm_93 2 (s' := (27, [some (.ref g0), u1, some (.int x2), some (.int x3)], [.int x3, .ref g0], _, _, _)) rfl ?_
          skip
          cases hc14 : F94 n g0 x3 M9 with
          | none => rw [hc14] at h; cases h
          | some w =>
            obtain ⟨v12, M13⟩ := w
            rw [hc14] at h
            dsimp only at h
            refine pe_stat (al := [.int x3, .ref g0]) (L0 := [some (.ref g0), some (.int x3), none, none, none]) (r1 := (some (.int v12), 129, 17845, hp M13)) mm_93 rfl rfl rfl mm_94 rfl (Nat.le_of_ble_eq_true rfl) (Nat.le_of_ble_eq_true rfl) rfl rfl (F94_ev sc n g0 x3 hg0 _ e1 (by omega) _ _ hc14) ?_
            show pm_ev _ _ _ _ _ (30, [some (.ref g0), u1, some (.int x2), some (.int x3)], [.int v12], _, _, _) _
            by_cases q15 : v12 = 0
            · rw [if_pos q15] at h
              refine pe_blk mm_93 1 (s' := (if v12 = 0 then 35 else 33, [some (.ref g0), u1, some (.int x2), some (.int x3)], [], _, _, _)) rfl ?_
              rw [if_pos q15]
              exact J93_35_ev sc n g0 hg0 (e1 + 1) he (L93_12 n g0 k) hr12 x2 x3 _ _ _ _ h
            · rw [if_neg q15] at h
              refine pe_blk mm_93 1 (s' := (if v12 = 0 then 35 else 33, [some (.ref g0), u1, some (.int x2), some (.int x3)], [], _, _, _)) rfl ?_
              rw [if_neg q15]
              refine pe_blk mm_93 1 (s' := (34, [some (.ref g0), u1, some (.int x2), some (.int x3)], [.int 1], _, _, _)) rfl ?_
              cases h
              exact pe_ret mm_93 rfl rfl
/-- ArmExpander$Checker.hasEmptyRepetition -/
def F93 (n : Nat) (g0 : Nat) (a1 : Int32) (M : Mem) : Option (Int32 × Mem) :=
  match F112 n g0 a1 M with | some (v1, M2) => (match F111 n g0 a1 M2 with | some (v4, M5) => (L93_12 n g0 n v1 v4 M5) | none => none) | none => none
set_option maxRecDepth 100000 in
set_option maxHeartbeats 4000000 in
theorem F93_ev (sc : Option (Nat × (Nat → Int32))) (n : Nat) (g0 : Nat) (a1 : Int32) (hg0 : isD g0) (M : Mem) (e : Nat) (he : 3 ≤ e) (r : Int32) (M' : Mem) (h : F93 n g0 a1 M = some (r, M')) : pm_ev pmT sc e 93 false (0, [some (.ref g0), some (.int a1), none, none], [], 129, 17845, hp M) (some (.int r), 129, 17845, hp M') := by
  unfold F93 at h
  refine pe_blk mm_93 2 (s' := (2, [some (.ref g0), some (.int a1), none, none], [.int a1, .ref g0], _, _, _)) rfl ?_
  obtain ⟨e1, rfl⟩ : ∃ e1, e = e1 + 1 := ⟨e - 1, by omega⟩
  cases hc3 : F112 n g0 a1 M with
  | none => rw [hc3] at h; cases h
  | some w =>
    obtain ⟨v1, M2⟩ := w
    rw [hc3] at h
    dsimp only at h
    refine pe_virt (al := [.int a1]) (a := g0) (L0 := [some (.ref g0), some (.int a1)]) (r1 := (some (.int v1), 129, 17845, hp M2)) mm_93 rfl rfl rfl mm_112 (isD_0 hg0 _) (by have := isD_lt hg0; omega) (by decide) rfl (Nat.le_of_ble_eq_true rfl) (Nat.le_of_ble_eq_true rfl) rfl rfl (F112_ev sc n g0 a1 hg0 _ e1 (by omega) _ _ hc3) ?_
    show pm_ev _ _ _ _ _ (5, [some (.ref g0), some (.int a1), none, none], [.int v1], _, _, _) _
    refine pe_blk mm_93 3 (s' := (8, [some (.ref g0), some (.int a1), some (.int v1), none], [.int a1, .ref g0], _, _, _)) rfl ?_
    skip
    cases hc6 : F111 n g0 a1 M2 with
    | none => rw [hc6] at h; cases h
    | some w =>
      obtain ⟨v4, M5⟩ := w
      rw [hc6] at h
      dsimp only at h
      refine pe_virt (al := [.int a1]) (a := g0) (L0 := [some (.ref g0), some (.int a1)]) (r1 := (some (.int v4), 129, 17845, hp M5)) mm_93 rfl rfl rfl mm_111 (isD_0 hg0 _) (by have := isD_lt hg0; omega) (by decide) rfl (Nat.le_of_ble_eq_true rfl) (Nat.le_of_ble_eq_true rfl) rfl rfl (F111_ev sc n g0 a1 hg0 _ e1 (by omega) _ _ hc6) ?_
      show pm_ev _ _ _ _ _ (11, [some (.ref g0), some (.int a1), some (.int v1), none], [.int v4], _, _, _) _
      refine pe_blk mm_93 1 (s' := (12, [some (.ref g0), some (.int a1), some (.int v1), some (.int v4)], [], _, _, _)) rfl ?_
      exact L93_12_ev sc n g0 hg0 (e1 + 1) he n v1 v4 _ _ _ _ h
def J98_35 (n : Nat) (g0 : Nat) (rec12 : Int32 → Int32 → Mem → Option (Int32 × Mem)) (x2 : Int32) (x3 : Int32) (M : Mem) : Option (Int32 × Mem) :=
  rec12 x2 (x3 + 1) M
set_option maxRecDepth 100000 in
set_option maxHeartbeats 4000000 in
theorem J98_35_ev (sc : Option (Nat × (Nat → Int32))) (n : Nat) (g0 : Nat) (hg0 : isD g0) (e : Nat) (he : 3 ≤ e) (rec12 : Int32 → Int32 → Mem → Option (Int32 × Mem)) (hr12 : ∀ (x2 : Int32) (x3 : Int32) (u1 : Option Value) (M : Mem) (r : Int32) (M' : Mem), rec12 x2 x3 M = some (r, M') → pm_ev pmT sc e 98 false (12, [some (.ref g0), u1, some (.int x2), some (.int x3)], [], 129, 17845, hp M) (some (.int r), 129, 17845, hp M')) : ∀ (x2 : Int32) (x3 : Int32) (u1 : Option Value) (M : Mem) (r : Int32) (M' : Mem), J98_35 n g0 rec12 x2 x3 M = some (r, M') → pm_ev pmT sc e 98 false (35, [some (.ref g0), u1, some (.int x2), some (.int x3)], [], 129, 17845, hp M) (some (.int r), 129, 17845, hp M') := by
  intro x2 x3 u1 M r M' h
  unfold J98_35 at h
  refine pe_blk mm_98 2 (s' := (12, [some (.ref g0), u1, some (.int x2), some (.int (x3 + 1))], [], _, _, _)) rfl ?_
  exact hr12 x2 (x3 + 1) _ _ _ _ h
def L98_12 (n : Nat) (g0 : Nat) : Nat → Int32 → Int32 → Mem → Option (Int32 × Mem)
  | 0, _, _, _ => none
  | k + 1, x2, x3, M => if x2 ≤ x3 then (some (0, M)) else (match F116 n g0 x3 M with | some (v8, M9) => (if v8 = 0 then (J98_35 n g0 (L98_12 n g0 k) x2 x3 M9) else (match F99 n g0 x3 M9 with | some (v12, M13) => (if v12 = 0 then (some (1, M13)) else (J98_35 n g0 (L98_12 n g0 k) x2 x3 M13)) | none => none)) | none => none)
set_option maxRecDepth 100000 in
set_option maxHeartbeats 4000000 in
theorem L98_12_ev (sc : Option (Nat × (Nat → Int32))) (n : Nat) (g0 : Nat) (hg0 : isD g0) (e : Nat) (he : 3 ≤ e) : ∀ k : Nat, ∀ (x2 : Int32) (x3 : Int32) (u1 : Option Value) (M : Mem) (r : Int32) (M' : Mem), L98_12 n g0 k x2 x3 M = some (r, M') → pm_ev pmT sc e 98 false (12, [some (.ref g0), u1, some (.int x2), some (.int x3)], [], 129, 17845, hp M) (some (.int r), 129, 17845, hp M') := by
  intro k
  induction k with
  | zero => intro x2 x3 u1 M r M' h; cases h
  | succ k hr12 =>
    intro x2 x3 u1 M r M' h
    rw [L98_12] at h
    refine pe_blk mm_98 2 (s' := (14, [some (.ref g0), u1, some (.int x2), some (.int x3)], [.int x2, .int x3], _, _, _)) rfl ?_
    by_cases q7 : x2 ≤ x3
    · rw [if_pos q7] at h
      refine pe_blk mm_98 1 (s' := (if x2 ≤ x3 then 41 else 17, [some (.ref g0), u1, some (.int x2), some (.int x3)], [], _, _, _)) rfl ?_
      rw [if_pos q7]
      refine pe_blk mm_98 1 (s' := (42, [some (.ref g0), u1, some (.int x2), some (.int x3)], [.int 0], _, _, _)) rfl ?_
      cases h
      exact pe_ret mm_98 rfl rfl
    · rw [if_neg q7] at h
      refine pe_blk mm_98 1 (s' := (if x2 ≤ x3 then 41 else 17, [some (.ref g0), u1, some (.int x2), some (.int x3)], [], _, _, _)) rfl ?_
      rw [if_neg q7]
      refine pe_blk mm_98 2 (s' := (19, [some (.ref g0), u1, some (.int x2), some (.int x3)], [.int x3, .ref g0], _, _, _)) rfl ?_
      obtain ⟨e1, rfl⟩ : ∃ e1, e = e1 + 1 := ⟨e - 1, by omega⟩
      cases hc10 : F116 n g0 x3 M with
      | none => rw [hc10] at h; cases h
      | some w =>
        obtain ⟨v8, M9⟩ := w
        rw [hc10] at h
        dsimp only at h
        refine pe_virt (al := [.int x3]) (a := g0) (L0 := [some (.ref g0), some (.int x3)]) (r1 := (some (.int v8), 129, 17845, hp M9)) mm_98 rfl rfl rfl mm_116 (isD_0 hg0 _) (by have := isD_lt hg0; omega) (by decide) rfl (Nat.le_of_ble_eq_true rfl) (Nat.le_of_ble_eq_true rfl) rfl rfl (F116_ev sc n g0 x3 hg0 _ e1 (by omega) _ _ hc10) ?_
        show pm_ev _ _ _ _ _ (22, [some (.ref g0), u1, some (.int x2), some (.int x3)], [.int v8], _, _, _) _
        by_cases q11 : v8 = 0
        · rw [if_pos q11] at h
          refine pe_blk mm_98 1 (s' := (if v8 = 0 then 35 else 25, [some (.ref g0), u1, some (.int x2), some (.int x3)], [], _, _, _)) rfl ?_
          rw [if_pos q11]
          exact J98_35_ev sc n g0 hg0 (e1 + 1) he (L98_12 n g0 k) hr12 x2 x3 _ _ _ _ h
        · rw [if_neg q11] at h
          refine pe_blk mm_98 1 (s' := (if v8 = 0 then 35 else 25, [some (.ref g0), u1, some (.int x2), some (.int x3)], [], _, _, _)) rfl ?_
          rw [if_neg q11]
          refine pe_blk mm_98 2 (s' := (27, [some (.ref g0), u1, some (.int x2), some (.int x3)], [.int x3, .ref g0], _, _, _)) rfl ?_
          skip
          cases hc14 : F99 n g0 x3 M9 with
          | none => rw [hc14] at h; cases h
          | some w =>
            obtain ⟨v12, M13⟩ := w
            rw [hc14] at h
            dsimp only at h
            refine pe_stat (al := [.int x3, .ref g0]) (L0 := [some (.ref g0), some (.int x3), none, none]) (r1 := (some (.int v12), 129, 17845, hp M13)) mm_98 rfl rfl rfl mm_99 rfl (Nat.le_of_ble_eq_true rfl) (Nat.le_of_ble_eq_true rfl) rfl rfl (F99_ev sc n g0 x3 hg0 _ e1 (by omega) _ _ hc14) ?_
            show pm_ev _ _ _ _ _ (30, [some (.ref g0), u1, some (.int x2), some (.int x3)], [.int v12], _, _, _) _
            by_cases q15 : v12 = 0
            · rw [if_pos q15] at h
              refine pe_blk mm_98 1 (s' := (if v12 = 0 then 33 else 35, [some (.ref g0), u1, some (.int x2), some (.int x3)], [], _, _, _)) rfl ?_
              rw [if_pos q15]
              refine pe_blk mm_98 1 (s' := (34, [some (.ref g0), u1, some (.int x2), some (.int x3)], [.int 1], _, _, _)) rfl ?_
              cases h
              exact pe_ret mm_98 rfl rfl
            · rw [if_neg q15] at h
              refine pe_blk mm_98 1 (s' := (if v12 = 0 then 33 else 35, [some (.ref g0), u1, some (.int x2), some (.int x3)], [], _, _, _)) rfl ?_
              rw [if_neg q15]
              exact J98_35_ev sc n g0 hg0 (e1 + 1) he (L98_12 n g0 k) hr12 x2 x3 _ _ _ _ h
/-- ArmExpander$Checker.hasUselessRepetition -/
def F98 (n : Nat) (g0 : Nat) (a1 : Int32) (M : Mem) : Option (Int32 × Mem) :=
  match F114 n g0 a1 M with | some (v1, M2) => (match F113 n g0 a1 M2 with | some (v4, M5) => (L98_12 n g0 n v1 v4 M5) | none => none) | none => none
set_option maxRecDepth 100000 in
set_option maxHeartbeats 4000000 in
theorem F98_ev (sc : Option (Nat × (Nat → Int32))) (n : Nat) (g0 : Nat) (a1 : Int32) (hg0 : isD g0) (M : Mem) (e : Nat) (he : 3 ≤ e) (r : Int32) (M' : Mem) (h : F98 n g0 a1 M = some (r, M')) : pm_ev pmT sc e 98 false (0, [some (.ref g0), some (.int a1), none, none], [], 129, 17845, hp M) (some (.int r), 129, 17845, hp M') := by
  unfold F98 at h
  refine pe_blk mm_98 2 (s' := (2, [some (.ref g0), some (.int a1), none, none], [.int a1, .ref g0], _, _, _)) rfl ?_
  obtain ⟨e1, rfl⟩ : ∃ e1, e = e1 + 1 := ⟨e - 1, by omega⟩
  cases hc3 : F114 n g0 a1 M with
  | none => rw [hc3] at h; cases h
  | some w =>
    obtain ⟨v1, M2⟩ := w
    rw [hc3] at h
    dsimp only at h
    refine pe_virt (al := [.int a1]) (a := g0) (L0 := [some (.ref g0), some (.int a1)]) (r1 := (some (.int v1), 129, 17845, hp M2)) mm_98 rfl rfl rfl mm_114 (isD_0 hg0 _) (by have := isD_lt hg0; omega) (by decide) rfl (Nat.le_of_ble_eq_true rfl) (Nat.le_of_ble_eq_true rfl) rfl rfl (F114_ev sc n g0 a1 hg0 _ e1 (by omega) _ _ hc3) ?_
    show pm_ev _ _ _ _ _ (5, [some (.ref g0), some (.int a1), none, none], [.int v1], _, _, _) _
    refine pe_blk mm_98 3 (s' := (8, [some (.ref g0), some (.int a1), some (.int v1), none], [.int a1, .ref g0], _, _, _)) rfl ?_
    skip
    cases hc6 : F113 n g0 a1 M2 with
    | none => rw [hc6] at h; cases h
    | some w =>
      obtain ⟨v4, M5⟩ := w
      rw [hc6] at h
      dsimp only at h
      refine pe_virt (al := [.int a1]) (a := g0) (L0 := [some (.ref g0), some (.int a1)]) (r1 := (some (.int v4), 129, 17845, hp M5)) mm_98 rfl rfl rfl mm_113 (isD_0 hg0 _) (by have := isD_lt hg0; omega) (by decide) rfl (Nat.le_of_ble_eq_true rfl) (Nat.le_of_ble_eq_true rfl) rfl rfl (F113_ev sc n g0 a1 hg0 _ e1 (by omega) _ _ hc6) ?_
      show pm_ev _ _ _ _ _ (11, [some (.ref g0), some (.int a1), some (.int v1), none], [.int v4], _, _, _) _
      refine pe_blk mm_98 1 (s' := (12, [some (.ref g0), some (.int a1), some (.int v1), some (.int v4)], [], _, _, _)) rfl ?_
      exact L98_12_ev sc n g0 hg0 (e1 + 1) he n v1 v4 _ _ _ _ h
