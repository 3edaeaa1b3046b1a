/-! The methods as functions over Mem; written by program. -/
def J142_137 (n : Nat) (x3 : Int32) (M : Mem) : Option (Int32 × Mem) :=
  some (x3, M)
set_option maxRecDepth 100000 in
set_option maxHeartbeats 4000000 in
theorem J142_137_ev (sc : Option (Nat × (Nat → Int32))) (n : Nat)  (e : Nat) (he : 41 ≤ e) : ∀ (x3 : Int32) (u0 : Option Value) (u1 : Option Value) (u2 : Option Value) (u4 : Option Value) (u5 : Option Value) (u6 : Option Value) (u7 : Option Value) (u8 : Option Value) (M : Mem) (r : Int32) (M' : Mem), J142_137 n x3 M = some (r, M') → pm_ev pmT sc e 142 false (137, [u0, u1, u2, some (.int x3), u4, u5, u6, u7, u8], [], 129, 17845, hp M) (some (.int r), 129, 17845, hp M') := by
  intro x3 u0 u1 u2 u4 u5 u6 u7 u8 M r M' h
  unfold J142_137 at h
  refine pe_blk mm_142 1 (s' := (138, [u0, u1, u2, some (.int x3), u4, u5, u6, u7, u8], [.int x3], _, _, _)) rfl ?_
  cases h
  exact pe_ret mm_142 rfl rfl
def J142_126 (n : Nat) (x3 : Int32) (M : Mem) : Option (Int32 × Mem) :=
  if x3 = 0 then (match M.2.1 12 4 with | some p9 => (if isR p9 then (match F166 n p9 M with | some (v12, M13) => (some (v12, M13)) | none => none) else none) | none => none) else (match M.2.1 12 4 with | some p15 => (if isR p15 then (match F165 n p15 M with | some (v18, M19) => (J142_137 n x3 M19) | none => none) else none) | none => none)
set_option maxRecDepth 100000 in
set_option maxHeartbeats 4000000 in
theorem J142_126_ev (sc : Option (Nat × (Nat → Int32))) (n : Nat)  (e : Nat) (he : 41 ≤ e) : ∀ (x3 : Int32) (u1 : Option Value) (u2 : Option Value) (u4 : Option Value) (u5 : Option Value) (u6 : Option Value) (u7 : Option Value) (u8 : Option Value) (M : Mem) (r : Int32) (M' : Mem), J142_126 n x3 M = some (r, M') → pm_ev pmT sc e 142 false (126, [some (.ref 12), u1, u2, some (.int x3), u4, u5, u6, u7, u8], [], 129, 17845, hp M) (some (.int r), 129, 17845, hp M') := by
  intro x3 u1 u2 u4 u5 u6 u7 u8 M r M' h
  unfold J142_126 at h
  refine pe_blk mm_142 1 (s' := (127, [some (.ref 12), u1, u2, some (.int x3), u4, u5, u6, u7, u8], [.int x3], _, _, _)) rfl ?_
  by_cases q8 : x3 = 0
  · rw [if_pos q8] at h
    refine pe_blk mm_142 1 (s' := (if x3 = 0 then 139 else 130, [some (.ref 12), u1, u2, some (.int x3), u4, u5, u6, u7, u8], [], _, _, _)) rfl ?_
    rw [if_pos q8]
    refine pe_blk mm_142 1 (s' := (140, [some (.ref 12), u1, u2, some (.int x3), u4, u5, u6, u7, u8], [.ref 12], _, _, _)) rfl ?_
    refine pe_get mm_142 rfl rfl rfl (by decide) rfl ?_
    show pm_ev _ _ _ _ _ (143, [some (.ref 12), u1, u2, some (.int x3), u4, u5, u6, u7, u8], va_rf (M.2.1 12 4) :: [], _, _, _) _
    cases hq11 : M.2.1 12 4 with
    | none => rw [hq11] at h; cases h
    | some p9 =>
      rw [hq11] at h
      dsimp only at h
      by_cases f10 : isR p9
      · rw [if_pos f10] at h
        show pm_ev _ _ _ _ _ (143, [some (.ref 12), u1, u2, some (.int x3), u4, u5, u6, u7, u8], [.ref p9], _, _, _) _
        obtain ⟨e1, rfl⟩ : ∃ e1, e = e1 + 1 := ⟨e - 1, by omega⟩
        cases hc14 : F166 n p9 M with
        | none => rw [hc14] at h; cases h
        | some w =>
          obtain ⟨v12, M13⟩ := w
          rw [hc14] at h
          dsimp only at h
          refine pe_virt (al := []) (a := p9) (L0 := [some (.ref p9)]) (r1 := (some (.int v12), 129, 17845, hp M13)) mm_142 rfl rfl rfl mm_166 (isR_0 f10 _) (by have := isR_lt f10; omega) (by decide) rfl (Nat.le_of_ble_eq_true rfl) (Nat.le_of_ble_eq_true rfl) rfl rfl (F166_ev sc n p9 f10 _ e1 (by omega) _ _ hc14) ?_
          show pm_ev _ _ _ _ _ (146, [some (.ref 12), u1, u2, some (.int x3), u4, u5, u6, u7, u8], [.int v12], _, _, _) _
          cases h
          exact pe_ret mm_142 rfl rfl
      · rw [if_neg f10] at h
        cases h
  · rw [if_neg q8] at h
    refine pe_blk mm_142 1 (s' := (if x3 = 0 then 139 else 130, [some (.ref 12), u1, u2, some (.int x3), u4, u5, u6, u7, u8], [], _, _, _)) rfl ?_
    rw [if_neg q8]
    refine pe_blk mm_142 1 (s' := (131, [some (.ref 12), u1, u2, some (.int x3), u4, u5, u6, u7, u8], [.ref 12], _, _, _)) rfl ?_
    refine pe_get mm_142 rfl rfl rfl (by decide) rfl ?_
    show pm_ev _ _ _ _ _ (134, [some (.ref 12), u1, u2, some (.int x3), u4, u5, u6, u7, u8], va_rf (M.2.1 12 4) :: [], _, _, _) _
    cases hq17 : M.2.1 12 4 with
    | none => rw [hq17] at h; cases h
    | some p15 =>
      rw [hq17] at h
      dsimp only at h
      by_cases f16 : isR p15
      · rw [if_pos f16] at h
        show pm_ev _ _ _ _ _ (134, [some (.ref 12), u1, u2, some (.int x3), u4, u5, u6, u7, u8], [.ref p15], _, _, _) _
        obtain ⟨e1, rfl⟩ : ∃ e1, e = e1 + 1 := ⟨e - 1, by omega⟩
        cases hc20 : F165 n p15 M with
        | none => rw [hc20] at h; cases h
        | some w =>
          obtain ⟨v18, M19⟩ := w
          rw [hc20] at h
          dsimp only at h
          refine pe_virt (al := []) (a := p15) (L0 := [some (.ref p15)]) (r1 := (none, 129, 17845, hp M19)) mm_142 rfl rfl rfl mm_165 (isR_0 f16 _) (by have := isR_lt f16; omega) (by decide) rfl (Nat.le_of_ble_eq_true rfl) (Nat.le_of_ble_eq_true rfl) rfl rfl (F165_ev sc n p15 f16 _ e1 (by omega) _ _ hc20) ?_
          show pm_ev _ _ _ _ _ (137, [some (.ref 12), u1, u2, some (.int x3), u4, u5, u6, u7, u8], [], _, _, _) _
          exact J142_137_ev sc n (e1 + 1) he x3 _ _ _ _ _ _ _ _ _ _ _ h
      · rw [if_neg f16] at h
        cases h
def J142_108 (n : Nat) (rec15 : Int32 → Int32 → Int32 → Int32 → Mem → Option (Int32 × Mem)) (x2 : Int32) (x4 : Int32) (x5 : Int32) (s0 : Int32) (M : Mem) : Option (Int32 × Mem) :=
  match M.2.1 12 4 with | some p41 => (if isR p41 then (match F173 n p41 x4 M with | some (v44, M45) => (rec15 x2 s0 v44 (x5 + 1) M45) | none => none) else none) | none => none
set_option maxRecDepth 100000 in
set_option maxHeartbeats 4000000 in
theorem J142_108_ev (sc : Option (Nat × (Nat → Int32))) (n : Nat)  (e : Nat) (he : 41 ≤ e) (rec15 : Int32 → Int32 → Int32 → Int32 → Mem → Option (Int32 × Mem)) (hr15 : ∀ (x2 : Int32) (x3 : Int32) (x4 : Int32) (x5 : Int32) (u6 : Option Value) (u7 : Option Value) (u8 : Option Value) (M : Mem) (r : Int32) (M' : Mem), rec15 x2 x3 x4 x5 M = some (r, M') → pm_ev pmT sc e 142 false (15, [some (.ref 12), some (.ref 40), some (.int x2), some (.int x3), some (.int x4), some (.int x5), u6, u7, u8], [], 129, 17845, hp M) (some (.int r), 129, 17845, hp M')) : ∀ (x2 : Int32) (x4 : Int32) (x5 : Int32) (s0 : Int32) (u3 : Option Value) (u6 : Option Value) (u7 : Option Value) (u8 : Option Value) (M : Mem) (r : Int32) (M' : Mem), J142_108 n rec15 x2 x4 x5 s0 M = some (r, M') → pm_ev pmT sc e 142 false (108, [some (.ref 12), some (.ref 40), some (.int x2), u3, some (.int x4), some (.int x5), u6, u7, u8], [.int s0], 129, 17845, hp M) (some (.int r), 129, 17845, hp M') := by
  intro x2 x4 x5 s0 u3 u6 u7 u8 M r M' h
  unfold J142_108 at h
  refine pe_blk mm_142 2 (s' := (110, [some (.ref 12), some (.ref 40), some (.int x2), some (.int s0), some (.int x4), some (.int x5), u6, u7, u8], [.ref 12], _, _, _)) rfl ?_
  refine pe_get mm_142 rfl rfl rfl (by decide) rfl ?_
  show pm_ev _ _ _ _ _ (113, [some (.ref 12), some (.ref 40), some (.int x2), some (.int s0), some (.int x4), some (.int x5), u6, u7, u8], va_rf (M.2.1 12 4) :: [], _, _, _) _
  cases hq43 : M.2.1 12 4 with
  | none => rw [hq43] at h; cases h
  | some p41 =>
    rw [hq43] at h
    dsimp only at h
    by_cases f42 : isR p41
    · rw [if_pos f42] at h
      show pm_ev _ _ _ _ _ (113, [some (.ref 12), some (.ref 40), some (.int x2), some (.int s0), some (.int x4), some (.int x5), u6, u7, u8], [.ref p41], _, _, _) _
      refine pe_blk mm_142 1 (s' := (115, [some (.ref 12), some (.ref 40), some (.int x2), some (.int s0), some (.int x4), some (.int x5), u6, u7, u8], [.int x4, .ref p41], _, _, _)) rfl ?_
      obtain ⟨e1, rfl⟩ : ∃ e1, e = e1 + 1 := ⟨e - 1, by omega⟩
      cases hc46 : F173 n p41 x4 M with
      | none => rw [hc46] at h; cases h
      | some w =>
        obtain ⟨v44, M45⟩ := w
        rw [hc46] at h
        dsimp only at h
        refine pe_virt (al := [.int x4]) (a := p41) (L0 := [some (.ref p41), some (.int x4), none]) (r1 := (some (.int v44), 129, 17845, hp M45)) mm_142 rfl rfl rfl mm_173 (isR_0 f42 _) (by have := isR_lt f42; omega) (by decide) rfl (Nat.le_of_ble_eq_true rfl) (Nat.le_of_ble_eq_true rfl) rfl rfl (F173_ev sc n p41 x4 f42 _ e1 (by omega) _ _ hc46) ?_
        show pm_ev _ _ _ _ _ (118, [some (.ref 12), some (.ref 40), some (.int x2), some (.int s0), some (.int x4), some (.int x5), u6, u7, u8], [.int v44], _, _, _) _
        refine pe_blk mm_142 3 (s' := (15, [some (.ref 12), some (.ref 40), some (.int x2), some (.int s0), some (.int v44), some (.int (x5 + 1)), u6, u7, u8], [], _, _, _)) rfl ?_
        exact hr15 x2 s0 v44 (x5 + 1) _ _ _ _ _ _ h
    · rw [if_neg f42] at h
      cases h
def L142_15 (n : Nat) : Nat → Int32 → Int32 → Int32 → Int32 → Mem → Option (Int32 × Mem)
  | 0, _, _, _, _, _ => none
  | k + 1, x2, x3, x4, x5, M => if 10 < x5 then (J142_126 n x3 M) else (if x4 = (-1) then (J142_126 n x3 M) else (if x3 = 0 then (match M.2.1 12 4 with | some p23 => (if isR p23 then (match F170 n p23 x4 M with | some (v26, M27) => (match F143 n x2 v26 M27 with | some (v29, M30) => (match v29 with | some p32 => (if isD p32 then (match M30.2.1 12 4 with | some p47 => (if isR p47 then (match F172 n p47 (x4 + 2) M30 with | some (v50, M51) => (match F145 n p32 (x4 + 3) v50 M51 with | some (v53, M54) => (if 0 ≤ v53 then (match F144 n p32 v53 x4 v50 M54 with | some (v57, M58) => (J142_108 n (L142_15 n k) x2 x4 x5 v57 M58) | none => none) else (J142_108 n (L142_15 n k) x2 x4 x5 v53 M54)) | none => none) | none => none) else none) | none => none) else none) | none => (match M30.2.1 12 4 with | some p35 => (if isR p35 then (match F172 n p35 (x4 + 2) M30 with | some (v38, M39) => (J142_108 n (L142_15 n k) x2 x4 x5 (-2000) M39) | none => none) else none) | none => none)) | none => none) | none => none) else none) | none => none) else (J142_126 n x3 M)))
set_option maxRecDepth 100000 in
set_option maxHeartbeats 4000000 in
theorem L142_15_ev (sc : Option (Nat × (Nat → Int32))) (n : Nat)  (e : Nat) (he : 41 ≤ e) : ∀ k : Nat, ∀ (x2 : Int32) (x3 : Int32) (x4 : Int32) (x5 : Int32) (u6 : Option Value) (u7 : Option Value) (u8 : Option Value) (M : Mem) (r : Int32) (M' : Mem), L142_15 n k x2 x3 x4 x5 M = some (r, M') → pm_ev pmT sc e 142 false (15, [some (.ref 12), some (.ref 40), some (.int x2), some (.int x3), some (.int x4), some (.int x5), u6, u7, u8], [], 129, 17845, hp M) (some (.int r), 129, 17845, hp M') := by
  intro k
  induction k with
  | zero => intro x2 x3 x4 x5 u6 u7 u8 M r M' h; cases h
  | succ k hr15 =>
    intro x2 x3 x4 x5 u6 u7 u8 M r M' h
    rw [L142_15] at h
    refine pe_blk mm_142 2 (s' := (19, [some (.ref 12), some (.ref 40), some (.int x2), some (.int x3), some (.int x4), some (.int x5), u6, u7, u8], [.int 10, .int x5], _, _, _)) rfl ?_
    by_cases q7 : 10 < x5
    · rw [if_pos q7] at h
      refine pe_blk mm_142 1 (s' := (if 10 < x5 then 126 else 22, [some (.ref 12), some (.ref 40), some (.int x2), some (.int x3), some (.int x4), some (.int x5), u6, u7, u8], [], _, _, _)) rfl ?_
      rw [if_pos q7]
      exact J142_126_ev sc n e he x3 _ _ _ _ _ _ _ _ _ _ h
    · rw [if_neg q7] at h
      refine pe_blk mm_142 1 (s' := (if 10 < x5 then 126 else 22, [some (.ref 12), some (.ref 40), some (.int x2), some (.int x3), some (.int x4), some (.int x5), u6, u7, u8], [], _, _, _)) rfl ?_
      rw [if_neg q7]
      refine pe_blk mm_142 2 (s' := (25, [some (.ref 12), some (.ref 40), some (.int x2), some (.int x3), some (.int x4), some (.int x5), u6, u7, u8], [.int (-1), .int x4], _, _, _)) rfl ?_
      by_cases q21 : x4 = (-1)
      · rw [if_pos q21] at h
        refine pe_blk mm_142 1 (s' := (if x4 = (-1) then 126 else 28, [some (.ref 12), some (.ref 40), some (.int x2), some (.int x3), some (.int x4), some (.int x5), u6, u7, u8], [], _, _, _)) rfl ?_
        rw [if_pos q21]
        exact J142_126_ev sc n e he x3 _ _ _ _ _ _ _ _ _ _ h
      · rw [if_neg q21] at h
        refine pe_blk mm_142 1 (s' := (if x4 = (-1) then 126 else 28, [some (.ref 12), some (.ref 40), some (.int x2), some (.int x3), some (.int x4), some (.int x5), u6, u7, u8], [], _, _, _)) rfl ?_
        rw [if_neg q21]
        refine pe_blk mm_142 1 (s' := (29, [some (.ref 12), some (.ref 40), some (.int x2), some (.int x3), some (.int x4), some (.int x5), u6, u7, u8], [.int x3], _, _, _)) rfl ?_
        by_cases q22 : x3 = 0
        · rw [if_pos q22] at h
          refine pe_blk mm_142 1 (s' := (if x3 = 0 then 32 else 126, [some (.ref 12), some (.ref 40), some (.int x2), some (.int x3), some (.int x4), some (.int x5), u6, u7, u8], [], _, _, _)) rfl ?_
          rw [if_pos q22]
          refine pe_blk mm_142 3 (s' := (35, [some (.ref 12), some (.ref 40), some (.int x2), some (.int x3), some (.int x4), some (.int x5), u6, u7, u8], [.ref 12, .int x2, .ref 40], _, _, _)) rfl ?_
          refine pe_get mm_142 rfl rfl rfl (by decide) rfl ?_
          show pm_ev _ _ _ _ _ (38, [some (.ref 12), some (.ref 40), some (.int x2), some (.int x3), some (.int x4), some (.int x5), u6, u7, u8], va_rf (M.2.1 12 4) :: [.int x2, .ref 40], _, _, _) _
          cases hq25 : M.2.1 12 4 with
          | none => rw [hq25] at h; cases h
          | some p23 =>
            rw [hq25] at h
            dsimp only at h
            by_cases f24 : isR p23
            · rw [if_pos f24] at h
              show pm_ev _ _ _ _ _ (38, [some (.ref 12), some (.ref 40), some (.int x2), some (.int x3), some (.int x4), some (.int x5), u6, u7, u8], [.ref p23, .int x2, .ref 40], _, _, _) _
              refine pe_blk mm_142 1 (s' := (40, [some (.ref 12), some (.ref 40), some (.int x2), some (.int x3), some (.int x4), some (.int x5), u6, u7, u8], [.int x4, .ref p23, .int x2, .ref 40], _, _, _)) rfl ?_
              obtain ⟨e1, rfl⟩ : ∃ e1, e = e1 + 1 := ⟨e - 1, by omega⟩
              cases hc28 : F170 n p23 x4 M with
              | none => rw [hc28] at h; cases h
              | some w =>
                obtain ⟨v26, M27⟩ := w
                rw [hc28] at h
                dsimp only at h
                refine pe_virt (al := [.int x4]) (a := p23) (L0 := [some (.ref p23), some (.int x4)]) (r1 := (some (.int v26), 129, 17845, hp M27)) mm_142 rfl rfl rfl mm_170 (isR_0 f24 _) (by have := isR_lt f24; omega) (by decide) rfl (Nat.le_of_ble_eq_true rfl) (Nat.le_of_ble_eq_true rfl) rfl rfl (F170_ev sc n p23 x4 f24 _ e1 (by omega) _ _ hc28) ?_
                show pm_ev _ _ _ _ _ (43, [some (.ref 12), some (.ref 40), some (.int x2), some (.int x3), some (.int x4), some (.int x5), u6, u7, u8], [.int v26, .int x2, .ref 40], _, _, _) _
                skip
                cases hc31 : F143 n x2 v26 M27 with
                | none => rw [hc31] at h; cases h
                | some w =>
                  obtain ⟨v29, M30⟩ := w
                  rw [hc31] at h
                  dsimp only at h
                  refine pe_stat (al := [.int v26, .int x2, .ref 40]) (L0 := [some (.ref 40), some (.int x2), some (.int v26), none]) (r1 := (some (va_rf v29), 129, 17845, hp M30)) mm_142 rfl rfl rfl mm_143 rfl (Nat.le_of_ble_eq_true rfl) (Nat.le_of_ble_eq_true rfl) rfl rfl (F143_ev sc n x2 v26 _ e1 (by omega) _ _ hc31) ?_
                  show pm_ev _ _ _ _ _ (46, [some (.ref 12), some (.ref 40), some (.int x2), some (.int x3), some (.int x4), some (.int x5), u6, u7, u8], va_rf v29 :: [], _, _, _) _
                  cases hq34 : v29 with
                  | none =>
                    rw [hq34] at h
                    dsimp only at h
                    show pm_ev _ _ _ _ _ (46, [some (.ref 12), some (.ref 40), some (.int x2), some (.int x3), some (.int x4), some (.int x5), u6, u7, u8], [.null], _, _, _) _
                    refine pe_blk mm_142 2 (s' := (49, [some (.ref 12), some (.ref 40), some (.int x2), some (.int x3), some (.int x4), some (.int x5), some (.null), u7, u8], [.ref 12], _, _, _)) rfl ?_
                    refine pe_get mm_142 rfl rfl rfl (by decide) rfl ?_
                    show pm_ev _ _ _ _ _ (52, [some (.ref 12), some (.ref 40), some (.int x2), some (.int x3), some (.int x4), some (.int x5), some (.null), u7, u8], va_rf (M30.2.1 12 4) :: [], _, _, _) _
                    cases hq37 : M30.2.1 12 4 with
                    | none => rw [hq37] at h; cases h
                    | some p35 =>
                      rw [hq37] at h
                      dsimp only at h
                      by_cases f36 : isR p35
                      · rw [if_pos f36] at h
                        show pm_ev _ _ _ _ _ (52, [some (.ref 12), some (.ref 40), some (.int x2), some (.int x3), some (.int x4), some (.int x5), some (.null), u7, u8], [.ref p35], _, _, _) _
                        refine pe_blk mm_142 3 (s' := (56, [some (.ref 12), some (.ref 40), some (.int x2), some (.int x3), some (.int x4), some (.int x5), some (.null), u7, u8], [.int (x4 + 2), .ref p35], _, _, _)) rfl ?_
                        skip
                        cases hc40 : F172 n p35 (x4 + 2) M30 with
                        | none => rw [hc40] at h; cases h
                        | some w =>
                          obtain ⟨v38, M39⟩ := w
                          rw [hc40] at h
                          dsimp only at h
                          refine pe_virt (al := [.int (x4 + 2)]) (a := p35) (L0 := [some (.ref p35), some (.int (x4 + 2)), none, none]) (r1 := (some (.int v38), 129, 17845, hp M39)) mm_142 rfl rfl rfl mm_172 (isR_0 f36 _) (by have := isR_lt f36; omega) (by decide) rfl (Nat.le_of_ble_eq_true rfl) (Nat.le_of_ble_eq_true rfl) rfl rfl (F172_ev sc n p35 (x4 + 2) f36 _ e1 (by omega) _ _ hc40) ?_
                          show pm_ev _ _ _ _ _ (59, [some (.ref 12), some (.ref 40), some (.int x2), some (.int x3), some (.int x4), some (.int x5), some (.null), u7, u8], [.int v38], _, _, _) _
                          refine pe_blk mm_142 10 (s' := (108, [some (.ref 12), some (.ref 40), some (.int x2), some (.int x3), some (.int x4), some (.int x5), some (.null), some (.int v38), some (.int (-2000))], [.int (-2000)], _, _, _)) rfl ?_
                          exact J142_108_ev sc n (e1 + 1) he (L142_15 n k) hr15 x2 x4 x5 (-2000) _ _ _ _ _ _ _ h
                      · rw [if_neg f36] at h
                        cases h
                  | some p32 =>
                    rw [hq34] at h
                    dsimp only at h
                    by_cases f33 : isD p32
                    · rw [if_pos f33] at h
                      show pm_ev _ _ _ _ _ (46, [some (.ref 12), some (.ref 40), some (.int x2), some (.int x3), some (.int x4), some (.int x5), u6, u7, u8], [.ref p32], _, _, _) _
                      refine pe_blk mm_142 2 (s' := (49, [some (.ref 12), some (.ref 40), some (.int x2), some (.int x3), some (.int x4), some (.int x5), some (.ref p32), u7, u8], [.ref 12], _, _, _)) rfl ?_
                      refine pe_get mm_142 rfl rfl rfl (by decide) rfl ?_
                      show pm_ev _ _ _ _ _ (52, [some (.ref 12), some (.ref 40), some (.int x2), some (.int x3), some (.int x4), some (.int x5), some (.ref p32), u7, u8], va_rf (M30.2.1 12 4) :: [], _, _, _) _
                      cases hq49 : M30.2.1 12 4 with
                      | none => rw [hq49] at h; cases h
                      | some p47 =>
                        rw [hq49] at h
                        dsimp only at h
                        by_cases f48 : isR p47
                        · rw [if_pos f48] at h
                          show pm_ev _ _ _ _ _ (52, [some (.ref 12), some (.ref 40), some (.int x2), some (.int x3), some (.int x4), some (.int x5), some (.ref p32), u7, u8], [.ref p47], _, _, _) _
                          refine pe_blk mm_142 3 (s' := (56, [some (.ref 12), some (.ref 40), some (.int x2), some (.int x3), some (.int x4), some (.int x5), some (.ref p32), u7, u8], [.int (x4 + 2), .ref p47], _, _, _)) rfl ?_
                          skip
                          cases hc52 : F172 n p47 (x4 + 2) M30 with
                          | none => rw [hc52] at h; cases h
                          | some w =>
                            obtain ⟨v50, M51⟩ := w
                            rw [hc52] at h
                            dsimp only at h
                            refine pe_virt (al := [.int (x4 + 2)]) (a := p47) (L0 := [some (.ref p47), some (.int (x4 + 2)), none, none]) (r1 := (some (.int v50), 129, 17845, hp M51)) mm_142 rfl rfl rfl mm_172 (isR_0 f48 _) (by have := isR_lt f48; omega) (by decide) rfl (Nat.le_of_ble_eq_true rfl) (Nat.le_of_ble_eq_true rfl) rfl rfl (F172_ev sc n p47 (x4 + 2) f48 _ e1 (by omega) _ _ hc52) ?_
                            show pm_ev _ _ _ _ _ (59, [some (.ref 12), some (.ref 40), some (.int x2), some (.int x3), some (.int x4), some (.int x5), some (.ref p32), u7, u8], [.int v50], _, _, _) _
                            refine pe_blk mm_142 9 (s' := (81, [some (.ref 12), some (.ref 40), some (.int x2), some (.int x3), some (.int x4), some (.int x5), some (.ref p32), some (.int v50), u8], [.int v50, .int (x4 + 3), .ref p32, .ref 12], _, _, _)) rfl ?_
                            skip
                            cases hc55 : F145 n p32 (x4 + 3) v50 M51 with
                            | none => rw [hc55] at h; cases h
                            | some w =>
                              obtain ⟨v53, M54⟩ := w
                              rw [hc55] at h
                              dsimp only at h
                              refine pe_virt (al := [.int v50, .int (x4 + 3), .ref p32]) (a := 12) (L0 := [some (.ref 12), some (.ref p32), some (.int (x4 + 3)), some (.int v50), none, none]) (r1 := (some (.int v53), 129, 17845, hp M54)) mm_142 rfl rfl rfl mm_145 rfl (by decide) (by decide) rfl (Nat.le_of_ble_eq_true rfl) (Nat.le_of_ble_eq_true rfl) rfl rfl (F145_ev sc n p32 (x4 + 3) v50 f33 _ e1 (by omega) _ _ hc55) ?_
                              show pm_ev _ _ _ _ _ (84, [some (.ref 12), some (.ref 40), some (.int x2), some (.int x3), some (.int x4), some (.int x5), some (.ref p32), some (.int v50), u8], [.int v53], _, _, _) _
                              refine pe_blk mm_142 2 (s' := (88, [some (.ref 12), some (.ref 40), some (.int x2), some (.int x3), some (.int x4), some (.int x5), some (.ref p32), some (.int v50), some (.int v53)], [.int v53], _, _, _)) rfl ?_
                              by_cases q56 : 0 ≤ v53
                              · rw [if_pos q56] at h
                                refine pe_blk mm_142 1 (s' := (if 0 ≤ v53 then 96 else 91, [some (.ref 12), some (.ref 40), some (.int x2), some (.int x3), some (.int x4), some (.int x5), some (.ref p32), some (.int v50), some (.int v53)], [], _, _, _)) rfl ?_
                                rw [if_pos q56]
                                refine pe_blk mm_142 5 (s' := (105, [some (.ref 12), some (.ref 40), some (.int x2), some (.int x3), some (.int x4), some (.int x5), some (.ref p32), some (.int v50), some (.int v53)], [.int v50, .int x4, .int v53, .ref p32, .ref 12], _, _, _)) rfl ?_
                                skip
                                cases hc59 : F144 n p32 v53 x4 v50 M54 with
                                | none => rw [hc59] at h; cases h
                                | some w =>
                                  obtain ⟨v57, M58⟩ := w
                                  rw [hc59] at h
                                  dsimp only at h
                                  refine pe_virt (al := [.int v50, .int x4, .int v53, .ref p32]) (a := 12) (L0 := [some (.ref 12), some (.ref p32), some (.int v53), some (.int x4), some (.int v50)]) (r1 := (some (.int v57), 129, 17845, hp M58)) mm_142 rfl rfl rfl mm_144 rfl (by decide) (by decide) rfl (Nat.le_of_ble_eq_true rfl) (Nat.le_of_ble_eq_true rfl) rfl rfl (F144_ev sc n p32 v53 x4 v50 f33 _ e1 (by omega) _ _ hc59) ?_
                                  show pm_ev _ _ _ _ _ (108, [some (.ref 12), some (.ref 40), some (.int x2), some (.int x3), some (.int x4), some (.int x5), some (.ref p32), some (.int v50), some (.int v53)], [.int v57], _, _, _) _
                                  exact J142_108_ev sc n (e1 + 1) he (L142_15 n k) hr15 x2 x4 x5 v57 _ _ _ _ _ _ _ h
                              · rw [if_neg q56] at h
                                refine pe_blk mm_142 1 (s' := (if 0 ≤ v53 then 96 else 91, [some (.ref 12), some (.ref 40), some (.int x2), some (.int x3), some (.int x4), some (.int x5), some (.ref p32), some (.int v50), some (.int v53)], [], _, _, _)) rfl ?_
                                rw [if_neg q56]
                                refine pe_blk mm_142 2 (s' := (108, [some (.ref 12), some (.ref 40), some (.int x2), some (.int x3), some (.int x4), some (.int x5), some (.ref p32), some (.int v50), some (.int v53)], [.int v53], _, _, _)) rfl ?_
                                exact J142_108_ev sc n (e1 + 1) he (L142_15 n k) hr15 x2 x4 x5 v53 _ _ _ _ _ _ _ h
                        · rw [if_neg f48] at h
                          cases h
                    · rw [if_neg f33] at h
                      cases h
            · rw [if_neg f24] at h
              cases h
        · rw [if_neg q22] at h
          refine pe_blk mm_142 1 (s' := (if x3 = 0 then 32 else 126, [some (.ref 12), some (.ref 40), some (.int x2), some (.int x3), some (.int x4), some (.int x5), u6, u7, u8], [], _, _, _)) rfl ?_
          rw [if_neg q22]
          exact J142_126_ev sc n e he x3 _ _ _ _ _ _ _ _ _ _ h
/-- ArmExpander$Expander.run -/
def F142 (n : Nat) (a1 : Int32) (M : Mem) : Option (Int32 × Mem) :=
  match M.2.1 12 4 with | some p1 => (if isR p1 then (match F173 n p1 0 M with | some (v4, M5) => (L142_15 n n a1 0 v4 0 M5) | none => none) else none) | none => none
set_option maxRecDepth 100000 in
set_option maxHeartbeats 4000000 in
theorem F142_ev (sc : Option (Nat × (Nat → Int32))) (n : Nat) (a1 : Int32)  (M : Mem) (e : Nat) (he : 41 ≤ e) (r : Int32) (M' : Mem) (h : F142 n a1 M = some (r, M')) : pm_ev pmT sc e 142 false (0, [some (.ref 12), some (.ref 40), some (.int a1), none, none, none, none, none, none], [], 129, 17845, hp M) (some (.int r), 129, 17845, hp M') := by
  unfold F142 at h
  refine pe_blk mm_142 3 (s' := (3, [some (.ref 12), some (.ref 40), some (.int a1), some (.int 0), none, none, none, none, none], [.ref 12], _, _, _)) rfl ?_
  refine pe_get mm_142 rfl rfl rfl (by decide) rfl ?_
  show pm_ev _ _ _ _ _ (6, [some (.ref 12), some (.ref 40), some (.int a1), some (.int 0), none, none, none, none, none], va_rf (M.2.1 12 4) :: [], _, _, _) _
  cases hq3 : M.2.1 12 4 with
  | none => rw [hq3] at h; cases h
  | some p1 =>
    rw [hq3] at h
    dsimp only at h
    by_cases f2 : isR p1
    · rw [if_pos f2] at h
      show pm_ev _ _ _ _ _ (6, [some (.ref 12), some (.ref 40), some (.int a1), some (.int 0), none, none, none, none, none], [.ref p1], _, _, _) _
      refine pe_blk mm_142 1 (s' := (7, [some (.ref 12), some (.ref 40), some (.int a1), some (.int 0), none, none, none, none, none], [.int 0, .ref p1], _, _, _)) rfl ?_
      obtain ⟨e1, rfl⟩ : ∃ e1, e = e1 + 1 := ⟨e - 1, by omega⟩
      cases hc6 : F173 n p1 0 M with
      | none => rw [hc6] at h; cases h
      | some w =>
        obtain ⟨v4, M5⟩ := w
        rw [hc6] at h
        dsimp only at h
        refine pe_virt (al := [.int 0]) (a := p1) (L0 := [some (.ref p1), some (.int 0), none]) (r1 := (some (.int v4), 129, 17845, hp M5)) mm_142 rfl rfl rfl mm_173 (isR_0 f2 _) (by have := isR_lt f2; omega) (by decide) rfl (Nat.le_of_ble_eq_true rfl) (Nat.le_of_ble_eq_true rfl) rfl rfl (F173_ev sc n p1 0 f2 _ e1 (by omega) _ _ hc6) ?_
        show pm_ev _ _ _ _ _ (10, [some (.ref 12), some (.ref 40), some (.int a1), some (.int 0), none, none, none, none, none], [.int v4], _, _, _) _
        refine pe_blk mm_142 3 (s' := (15, [some (.ref 12), some (.ref 40), some (.int a1), some (.int 0), some (.int v4), some (.int 0), none, none, none], [], _, _, _)) rfl ?_
        exact L142_15_ev sc n (e1 + 1) he n a1 0 v4 0 _ _ _ _ _ _ h
    · rw [if_neg f2] at h
      cases h
def J3_45 (n : Nat) (s0 : Int32) (M : Mem) : Option (Int32 × Mem) :=
  some (s0, M)
set_option maxRecDepth 100000 in
set_option maxHeartbeats 4000000 in
theorem J3_45_ev (sc : Option (Nat × (Nat → Int32))) (n : Nat)  (e : Nat) (he : 42 ≤ e) : ∀ (s0 : Int32) (u0 : Option Value) (u1 : Option Value) (M : Mem) (r : Int32) (M' : Mem), J3_45 n s0 M = some (r, M') → pm_ev pmT sc e 3 false (45, [u0, u1], [.int s0], 129, 17845, hp M) (some (.int r), 129, 17845, hp M') := by
  intro s0 u0 u1 M r M' h
  unfold J3_45 at h
  cases h
  exact pe_ret mm_3 rfl rfl
def J3_19 (n : Nat) (x1 : Int32) (M : Mem) : Option (Int32 × Mem) :=
  if x1 = (-1) then (match F142 n (M.1 0 5) M with | some (v8, M9) => (J3_45 n v8 M9) | none => none) else (J3_45 n ((-1) - x1) M)
set_option maxRecDepth 100000 in
set_option maxHeartbeats 4000000 in
theorem J3_19_ev (sc : Option (Nat × (Nat → Int32))) (n : Nat)  (e : Nat) (he : 42 ≤ e) : ∀ (x1 : Int32) (M : Mem) (r : Int32) (M' : Mem), J3_19 n x1 M = some (r, M') → pm_ev pmT sc e 3 false (19, [some (.ref 0), some (.int x1)], [], 129, 17845, hp M) (some (.int r), 129, 17845, hp M') := by
  intro x1  M r M' h
  unfold J3_19 at h
  refine pe_blk mm_3 2 (s' := (21, [some (.ref 0), some (.int x1)], [.int (-1), .int x1], _, _, _)) rfl ?_
  by_cases q7 : x1 = (-1)
  · rw [if_pos q7] at h
    refine pe_blk mm_3 1 (s' := (if x1 = (-1) then 30 else 24, [some (.ref 0), some (.int x1)], [], _, _, _)) rfl ?_
    rw [if_pos q7]
    refine pe_blk mm_3 1 (s' := (31, [some (.ref 0), some (.int x1)], [.ref 0], _, _, _)) rfl ?_
    refine pe_get mm_3 rfl rfl rfl (by decide) rfl ?_
    refine pe_blk mm_3 1 (s' := (35, [some (.ref 0), some (.int x1)], [.ref 0, .ref 12], _, _, _)) rfl ?_
    refine pe_get mm_3 rfl rfl rfl (by decide) rfl ?_
    refine pe_blk mm_3 1 (s' := (39, [some (.ref 0), some (.int x1)], [.ref 0, .ref 40, .ref 12], _, _, _)) rfl ?_
    refine pe_get mm_3 rfl rfl rfl (by decide) rfl ?_
    obtain ⟨e1, rfl⟩ : ∃ e1, e = e1 + 1 := ⟨e - 1, by omega⟩
    cases hc10 : F142 n (M.1 0 5) M with
    | none => rw [hc10] at h; cases h
    | some w =>
      obtain ⟨v8, M9⟩ := w
      rw [hc10] at h
      dsimp only at h
      refine pe_virt (al := [.int (M.1 0 5), .ref 40]) (a := 12) (L0 := [some (.ref 12), some (.ref 40), some (.int (M.1 0 5)), none, none, none, none, none, none]) (r1 := (some (.int v8), 129, 17845, hp M9)) mm_3 rfl rfl rfl mm_142 rfl (by decide) (by decide) rfl (Nat.le_of_ble_eq_true rfl) (Nat.le_of_ble_eq_true rfl) rfl rfl (F142_ev sc n (M.1 0 5) _ e1 (by omega) _ _ hc10) ?_
      show pm_ev _ _ _ _ _ (45, [some (.ref 0), some (.int x1)], [.int v8], _, _, _) _
      exact J3_45_ev sc n (e1 + 1) he v8 _ _ _ _ _ h
  · rw [if_neg q7] at h
    refine pe_blk mm_3 1 (s' := (if x1 = (-1) then 30 else 24, [some (.ref 0), some (.int x1)], [], _, _, _)) rfl ?_
    rw [if_neg q7]
    refine pe_blk mm_3 4 (s' := (45, [some (.ref 0), some (.int x1)], [.int ((-1) - x1)], _, _, _)) rfl ?_
    exact J3_45_ev sc n e he ((-1) - x1) _ _ _ _ _ h
/-- ArmExpander.expand -/
def F3 (n : Nat) (M : Mem) : Option (Int32 × Mem) :=
  match F139 n M with | some (v1, M2) => (match F198 n M2 with | some (v4, M5) => (J3_19 n v1 M5) | none => none) | none => none
set_option maxRecDepth 100000 in
set_option maxHeartbeats 4000000 in
theorem F3_ev (sc : Option (Nat × (Nat → Int32))) (n : Nat)  (M : Mem) (e : Nat) (he : 42 ≤ e) (r : Int32) (M' : Mem) (h : F3 n M = some (r, M')) : pm_ev pmT sc e 3 false (0, [some (.ref 0), none], [], 129, 17845, hp M) (some (.int r), 129, 17845, hp M') := by
  unfold F3 at h
  refine pe_blk mm_3 1 (s' := (1, [some (.ref 0), none], [.ref 0], _, _, _)) rfl ?_
  refine pe_get mm_3 rfl rfl rfl (by decide) rfl ?_
  refine pe_blk mm_3 1 (s' := (5, [some (.ref 0), none], [.ref 0, .ref 12], _, _, _)) rfl ?_
  refine pe_get mm_3 rfl rfl rfl (by decide) rfl ?_
  obtain ⟨e1, rfl⟩ : ∃ e1, e = e1 + 1 := ⟨e - 1, by omega⟩
  cases hc3 : F139 n M with
  | none => rw [hc3] at h; cases h
  | some w =>
    obtain ⟨v1, M2⟩ := w
    rw [hc3] at h
    dsimp only at h
    refine pe_virt (al := [.ref 1]) (a := 12) (L0 := [some (.ref 12), some (.ref 1), none]) (r1 := (some (.int v1), 129, 17845, hp M2)) mm_3 rfl rfl rfl mm_139 rfl (by decide) (by decide) rfl (Nat.le_of_ble_eq_true rfl) (Nat.le_of_ble_eq_true rfl) rfl rfl (F139_ev sc n _ e1 (by omega) _ _ hc3) ?_
    show pm_ev _ _ _ _ _ (11, [some (.ref 0), none], [.int v1], _, _, _) _
    refine pe_blk mm_3 2 (s' := (13, [some (.ref 0), some (.int v1)], [.ref 0], _, _, _)) rfl ?_
    refine pe_get mm_3 rfl rfl rfl (by decide) rfl ?_
    skip
    cases hc6 : F198 n M2 with
    | none => rw [hc6] at h; cases h
    | some w =>
      obtain ⟨v4, M5⟩ := w
      rw [hc6] at h
      dsimp only at h
      refine pe_virt (al := []) (a := 1) (L0 := [some (.ref 1)]) (r1 := (none, 129, 17845, hp M5)) mm_3 rfl rfl rfl mm_198 rfl (by decide) (by decide) rfl (Nat.le_of_ble_eq_true rfl) (Nat.le_of_ble_eq_true rfl) rfl rfl (F198_ev sc n _ e1 (by omega) _ _ hc6) ?_
      show pm_ev _ _ _ _ _ (19, [some (.ref 0), some (.int v1)], [], _, _, _) _
      exact J3_19_ev sc n (e1 + 1) he v1 _ _ _ h
