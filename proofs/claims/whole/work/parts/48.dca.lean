/-! The methods as functions over Mem; written by program. -/
def J143_23 (n : Nat) (x3 : Int32) (M : Mem) : Option (Option Nat × Mem) :=
  if x3 < 0 ∨ 6 ≤ (x3 : Int32).toNatClampNeg then none else (match m_pl (x3 : Int32).toNatClampNeg with | some p11 => (if isD p11 then (some (some p11, M)) else none) | none => none)
set_option maxRecDepth 100000 in
set_option maxHeartbeats 4000000 in
theorem J143_23_ev (sc : Option (Nat × (Nat → Int32))) (n : Nat)  (e : Nat) (he : 2 ≤ e) : ∀ (x3 : Int32) (u1 : Option Value) (u2 : Option Value) (M : Mem) (r : Option Nat) (M' : Mem), J143_23 n x3 M = some (r, M') → pm_ev pmT sc e 143 false (23, [some (.ref 40), u1, u2, some (.int x3)], [], 129, 17845, hp M) (some (va_rf r), 129, 17845, hp M') := by
  intro x3 u1 u2 M r M' h
  unfold J143_23 at h
  refine pe_blk mm_143 2 (s' := (25, [some (.ref 40), u1, u2, some (.int x3)], [.int x3, .ref 40], _, _, _)) rfl ?_
  by_cases q10 : x3 < 0 ∨ 6 ≤ (x3 : Int32).toNatClampNeg
  · rw [if_pos q10] at h
    cases h
  · rw [if_neg q10] at h
    refine pe_pl mm_143 rfl q10 ?_
    show pm_ev _ _ _ _ _ (26, [some (.ref 40), u1, u2, some (.int x3)], va_rf (m_pl (x3 : Int32).toNatClampNeg) :: [], _, _, _) _
    cases hq13 : m_pl (x3 : Int32).toNatClampNeg with
    | none => rw [hq13] at h; cases h
    | some p11 =>
      rw [hq13] at h
      dsimp only at h
      by_cases f12 : isD p11
      · rw [if_pos f12] at h
        show pm_ev _ _ _ _ _ (26, [some (.ref 40), u1, u2, some (.int x3)], [.ref p11], _, _, _) _
        cases h
        exact pe_ret mm_143 rfl rfl
      · rw [if_neg f12] at h
        cases h
def J143_27 (n : Nat) (rec9 : Int32 → Int32 → Mem → Option (Option Nat × Mem)) (x2 : Int32) (x3 : Int32) (M : Mem) : Option (Option Nat × Mem) :=
  rec9 x2 (x3 + (-1)) M
set_option maxRecDepth 100000 in
set_option maxHeartbeats 4000000 in
theorem J143_27_ev (sc : Option (Nat × (Nat → Int32))) (n : Nat)  (e : Nat) (he : 2 ≤ e) (rec9 : Int32 → Int32 → Mem → Option (Option Nat × Mem)) (hr9 : ∀ (x2 : Int32) (x3 : Int32) (u1 : Option Value) (M : Mem) (r : Option Nat) (M' : Mem), rec9 x2 x3 M = some (r, M') → pm_ev pmT sc e 143 false (9, [some (.ref 40), u1, some (.int x2), some (.int x3)], [], 129, 17845, hp M) (some (va_rf r), 129, 17845, hp M')) : ∀ (x2 : Int32) (x3 : Int32) (u1 : Option Value) (M : Mem) (r : Option Nat) (M' : Mem), J143_27 n rec9 x2 x3 M = some (r, M') → pm_ev pmT sc e 143 false (27, [some (.ref 40), u1, some (.int x2), some (.int x3)], [], 129, 17845, hp M) (some (va_rf r), 129, 17845, hp M') := by
  intro x2 x3 u1 M r M' h
  unfold J143_27 at h
  refine pe_blk mm_143 2 (s' := (9, [some (.ref 40), u1, some (.int x2), some (.int (x3 + (-1)))], [], _, _, _)) rfl ?_
  exact hr9 x2 (x3 + (-1)) _ _ _ _ h
def L143_9 (n : Nat) : Nat → Int32 → Int32 → Mem → Option (Option Nat × Mem)
  | 0, _, _, _ => none
  | k + 1, x2, x3, M => if x3 < 0 then (some (none, M)) else (if x3 < 0 ∨ 6 ≤ (x3 : Int32).toNatClampNeg then none else (match m_pl (x3 : Int32).toNatClampNeg with | some p3 => (if isD p3 then (match F107 n p3 M with | some (v6, M7) => (if v6 = x2 then (J143_23 n x3 M7) else (J143_27 n (L143_9 n k) x2 x3 M7)) | none => none) else none) | none => none))
set_option maxRecDepth 100000 in
set_option maxHeartbeats 4000000 in
theorem L143_9_ev (sc : Option (Nat × (Nat → Int32))) (n : Nat)  (e : Nat) (he : 2 ≤ e) : ∀ k : Nat, ∀ (x2 : Int32) (x3 : Int32) (u1 : Option Value) (M : Mem) (r : Option Nat) (M' : Mem), L143_9 n k x2 x3 M = some (r, M') → pm_ev pmT sc e 143 false (9, [some (.ref 40), u1, some (.int x2), some (.int x3)], [], 129, 17845, hp M) (some (va_rf r), 129, 17845, hp M') := by
  intro k
  induction k with
  | zero => intro x2 x3 u1 M r M' h; cases h
  | succ k hr9 =>
    intro x2 x3 u1 M r M' h
    rw [L143_9] at h
    refine pe_blk mm_143 1 (s' := (10, [some (.ref 40), u1, some (.int x2), some (.int x3)], [.int x3], _, _, _)) rfl ?_
    by_cases q1 : x3 < 0
    · rw [if_pos q1] at h
      refine pe_blk mm_143 1 (s' := (if x3 < 0 then 33 else 13, [some (.ref 40), u1, some (.int x2), some (.int x3)], [], _, _, _)) rfl ?_
      rw [if_pos q1]
      refine pe_blk mm_143 1 (s' := (34, [some (.ref 40), u1, some (.int x2), some (.int x3)], [.null], _, _, _)) rfl ?_
      cases h
      exact pe_ret mm_143 rfl rfl
    · rw [if_neg q1] at h
      refine pe_blk mm_143 1 (s' := (if x3 < 0 then 33 else 13, [some (.ref 40), u1, some (.int x2), some (.int x3)], [], _, _, _)) rfl ?_
      rw [if_neg q1]
      refine pe_blk mm_143 2 (s' := (15, [some (.ref 40), u1, some (.int x2), some (.int x3)], [.int x3, .ref 40], _, _, _)) rfl ?_
      by_cases q2 : x3 < 0 ∨ 6 ≤ (x3 : Int32).toNatClampNeg
      · rw [if_pos q2] at h
        cases h
      · rw [if_neg q2] at h
        refine pe_pl mm_143 rfl q2 ?_
        show pm_ev _ _ _ _ _ (16, [some (.ref 40), u1, some (.int x2), some (.int x3)], va_rf (m_pl (x3 : Int32).toNatClampNeg) :: [], _, _, _) _
        cases hq5 : m_pl (x3 : Int32).toNatClampNeg with
        | none => rw [hq5] at h; cases h
        | some p3 =>
          rw [hq5] at h
          dsimp only at h
          by_cases f4 : isD p3
          · rw [if_pos f4] at h
            show pm_ev _ _ _ _ _ (16, [some (.ref 40), u1, some (.int x2), some (.int x3)], [.ref p3], _, _, _) _
            obtain ⟨e1, rfl⟩ : ∃ e1, e = e1 + 1 := ⟨e - 1, by omega⟩
            cases hc8 : F107 n p3 M with
            | none => rw [hc8] at h; cases h
            | some w =>
              obtain ⟨v6, M7⟩ := w
              rw [hc8] at h
              dsimp only at h
              refine pe_virt (al := []) (a := p3) (L0 := [some (.ref p3)]) (r1 := (some (.int v6), 129, 17845, hp M7)) mm_143 rfl rfl rfl mm_107 (isD_0 f4 _) (by have := isD_lt f4; omega) (by decide) rfl (Nat.le_of_ble_eq_true rfl) (Nat.le_of_ble_eq_true rfl) rfl rfl (F107_ev sc n p3 f4 _ e1 (by omega) _ _ hc8) ?_
              show pm_ev _ _ _ _ _ (19, [some (.ref 40), u1, some (.int x2), some (.int x3)], [.int v6], _, _, _) _
              refine pe_blk mm_143 1 (s' := (20, [some (.ref 40), u1, some (.int x2), some (.int x3)], [.int x2, .int v6], _, _, _)) rfl ?_
              by_cases q9 : v6 = x2
              · rw [if_pos q9] at h
                refine pe_blk mm_143 1 (s' := (if v6 = x2 then 23 else 27, [some (.ref 40), u1, some (.int x2), some (.int x3)], [], _, _, _)) rfl ?_
                rw [if_pos q9]
                exact J143_23_ev sc n (e1 + 1) he x3 _ _ _ _ _ h
              · rw [if_neg q9] at h
                refine pe_blk mm_143 1 (s' := (if v6 = x2 then 23 else 27, [some (.ref 40), u1, some (.int x2), some (.int x3)], [], _, _, _)) rfl ?_
                rw [if_neg q9]
                exact J143_27_ev sc n (e1 + 1) he (L143_9 n k) hr9 x2 x3 _ _ _ _ h
          · rw [if_neg f4] at h
            cases h
/-- ArmExpander$Expander.latest -/
def F143 (n : Nat) (a1 : Int32) (a2 : Int32) (M : Mem) : Option (Option Nat × Mem) :=
  L143_9 n n a2 ((if 6 < a1 then 6 else a1) - 1) M
set_option maxRecDepth 100000 in
set_option maxHeartbeats 4000000 in
theorem F143_ev (sc : Option (Nat × (Nat → Int32))) (n : Nat) (a1 : Int32) (a2 : Int32)  (M : Mem) (e : Nat) (he : 2 ≤ e) (r : Option Nat) (M' : Mem) (h : F143 n a1 a2 M = some (r, M')) : pm_ev pmT sc e 143 false (0, [some (.ref 40), some (.int a1), some (.int a2), none], [], 129, 17845, hp M) (some (va_rf r), 129, 17845, hp M') := by
  unfold F143 at h
  refine pe_blk mm_143 2 (s' := (2, [some (.ref 40), some (.int a1), some (.int a2), none], [.ref 40, .int a1], _, _, _)) rfl ?_
  refine pe_alen mm_143 rfl rfl (by decide) (by decide) ?_
  show pm_ev _ _ _ _ _ (3, [some (.ref 40), some (.int a1), some (.int a2), none], [.int 6, .int a1], _, _, _) _
  refine pe_min mm_143 rfl rfl (by omega) (Nat.le_of_ble_eq_true rfl) ?_
  show pm_ev _ _ _ _ _ (6, [some (.ref 40), some (.int a1), some (.int a2), none], [.int (if 6 < a1 then 6 else a1)], _, _, _) _
  refine pe_blk mm_143 3 (s' := (9, [some (.ref 40), some (.int a1), some (.int a2), some (.int ((if 6 < a1 then 6 else a1) - 1))], [], _, _, _)) rfl ?_
  exact L143_9_ev sc n e he n a2 ((if 6 < a1 then 6 else a1) - 1) _ _ _ _ h
def J201_118 (n : Nat) (s0 : Int32) (M : Mem) : Option (Int32 × Mem) :=
  some (s0, M)
set_option maxRecDepth 100000 in
set_option maxHeartbeats 4000000 in
theorem J201_118_ev (sc : Option (Nat × (Nat → Int32))) (n : Nat)  (e : Nat) (he : 5 ≤ e) : ∀ (s0 : Int32) (u0 : Option Value) (u1 : Option Value) (M : Mem) (r : Int32) (M' : Mem), J201_118 n s0 M = some (r, M') → pm_ev pmT sc e 201 false (118, [u0, u1], [.int s0], 129, 17845, hp M) (some (.int r), 129, 17845, hp M') := by
  intro s0 u0 u1 M r M' h
  unfold J201_118 at h
  cases h
  exact pe_ret mm_201 rfl rfl
def J201_117 (n : Nat) (M : Mem) : Option (Int32 × Mem) :=
  J201_118 n (-1) M
set_option maxRecDepth 100000 in
set_option maxHeartbeats 4000000 in
theorem J201_117_ev (sc : Option (Nat × (Nat → Int32))) (n : Nat)  (e : Nat) (he : 5 ≤ e) : ∀ (u0 : Option Value) (u1 : Option Value) (M : Mem) (r : Int32) (M' : Mem), J201_117 n  M = some (r, M') → pm_ev pmT sc e 201 false (117, [u0, u1], [], 129, 17845, hp M) (some (.int r), 129, 17845, hp M') := by
  intro u0 u1 M r M' h
  unfold J201_117 at h
  refine pe_blk mm_201 1 (s' := (118, [u0, u1], [.int (-1)], _, _, _)) rfl ?_
  exact J201_118_ev sc n e he (-1) _ _ _ _ _ h
def J201_113 (n : Nat) (x1 : Int32) (M : Mem) : Option (Int32 × Mem) :=
  J201_118 n x1 M
set_option maxRecDepth 100000 in
set_option maxHeartbeats 4000000 in
theorem J201_113_ev (sc : Option (Nat × (Nat → Int32))) (n : Nat)  (e : Nat) (he : 5 ≤ e) : ∀ (x1 : Int32) (u0 : Option Value) (M : Mem) (r : Int32) (M' : Mem), J201_113 n x1 M = some (r, M') → pm_ev pmT sc e 201 false (113, [u0, some (.int x1)], [], 129, 17845, hp M) (some (.int r), 129, 17845, hp M') := by
  intro x1 u0 M r M' h
  unfold J201_113 at h
  refine pe_blk mm_201 2 (s' := (118, [u0, some (.int x1)], [.int x1], _, _, _)) rfl ?_
  exact J201_118_ev sc n e he x1 _ _ _ _ _ h
def J201_91 (n : Nat) (x1 : Int32) (M : Mem) : Option (Int32 × Mem) :=
  match F206 n x1 M with | some (v10, M11) => (if v10 = 0 then (if (ixv (((x1 : Int32).toUInt32 % 65536).toInt32)) < 0 then (J201_117 n M11) else (J201_113 n x1 M11)) else (match F203 n M11 with | some (v15, M16) => (some (v15, M16)) | none => none)) | none => none
set_option maxRecDepth 100000 in
set_option maxHeartbeats 4000000 in
theorem J201_91_ev (sc : Option (Nat × (Nat → Int32))) (n : Nat)  (e : Nat) (he : 5 ≤ e) : ∀ (x1 : Int32) (M : Mem) (r : Int32) (M' : Mem), J201_91 n x1 M = some (r, M') → pm_ev pmT sc e 201 false (91, [some (.ref 1), some (.int x1)], [], 129, 17845, hp M) (some (.int r), 129, 17845, hp M') := by
  intro x1  M r M' h
  unfold J201_91 at h
  refine pe_blk mm_201 1 (s' := (92, [some (.ref 1), some (.int x1)], [.int x1], _, _, _)) rfl ?_
  obtain ⟨e1, rfl⟩ : ∃ e1, e = e1 + 1 := ⟨e - 1, by omega⟩
  cases hc12 : F206 n x1 M with
  | none => rw [hc12] at h; cases h
  | some w =>
    obtain ⟨v10, M11⟩ := w
    rw [hc12] at h
    dsimp only at h
    refine pe_stat (al := [.int x1]) (L0 := [some (.int x1)]) (r1 := (some (.int v10), 129, 17845, hp M11)) mm_201 rfl rfl rfl mm_206 rfl (Nat.le_of_ble_eq_true rfl) (Nat.le_of_ble_eq_true rfl) rfl rfl (F206_ev sc n x1 _ e1 (by omega) _ _ hc12) ?_
    show pm_ev _ _ _ _ _ (95, [some (.ref 1), some (.int x1)], [.int v10], _, _, _) _
    by_cases q13 : v10 = 0
    · rw [if_pos q13] at h
      refine pe_blk mm_201 1 (s' := (if v10 = 0 then 103 else 98, [some (.ref 1), some (.int x1)], [], _, _, _)) rfl ?_
      rw [if_pos q13]
      refine pe_blk mm_201 3 (s' := (107, [some (.ref 1), some (.int x1)], [.int (((x1 : Int32).toUInt32 % 65536).toInt32), .retAddr 1], _, _, _)) rfl ?_
      skip
      refine pe_virtS (al := [.int (((x1 : Int32).toUInt32 % 65536).toInt32)]) (L0 := [some (.retAddr 1), some (.int (((x1 : Int32).toUInt32 % 65536).toInt32))]) (r1 := (some (.int (ixv (((x1 : Int32).toUInt32 % 65536).toInt32))), 129, 17845, hp M11)) mm_201 rfl rfl rfl mm_215 rfl (Nat.le_of_ble_eq_true rfl) (Nat.le_of_ble_eq_true rfl) rfl rfl (ix_ev sc e1 (by omega) _ _) ?_
      show pm_ev _ _ _ _ _ (110, [some (.ref 1), some (.int x1)], [.int (ixv (((x1 : Int32).toUInt32 % 65536).toInt32))], _, _, _) _
      by_cases q14 : (ixv (((x1 : Int32).toUInt32 % 65536).toInt32)) < 0
      · rw [if_pos q14] at h
        refine pe_blk mm_201 1 (s' := (if (ixv (((x1 : Int32).toUInt32 % 65536).toInt32)) < 0 then 117 else 113, [some (.ref 1), some (.int x1)], [], _, _, _)) rfl ?_
        rw [if_pos q14]
        exact J201_117_ev sc n (e1 + 1) he _ _ _ _ _ h
      · rw [if_neg q14] at h
        refine pe_blk mm_201 1 (s' := (if (ixv (((x1 : Int32).toUInt32 % 65536).toInt32)) < 0 then 117 else 113, [some (.ref 1), some (.int x1)], [], _, _, _)) rfl ?_
        rw [if_neg q14]
        exact J201_113_ev sc n (e1 + 1) he x1 _ _ _ _ h
    · rw [if_neg q13] at h
      refine pe_blk mm_201 1 (s' := (if v10 = 0 then 103 else 98, [some (.ref 1), some (.int x1)], [], _, _, _)) rfl ?_
      rw [if_neg q13]
      refine pe_blk mm_201 1 (s' := (99, [some (.ref 1), some (.int x1)], [.ref 1], _, _, _)) rfl ?_
      skip
      cases hc17 : F203 n M11 with
      | none => rw [hc17] at h; cases h
      | some w =>
        obtain ⟨v15, M16⟩ := w
        rw [hc17] at h
        dsimp only at h
        refine pe_virt (al := []) (a := 1) (L0 := [some (.ref 1), none, none, none]) (r1 := (some (.int v15), 129, 17845, hp M16)) mm_201 rfl rfl rfl mm_203 rfl (by decide) (by decide) rfl (Nat.le_of_ble_eq_true rfl) (Nat.le_of_ble_eq_true rfl) rfl rfl (F203_ev sc n _ e1 (by omega) _ _ hc17) ?_
        show pm_ev _ _ _ _ _ (102, [some (.ref 1), some (.int x1)], [.int v15], _, _, _) _
        cases h
        exact pe_ret mm_201 rfl rfl
def J201_86 (n : Nat) (M : Mem) : Option (Int32 × Mem) :=
  match F202 n M with | some (v18, M19) => (some (v18, M19)) | none => none
set_option maxRecDepth 100000 in
set_option maxHeartbeats 4000000 in
theorem J201_86_ev (sc : Option (Nat × (Nat → Int32))) (n : Nat)  (e : Nat) (he : 5 ≤ e) : ∀ (u1 : Option Value) (M : Mem) (r : Int32) (M' : Mem), J201_86 n  M = some (r, M') → pm_ev pmT sc e 201 false (86, [some (.ref 1), u1], [], 129, 17845, hp M) (some (.int r), 129, 17845, hp M') := by
  intro u1 M r M' h
  unfold J201_86 at h
  refine pe_blk mm_201 1 (s' := (87, [some (.ref 1), u1], [.ref 1], _, _, _)) rfl ?_
  obtain ⟨e1, rfl⟩ : ∃ e1, e = e1 + 1 := ⟨e - 1, by omega⟩
  cases hc20 : F202 n M with
  | none => rw [hc20] at h; cases h
  | some w =>
    obtain ⟨v18, M19⟩ := w
    rw [hc20] at h
    dsimp only at h
    refine pe_virt (al := []) (a := 1) (L0 := [some (.ref 1), none, none]) (r1 := (some (.int v18), 129, 17845, hp M19)) mm_201 rfl rfl rfl mm_202 rfl (by decide) (by decide) rfl (Nat.le_of_ble_eq_true rfl) (Nat.le_of_ble_eq_true rfl) rfl rfl (F202_ev sc n _ e1 (by omega) _ _ hc20) ?_
    show pm_ev _ _ _ _ _ (90, [some (.ref 1), u1], [.int v18], _, _, _) _
    cases h
    exact pe_ret mm_201 rfl rfl
def J201_69 (n : Nat) (x1 : Int32) (M : Mem) : Option (Int32 × Mem) :=
  mlet (m_i M 1 2 ((M.1 1 2) + 1)) (fun M5 => match F205 n x1 M5 with | some (v6, M7) => (if v6 = 0 then (J201_91 n x1 M7) else (J201_86 n M7)) | none => none)
set_option maxRecDepth 100000 in
set_option maxHeartbeats 4000000 in
theorem J201_69_ev (sc : Option (Nat × (Nat → Int32))) (n : Nat)  (e : Nat) (he : 5 ≤ e) : ∀ (x1 : Int32) (M : Mem) (r : Int32) (M' : Mem), J201_69 n x1 M = some (r, M') → pm_ev pmT sc e 201 false (69, [some (.ref 1), some (.int x1)], [], 129, 17845, hp M) (some (.int r), 129, 17845, hp M') := by
  intro x1  M r M' h
  unfold J201_69 at h
  refine pe_blk mm_201 2 (s' := (71, [some (.ref 1), some (.int x1)], [.ref 1, .ref 1], _, _, _)) rfl ?_
  refine pe_get mm_201 rfl rfl rfl (by decide) rfl ?_
  refine pe_blk mm_201 2 (s' := (76, [some (.ref 1), some (.int x1)], [.int ((M.1 1 2) + 1), .ref 1], _, _, _)) rfl ?_
  refine pe_puti mm_201 rfl rfl rfl (by decide) (Nat.le_of_ble_eq_true rfl) rfl rfl ?_
  show pm_ev _ _ _ _ _ (79, [some (.ref 1), some (.int x1)], [], _, _, hp (m_i M 1 2 ((M.1 1 2) + 1))) _
  generalize m_i M 1 2 ((M.1 1 2) + 1) = M5 at h ⊢
  rw [mlet] at h
  refine pe_blk mm_201 1 (s' := (80, [some (.ref 1), some (.int x1)], [.int x1], _, _, _)) rfl ?_
  obtain ⟨e1, rfl⟩ : ∃ e1, e = e1 + 1 := ⟨e - 1, by omega⟩
  cases hc8 : F205 n x1 M5 with
  | none => rw [hc8] at h; cases h
  | some w =>
    obtain ⟨v6, M7⟩ := w
    rw [hc8] at h
    dsimp only at h
    refine pe_stat (al := [.int x1]) (L0 := [some (.int x1)]) (r1 := (some (.int v6), 129, 17845, hp M7)) mm_201 rfl rfl rfl mm_205 rfl (Nat.le_of_ble_eq_true rfl) (Nat.le_of_ble_eq_true rfl) rfl rfl (F205_ev sc n x1 _ e1 (by omega) _ _ hc8) ?_
    show pm_ev _ _ _ _ _ (83, [some (.ref 1), some (.int x1)], [.int v6], _, _, _) _
    by_cases q9 : v6 = 0
    · rw [if_pos q9] at h
      refine pe_blk mm_201 1 (s' := (if v6 = 0 then 91 else 86, [some (.ref 1), some (.int x1)], [], _, _, _)) rfl ?_
      rw [if_pos q9]
      exact J201_91_ev sc n (e1 + 1) he x1 _ _ _ h
    · rw [if_neg q9] at h
      refine pe_blk mm_201 1 (s' := (if v6 = 0 then 91 else 86, [some (.ref 1), some (.int x1)], [], _, _, _)) rfl ?_
      rw [if_neg q9]
      exact J201_86_ev sc n (e1 + 1) he _ _ _ _ h
def J201_38 (n : Nat) (M : Mem) : Option (Int32 × Mem) :=
  mlet (m_i M 1 3 (M.1 1 2)) (fun M2 => if (M2.1 1 2) < (M2.1 1 1) then (if (M2.1 1 2) < 0 ∨ 120 ≤ (M2.1 1 2 : Int32).toNatClampNeg then none else (J201_69 n (M2.1 2 (M2.1 1 2 : Int32).toNatClampNeg) M2)) else (some (0, M2)))
set_option maxRecDepth 100000 in
set_option maxHeartbeats 4000000 in
theorem J201_38_ev (sc : Option (Nat × (Nat → Int32))) (n : Nat)  (e : Nat) (he : 5 ≤ e) : ∀ (u1 : Option Value) (M : Mem) (r : Int32) (M' : Mem), J201_38 n  M = some (r, M') → pm_ev pmT sc e 201 false (38, [some (.ref 1), u1], [], 129, 17845, hp M) (some (.int r), 129, 17845, hp M') := by
  intro u1 M r M' h
  unfold J201_38 at h
  refine pe_blk mm_201 2 (s' := (40, [some (.ref 1), u1], [.ref 1, .ref 1], _, _, _)) rfl ?_
  refine pe_get mm_201 rfl rfl rfl (by decide) rfl ?_
  refine pe_puti mm_201 rfl rfl rfl (by decide) (Nat.le_of_ble_eq_true rfl) rfl rfl ?_
  show pm_ev _ _ _ _ _ (46, [some (.ref 1), u1], [], _, _, hp (m_i M 1 3 (M.1 1 2))) _
  generalize m_i M 1 3 (M.1 1 2) = M2 at h ⊢
  rw [mlet] at h
  refine pe_blk mm_201 1 (s' := (47, [some (.ref 1), u1], [.ref 1], _, _, _)) rfl ?_
  refine pe_get mm_201 rfl rfl rfl (by decide) rfl ?_
  refine pe_blk mm_201 1 (s' := (51, [some (.ref 1), u1], [.ref 1, .int (M2.1 1 2)], _, _, _)) rfl ?_
  refine pe_get mm_201 rfl rfl rfl (by decide) rfl ?_
  by_cases q3 : (M2.1 1 2) < (M2.1 1 1)
  · rw [if_pos q3] at h
    refine pe_blk mm_201 1 (s' := (if (M2.1 1 2) < (M2.1 1 1) then 59 else 57, [some (.ref 1), u1], [], _, _, _)) rfl ?_
    rw [if_pos q3]
    refine pe_blk mm_201 1 (s' := (60, [some (.ref 1), u1], [.ref 1], _, _, _)) rfl ?_
    refine pe_get mm_201 rfl rfl rfl (by decide) rfl ?_
    refine pe_blk mm_201 1 (s' := (64, [some (.ref 1), u1], [.ref 1, .ref 2], _, _, _)) rfl ?_
    refine pe_get mm_201 rfl rfl rfl (by decide) rfl ?_
    by_cases q4 : (M2.1 1 2) < 0 ∨ 120 ≤ (M2.1 1 2 : Int32).toNatClampNeg
    · rw [if_pos q4] at h
      cases h
    · rw [if_neg q4] at h
      refine pe_iald (f := M2.1 2) mm_201 rfl rfl (by decide) q4 ?_
      refine pe_blk mm_201 1 (s' := (69, [some (.ref 1), some (.int (M2.1 2 (M2.1 1 2 : Int32).toNatClampNeg))], [], _, _, _)) rfl ?_
      exact J201_69_ev sc n e he (M2.1 2 (M2.1 1 2 : Int32).toNatClampNeg) _ _ _ h
  · rw [if_neg q3] at h
    refine pe_blk mm_201 1 (s' := (if (M2.1 1 2) < (M2.1 1 1) then 59 else 57, [some (.ref 1), u1], [], _, _, _)) rfl ?_
    rw [if_neg q3]
    refine pe_blk mm_201 1 (s' := (58, [some (.ref 1), u1], [.int 0], _, _, _)) rfl ?_
    cases h
    exact pe_ret mm_201 rfl rfl
def J201_25 (n : Nat) (rec0 : Mem → Option (Int32 × Mem)) (M : Mem) : Option (Int32 × Mem) :=
  mlet (m_i M 1 2 ((M.1 1 2) + 1)) (fun M23 => rec0 M23)
set_option maxRecDepth 100000 in
set_option maxHeartbeats 4000000 in
theorem J201_25_ev (sc : Option (Nat × (Nat → Int32))) (n : Nat)  (e : Nat) (he : 5 ≤ e) (rec0 : Mem → Option (Int32 × Mem)) (hr0 : ∀ (u1 : Option Value) (M : Mem) (r : Int32) (M' : Mem), rec0  M = some (r, M') → pm_ev pmT sc e 201 false (0, [some (.ref 1), u1], [], 129, 17845, hp M) (some (.int r), 129, 17845, hp M')) : ∀ (u1 : Option Value) (M : Mem) (r : Int32) (M' : Mem), J201_25 n rec0  M = some (r, M') → pm_ev pmT sc e 201 false (25, [some (.ref 1), u1], [], 129, 17845, hp M) (some (.int r), 129, 17845, hp M') := by
  intro u1 M r M' h
  unfold J201_25 at h
  refine pe_blk mm_201 2 (s' := (27, [some (.ref 1), u1], [.ref 1, .ref 1], _, _, _)) rfl ?_
  refine pe_get mm_201 rfl rfl rfl (by decide) rfl ?_
  refine pe_blk mm_201 2 (s' := (32, [some (.ref 1), u1], [.int ((M.1 1 2) + 1), .ref 1], _, _, _)) rfl ?_
  refine pe_puti mm_201 rfl rfl rfl (by decide) (Nat.le_of_ble_eq_true rfl) rfl rfl ?_
  show pm_ev _ _ _ _ _ (35, [some (.ref 1), u1], [], _, _, hp (m_i M 1 2 ((M.1 1 2) + 1))) _
  generalize m_i M 1 2 ((M.1 1 2) + 1) = M23 at h ⊢
  rw [mlet] at h
  refine pe_blk mm_201 1 (s' := (0, [some (.ref 1), u1], [], _, _, _)) rfl ?_
  exact hr0 _ _ _ _ h
def L201_0 (n : Nat) : Nat → Mem → Option (Int32 × Mem)
  | 0, _ => none
  | k + 1, M => if (M.1 1 1) ≤ (M.1 1 2) then (J201_38 n M) else (if (M.1 1 2) < 0 ∨ 120 ≤ (M.1 1 2 : Int32).toNatClampNeg then none else (if (M.1 2 (M.1 1 2 : Int32).toNatClampNeg) = 32 then (J201_25 n (L201_0 n k) M) else (J201_38 n M)))
set_option maxRecDepth 100000 in
set_option maxHeartbeats 4000000 in
theorem L201_0_ev (sc : Option (Nat × (Nat → Int32))) (n : Nat)  (e : Nat) (he : 5 ≤ e) : ∀ k : Nat, ∀ (u1 : Option Value) (M : Mem) (r : Int32) (M' : Mem), L201_0 n k  M = some (r, M') → pm_ev pmT sc e 201 false (0, [some (.ref 1), u1], [], 129, 17845, hp M) (some (.int r), 129, 17845, hp M') := by
  intro k
  induction k with
  | zero => intro u1 M r M' h; cases h
  | succ k hr0 =>
    intro u1 M r M' h
    rw [L201_0] at h
    refine pe_blk mm_201 1 (s' := (1, [some (.ref 1), u1], [.ref 1], _, _, _)) rfl ?_
    refine pe_get mm_201 rfl rfl rfl (by decide) rfl ?_
    refine pe_blk mm_201 1 (s' := (5, [some (.ref 1), u1], [.ref 1, .int (M.1 1 2)], _, _, _)) rfl ?_
    refine pe_get mm_201 rfl rfl rfl (by decide) rfl ?_
    by_cases q1 : (M.1 1 1) ≤ (M.1 1 2)
    · rw [if_pos q1] at h
      refine pe_blk mm_201 1 (s' := (if (M.1 1 1) ≤ (M.1 1 2) then 38 else 11, [some (.ref 1), u1], [], _, _, _)) rfl ?_
      rw [if_pos q1]
      exact J201_38_ev sc n e he _ _ _ _ h
    · rw [if_neg q1] at h
      refine pe_blk mm_201 1 (s' := (if (M.1 1 1) ≤ (M.1 1 2) then 38 else 11, [some (.ref 1), u1], [], _, _, _)) rfl ?_
      rw [if_neg q1]
      refine pe_blk mm_201 1 (s' := (12, [some (.ref 1), u1], [.ref 1], _, _, _)) rfl ?_
      refine pe_get mm_201 rfl rfl rfl (by decide) rfl ?_
      refine pe_blk mm_201 1 (s' := (16, [some (.ref 1), u1], [.ref 1, .ref 2], _, _, _)) rfl ?_
      refine pe_get mm_201 rfl rfl rfl (by decide) rfl ?_
      by_cases q21 : (M.1 1 2) < 0 ∨ 120 ≤ (M.1 1 2 : Int32).toNatClampNeg
      · rw [if_pos q21] at h
        cases h
      · rw [if_neg q21] at h
        refine pe_iald (f := M.1 2) mm_201 rfl rfl (by decide) q21 ?_
        refine pe_blk mm_201 1 (s' := (22, [some (.ref 1), u1], [.int 32, .int (M.1 2 (M.1 1 2 : Int32).toNatClampNeg)], _, _, _)) rfl ?_
        by_cases q22 : (M.1 2 (M.1 1 2 : Int32).toNatClampNeg) = 32
        · rw [if_pos q22] at h
          refine pe_blk mm_201 1 (s' := (if (M.1 2 (M.1 1 2 : Int32).toNatClampNeg) = 32 then 25 else 38, [some (.ref 1), u1], [], _, _, _)) rfl ?_
          rw [if_pos q22]
          exact J201_25_ev sc n e he (L201_0 n k) hr0 _ _ _ _ h
        · rw [if_neg q22] at h
          refine pe_blk mm_201 1 (s' := (if (M.1 2 (M.1 1 2 : Int32).toNatClampNeg) = 32 then 25 else 38, [some (.ref 1), u1], [], _, _, _)) rfl ?_
          rw [if_neg q22]
          exact J201_38_ev sc n e he _ _ _ _ h
/-- ArmExpander$TypedText.read -/
def F201 (n : Nat) (M : Mem) : Option (Int32 × Mem) :=
  L201_0 n n M
set_option maxRecDepth 100000 in
set_option maxHeartbeats 4000000 in
theorem F201_ev (sc : Option (Nat × (Nat → Int32))) (n : Nat)  (M : Mem) (e : Nat) (he : 5 ≤ e) (r : Int32) (M' : Mem) (h : F201 n M = some (r, M')) : pm_ev pmT sc e 201 false (0, [some (.ref 1), none], [], 129, 17845, hp M) (some (.int r), 129, 17845, hp M') := by
  unfold F201 at h
  exact L201_0_ev sc n e he n _ _ _ _ h
def J127_94 (n : Nat) (g1 : Nat) (s0 : Int32) (M : Mem) : Option (Int32 × Mem) :=
  some (s0, M)
set_option maxRecDepth 100000 in
set_option maxHeartbeats 4000000 in
theorem J127_94_ev (sc : Option (Nat × (Nat → Int32))) (n : Nat) (g1 : Nat) (hg1 : isD g1) (e : Nat) (he : 6 ≤ e) : ∀ (s0 : Int32) (u0 : Option Value) (u1 : Option Value) (u2 : Option Value) (u3 : Option Value) (u4 : Option Value) (M : Mem) (r : Int32) (M' : Mem), J127_94 n g1 s0 M = some (r, M') → pm_ev pmT sc e 127 false (94, [u0, u1, u2, u3, u4], [.int s0], 129, 17845, hp M) (some (.int r), 129, 17845, hp M') := by
  intro s0 u0 u1 u2 u3 u4 M r M' h
  unfold J127_94 at h
  cases h
  exact pe_ret mm_127 rfl rfl
def J127_78 (n : Nat) (g1 : Nat) (M : Mem) : Option (Int32 × Mem) :=
  if (M.1 3 2) = 3 then (J127_94 n g1 (-1) M) else (match F199 n M with | some (v15, M16) => (J127_94 n g1 v15 M16) | none => none)
set_option maxRecDepth 100000 in
set_option maxHeartbeats 4000000 in
theorem J127_78_ev (sc : Option (Nat × (Nat → Int32))) (n : Nat) (g1 : Nat) (hg1 : isD g1) (e : Nat) (he : 6 ≤ e) : ∀ (u2 : Option Value) (u3 : Option Value) (u4 : Option Value) (M : Mem) (r : Int32) (M' : Mem), J127_78 n g1  M = some (r, M') → pm_ev pmT sc e 127 false (78, [some (.ref 3), some (.ref 1), u2, u3, u4], [], 129, 17845, hp M) (some (.int r), 129, 17845, hp M') := by
  intro u2 u3 u4 M r M' h
  unfold J127_78 at h
  refine pe_blk mm_127 1 (s' := (79, [some (.ref 3), some (.ref 1), u2, u3, u4], [.ref 3], _, _, _)) rfl ?_
  refine pe_get mm_127 rfl rfl rfl (by decide) rfl ?_
  refine pe_blk mm_127 1 (s' := (83, [some (.ref 3), some (.ref 1), u2, u3, u4], [.int 3, .int (M.1 3 2)], _, _, _)) rfl ?_
  by_cases q14 : (M.1 3 2) = 3
  · rw [if_pos q14] at h
    refine pe_blk mm_127 1 (s' := (if (M.1 3 2) = 3 then 86 else 90, [some (.ref 3), some (.ref 1), u2, u3, u4], [], _, _, _)) rfl ?_
    rw [if_pos q14]
    refine pe_blk mm_127 2 (s' := (94, [some (.ref 3), some (.ref 1), u2, u3, u4], [.int (-1)], _, _, _)) rfl ?_
    exact J127_94_ev sc n g1 hg1 e he (-1) _ _ _ _ _ _ _ _ h
  · rw [if_neg q14] at h
    refine pe_blk mm_127 1 (s' := (if (M.1 3 2) = 3 then 86 else 90, [some (.ref 3), some (.ref 1), u2, u3, u4], [], _, _, _)) rfl ?_
    rw [if_neg q14]
    refine pe_blk mm_127 1 (s' := (91, [some (.ref 3), some (.ref 1), u2, u3, u4], [.ref 1], _, _, _)) rfl ?_
    obtain ⟨e1, rfl⟩ : ∃ e1, e = e1 + 1 := ⟨e - 1, by omega⟩
    cases hc17 : F199 n M with
    | none => rw [hc17] at h; cases h
    | some w =>
      obtain ⟨v15, M16⟩ := w
      rw [hc17] at h
      dsimp only at h
      refine pe_virt (al := []) (a := 1) (L0 := [some (.ref 1)]) (r1 := (some (.int v15), 129, 17845, hp M16)) mm_127 rfl rfl rfl mm_199 rfl (by decide) (by decide) rfl (Nat.le_of_ble_eq_true rfl) (Nat.le_of_ble_eq_true rfl) rfl rfl (F199_ev sc n _ e1 (by omega) _ _ hc17) ?_
      show pm_ev _ _ _ _ _ (94, [some (.ref 3), some (.ref 1), u2, u3, u4], [.int v15], _, _, _) _
      exact J127_94_ev sc n g1 hg1 (e1 + 1) he v15 _ _ _ _ _ _ _ _ h
def J127_67 (n : Nat) (g1 : Nat) (M : Mem) : Option (Int32 × Mem) :=
  match F200 n M with | some (v23, M24) => (some (v23, M24)) | none => none
set_option maxRecDepth 100000 in
set_option maxHeartbeats 4000000 in
theorem J127_67_ev (sc : Option (Nat × (Nat → Int32))) (n : Nat) (g1 : Nat) (hg1 : isD g1) (e : Nat) (he : 6 ≤ e) : ∀ (u0 : Option Value) (u2 : Option Value) (u3 : Option Value) (u4 : Option Value) (M : Mem) (r : Int32) (M' : Mem), J127_67 n g1  M = some (r, M') → pm_ev pmT sc e 127 false (67, [u0, some (.ref 1), u2, u3, u4], [], 129, 17845, hp M) (some (.int r), 129, 17845, hp M') := by
  intro u0 u2 u3 u4 M r M' h
  unfold J127_67 at h
  refine pe_blk mm_127 1 (s' := (68, [u0, some (.ref 1), u2, u3, u4], [.ref 1], _, _, _)) rfl ?_
  obtain ⟨e1, rfl⟩ : ∃ e1, e = e1 + 1 := ⟨e - 1, by omega⟩
  cases hc25 : F200 n M with
  | none => rw [hc25] at h; cases h
  | some w =>
    obtain ⟨v23, M24⟩ := w
    rw [hc25] at h
    dsimp only at h
    refine pe_virt (al := []) (a := 1) (L0 := [some (.ref 1)]) (r1 := (some (.int v23), 129, 17845, hp M24)) mm_127 rfl rfl rfl mm_200 rfl (by decide) (by decide) rfl (Nat.le_of_ble_eq_true rfl) (Nat.le_of_ble_eq_true rfl) rfl rfl (F200_ev sc n _ e1 (by omega) _ _ hc25) ?_
    show pm_ev _ _ _ _ _ (71, [u0, some (.ref 1), u2, u3, u4], [.int v23], _, _, _) _
    cases h
    exact pe_ret mm_127 rfl rfl
def J127_57 (n : Nat) (g1 : Nat) (rec31 : Int32 → Mem → Option (Int32 × Mem)) (x3 : Int32) (x4 : Int32) (M : Mem) : Option (Int32 × Mem) :=
  match F128 n x4 x3 M with | some (v26, M27) => (if v26 = 0 then (J127_67 n g1 M27) else (rec31 (x3 + 1) M27)) | none => none
set_option maxRecDepth 100000 in
set_option maxHeartbeats 4000000 in
theorem J127_57_ev (sc : Option (Nat × (Nat → Int32))) (n : Nat) (g1 : Nat) (hg1 : isD g1) (e : Nat) (he : 6 ≤ e) (rec31 : Int32 → Mem → Option (Int32 × Mem)) (hr31 : ∀ (x3 : Int32) (u2 : Option Value) (u4 : Option Value) (M : Mem) (r : Int32) (M' : Mem), rec31 x3 M = some (r, M') → pm_ev pmT sc e 127 false (31, [some (.ref 3), some (.ref 1), u2, some (.int x3), u4], [], 129, 17845, hp M) (some (.int r), 129, 17845, hp M')) : ∀ (x3 : Int32) (x4 : Int32) (u2 : Option Value) (M : Mem) (r : Int32) (M' : Mem), J127_57 n g1 rec31 x3 x4 M = some (r, M') → pm_ev pmT sc e 127 false (57, [some (.ref 3), some (.ref 1), u2, some (.int x3), some (.int x4)], [], 129, 17845, hp M) (some (.int r), 129, 17845, hp M') := by
  intro x3 x4 u2 M r M' h
  unfold J127_57 at h
  refine pe_blk mm_127 3 (s' := (61, [some (.ref 3), some (.ref 1), u2, some (.int x3), some (.int x4)], [.int x3, .int x4, .ref 3], _, _, _)) rfl ?_
  obtain ⟨e1, rfl⟩ : ∃ e1, e = e1 + 1 := ⟨e - 1, by omega⟩
  cases hc28 : F128 n x4 x3 M with
  | none => rw [hc28] at h; cases h
  | some w =>
    obtain ⟨v26, M27⟩ := w
    rw [hc28] at h
    dsimp only at h
    refine pe_virt (al := [.int x3, .int x4]) (a := 3) (L0 := [some (.ref 3), some (.int x4), some (.int x3)]) (r1 := (some (.int v26), 129, 17845, hp M27)) mm_127 rfl rfl rfl mm_128 rfl (by decide) (by decide) rfl (Nat.le_of_ble_eq_true rfl) (Nat.le_of_ble_eq_true rfl) rfl rfl (F128_ev sc n x4 x3 _ e1 (by omega) _ _ hc28) ?_
    show pm_ev _ _ _ _ _ (64, [some (.ref 3), some (.ref 1), u2, some (.int x3), some (.int x4)], [.int v26], _, _, _) _
    by_cases q29 : v26 = 0
    · rw [if_pos q29] at h
      refine pe_blk mm_127 1 (s' := (if v26 = 0 then 67 else 72, [some (.ref 3), some (.ref 1), u2, some (.int x3), some (.int x4)], [], _, _, _)) rfl ?_
      rw [if_pos q29]
      exact J127_67_ev sc n g1 hg1 (e1 + 1) he _ _ _ _ _ _ _ h
    · rw [if_neg q29] at h
      refine pe_blk mm_127 1 (s' := (if v26 = 0 then 67 else 72, [some (.ref 3), some (.ref 1), u2, some (.int x3), some (.int x4)], [], _, _, _)) rfl ?_
      rw [if_neg q29]
      refine pe_blk mm_127 2 (s' := (31, [some (.ref 3), some (.ref 1), u2, some (.int (x3 + 1)), some (.int x4)], [], _, _, _)) rfl ?_
      exact hr31 (x3 + 1) _ _ _ _ _ h
def L127_31 (n : Nat) (g1 : Nat) : Nat → Int32 → Mem → Option (Int32 × Mem)
  | 0, _, _ => none
  | k + 1, x3, M => if 120 ≤ x3 then (J127_78 n g1 M) else (match F201 n M with | some (v18, M19) => (if v18 = 0 then (J127_78 n g1 M19) else (if v18 = (-1) then (J127_67 n g1 M19) else (J127_57 n g1 (L127_31 n g1 k) x3 v18 M19))) | none => none)
set_option maxRecDepth 100000 in
set_option maxHeartbeats 4000000 in
theorem L127_31_ev (sc : Option (Nat × (Nat → Int32))) (n : Nat) (g1 : Nat) (hg1 : isD g1) (e : Nat) (he : 6 ≤ e) : ∀ k : Nat, ∀ (x3 : Int32) (u2 : Option Value) (u4 : Option Value) (M : Mem) (r : Int32) (M' : Mem), L127_31 n g1 k x3 M = some (r, M') → pm_ev pmT sc e 127 false (31, [some (.ref 3), some (.ref 1), u2, some (.int x3), u4], [], 129, 17845, hp M) (some (.int r), 129, 17845, hp M') := by
  intro k
  induction k with
  | zero => intro x3 u2 u4 M r M' h; cases h
  | succ k hr31 =>
    intro x3 u2 u4 M r M' h
    rw [L127_31] at h
    refine pe_blk mm_127 2 (s' := (34, [some (.ref 3), some (.ref 1), u2, some (.int x3), u4], [.int 120, .int x3], _, _, _)) rfl ?_
    by_cases q13 : 120 ≤ x3
    · rw [if_pos q13] at h
      refine pe_blk mm_127 1 (s' := (if 120 ≤ x3 then 78 else 37, [some (.ref 3), some (.ref 1), u2, some (.int x3), u4], [], _, _, _)) rfl ?_
      rw [if_pos q13]
      exact J127_78_ev sc n g1 hg1 e he _ _ _ _ _ _ h
    · rw [if_neg q13] at h
      refine pe_blk mm_127 1 (s' := (if 120 ≤ x3 then 78 else 37, [some (.ref 3), some (.ref 1), u2, some (.int x3), u4], [], _, _, _)) rfl ?_
      rw [if_neg q13]
      refine pe_blk mm_127 1 (s' := (38, [some (.ref 3), some (.ref 1), u2, some (.int x3), u4], [.ref 1], _, _, _)) rfl ?_
      obtain ⟨e1, rfl⟩ : ∃ e1, e = e1 + 1 := ⟨e - 1, by omega⟩
      cases hc20 : F201 n M with
      | none => rw [hc20] at h; cases h
      | some w =>
        obtain ⟨v18, M19⟩ := w
        rw [hc20] at h
        dsimp only at h
        refine pe_virt (al := []) (a := 1) (L0 := [some (.ref 1), none]) (r1 := (some (.int v18), 129, 17845, hp M19)) mm_127 rfl rfl rfl mm_201 rfl (by decide) (by decide) rfl (Nat.le_of_ble_eq_true rfl) (Nat.le_of_ble_eq_true rfl) rfl rfl (F201_ev sc n _ e1 (by omega) _ _ hc20) ?_
        show pm_ev _ _ _ _ _ (41, [some (.ref 3), some (.ref 1), u2, some (.int x3), u4], [.int v18], _, _, _) _
        refine pe_blk mm_127 2 (s' := (45, [some (.ref 3), some (.ref 1), u2, some (.int x3), some (.int v18)], [.int v18], _, _, _)) rfl ?_
        by_cases q21 : v18 = 0
        · rw [if_pos q21] at h
          refine pe_blk mm_127 1 (s' := (if v18 = 0 then 48 else 51, [some (.ref 3), some (.ref 1), u2, some (.int x3), some (.int v18)], [], _, _, _)) rfl ?_
          rw [if_pos q21]
          refine pe_blk mm_127 1 (s' := (78, [some (.ref 3), some (.ref 1), u2, some (.int x3), some (.int v18)], [], _, _, _)) rfl ?_
          exact J127_78_ev sc n g1 hg1 (e1 + 1) he _ _ _ _ _ _ h
        · rw [if_neg q21] at h
          refine pe_blk mm_127 1 (s' := (if v18 = 0 then 48 else 51, [some (.ref 3), some (.ref 1), u2, some (.int x3), some (.int v18)], [], _, _, _)) rfl ?_
          rw [if_neg q21]
          refine pe_blk mm_127 2 (s' := (54, [some (.ref 3), some (.ref 1), u2, some (.int x3), some (.int v18)], [.int (-1), .int v18], _, _, _)) rfl ?_
          by_cases q22 : v18 = (-1)
          · rw [if_pos q22] at h
            refine pe_blk mm_127 1 (s' := (if v18 = (-1) then 67 else 57, [some (.ref 3), some (.ref 1), u2, some (.int x3), some (.int v18)], [], _, _, _)) rfl ?_
            rw [if_pos q22]
            exact J127_67_ev sc n g1 hg1 (e1 + 1) he _ _ _ _ _ _ _ h
          · rw [if_neg q22] at h
            refine pe_blk mm_127 1 (s' := (if v18 = (-1) then 67 else 57, [some (.ref 3), some (.ref 1), u2, some (.int x3), some (.int v18)], [], _, _, _)) rfl ?_
            rw [if_neg q22]
            exact J127_57_ev sc n g1 hg1 (e1 + 1) he (L127_31 n g1 k) hr31 x3 v18 _ _ _ _ h
def J127_29 (n : Nat) (g1 : Nat) (M : Mem) : Option (Int32 × Mem) :=
  L127_31 n g1 n 0 M
set_option maxRecDepth 100000 in
set_option maxHeartbeats 4000000 in
theorem J127_29_ev (sc : Option (Nat × (Nat → Int32))) (n : Nat) (g1 : Nat) (hg1 : isD g1) (e : Nat) (he : 6 ≤ e) : ∀ (u2 : Option Value) (u3 : Option Value) (u4 : Option Value) (M : Mem) (r : Int32) (M' : Mem), J127_29 n g1  M = some (r, M') → pm_ev pmT sc e 127 false (29, [some (.ref 3), some (.ref 1), u2, u3, u4], [], 129, 17845, hp M) (some (.int r), 129, 17845, hp M') := by
  intro u2 u3 u4 M r M' h
  unfold J127_29 at h
  refine pe_blk mm_127 2 (s' := (31, [some (.ref 3), some (.ref 1), u2, some (.int 0), u4], [], _, _, _)) rfl ?_
  exact L127_31_ev sc n g1 hg1 e he n 0 _ _ _ _ _ h
def J127_12 (n : Nat) (g1 : Nat) (M : Mem) : Option (Int32 × Mem) :=
  match F160 n 4 M with | some (v8, M9) => (mlet (m_i M9 3 2 0) (fun M11 => mlet (m_i M11 3 6 (-1)) (fun M12 => J127_29 n g1 M12))) | none => none
set_option maxRecDepth 100000 in
set_option maxHeartbeats 4000000 in
theorem J127_12_ev (sc : Option (Nat × (Nat → Int32))) (n : Nat) (g1 : Nat) (hg1 : isD g1) (e : Nat) (he : 6 ≤ e) : ∀ (u2 : Option Value) (u3 : Option Value) (u4 : Option Value) (M : Mem) (r : Int32) (M' : Mem), J127_12 n g1  M = some (r, M') → pm_ev pmT sc e 127 false (12, [some (.ref 3), some (.ref 1), u2, u3, u4], [], 129, 17845, hp M) (some (.int r), 129, 17845, hp M') := by
  intro u2 u3 u4 M r M' h
  unfold J127_12 at h
  refine pe_blk mm_127 1 (s' := (13, [some (.ref 3), some (.ref 1), u2, u3, u4], [.ref 3], _, _, _)) rfl ?_
  refine pe_get mm_127 rfl rfl rfl (by decide) rfl ?_
  obtain ⟨e1, rfl⟩ : ∃ e1, e = e1 + 1 := ⟨e - 1, by omega⟩
  cases hc10 : F160 n 4 M with
  | none => rw [hc10] at h; cases h
  | some w =>
    obtain ⟨v8, M9⟩ := w
    rw [hc10] at h
    dsimp only at h
    refine pe_virt (al := []) (a := 4) (L0 := [some (.ref 4)]) (r1 := (none, 129, 17845, hp M9)) mm_127 rfl rfl rfl mm_160 rfl (by decide) (by decide) rfl (Nat.le_of_ble_eq_true rfl) (Nat.le_of_ble_eq_true rfl) rfl rfl (F160_ev sc n 4 (by decide) _ e1 (by omega) _ _ hc10) ?_
    show pm_ev _ _ _ _ _ (19, [some (.ref 3), some (.ref 1), u2, u3, u4], [], _, _, _) _
    refine pe_blk mm_127 2 (s' := (21, [some (.ref 3), some (.ref 1), u2, u3, u4], [.int 0, .ref 3], _, _, _)) rfl ?_
    refine pe_puti mm_127 rfl rfl rfl (by decide) (Nat.le_of_ble_eq_true rfl) rfl rfl ?_
    show pm_ev _ _ _ _ _ (24, [some (.ref 3), some (.ref 1), u2, u3, u4], [], _, _, hp (m_i M9 3 2 0)) _
    generalize m_i M9 3 2 0 = M11 at h ⊢
    rw [mlet] at h
    refine pe_blk mm_127 2 (s' := (26, [some (.ref 3), some (.ref 1), u2, u3, u4], [.int (-1), .ref 3], _, _, _)) rfl ?_
    refine pe_puti mm_127 rfl rfl rfl (by decide) (Nat.le_of_ble_eq_true rfl) rfl rfl ?_
    show pm_ev _ _ _ _ _ (29, [some (.ref 3), some (.ref 1), u2, u3, u4], [], _, _, hp (m_i M11 3 6 (-1))) _
    generalize m_i M11 3 6 (-1) = M12 at h ⊢
    rw [mlet] at h
    exact J127_29_ev sc n g1 hg1 (e1 + 1) he _ _ _ _ _ _ h
/-- ArmExpander$DefinitionReader.read -/
def F127 (n : Nat) (g1 : Nat) (M : Mem) : Option (Int32 × Mem) :=
  mlet (m_r M 3 1 (some g1)) (fun M1 => match M1.2.1 3 1 with | some p2 => (if isD p2 then (match F101 n p2 M1 with | some (v5, M6) => (J127_12 n g1 M6) | none => none) else none) | none => none)
set_option maxRecDepth 100000 in
set_option maxHeartbeats 4000000 in
theorem F127_ev (sc : Option (Nat × (Nat → Int32))) (n : Nat) (g1 : Nat) (hg1 : isD g1) (M : Mem) (e : Nat) (he : 6 ≤ e) (r : Int32) (M' : Mem) (h : F127 n g1 M = some (r, M')) : pm_ev pmT sc e 127 false (0, [some (.ref 3), some (.ref 1), some (.ref g1), none, none], [], 129, 17845, hp M) (some (.int r), 129, 17845, hp M') := by
  unfold F127 at h
  refine pe_blk mm_127 2 (s' := (2, [some (.ref 3), some (.ref 1), some (.ref g1), none, none], [.ref g1, .ref 3], _, _, _)) rfl ?_
  refine pe_putr mm_127 rfl rfl rfl (by decide) (Nat.le_of_ble_eq_true rfl) rfl rfl ?_
  show pm_ev _ _ _ _ _ (5, [some (.ref 3), some (.ref 1), some (.ref g1), none, none], [], _, _, hp (m_r M 3 1 (some g1))) _
  generalize m_r M 3 1 (some g1) = M1 at h ⊢
  rw [mlet] at h
  refine pe_blk mm_127 1 (s' := (6, [some (.ref 3), some (.ref 1), some (.ref g1), none, none], [.ref 3], _, _, _)) rfl ?_
  refine pe_get mm_127 rfl rfl rfl (by decide) rfl ?_
  show pm_ev _ _ _ _ _ (9, [some (.ref 3), some (.ref 1), some (.ref g1), none, none], va_rf (M1.2.1 3 1) :: [], _, _, _) _
  cases hq4 : M1.2.1 3 1 with
  | none => rw [hq4] at h; cases h
  | some p2 =>
    rw [hq4] at h
    dsimp only at h
    by_cases f3 : isD p2
    · rw [if_pos f3] at h
      show pm_ev _ _ _ _ _ (9, [some (.ref 3), some (.ref 1), some (.ref g1), none, none], [.ref p2], _, _, _) _
      obtain ⟨e1, rfl⟩ : ∃ e1, e = e1 + 1 := ⟨e - 1, by omega⟩
      cases hc7 : F101 n p2 M1 with
      | none => rw [hc7] at h; cases h
      | some w =>
        obtain ⟨v5, M6⟩ := w
        rw [hc7] at h
        dsimp only at h
        refine pe_virt (al := []) (a := p2) (L0 := [some (.ref p2)]) (r1 := (none, 129, 17845, hp M6)) mm_127 rfl rfl rfl mm_101 (isD_0 f3 _) (by have := isD_lt f3; omega) (by decide) rfl (Nat.le_of_ble_eq_true rfl) (Nat.le_of_ble_eq_true rfl) rfl rfl (F101_ev sc n p2 f3 _ e1 (by omega) _ _ hc7) ?_
        show pm_ev _ _ _ _ _ (12, [some (.ref 3), some (.ref 1), some (.ref g1), none, none], [], _, _, _) _
        exact J127_12_ev sc n g1 hg1 (e1 + 1) he _ _ _ _ _ _ h
    · rw [if_neg f3] at h
      cases h
def J140_72 (n : Nat) (s0 : Int32) (M : Mem) : Option (Int32 × Mem) :=
  some (s0, M)
set_option maxRecDepth 100000 in
set_option maxHeartbeats 4000000 in
theorem J140_72_ev (sc : Option (Nat × (Nat → Int32))) (n : Nat)  (e : Nat) (he : 6 ≤ e) : ∀ (s0 : Int32) (u0 : Option Value) (u1 : Option Value) (u2 : Option Value) (u3 : Option Value) (M : Mem) (r : Int32) (M' : Mem), J140_72 n s0 M = some (r, M') → pm_ev pmT sc e 140 false (72, [u0, u1, u2, u3], [.int s0], 129, 17845, hp M) (some (.int r), 129, 17845, hp M') := by
  intro s0 u0 u1 u2 u3 M r M' h
  unfold J140_72 at h
  cases h
  exact pe_ret mm_140 rfl rfl
def J140_54 (n : Nat) (M : Mem) : Option (Int32 × Mem) :=
  match F161 n 13 M with | some (v2, M3) => (if v2 = 0 then (match F199 n M3 with | some (v6, M7) => (J140_72 n v6 M7) | none => none) else (J140_72 n (-1) M3)) | none => none
set_option maxRecDepth 100000 in
set_option maxHeartbeats 4000000 in
theorem J140_54_ev (sc : Option (Nat × (Nat → Int32))) (n : Nat)  (e : Nat) (he : 6 ≤ e) : ∀ (u2 : Option Value) (u3 : Option Value) (M : Mem) (r : Int32) (M' : Mem), J140_54 n  M = some (r, M') → pm_ev pmT sc e 140 false (54, [some (.ref 12), some (.ref 1), u2, u3], [], 129, 17845, hp M) (some (.int r), 129, 17845, hp M') := by
  intro u2 u3 M r M' h
  unfold J140_54 at h
  refine pe_blk mm_140 1 (s' := (55, [some (.ref 12), some (.ref 1), u2, u3], [.ref 12], _, _, _)) rfl ?_
  refine pe_get mm_140 rfl rfl rfl (by decide) rfl ?_
  obtain ⟨e1, rfl⟩ : ∃ e1, e = e1 + 1 := ⟨e - 1, by omega⟩
  cases hc4 : F161 n 13 M with
  | none => rw [hc4] at h; cases h
  | some w =>
    obtain ⟨v2, M3⟩ := w
    rw [hc4] at h
    dsimp only at h
    refine pe_virt (al := []) (a := 13) (L0 := [some (.ref 13)]) (r1 := (some (.int v2), 129, 17845, hp M3)) mm_140 rfl rfl rfl mm_161 rfl (by decide) (by decide) rfl (Nat.le_of_ble_eq_true rfl) (Nat.le_of_ble_eq_true rfl) rfl rfl (F161_ev sc n 13 (by decide) _ e1 (by omega) _ _ hc4) ?_
    show pm_ev _ _ _ _ _ (61, [some (.ref 12), some (.ref 1), u2, u3], [.int v2], _, _, _) _
    by_cases q5 : v2 = 0
    · rw [if_pos q5] at h
      refine pe_blk mm_140 1 (s' := (if v2 = 0 then 68 else 64, [some (.ref 12), some (.ref 1), u2, u3], [], _, _, _)) rfl ?_
      rw [if_pos q5]
      refine pe_blk mm_140 1 (s' := (69, [some (.ref 12), some (.ref 1), u2, u3], [.ref 1], _, _, _)) rfl ?_
      skip
      cases hc8 : F199 n M3 with
      | none => rw [hc8] at h; cases h
      | some w =>
        obtain ⟨v6, M7⟩ := w
        rw [hc8] at h
        dsimp only at h
        refine pe_virt (al := []) (a := 1) (L0 := [some (.ref 1)]) (r1 := (some (.int v6), 129, 17845, hp M7)) mm_140 rfl rfl rfl mm_199 rfl (by decide) (by decide) rfl (Nat.le_of_ble_eq_true rfl) (Nat.le_of_ble_eq_true rfl) rfl rfl (F199_ev sc n _ e1 (by omega) _ _ hc8) ?_
        show pm_ev _ _ _ _ _ (72, [some (.ref 12), some (.ref 1), u2, u3], [.int v6], _, _, _) _
        exact J140_72_ev sc n (e1 + 1) he v6 _ _ _ _ _ _ _ h
    · rw [if_neg q5] at h
      refine pe_blk mm_140 1 (s' := (if v2 = 0 then 68 else 64, [some (.ref 12), some (.ref 1), u2, u3], [], _, _, _)) rfl ?_
      rw [if_neg q5]
      refine pe_blk mm_140 2 (s' := (72, [some (.ref 12), some (.ref 1), u2, u3], [.int (-1)], _, _, _)) rfl ?_
      exact J140_72_ev sc n (e1 + 1) he (-1) _ _ _ _ _ _ _ h
def J140_34 (n : Nat) (M : Mem) : Option (Int32 × Mem) :=
  match F200 n M with | some (v14, M15) => (some (v14, M15)) | none => none
set_option maxRecDepth 100000 in
set_option maxHeartbeats 4000000 in
theorem J140_34_ev (sc : Option (Nat × (Nat → Int32))) (n : Nat)  (e : Nat) (he : 6 ≤ e) : ∀ (u0 : Option Value) (u2 : Option Value) (u3 : Option Value) (M : Mem) (r : Int32) (M' : Mem), J140_34 n  M = some (r, M') → pm_ev pmT sc e 140 false (34, [u0, some (.ref 1), u2, u3], [], 129, 17845, hp M) (some (.int r), 129, 17845, hp M') := by
  intro u0 u2 u3 M r M' h
  unfold J140_34 at h
  refine pe_blk mm_140 1 (s' := (35, [u0, some (.ref 1), u2, u3], [.ref 1], _, _, _)) rfl ?_
  obtain ⟨e1, rfl⟩ : ∃ e1, e = e1 + 1 := ⟨e - 1, by omega⟩
  cases hc16 : F200 n M with
  | none => rw [hc16] at h; cases h
  | some w =>
    obtain ⟨v14, M15⟩ := w
    rw [hc16] at h
    dsimp only at h
    refine pe_virt (al := []) (a := 1) (L0 := [some (.ref 1)]) (r1 := (some (.int v14), 129, 17845, hp M15)) mm_140 rfl rfl rfl mm_200 rfl (by decide) (by decide) rfl (Nat.le_of_ble_eq_true rfl) (Nat.le_of_ble_eq_true rfl) rfl rfl (F200_ev sc n _ e1 (by omega) _ _ hc16) ?_
    show pm_ev _ _ _ _ _ (38, [u0, some (.ref 1), u2, u3], [.int v14], _, _, _) _
    cases h
    exact pe_ret mm_140 rfl rfl
def J140_48 (n : Nat) (rec2 : Int32 → Mem → Option (Int32 × Mem)) (x2 : Int32) (M : Mem) : Option (Int32 × Mem) :=
  rec2 (x2 + 1) M
set_option maxRecDepth 100000 in
set_option maxHeartbeats 4000000 in
theorem J140_48_ev (sc : Option (Nat × (Nat → Int32))) (n : Nat)  (e : Nat) (he : 6 ≤ e) (rec2 : Int32 → Mem → Option (Int32 × Mem)) (hr2 : ∀ (x2 : Int32) (u3 : Option Value) (M : Mem) (r : Int32) (M' : Mem), rec2 x2 M = some (r, M') → pm_ev pmT sc e 140 false (2, [some (.ref 12), some (.ref 1), some (.int x2), u3], [], 129, 17845, hp M) (some (.int r), 129, 17845, hp M')) : ∀ (x2 : Int32) (u3 : Option Value) (M : Mem) (r : Int32) (M' : Mem), J140_48 n rec2 x2 M = some (r, M') → pm_ev pmT sc e 140 false (48, [some (.ref 12), some (.ref 1), some (.int x2), u3], [], 129, 17845, hp M) (some (.int r), 129, 17845, hp M') := by
  intro x2 u3 M r M' h
  unfold J140_48 at h
  refine pe_blk mm_140 2 (s' := (2, [some (.ref 12), some (.ref 1), some (.int (x2 + 1)), u3], [], _, _, _)) rfl ?_
  exact hr2 (x2 + 1) _ _ _ _ h
def J140_25 (n : Nat) (rec2 : Int32 → Mem → Option (Int32 × Mem)) (x2 : Int32) (x3 : Int32) (M : Mem) : Option (Int32 × Mem) :=
  match F141 n x3 x2 M with | some (v17, M18) => (if v17 = 0 then (J140_34 n M18) else (match M18.2.1 12 4 with | some p21 => (if isR p21 then (match F168 n p21 x3 0 M18 with | some (v24, M25) => (J140_48 n rec2 x2 M25) | none => none) else none) | none => none)) | none => none
set_option maxRecDepth 100000 in
set_option maxHeartbeats 4000000 in
theorem J140_25_ev (sc : Option (Nat × (Nat → Int32))) (n : Nat)  (e : Nat) (he : 6 ≤ e) (rec2 : Int32 → Mem → Option (Int32 × Mem)) (hr2 : ∀ (x2 : Int32) (u3 : Option Value) (M : Mem) (r : Int32) (M' : Mem), rec2 x2 M = some (r, M') → pm_ev pmT sc e 140 false (2, [some (.ref 12), some (.ref 1), some (.int x2), u3], [], 129, 17845, hp M) (some (.int r), 129, 17845, hp M')) : ∀ (x2 : Int32) (x3 : Int32) (M : Mem) (r : Int32) (M' : Mem), J140_25 n rec2 x2 x3 M = some (r, M') → pm_ev pmT sc e 140 false (25, [some (.ref 12), some (.ref 1), some (.int x2), some (.int x3)], [], 129, 17845, hp M) (some (.int r), 129, 17845, hp M') := by
  intro x2 x3  M r M' h
  unfold J140_25 at h
  refine pe_blk mm_140 3 (s' := (28, [some (.ref 12), some (.ref 1), some (.int x2), some (.int x3)], [.int x2, .int x3, .ref 12], _, _, _)) rfl ?_
  obtain ⟨e1, rfl⟩ : ∃ e1, e = e1 + 1 := ⟨e - 1, by omega⟩
  cases hc19 : F141 n x3 x2 M with
  | none => rw [hc19] at h; cases h
  | some w =>
    obtain ⟨v17, M18⟩ := w
    rw [hc19] at h
    dsimp only at h
    refine pe_virt (al := [.int x2, .int x3]) (a := 12) (L0 := [some (.ref 12), some (.int x3), some (.int x2)]) (r1 := (some (.int v17), 129, 17845, hp M18)) mm_140 rfl rfl rfl mm_141 rfl (by decide) (by decide) rfl (Nat.le_of_ble_eq_true rfl) (Nat.le_of_ble_eq_true rfl) rfl rfl (F141_ev sc n x3 x2 _ e1 (by omega) _ _ hc19) ?_
    show pm_ev _ _ _ _ _ (31, [some (.ref 12), some (.ref 1), some (.int x2), some (.int x3)], [.int v17], _, _, _) _
    by_cases q20 : v17 = 0
    · rw [if_pos q20] at h
      refine pe_blk mm_140 1 (s' := (if v17 = 0 then 34 else 39, [some (.ref 12), some (.ref 1), some (.int x2), some (.int x3)], [], _, _, _)) rfl ?_
      rw [if_pos q20]
      exact J140_34_ev sc n (e1 + 1) he _ _ _ _ _ _ h
    · rw [if_neg q20] at h
      refine pe_blk mm_140 1 (s' := (if v17 = 0 then 34 else 39, [some (.ref 12), some (.ref 1), some (.int x2), some (.int x3)], [], _, _, _)) rfl ?_
      rw [if_neg q20]
      refine pe_blk mm_140 1 (s' := (40, [some (.ref 12), some (.ref 1), some (.int x2), some (.int x3)], [.ref 12], _, _, _)) rfl ?_
      refine pe_get mm_140 rfl rfl rfl (by decide) rfl ?_
      show pm_ev _ _ _ _ _ (43, [some (.ref 12), some (.ref 1), some (.int x2), some (.int x3)], va_rf (M18.2.1 12 4) :: [], _, _, _) _
      cases hq23 : M18.2.1 12 4 with
      | none => rw [hq23] at h; cases h
      | some p21 =>
        rw [hq23] at h
        dsimp only at h
        by_cases f22 : isR p21
        · rw [if_pos f22] at h
          show pm_ev _ _ _ _ _ (43, [some (.ref 12), some (.ref 1), some (.int x2), some (.int x3)], [.ref p21], _, _, _) _
          refine pe_blk mm_140 2 (s' := (45, [some (.ref 12), some (.ref 1), some (.int x2), some (.int x3)], [.int 0, .int x3, .ref p21], _, _, _)) rfl ?_
          skip
          cases hc26 : F168 n p21 x3 0 M18 with
          | none => rw [hc26] at h; cases h
          | some w =>
            obtain ⟨v24, M25⟩ := w
            rw [hc26] at h
            dsimp only at h
            refine pe_virt (al := [.int 0, .int x3]) (a := p21) (L0 := [some (.ref p21), some (.int x3), some (.int 0)]) (r1 := (none, 129, 17845, hp M25)) mm_140 rfl rfl rfl mm_168 (isR_0 f22 _) (by have := isR_lt f22; omega) (by decide) rfl (Nat.le_of_ble_eq_true rfl) (Nat.le_of_ble_eq_true rfl) rfl rfl (F168_ev sc n p21 x3 0 f22 _ e1 (by omega) _ _ hc26) ?_
            show pm_ev _ _ _ _ _ (48, [some (.ref 12), some (.ref 1), some (.int x2), some (.int x3)], [], _, _, _) _
            exact J140_48_ev sc n (e1 + 1) he rec2 hr2 x2 _ _ _ _ h
        · rw [if_neg f22] at h
          cases h
def L140_2 (n : Nat) : Nat → Int32 → Mem → Option (Int32 × Mem)
  | 0, _, _ => none
  | k + 1, x2, M => if 120 ≤ x2 then (J140_54 n M) else (match F201 n M with | some (v9, M10) => (if v9 = 0 then (J140_54 n M10) else (if v9 = (-1) then (J140_34 n M10) else (J140_25 n (L140_2 n k) x2 v9 M10))) | none => none)
set_option maxRecDepth 100000 in
set_option maxHeartbeats 4000000 in
theorem L140_2_ev (sc : Option (Nat × (Nat → Int32))) (n : Nat)  (e : Nat) (he : 6 ≤ e) : ∀ k : Nat, ∀ (x2 : Int32) (u3 : Option Value) (M : Mem) (r : Int32) (M' : Mem), L140_2 n k x2 M = some (r, M') → pm_ev pmT sc e 140 false (2, [some (.ref 12), some (.ref 1), some (.int x2), u3], [], 129, 17845, hp M) (some (.int r), 129, 17845, hp M') := by
  intro k
  induction k with
  | zero => intro x2 u3 M r M' h; cases h
  | succ k hr2 =>
    intro x2 u3 M r M' h
    rw [L140_2] at h
    refine pe_blk mm_140 2 (s' := (5, [some (.ref 12), some (.ref 1), some (.int x2), u3], [.int 120, .int x2], _, _, _)) rfl ?_
    by_cases q1 : 120 ≤ x2
    · rw [if_pos q1] at h
      refine pe_blk mm_140 1 (s' := (if 120 ≤ x2 then 54 else 8, [some (.ref 12), some (.ref 1), some (.int x2), u3], [], _, _, _)) rfl ?_
      rw [if_pos q1]
      exact J140_54_ev sc n e he _ _ _ _ _ h
    · rw [if_neg q1] at h
      refine pe_blk mm_140 1 (s' := (if 120 ≤ x2 then 54 else 8, [some (.ref 12), some (.ref 1), some (.int x2), u3], [], _, _, _)) rfl ?_
      rw [if_neg q1]
      refine pe_blk mm_140 1 (s' := (9, [some (.ref 12), some (.ref 1), some (.int x2), u3], [.ref 1], _, _, _)) rfl ?_
      obtain ⟨e1, rfl⟩ : ∃ e1, e = e1 + 1 := ⟨e - 1, by omega⟩
      cases hc11 : F201 n M with
      | none => rw [hc11] at h; cases h
      | some w =>
        obtain ⟨v9, M10⟩ := w
        rw [hc11] at h
        dsimp only at h
        refine pe_virt (al := []) (a := 1) (L0 := [some (.ref 1), none]) (r1 := (some (.int v9), 129, 17845, hp M10)) mm_140 rfl rfl rfl mm_201 rfl (by decide) (by decide) rfl (Nat.le_of_ble_eq_true rfl) (Nat.le_of_ble_eq_true rfl) rfl rfl (F201_ev sc n _ e1 (by omega) _ _ hc11) ?_
        show pm_ev _ _ _ _ _ (12, [some (.ref 12), some (.ref 1), some (.int x2), u3], [.int v9], _, _, _) _
        refine pe_blk mm_140 2 (s' := (14, [some (.ref 12), some (.ref 1), some (.int x2), some (.int v9)], [.int v9], _, _, _)) rfl ?_
        by_cases q12 : v9 = 0
        · rw [if_pos q12] at h
          refine pe_blk mm_140 1 (s' := (if v9 = 0 then 17 else 20, [some (.ref 12), some (.ref 1), some (.int x2), some (.int v9)], [], _, _, _)) rfl ?_
          rw [if_pos q12]
          refine pe_blk mm_140 1 (s' := (54, [some (.ref 12), some (.ref 1), some (.int x2), some (.int v9)], [], _, _, _)) rfl ?_
          exact J140_54_ev sc n (e1 + 1) he _ _ _ _ _ h
        · rw [if_neg q12] at h
          refine pe_blk mm_140 1 (s' := (if v9 = 0 then 17 else 20, [some (.ref 12), some (.ref 1), some (.int x2), some (.int v9)], [], _, _, _)) rfl ?_
          rw [if_neg q12]
          refine pe_blk mm_140 2 (s' := (22, [some (.ref 12), some (.ref 1), some (.int x2), some (.int v9)], [.int (-1), .int v9], _, _, _)) rfl ?_
          by_cases q13 : v9 = (-1)
          · rw [if_pos q13] at h
            refine pe_blk mm_140 1 (s' := (if v9 = (-1) then 34 else 25, [some (.ref 12), some (.ref 1), some (.int x2), some (.int v9)], [], _, _, _)) rfl ?_
            rw [if_pos q13]
            exact J140_34_ev sc n (e1 + 1) he _ _ _ _ _ _ h
          · rw [if_neg q13] at h
            refine pe_blk mm_140 1 (s' := (if v9 = (-1) then 34 else 25, [some (.ref 12), some (.ref 1), some (.int x2), some (.int v9)], [], _, _, _)) rfl ?_
            rw [if_neg q13]
            exact J140_25_ev sc n (e1 + 1) he (L140_2 n k) hr2 x2 v9 _ _ _ h
/-- ArmExpander$Expander.readTokens -/
def F140 (n : Nat) (M : Mem) : Option (Int32 × Mem) :=
  L140_2 n n 0 M
set_option maxRecDepth 100000 in
set_option maxHeartbeats 4000000 in
theorem F140_ev (sc : Option (Nat × (Nat → Int32))) (n : Nat)  (M : Mem) (e : Nat) (he : 6 ≤ e) (r : Int32) (M' : Mem) (h : F140 n M = some (r, M')) : pm_ev pmT sc e 140 false (0, [some (.ref 12), some (.ref 1), none, none], [], 129, 17845, hp M) (some (.int r), 129, 17845, hp M') := by
  unfold F140 at h
  refine pe_blk mm_140 2 (s' := (2, [some (.ref 12), some (.ref 1), some (.int 0), none], [], _, _, _)) rfl ?_
  exact L140_2_ev sc n e he n 0 _ _ _ _ h
def J139_37 (n : Nat) (x2 : Int32) (M : Mem) : Option (Int32 × Mem) :=
  some (x2, M)
set_option maxRecDepth 100000 in
set_option maxHeartbeats 4000000 in
theorem J139_37_ev (sc : Option (Nat × (Nat → Int32))) (n : Nat)  (e : Nat) (he : 7 ≤ e) : ∀ (x2 : Int32) (u0 : Option Value) (u1 : Option Value) (M : Mem) (r : Int32) (M' : Mem), J139_37 n x2 M = some (r, M') → pm_ev pmT sc e 139 false (37, [u0, u1, some (.int x2)], [], 129, 17845, hp M) (some (.int r), 129, 17845, hp M') := by
  intro x2 u0 u1 M r M' h
  unfold J139_37 at h
  refine pe_blk mm_139 1 (s' := (38, [u0, u1, some (.int x2)], [.int x2], _, _, _)) rfl ?_
  cases h
  exact pe_ret mm_139 rfl rfl
def J139_30 (n : Nat) (x2 : Int32) (M : Mem) : Option (Int32 × Mem) :=
  match M.2.1 12 4 with | some p15 => (if isR p15 then (match F165 n p15 M with | some (v18, M19) => (J139_37 n x2 M19) | none => none) else none) | none => none
set_option maxRecDepth 100000 in
set_option maxHeartbeats 4000000 in
theorem J139_30_ev (sc : Option (Nat × (Nat → Int32))) (n : Nat)  (e : Nat) (he : 7 ≤ e) : ∀ (x2 : Int32) (u1 : Option Value) (M : Mem) (r : Int32) (M' : Mem), J139_30 n x2 M = some (r, M') → pm_ev pmT sc e 139 false (30, [some (.ref 12), u1, some (.int x2)], [], 129, 17845, hp M) (some (.int r), 129, 17845, hp M') := by
  intro x2 u1 M r M' h
  unfold J139_30 at h
  refine pe_blk mm_139 1 (s' := (31, [some (.ref 12), u1, some (.int x2)], [.ref 12], _, _, _)) rfl ?_
  refine pe_get mm_139 rfl rfl rfl (by decide) rfl ?_
  show pm_ev _ _ _ _ _ (34, [some (.ref 12), u1, some (.int x2)], va_rf (M.2.1 12 4) :: [], _, _, _) _
  cases hq17 : M.2.1 12 4 with
  | none => rw [hq17] at h; cases h
  | some p15 =>
    rw [hq17] at h
    dsimp only at h
    by_cases f16 : isR p15
    · rw [if_pos f16] at h
      show pm_ev _ _ _ _ _ (34, [some (.ref 12), u1, some (.int x2)], [.ref p15], _, _, _) _
      obtain ⟨e1, rfl⟩ : ∃ e1, e = e1 + 1 := ⟨e - 1, by omega⟩
      cases hc20 : F165 n p15 M with
      | none => rw [hc20] at h; cases h
      | some w =>
        obtain ⟨v18, M19⟩ := w
        rw [hc20] at h
        dsimp only at h
        refine pe_virt (al := []) (a := p15) (L0 := [some (.ref p15)]) (r1 := (none, 129, 17845, hp M19)) mm_139 rfl rfl rfl mm_165 (isR_0 f16 _) (by have := isR_lt f16; omega) (by decide) rfl (Nat.le_of_ble_eq_true rfl) (Nat.le_of_ble_eq_true rfl) rfl rfl (F165_ev sc n p15 f16 _ e1 (by omega) _ _ hc20) ?_
        show pm_ev _ _ _ _ _ (37, [some (.ref 12), u1, some (.int x2)], [], _, _, _) _
        exact J139_37_ev sc n (e1 + 1) he x2 _ _ _ _ _ h
    · rw [if_neg f16] at h
      cases h
def J139_14 (n : Nat) (M : Mem) : Option (Int32 × Mem) :=
  mlet (m_i M 12 6 0) (fun M10 => match F140 n M10 with | some (v11, M12) => (if v11 = (-1) then (J139_37 n v11 M12) else (J139_30 n v11 M12)) | none => none)
set_option maxRecDepth 100000 in
set_option maxHeartbeats 4000000 in
theorem J139_14_ev (sc : Option (Nat × (Nat → Int32))) (n : Nat)  (e : Nat) (he : 7 ≤ e) : ∀ (u2 : Option Value) (M : Mem) (r : Int32) (M' : Mem), J139_14 n  M = some (r, M') → pm_ev pmT sc e 139 false (14, [some (.ref 12), some (.ref 1), u2], [], 129, 17845, hp M) (some (.int r), 129, 17845, hp M') := by
  intro u2 M r M' h
  unfold J139_14 at h
  refine pe_blk mm_139 2 (s' := (16, [some (.ref 12), some (.ref 1), u2], [.int 0, .ref 12], _, _, _)) rfl ?_
  refine pe_puti mm_139 rfl rfl rfl (by decide) (Nat.le_of_ble_eq_true rfl) rfl rfl ?_
  show pm_ev _ _ _ _ _ (19, [some (.ref 12), some (.ref 1), u2], [], _, _, hp (m_i M 12 6 0)) _
  generalize m_i M 12 6 0 = M10 at h ⊢
  rw [mlet] at h
  refine pe_blk mm_139 2 (s' := (21, [some (.ref 12), some (.ref 1), u2], [.ref 1, .ref 12], _, _, _)) rfl ?_
  obtain ⟨e1, rfl⟩ : ∃ e1, e = e1 + 1 := ⟨e - 1, by omega⟩
  cases hc13 : F140 n M10 with
  | none => rw [hc13] at h; cases h
  | some w =>
    obtain ⟨v11, M12⟩ := w
    rw [hc13] at h
    dsimp only at h
    refine pe_virt (al := [.ref 1]) (a := 12) (L0 := [some (.ref 12), some (.ref 1), none, none]) (r1 := (some (.int v11), 129, 17845, hp M12)) mm_139 rfl rfl rfl mm_140 rfl (by decide) (by decide) rfl (Nat.le_of_ble_eq_true rfl) (Nat.le_of_ble_eq_true rfl) rfl rfl (F140_ev sc n _ e1 (by omega) _ _ hc13) ?_
    show pm_ev _ _ _ _ _ (24, [some (.ref 12), some (.ref 1), u2], [.int v11], _, _, _) _
    refine pe_blk mm_139 3 (s' := (27, [some (.ref 12), some (.ref 1), some (.int v11)], [.int (-1), .int v11], _, _, _)) rfl ?_
    by_cases q14 : v11 = (-1)
    · rw [if_pos q14] at h
      refine pe_blk mm_139 1 (s' := (if v11 = (-1) then 37 else 30, [some (.ref 12), some (.ref 1), some (.int v11)], [], _, _, _)) rfl ?_
      rw [if_pos q14]
      exact J139_37_ev sc n (e1 + 1) he v11 _ _ _ _ _ h
    · rw [if_neg q14] at h
      refine pe_blk mm_139 1 (s' := (if v11 = (-1) then 37 else 30, [some (.ref 12), some (.ref 1), some (.int v11)], [], _, _, _)) rfl ?_
      rw [if_neg q14]
      exact J139_30_ev sc n (e1 + 1) he v11 _ _ _ _ h
/-- ArmExpander$Expander.read -/
def F139 (n : Nat) (M : Mem) : Option (Int32 × Mem) :=
  match M.2.1 12 4 with | some p1 => (if isR p1 then (match F165 n p1 M with | some (v4, M5) => (match F160 n 13 M5 with | some (v7, M8) => (J139_14 n M8) | none => none) | none => none) else none) | none => none
set_option maxRecDepth 100000 in
set_option maxHeartbeats 4000000 in
theorem F139_ev (sc : Option (Nat × (Nat → Int32))) (n : Nat)  (M : Mem) (e : Nat) (he : 7 ≤ e) (r : Int32) (M' : Mem) (h : F139 n M = some (r, M')) : pm_ev pmT sc e 139 false (0, [some (.ref 12), some (.ref 1), none], [], 129, 17845, hp M) (some (.int r), 129, 17845, hp M') := by
  unfold F139 at h
  refine pe_blk mm_139 1 (s' := (1, [some (.ref 12), some (.ref 1), none], [.ref 12], _, _, _)) rfl ?_
  refine pe_get mm_139 rfl rfl rfl (by decide) rfl ?_
  show pm_ev _ _ _ _ _ (4, [some (.ref 12), some (.ref 1), none], va_rf (M.2.1 12 4) :: [], _, _, _) _
  cases hq3 : M.2.1 12 4 with
  | none => rw [hq3] at h; cases h
  | some p1 =>
    rw [hq3] at h
    dsimp only at h
    by_cases f2 : isR p1
    · rw [if_pos f2] at h
      show pm_ev _ _ _ _ _ (4, [some (.ref 12), some (.ref 1), none], [.ref p1], _, _, _) _
      obtain ⟨e1, rfl⟩ : ∃ e1, e = e1 + 1 := ⟨e - 1, by omega⟩
      cases hc6 : F165 n p1 M with
      | none => rw [hc6] at h; cases h
      | some w =>
        obtain ⟨v4, M5⟩ := w
        rw [hc6] at h
        dsimp only at h
        refine pe_virt (al := []) (a := p1) (L0 := [some (.ref p1)]) (r1 := (none, 129, 17845, hp M5)) mm_139 rfl rfl rfl mm_165 (isR_0 f2 _) (by have := isR_lt f2; omega) (by decide) rfl (Nat.le_of_ble_eq_true rfl) (Nat.le_of_ble_eq_true rfl) rfl rfl (F165_ev sc n p1 f2 _ e1 (by omega) _ _ hc6) ?_
        show pm_ev _ _ _ _ _ (7, [some (.ref 12), some (.ref 1), none], [], _, _, _) _
        refine pe_blk mm_139 1 (s' := (8, [some (.ref 12), some (.ref 1), none], [.ref 12], _, _, _)) rfl ?_
        refine pe_get mm_139 rfl rfl rfl (by decide) rfl ?_
        skip
        cases hc9 : F160 n 13 M5 with
        | none => rw [hc9] at h; cases h
        | some w =>
          obtain ⟨v7, M8⟩ := w
          rw [hc9] at h
          dsimp only at h
          refine pe_virt (al := []) (a := 13) (L0 := [some (.ref 13)]) (r1 := (none, 129, 17845, hp M8)) mm_139 rfl rfl rfl mm_160 rfl (by decide) (by decide) rfl (Nat.le_of_ble_eq_true rfl) (Nat.le_of_ble_eq_true rfl) rfl rfl (F160_ev sc n 13 (by decide) _ e1 (by omega) _ _ hc9) ?_
          show pm_ev _ _ _ _ _ (14, [some (.ref 12), some (.ref 1), none], [], _, _, _) _
          exact J139_14_ev sc n (e1 + 1) he _ _ _ _ h
    · rw [if_neg f2] at h
      cases h
def J194_211 (n : Nat) (gg : Nat → Int32 → Int32 → Mem → Option (Unit × Mem)) (b : Nat) (M : Mem) : Option (Unit × Mem) :=
  some ((), M)
set_option maxRecDepth 100000 in
set_option maxHeartbeats 4000000 in
theorem J194_211_ev (sc : Option (Nat × (Nat → Int32))) (n : Nat) (gg : Nat → Int32 → Int32 → Mem → Option (Unit × Mem)) (b : Nat) (E : Nat) (hg : ∀ (b : Nat) (a0 : Int32) (a1 : Int32) (hb : isT b) (M : Mem) (e : Nat), E ≤ e → ∀ (r : Unit) (M' : Mem), gg b a0 a1 M = some (r, M') → pm_ev pmT sc e 194 false (0, [some (.ref b), some (.int a0), some (.int a1), none, none, none, none, none, none], [], 129, 17845, hp M) (none, 129, 17845, hp M')) (hb : isT b) (e : Nat) (he : 2 + E ≤ e) : ∀ (u0 : Option Value) (u1 : Option Value) (u2 : Option Value) (u3 : Option Value) (u4 : Option Value) (u5 : Option Value) (u6 : Option Value) (u7 : Option Value) (u8 : Option Value) (M : Mem) (r : Unit) (M' : Mem), J194_211 n gg b  M = some (r, M') → pm_ev pmT sc e 194 false (211, [u0, u1, u2, u3, u4, u5, u6, u7, u8], [], 129, 17845, hp M) (none, 129, 17845, hp M') := by
  intro u0 u1 u2 u3 u4 u5 u6 u7 u8 M r M' h
  unfold J194_211 at h
  cases h
  exact pe_ret mm_194 rfl rfl
def J194_184 (n : Nat) (gg : Nat → Int32 → Int32 → Mem → Option (Unit × Mem)) (b : Nat) (x2 : Int32) (x5 : Int32) (x7 : Int32) (x8 : Int32) (M : Mem) : Option (Unit × Mem) :=
  match gg b (x5 + 2) (x2 + 1) M with | some (v54, M55) => (if x8 = 0 then (J194_211 n gg b M55) else (if x7 < 0 ∨ 4 ≤ (x7 : Int32).toNatClampNeg then none else (if x7 < 0 ∨ 4 ≤ (x7 : Int32).toNatClampNeg then none else (mlet (m_i M55 (b + 3) (x7 : Int32).toNatClampNeg ((M55.1 (b + 3) (x7 : Int32).toNatClampNeg) - 1)) (fun M60 => J194_211 n gg b M60))))) | none => none
set_option maxRecDepth 100000 in
set_option maxHeartbeats 4000000 in
theorem J194_184_ev (sc : Option (Nat × (Nat → Int32))) (n : Nat) (gg : Nat → Int32 → Int32 → Mem → Option (Unit × Mem)) (b : Nat) (E : Nat) (hg : ∀ (b : Nat) (a0 : Int32) (a1 : Int32) (hb : isT b) (M : Mem) (e : Nat), E ≤ e → ∀ (r : Unit) (M' : Mem), gg b a0 a1 M = some (r, M') → pm_ev pmT sc e 194 false (0, [some (.ref b), some (.int a0), some (.int a1), none, none, none, none, none, none], [], 129, 17845, hp M) (none, 129, 17845, hp M')) (hb : isT b) (e : Nat) (he : 2 + E ≤ e) : ∀ (x2 : Int32) (x5 : Int32) (x7 : Int32) (x8 : Int32) (u1 : Option Value) (u3 : Option Value) (u4 : Option Value) (u6 : Option Value) (M : Mem) (r : Unit) (M' : Mem), J194_184 n gg b x2 x5 x7 x8 M = some (r, M') → pm_ev pmT sc e 194 false (184, [some (.ref b), u1, some (.int x2), u3, u4, some (.int x5), u6, some (.int x7), some (.int x8)], [], 129, 17845, hp M) (none, 129, 17845, hp M') := by
  intro x2 x5 x7 x8 u1 u3 u4 u6 M r M' h
  unfold J194_184 at h
  refine pe_blk mm_194 7 (s' := (192, [some (.ref b), u1, some (.int x2), u3, u4, some (.int x5), u6, some (.int x7), some (.int x8)], [.int (x2 + 1), .int (x5 + 2), .ref b], _, _, _)) rfl ?_
  obtain ⟨e1, rfl⟩ : ∃ e1, e = e1 + 1 := ⟨e - 1, by omega⟩
  cases hc56 : gg b (x5 + 2) (x2 + 1) M with
  | none => rw [hc56] at h; cases h
  | some w =>
    obtain ⟨v54, M55⟩ := w
    rw [hc56] at h
    dsimp only at h
    refine pe_virt (al := [.int (x2 + 1), .int (x5 + 2)]) (a := b) (L0 := [some (.ref b), some (.int (x5 + 2)), some (.int (x2 + 1)), none, none, none, none, none, none]) (r1 := (none, 129, 17845, hp M55)) mm_194 rfl rfl rfl mm_194 (isT_0 hb _) (by have := isT_lt hb; omega) (by decide) rfl (Nat.le_of_ble_eq_true rfl) (Nat.le_of_ble_eq_true rfl) rfl rfl (hg b (x5 + 2) (x2 + 1) hb _ e1 (by omega) _ _ hc56) ?_
    show pm_ev _ _ _ _ _ (195, [some (.ref b), u1, some (.int x2), u3, u4, some (.int x5), u6, some (.int x7), some (.int x8)], [], _, _, _) _
    refine pe_blk mm_194 1 (s' := (197, [some (.ref b), u1, some (.int x2), u3, u4, some (.int x5), u6, some (.int x7), some (.int x8)], [.int x8], _, _, _)) rfl ?_
    by_cases q57 : x8 = 0
    · rw [if_pos q57] at h
      refine pe_blk mm_194 1 (s' := (if x8 = 0 then 211 else 200, [some (.ref b), u1, some (.int x2), u3, u4, some (.int x5), u6, some (.int x7), some (.int x8)], [], _, _, _)) rfl ?_
      rw [if_pos q57]
      exact J194_211_ev sc n gg b E hg hb (e1 + 1) he _ _ _ _ _ _ _ _ _ _ _ _ h
    · rw [if_neg q57] at h
      refine pe_blk mm_194 1 (s' := (if x8 = 0 then 211 else 200, [some (.ref b), u1, some (.int x2), u3, u4, some (.int x5), u6, some (.int x7), some (.int x8)], [], _, _, _)) rfl ?_
      rw [if_neg q57]
      refine pe_blk mm_194 1 (s' := (201, [some (.ref b), u1, some (.int x2), u3, u4, some (.int x5), u6, some (.int x7), some (.int x8)], [.ref b], _, _, _)) rfl ?_
      refine pe_get mm_194 rfl rfl (isT_0 hb _) (by have := isT_lt hb; omega) rfl ?_
      refine pe_blk mm_194 2 (s' := (207, [some (.ref b), u1, some (.int x2), u3, u4, some (.int x5), u6, some (.int x7), some (.int x8)], [.int x7, .ref (b + 3), .int x7, .ref (b + 3)], _, _, _)) rfl ?_
      by_cases q58 : x7 < 0 ∨ 4 ≤ (x7 : Int32).toNatClampNeg
      · rw [if_pos q58] at h
        cases h
      · rw [if_neg q58] at h
        refine pe_iald (f := M55.1 (b + 3)) mm_194 rfl (isT_3 hb _) (by have := isT_lt hb; omega) q58 ?_
        refine pe_blk mm_194 2 (s' := (210, [some (.ref b), u1, some (.int x2), u3, u4, some (.int x5), u6, some (.int x7), some (.int x8)], [.int ((M55.1 (b + 3) (x7 : Int32).toNatClampNeg) - 1), .int x7, .ref (b + 3)], _, _, _)) rfl ?_
        by_cases q59 : x7 < 0 ∨ 4 ≤ (x7 : Int32).toNatClampNeg
        · rw [if_pos q59] at h
          cases h
        · rw [if_neg q59] at h
          refine pe_iasti mm_194 rfl (isT_3 hb _) (by have := isT_lt hb; omega) q59 ((isT_3 hb _).trans (by simp [m_i])) ?_
          show pm_ev _ _ _ _ _ (211, [some (.ref b), u1, some (.int x2), u3, u4, some (.int x5), u6, some (.int x7), some (.int x8)], [], _, _, hp (m_i M55 (b + 3) (x7 : Int32).toNatClampNeg ((M55.1 (b + 3) (x7 : Int32).toNatClampNeg) - 1))) _
          generalize m_i M55 (b + 3) (x7 : Int32).toNatClampNeg ((M55.1 (b + 3) (x7 : Int32).toNatClampNeg) - 1) = M60 at h ⊢
          rw [mlet] at h
          exact J194_211_ev sc n gg b E hg hb (e1 + 1) he _ _ _ _ _ _ _ _ _ _ _ _ h
def J194_166 (n : Nat) (gg : Nat → Int32 → Int32 → Mem → Option (Unit × Mem)) (b : Nat) (x2 : Int32) (x5 : Int32) (x7 : Int32) (s0 : Int32) (M : Mem) : Option (Unit × Mem) :=
  if s0 = 0 then (J194_184 n gg b x2 x5 x7 s0 M) else (if x7 < 0 ∨ 4 ≤ (x7 : Int32).toNatClampNeg then none else (if x7 < 0 ∨ 4 ≤ (x7 : Int32).toNatClampNeg then none else (mlet (m_i M (b + 3) (x7 : Int32).toNatClampNeg ((M.1 (b + 3) (x7 : Int32).toNatClampNeg) + 1)) (fun M63 => J194_184 n gg b x2 x5 x7 s0 M63))))
set_option maxRecDepth 100000 in
set_option maxHeartbeats 4000000 in
theorem J194_166_ev (sc : Option (Nat × (Nat → Int32))) (n : Nat) (gg : Nat → Int32 → Int32 → Mem → Option (Unit × Mem)) (b : Nat) (E : Nat) (hg : ∀ (b : Nat) (a0 : Int32) (a1 : Int32) (hb : isT b) (M : Mem) (e : Nat), E ≤ e → ∀ (r : Unit) (M' : Mem), gg b a0 a1 M = some (r, M') → pm_ev pmT sc e 194 false (0, [some (.ref b), some (.int a0), some (.int a1), none, none, none, none, none, none], [], 129, 17845, hp M) (none, 129, 17845, hp M')) (hb : isT b) (e : Nat) (he : 2 + E ≤ e) : ∀ (x2 : Int32) (x5 : Int32) (x7 : Int32) (s0 : Int32) (u1 : Option Value) (u3 : Option Value) (u4 : Option Value) (u6 : Option Value) (u8 : Option Value) (M : Mem) (r : Unit) (M' : Mem), J194_166 n gg b x2 x5 x7 s0 M = some (r, M') → pm_ev pmT sc e 194 false (166, [some (.ref b), u1, some (.int x2), u3, u4, some (.int x5), u6, some (.int x7), u8], [.int s0], 129, 17845, hp M) (none, 129, 17845, hp M') := by
  intro x2 x5 x7 s0 u1 u3 u4 u6 u8 M r M' h
  unfold J194_166 at h
  refine pe_blk mm_194 2 (s' := (170, [some (.ref b), u1, some (.int x2), u3, u4, some (.int x5), u6, some (.int x7), some (.int s0)], [.int s0], _, _, _)) rfl ?_
  by_cases q53 : s0 = 0
  · rw [if_pos q53] at h
    refine pe_blk mm_194 1 (s' := (if s0 = 0 then 184 else 173, [some (.ref b), u1, some (.int x2), u3, u4, some (.int x5), u6, some (.int x7), some (.int s0)], [], _, _, _)) rfl ?_
    rw [if_pos q53]
    exact J194_184_ev sc n gg b E hg hb e he x2 x5 x7 s0 _ _ _ _ _ _ _ h
  · rw [if_neg q53] at h
    refine pe_blk mm_194 1 (s' := (if s0 = 0 then 184 else 173, [some (.ref b), u1, some (.int x2), u3, u4, some (.int x5), u6, some (.int x7), some (.int s0)], [], _, _, _)) rfl ?_
    rw [if_neg q53]
    refine pe_blk mm_194 1 (s' := (174, [some (.ref b), u1, some (.int x2), u3, u4, some (.int x5), u6, some (.int x7), some (.int s0)], [.ref b], _, _, _)) rfl ?_
    refine pe_get mm_194 rfl rfl (isT_0 hb _) (by have := isT_lt hb; omega) rfl ?_
    refine pe_blk mm_194 2 (s' := (180, [some (.ref b), u1, some (.int x2), u3, u4, some (.int x5), u6, some (.int x7), some (.int s0)], [.int x7, .ref (b + 3), .int x7, .ref (b + 3)], _, _, _)) rfl ?_
    by_cases q61 : x7 < 0 ∨ 4 ≤ (x7 : Int32).toNatClampNeg
    · rw [if_pos q61] at h
      cases h
    · rw [if_neg q61] at h
      refine pe_iald (f := M.1 (b + 3)) mm_194 rfl (isT_3 hb _) (by have := isT_lt hb; omega) q61 ?_
      refine pe_blk mm_194 2 (s' := (183, [some (.ref b), u1, some (.int x2), u3, u4, some (.int x5), u6, some (.int x7), some (.int s0)], [.int ((M.1 (b + 3) (x7 : Int32).toNatClampNeg) + 1), .int x7, .ref (b + 3)], _, _, _)) rfl ?_
      by_cases q62 : x7 < 0 ∨ 4 ≤ (x7 : Int32).toNatClampNeg
      · rw [if_pos q62] at h
        cases h
      · rw [if_neg q62] at h
        refine pe_iasti mm_194 rfl (isT_3 hb _) (by have := isT_lt hb; omega) q62 ((isT_3 hb _).trans (by simp [m_i])) ?_
        show pm_ev _ _ _ _ _ (184, [some (.ref b), u1, some (.int x2), u3, u4, some (.int x5), u6, some (.int x7), some (.int s0)], [], _, _, hp (m_i M (b + 3) (x7 : Int32).toNatClampNeg ((M.1 (b + 3) (x7 : Int32).toNatClampNeg) + 1))) _
        generalize m_i M (b + 3) (x7 : Int32).toNatClampNeg ((M.1 (b + 3) (x7 : Int32).toNatClampNeg) + 1) = M63 at h ⊢
        rw [mlet] at h
        exact J194_184_ev sc n gg b E hg hb e he x2 x5 x7 s0 _ _ _ _ _ _ _ h
def J194_165 (n : Nat) (gg : Nat → Int32 → Int32 → Mem → Option (Unit × Mem)) (b : Nat) (x2 : Int32) (x5 : Int32) (x7 : Int32) (M : Mem) : Option (Unit × Mem) :=
  J194_166 n gg b x2 x5 x7 0 M
set_option maxRecDepth 100000 in
set_option maxHeartbeats 4000000 in
theorem J194_165_ev (sc : Option (Nat × (Nat → Int32))) (n : Nat) (gg : Nat → Int32 → Int32 → Mem → Option (Unit × Mem)) (b : Nat) (E : Nat) (hg : ∀ (b : Nat) (a0 : Int32) (a1 : Int32) (hb : isT b) (M : Mem) (e : Nat), E ≤ e → ∀ (r : Unit) (M' : Mem), gg b a0 a1 M = some (r, M') → pm_ev pmT sc e 194 false (0, [some (.ref b), some (.int a0), some (.int a1), none, none, none, none, none, none], [], 129, 17845, hp M) (none, 129, 17845, hp M')) (hb : isT b) (e : Nat) (he : 2 + E ≤ e) : ∀ (x2 : Int32) (x5 : Int32) (x7 : Int32) (u1 : Option Value) (u3 : Option Value) (u4 : Option Value) (u6 : Option Value) (u8 : Option Value) (M : Mem) (r : Unit) (M' : Mem), J194_165 n gg b x2 x5 x7 M = some (r, M') → pm_ev pmT sc e 194 false (165, [some (.ref b), u1, some (.int x2), u3, u4, some (.int x5), u6, some (.int x7), u8], [], 129, 17845, hp M) (none, 129, 17845, hp M') := by
  intro x2 x5 x7 u1 u3 u4 u6 u8 M r M' h
  unfold J194_165 at h
  refine pe_blk mm_194 1 (s' := (166, [some (.ref b), u1, some (.int x2), u3, u4, some (.int x5), u6, some (.int x7), u8], [.int 0], _, _, _)) rfl ?_
  exact J194_166_ev sc n gg b E hg hb e he x2 x5 x7 0 _ _ _ _ _ _ _ _ h
def J194_155 (n : Nat) (gg : Nat → Int32 → Int32 → Mem → Option (Unit × Mem)) (b : Nat) (x2 : Int32) (x5 : Int32) (x7 : Int32) (M : Mem) : Option (Unit × Mem) :=
  if 4 ≤ x7 then (J194_165 n gg b x2 x5 x7 M) else (J194_166 n gg b x2 x5 x7 1 M)
set_option maxRecDepth 100000 in
set_option maxHeartbeats 4000000 in
theorem J194_155_ev (sc : Option (Nat × (Nat → Int32))) (n : Nat) (gg : Nat → Int32 → Int32 → Mem → Option (Unit × Mem)) (b : Nat) (E : Nat) (hg : ∀ (b : Nat) (a0 : Int32) (a1 : Int32) (hb : isT b) (M : Mem) (e : Nat), E ≤ e → ∀ (r : Unit) (M' : Mem), gg b a0 a1 M = some (r, M') → pm_ev pmT sc e 194 false (0, [some (.ref b), some (.int a0), some (.int a1), none, none, none, none, none, none], [], 129, 17845, hp M) (none, 129, 17845, hp M')) (hb : isT b) (e : Nat) (he : 2 + E ≤ e) : ∀ (x2 : Int32) (x5 : Int32) (x7 : Int32) (u1 : Option Value) (u3 : Option Value) (u4 : Option Value) (u6 : Option Value) (u8 : Option Value) (M : Mem) (r : Unit) (M' : Mem), J194_155 n gg b x2 x5 x7 M = some (r, M') → pm_ev pmT sc e 194 false (155, [some (.ref b), u1, some (.int x2), u3, u4, some (.int x5), u6, some (.int x7), u8], [], 129, 17845, hp M) (none, 129, 17845, hp M') := by
  intro x2 x5 x7 u1 u3 u4 u6 u8 M r M' h
  unfold J194_155 at h
  refine pe_blk mm_194 2 (s' := (158, [some (.ref b), u1, some (.int x2), u3, u4, some (.int x5), u6, some (.int x7), u8], [.int 4, .int x7], _, _, _)) rfl ?_
  by_cases q64 : 4 ≤ x7
  · rw [if_pos q64] at h
    refine pe_blk mm_194 1 (s' := (if 4 ≤ x7 then 165 else 161, [some (.ref b), u1, some (.int x2), u3, u4, some (.int x5), u6, some (.int x7), u8], [], _, _, _)) rfl ?_
    rw [if_pos q64]
    exact J194_165_ev sc n gg b E hg hb e he x2 x5 x7 _ _ _ _ _ _ _ _ h
  · rw [if_neg q64] at h
    refine pe_blk mm_194 1 (s' := (if 4 ≤ x7 then 165 else 161, [some (.ref b), u1, some (.int x2), u3, u4, some (.int x5), u6, some (.int x7), u8], [], _, _, _)) rfl ?_
    rw [if_neg q64]
    refine pe_blk mm_194 2 (s' := (166, [some (.ref b), u1, some (.int x2), u3, u4, some (.int x5), u6, some (.int x7), u8], [.int 1], _, _, _)) rfl ?_
    exact J194_166_ev sc n gg b E hg hb e he x2 x5 x7 1 _ _ _ _ _ _ _ _ h
def J194_139 (n : Nat) (gg : Nat → Int32 → Int32 → Mem → Option (Unit × Mem)) (b : Nat) (x2 : Int32) (x5 : Int32) (M : Mem) : Option (Unit × Mem) :=
  match M.2.1 b 4 with | some p46 => (if isD p46 then (match F123 n p46 x5 M with | some (v49, M50) => (if v49 < 0 then (J194_165 n gg b x2 x5 v49 M50) else (J194_155 n gg b x2 x5 v49 M50)) | none => none) else none) | none => none
set_option maxRecDepth 100000 in
set_option maxHeartbeats 4000000 in
theorem J194_139_ev (sc : Option (Nat × (Nat → Int32))) (n : Nat) (gg : Nat → Int32 → Int32 → Mem → Option (Unit × Mem)) (b : Nat) (E : Nat) (hg : ∀ (b : Nat) (a0 : Int32) (a1 : Int32) (hb : isT b) (M : Mem) (e : Nat), E ≤ e → ∀ (r : Unit) (M' : Mem), gg b a0 a1 M = some (r, M') → pm_ev pmT sc e 194 false (0, [some (.ref b), some (.int a0), some (.int a1), none, none, none, none, none, none], [], 129, 17845, hp M) (none, 129, 17845, hp M')) (hb : isT b) (e : Nat) (he : 2 + E ≤ e) : ∀ (x2 : Int32) (x5 : Int32) (u1 : Option Value) (u3 : Option Value) (u4 : Option Value) (u6 : Option Value) (u7 : Option Value) (u8 : Option Value) (M : Mem) (r : Unit) (M' : Mem), J194_139 n gg b x2 x5 M = some (r, M') → pm_ev pmT sc e 194 false (139, [some (.ref b), u1, some (.int x2), u3, u4, some (.int x5), u6, u7, u8], [], 129, 17845, hp M) (none, 129, 17845, hp M') := by
  intro x2 x5 u1 u3 u4 u6 u7 u8 M r M' h
  unfold J194_139 at h
  refine pe_blk mm_194 1 (s' := (140, [some (.ref b), u1, some (.int x2), u3, u4, some (.int x5), u6, u7, u8], [.ref b], _, _, _)) rfl ?_
  refine pe_get mm_194 rfl rfl (isT_0 hb _) (by have := isT_lt hb; omega) rfl ?_
  show pm_ev _ _ _ _ _ (143, [some (.ref b), u1, some (.int x2), u3, u4, some (.int x5), u6, u7, u8], va_rf (M.2.1 b 4) :: [], _, _, _) _
  cases hq48 : M.2.1 b 4 with
  | none => rw [hq48] at h; cases h
  | some p46 =>
    rw [hq48] at h
    dsimp only at h
    by_cases f47 : isD p46
    · rw [if_pos f47] at h
      show pm_ev _ _ _ _ _ (143, [some (.ref b), u1, some (.int x2), u3, u4, some (.int x5), u6, u7, u8], [.ref p46], _, _, _) _
      refine pe_blk mm_194 1 (s' := (145, [some (.ref b), u1, some (.int x2), u3, u4, some (.int x5), u6, u7, u8], [.int x5, .ref p46], _, _, _)) rfl ?_
      obtain ⟨e1, rfl⟩ : ∃ e1, e = e1 + 1 := ⟨e - 1, by omega⟩
      cases hc51 : F123 n p46 x5 M with
      | none => rw [hc51] at h; cases h
      | some w =>
        obtain ⟨v49, M50⟩ := w
        rw [hc51] at h
        dsimp only at h
        refine pe_virt (al := [.int x5]) (a := p46) (L0 := [some (.ref p46), some (.int x5)]) (r1 := (some (.int v49), 129, 17845, hp M50)) mm_194 rfl rfl rfl mm_123 (isD_0 f47 _) (by have := isD_lt f47; omega) (by decide) rfl (Nat.le_of_ble_eq_true rfl) (Nat.le_of_ble_eq_true rfl) rfl rfl (F123_ev sc n p46 x5 f47 _ e1 (by omega) _ _ hc51) ?_
        show pm_ev _ _ _ _ _ (148, [some (.ref b), u1, some (.int x2), u3, u4, some (.int x5), u6, u7, u8], [.int v49], _, _, _) _
        refine pe_blk mm_194 2 (s' := (152, [some (.ref b), u1, some (.int x2), u3, u4, some (.int x5), u6, some (.int v49), u8], [.int v49], _, _, _)) rfl ?_
        by_cases q52 : v49 < 0
        · rw [if_pos q52] at h
          refine pe_blk mm_194 1 (s' := (if v49 < 0 then 165 else 155, [some (.ref b), u1, some (.int x2), u3, u4, some (.int x5), u6, some (.int v49), u8], [], _, _, _)) rfl ?_
          rw [if_pos q52]
          exact J194_165_ev sc n gg b E hg hb (e1 + 1) he x2 x5 v49 _ _ _ _ _ _ _ _ h
        · rw [if_neg q52] at h
          refine pe_blk mm_194 1 (s' := (if v49 < 0 then 165 else 155, [some (.ref b), u1, some (.int x2), u3, u4, some (.int x5), u6, some (.int v49), u8], [], _, _, _)) rfl ?_
          rw [if_neg q52]
          exact J194_155_ev sc n gg b E hg hb (e1 + 1) he x2 x5 v49 _ _ _ _ _ _ _ _ h
    · rw [if_neg f47] at h
      cases h
def J194_120 (n : Nat) (gg : Nat → Int32 → Int32 → Mem → Option (Unit × Mem)) (b : Nat) (x2 : Int32) (x4 : Int32) (x5 : Int32) (M : Mem) : Option (Unit × Mem) :=
  if x4 = 0 then (match M.2.1 b 4 with | some p39 => (if isD p39 then (match F118 n p39 x5 M with | some (v42, M43) => (if v42 = 63 then (J194_211 n gg b M43) else (J194_139 n gg b x2 x5 M43)) | none => none) else none) | none => none) else (J194_139 n gg b x2 x5 M)
set_option maxRecDepth 100000 in
set_option maxHeartbeats 4000000 in
theorem J194_120_ev (sc : Option (Nat × (Nat → Int32))) (n : Nat) (gg : Nat → Int32 → Int32 → Mem → Option (Unit × Mem)) (b : Nat) (E : Nat) (hg : ∀ (b : Nat) (a0 : Int32) (a1 : Int32) (hb : isT b) (M : Mem) (e : Nat), E ≤ e → ∀ (r : Unit) (M' : Mem), gg b a0 a1 M = some (r, M') → pm_ev pmT sc e 194 false (0, [some (.ref b), some (.int a0), some (.int a1), none, none, none, none, none, none], [], 129, 17845, hp M) (none, 129, 17845, hp M')) (hb : isT b) (e : Nat) (he : 2 + E ≤ e) : ∀ (x2 : Int32) (x4 : Int32) (x5 : Int32) (u1 : Option Value) (u3 : Option Value) (u6 : Option Value) (u7 : Option Value) (u8 : Option Value) (M : Mem) (r : Unit) (M' : Mem), J194_120 n gg b x2 x4 x5 M = some (r, M') → pm_ev pmT sc e 194 false (120, [some (.ref b), u1, some (.int x2), u3, some (.int x4), some (.int x5), u6, u7, u8], [], 129, 17845, hp M) (none, 129, 17845, hp M') := by
  intro x2 x4 x5 u1 u3 u6 u7 u8 M r M' h
  unfold J194_120 at h
  refine pe_blk mm_194 1 (s' := (122, [some (.ref b), u1, some (.int x2), u3, some (.int x4), some (.int x5), u6, u7, u8], [.int x4], _, _, _)) rfl ?_
  by_cases q38 : x4 = 0
  · rw [if_pos q38] at h
    refine pe_blk mm_194 1 (s' := (if x4 = 0 then 125 else 139, [some (.ref b), u1, some (.int x2), u3, some (.int x4), some (.int x5), u6, u7, u8], [], _, _, _)) rfl ?_
    rw [if_pos q38]
    refine pe_blk mm_194 1 (s' := (126, [some (.ref b), u1, some (.int x2), u3, some (.int x4), some (.int x5), u6, u7, u8], [.ref b], _, _, _)) rfl ?_
    refine pe_get mm_194 rfl rfl (isT_0 hb _) (by have := isT_lt hb; omega) rfl ?_
    show pm_ev _ _ _ _ _ (129, [some (.ref b), u1, some (.int x2), u3, some (.int x4), some (.int x5), u6, u7, u8], va_rf (M.2.1 b 4) :: [], _, _, _) _
    cases hq41 : M.2.1 b 4 with
    | none => rw [hq41] at h; cases h
    | some p39 =>
      rw [hq41] at h
      dsimp only at h
      by_cases f40 : isD p39
      · rw [if_pos f40] at h
        show pm_ev _ _ _ _ _ (129, [some (.ref b), u1, some (.int x2), u3, some (.int x4), some (.int x5), u6, u7, u8], [.ref p39], _, _, _) _
        refine pe_blk mm_194 1 (s' := (131, [some (.ref b), u1, some (.int x2), u3, some (.int x4), some (.int x5), u6, u7, u8], [.int x5, .ref p39], _, _, _)) rfl ?_
        obtain ⟨e1, rfl⟩ : ∃ e1, e = e1 + 1 := ⟨e - 1, by omega⟩
        cases hc44 : F118 n p39 x5 M with
        | none => rw [hc44] at h; cases h
        | some w =>
          obtain ⟨v42, M43⟩ := w
          rw [hc44] at h
          dsimp only at h
          refine pe_virt (al := [.int x5]) (a := p39) (L0 := [some (.ref p39), some (.int x5)]) (r1 := (some (.int v42), 129, 17845, hp M43)) mm_194 rfl rfl rfl mm_118 (isD_0 f40 _) (by have := isD_lt f40; omega) (by decide) rfl (Nat.le_of_ble_eq_true rfl) (Nat.le_of_ble_eq_true rfl) rfl rfl (F118_ev sc n p39 x5 f40 _ e1 (by omega) _ _ hc44) ?_
          show pm_ev _ _ _ _ _ (134, [some (.ref b), u1, some (.int x2), u3, some (.int x4), some (.int x5), u6, u7, u8], [.int v42], _, _, _) _
          refine pe_blk mm_194 1 (s' := (136, [some (.ref b), u1, some (.int x2), u3, some (.int x4), some (.int x5), u6, u7, u8], [.int 63, .int v42], _, _, _)) rfl ?_
          by_cases q45 : v42 = 63
          · rw [if_pos q45] at h
            refine pe_blk mm_194 1 (s' := (if v42 = 63 then 211 else 139, [some (.ref b), u1, some (.int x2), u3, some (.int x4), some (.int x5), u6, u7, u8], [], _, _, _)) rfl ?_
            rw [if_pos q45]
            exact J194_211_ev sc n gg b E hg hb (e1 + 1) he _ _ _ _ _ _ _ _ _ _ _ _ h
          · rw [if_neg q45] at h
            refine pe_blk mm_194 1 (s' := (if v42 = 63 then 211 else 139, [some (.ref b), u1, some (.int x2), u3, some (.int x4), some (.int x5), u6, u7, u8], [], _, _, _)) rfl ?_
            rw [if_neg q45]
            exact J194_139_ev sc n gg b E hg hb (e1 + 1) he x2 x5 _ _ _ _ _ _ _ _ _ h
      · rw [if_neg f40] at h
        cases h
  · rw [if_neg q38] at h
    refine pe_blk mm_194 1 (s' := (if x4 = 0 then 125 else 139, [some (.ref b), u1, some (.int x2), u3, some (.int x4), some (.int x5), u6, u7, u8], [], _, _, _)) rfl ?_
    rw [if_neg q38]
    exact J194_139_ev sc n gg b E hg hb e he x2 x5 _ _ _ _ _ _ _ _ _ h
def J194_105 (n : Nat) (gg : Nat → Int32 → Int32 → Mem → Option (Unit × Mem)) (b : Nat) (x2 : Int32) (x4 : Int32) (x5 : Int32) (x6 : Int32) (M : Mem) : Option (Unit × Mem) :=
  if x6 = (-1) then (J194_120 n gg b x2 x4 x5 M) else (match F195 n b x6 M with | some (v65, M66) => (J194_211 n gg b M66) | none => none)
set_option maxRecDepth 100000 in
set_option maxHeartbeats 4000000 in
theorem J194_105_ev (sc : Option (Nat × (Nat → Int32))) (n : Nat) (gg : Nat → Int32 → Int32 → Mem → Option (Unit × Mem)) (b : Nat) (E : Nat) (hg : ∀ (b : Nat) (a0 : Int32) (a1 : Int32) (hb : isT b) (M : Mem) (e : Nat), E ≤ e → ∀ (r : Unit) (M' : Mem), gg b a0 a1 M = some (r, M') → pm_ev pmT sc e 194 false (0, [some (.ref b), some (.int a0), some (.int a1), none, none, none, none, none, none], [], 129, 17845, hp M) (none, 129, 17845, hp M')) (hb : isT b) (e : Nat) (he : 2 + E ≤ e) : ∀ (x2 : Int32) (x4 : Int32) (x5 : Int32) (x6 : Int32) (u1 : Option Value) (u3 : Option Value) (u7 : Option Value) (u8 : Option Value) (M : Mem) (r : Unit) (M' : Mem), J194_105 n gg b x2 x4 x5 x6 M = some (r, M') → pm_ev pmT sc e 194 false (105, [some (.ref b), u1, some (.int x2), u3, some (.int x4), some (.int x5), some (.int x6), u7, u8], [], 129, 17845, hp M) (none, 129, 17845, hp M') := by
  intro x2 x4 x5 x6 u1 u3 u7 u8 M r M' h
  unfold J194_105 at h
  refine pe_blk mm_194 2 (s' := (108, [some (.ref b), u1, some (.int x2), u3, some (.int x4), some (.int x5), some (.int x6), u7, u8], [.int (-1), .int x6], _, _, _)) rfl ?_
  by_cases q37 : x6 = (-1)
  · rw [if_pos q37] at h
    refine pe_blk mm_194 1 (s' := (if x6 = (-1) then 120 else 111, [some (.ref b), u1, some (.int x2), u3, some (.int x4), some (.int x5), some (.int x6), u7, u8], [], _, _, _)) rfl ?_
    rw [if_pos q37]
    exact J194_120_ev sc n gg b E hg hb e he x2 x4 x5 _ _ _ _ _ _ _ _ h
  · rw [if_neg q37] at h
    refine pe_blk mm_194 1 (s' := (if x6 = (-1) then 120 else 111, [some (.ref b), u1, some (.int x2), u3, some (.int x4), some (.int x5), some (.int x6), u7, u8], [], _, _, _)) rfl ?_
    rw [if_neg q37]
    refine pe_blk mm_194 2 (s' := (114, [some (.ref b), u1, some (.int x2), u3, some (.int x4), some (.int x5), some (.int x6), u7, u8], [.int x6, .ref b], _, _, _)) rfl ?_
    obtain ⟨e1, rfl⟩ : ∃ e1, e = e1 + 1 := ⟨e - 1, by omega⟩
    cases hc67 : F195 n b x6 M with
    | none => rw [hc67] at h; cases h
    | some w =>
      obtain ⟨v65, M66⟩ := w
      rw [hc67] at h
      dsimp only at h
      refine pe_virt (al := [.int x6]) (a := b) (L0 := [some (.ref b), some (.int x6), none, none]) (r1 := (none, 129, 17845, hp M66)) mm_194 rfl rfl rfl mm_195 (isT_0 hb _) (by have := isT_lt hb; omega) (by decide) rfl (Nat.le_of_ble_eq_true rfl) (Nat.le_of_ble_eq_true rfl) rfl rfl (F195_ev sc n b x6 hb _ e1 (by omega) _ _ hc67) ?_
      show pm_ev _ _ _ _ _ (117, [some (.ref b), u1, some (.int x2), u3, some (.int x4), some (.int x5), some (.int x6), u7, u8], [], _, _, _) _
      refine pe_blk mm_194 1 (s' := (211, [some (.ref b), u1, some (.int x2), u3, some (.int x4), some (.int x5), some (.int x6), u7, u8], [], _, _, _)) rfl ?_
      exact J194_211_ev sc n gg b E hg hb (e1 + 1) he _ _ _ _ _ _ _ _ _ _ _ _ h
def J194_89 (n : Nat) (gg : Nat → Int32 → Int32 → Mem → Option (Unit × Mem)) (b : Nat) (x2 : Int32) (x4 : Int32) (x5 : Int32) (M : Mem) : Option (Unit × Mem) :=
  match M.2.1 b 4 with | some p30 => (if isD p30 then (match F120 n p30 x5 M with | some (v33, M34) => (if x4 = 0 then (J194_105 n gg b x2 x4 x5 v33 M34) else (J194_120 n gg b x2 x4 x5 M34)) | none => none) else none) | none => none
set_option maxRecDepth 100000 in
set_option maxHeartbeats 4000000 in
theorem J194_89_ev (sc : Option (Nat × (Nat → Int32))) (n : Nat) (gg : Nat → Int32 → Int32 → Mem → Option (Unit × Mem)) (b : Nat) (E : Nat) (hg : ∀ (b : Nat) (a0 : Int32) (a1 : Int32) (hb : isT b) (M : Mem) (e : Nat), E ≤ e → ∀ (r : Unit) (M' : Mem), gg b a0 a1 M = some (r, M') → pm_ev pmT sc e 194 false (0, [some (.ref b), some (.int a0), some (.int a1), none, none, none, none, none, none], [], 129, 17845, hp M) (none, 129, 17845, hp M')) (hb : isT b) (e : Nat) (he : 2 + E ≤ e) : ∀ (x2 : Int32) (x4 : Int32) (x5 : Int32) (u1 : Option Value) (u3 : Option Value) (u6 : Option Value) (u7 : Option Value) (u8 : Option Value) (M : Mem) (r : Unit) (M' : Mem), J194_89 n gg b x2 x4 x5 M = some (r, M') → pm_ev pmT sc e 194 false (89, [some (.ref b), u1, some (.int x2), u3, some (.int x4), some (.int x5), u6, u7, u8], [], 129, 17845, hp M) (none, 129, 17845, hp M') := by
  intro x2 x4 x5 u1 u3 u6 u7 u8 M r M' h
  unfold J194_89 at h
  refine pe_blk mm_194 1 (s' := (90, [some (.ref b), u1, some (.int x2), u3, some (.int x4), some (.int x5), u6, u7, u8], [.ref b], _, _, _)) rfl ?_
  refine pe_get mm_194 rfl rfl (isT_0 hb _) (by have := isT_lt hb; omega) rfl ?_
  show pm_ev _ _ _ _ _ (93, [some (.ref b), u1, some (.int x2), u3, some (.int x4), some (.int x5), u6, u7, u8], va_rf (M.2.1 b 4) :: [], _, _, _) _
  cases hq32 : M.2.1 b 4 with
  | none => rw [hq32] at h; cases h
  | some p30 =>
    rw [hq32] at h
    dsimp only at h
    by_cases f31 : isD p30
    · rw [if_pos f31] at h
      show pm_ev _ _ _ _ _ (93, [some (.ref b), u1, some (.int x2), u3, some (.int x4), some (.int x5), u6, u7, u8], [.ref p30], _, _, _) _
      refine pe_blk mm_194 1 (s' := (95, [some (.ref b), u1, some (.int x2), u3, some (.int x4), some (.int x5), u6, u7, u8], [.int x5, .ref p30], _, _, _)) rfl ?_
      obtain ⟨e1, rfl⟩ : ∃ e1, e = e1 + 1 := ⟨e - 1, by omega⟩
      cases hc35 : F120 n p30 x5 M with
      | none => rw [hc35] at h; cases h
      | some w =>
        obtain ⟨v33, M34⟩ := w
        rw [hc35] at h
        dsimp only at h
        refine pe_virt (al := [.int x5]) (a := p30) (L0 := [some (.ref p30), some (.int x5), none]) (r1 := (some (.int v33), 129, 17845, hp M34)) mm_194 rfl rfl rfl mm_120 (isD_0 f31 _) (by have := isD_lt f31; omega) (by decide) rfl (Nat.le_of_ble_eq_true rfl) (Nat.le_of_ble_eq_true rfl) rfl rfl (F120_ev sc n p30 x5 f31 _ e1 (by omega) _ _ hc35) ?_
        show pm_ev _ _ _ _ _ (98, [some (.ref b), u1, some (.int x2), u3, some (.int x4), some (.int x5), u6, u7, u8], [.int v33], _, _, _) _
        refine pe_blk mm_194 2 (s' := (102, [some (.ref b), u1, some (.int x2), u3, some (.int x4), some (.int x5), some (.int v33), u7, u8], [.int x4], _, _, _)) rfl ?_
        by_cases q36 : x4 = 0
        · rw [if_pos q36] at h
          refine pe_blk mm_194 1 (s' := (if x4 = 0 then 105 else 120, [some (.ref b), u1, some (.int x2), u3, some (.int x4), some (.int x5), some (.int v33), u7, u8], [], _, _, _)) rfl ?_
          rw [if_pos q36]
          exact J194_105_ev sc n gg b E hg hb (e1 + 1) he x2 x4 x5 v33 _ _ _ _ _ _ _ h
        · rw [if_neg q36] at h
          refine pe_blk mm_194 1 (s' := (if x4 = 0 then 105 else 120, [some (.ref b), u1, some (.int x2), u3, some (.int x4), some (.int x5), some (.int v33), u7, u8], [], _, _, _)) rfl ?_
          rw [if_neg q36]
          exact J194_120_ev sc n gg b E hg hb (e1 + 1) he x2 x4 x5 _ _ _ _ _ _ _ _ h
    · rw [if_neg f31] at h
      cases h
def J194_73 (n : Nat) (gg : Nat → Int32 → Int32 → Mem → Option (Unit × Mem)) (b : Nat) (x2 : Int32) (x4 : Int32) (x5 : Int32) (M : Mem) : Option (Unit × Mem) :=
  match M.2.1 b 4 with | some p21 => (if isD p21 then (match F119 n p21 x5 M with | some (v24, M25) => (match gg b v24 (x2 + 1) M25 with | some (v27, M28) => (J194_89 n gg b x2 x4 x5 M28) | none => none) | none => none) else none) | none => none
set_option maxRecDepth 100000 in
set_option maxHeartbeats 4000000 in
theorem J194_73_ev (sc : Option (Nat × (Nat → Int32))) (n : Nat) (gg : Nat → Int32 → Int32 → Mem → Option (Unit × Mem)) (b : Nat) (E : Nat) (hg : ∀ (b : Nat) (a0 : Int32) (a1 : Int32) (hb : isT b) (M : Mem) (e : Nat), E ≤ e → ∀ (r : Unit) (M' : Mem), gg b a0 a1 M = some (r, M') → pm_ev pmT sc e 194 false (0, [some (.ref b), some (.int a0), some (.int a1), none, none, none, none, none, none], [], 129, 17845, hp M) (none, 129, 17845, hp M')) (hb : isT b) (e : Nat) (he : 2 + E ≤ e) : ∀ (x2 : Int32) (x4 : Int32) (x5 : Int32) (u1 : Option Value) (u3 : Option Value) (u6 : Option Value) (u7 : Option Value) (u8 : Option Value) (M : Mem) (r : Unit) (M' : Mem), J194_73 n gg b x2 x4 x5 M = some (r, M') → pm_ev pmT sc e 194 false (73, [some (.ref b), u1, some (.int x2), u3, some (.int x4), some (.int x5), u6, u7, u8], [], 129, 17845, hp M) (none, 129, 17845, hp M') := by
  intro x2 x4 x5 u1 u3 u6 u7 u8 M r M' h
  unfold J194_73 at h
  refine pe_blk mm_194 2 (s' := (75, [some (.ref b), u1, some (.int x2), u3, some (.int x4), some (.int x5), u6, u7, u8], [.ref b, .ref b], _, _, _)) rfl ?_
  refine pe_get mm_194 rfl rfl (isT_0 hb _) (by have := isT_lt hb; omega) rfl ?_
  show pm_ev _ _ _ _ _ (78, [some (.ref b), u1, some (.int x2), u3, some (.int x4), some (.int x5), u6, u7, u8], va_rf (M.2.1 b 4) :: [.ref b], _, _, _) _
  cases hq23 : M.2.1 b 4 with
  | none => rw [hq23] at h; cases h
  | some p21 =>
    rw [hq23] at h
    dsimp only at h
    by_cases f22 : isD p21
    · rw [if_pos f22] at h
      show pm_ev _ _ _ _ _ (78, [some (.ref b), u1, some (.int x2), u3, some (.int x4), some (.int x5), u6, u7, u8], [.ref p21, .ref b], _, _, _) _
      refine pe_blk mm_194 1 (s' := (80, [some (.ref b), u1, some (.int x2), u3, some (.int x4), some (.int x5), u6, u7, u8], [.int x5, .ref p21, .ref b], _, _, _)) rfl ?_
      obtain ⟨e1, rfl⟩ : ∃ e1, e = e1 + 1 := ⟨e - 1, by omega⟩
      cases hc26 : F119 n p21 x5 M with
      | none => rw [hc26] at h; cases h
      | some w =>
        obtain ⟨v24, M25⟩ := w
        rw [hc26] at h
        dsimp only at h
        refine pe_virt (al := [.int x5]) (a := p21) (L0 := [some (.ref p21), some (.int x5)]) (r1 := (some (.int v24), 129, 17845, hp M25)) mm_194 rfl rfl rfl mm_119 (isD_0 f22 _) (by have := isD_lt f22; omega) (by decide) rfl (Nat.le_of_ble_eq_true rfl) (Nat.le_of_ble_eq_true rfl) rfl rfl (F119_ev sc n p21 x5 f22 _ e1 (by omega) _ _ hc26) ?_
        show pm_ev _ _ _ _ _ (83, [some (.ref b), u1, some (.int x2), u3, some (.int x4), some (.int x5), u6, u7, u8], [.int v24, .ref b], _, _, _) _
        refine pe_blk mm_194 3 (s' := (86, [some (.ref b), u1, some (.int x2), u3, some (.int x4), some (.int x5), u6, u7, u8], [.int (x2 + 1), .int v24, .ref b], _, _, _)) rfl ?_
        skip
        cases hc29 : gg b v24 (x2 + 1) M25 with
        | none => rw [hc29] at h; cases h
        | some w =>
          obtain ⟨v27, M28⟩ := w
          rw [hc29] at h
          dsimp only at h
          refine pe_virt (al := [.int (x2 + 1), .int v24]) (a := b) (L0 := [some (.ref b), some (.int v24), some (.int (x2 + 1)), none, none, none, none, none, none]) (r1 := (none, 129, 17845, hp M28)) mm_194 rfl rfl rfl mm_194 (isT_0 hb _) (by have := isT_lt hb; omega) (by decide) rfl (Nat.le_of_ble_eq_true rfl) (Nat.le_of_ble_eq_true rfl) rfl rfl (hg b v24 (x2 + 1) hb _ e1 (by omega) _ _ hc29) ?_
          show pm_ev _ _ _ _ _ (89, [some (.ref b), u1, some (.int x2), u3, some (.int x4), some (.int x5), u6, u7, u8], [], _, _, _) _
          exact J194_89_ev sc n gg b E hg hb (e1 + 1) he x2 x4 x5 _ _ _ _ _ _ _ _ h
    · rw [if_neg f22] at h
      cases h
def J194_52 (n : Nat) (gg : Nat → Int32 → Int32 → Mem → Option (Unit × Mem)) (b : Nat) (x2 : Int32) (x4 : Int32) (s0 : Int32) (M : Mem) : Option (Unit × Mem) :=
  if x4 = 0 then (J194_73 n gg b x2 x4 s0 M) else (match M.2.1 b 4 with | some p68 => (if isD p68 then (match F118 n p68 s0 M with | some (v71, M72) => (if v71 = 43 then (J194_89 n gg b x2 x4 s0 M72) else (J194_73 n gg b x2 x4 s0 M72)) | none => none) else none) | none => none)
set_option maxRecDepth 100000 in
set_option maxHeartbeats 4000000 in
theorem J194_52_ev (sc : Option (Nat × (Nat → Int32))) (n : Nat) (gg : Nat → Int32 → Int32 → Mem → Option (Unit × Mem)) (b : Nat) (E : Nat) (hg : ∀ (b : Nat) (a0 : Int32) (a1 : Int32) (hb : isT b) (M : Mem) (e : Nat), E ≤ e → ∀ (r : Unit) (M' : Mem), gg b a0 a1 M = some (r, M') → pm_ev pmT sc e 194 false (0, [some (.ref b), some (.int a0), some (.int a1), none, none, none, none, none, none], [], 129, 17845, hp M) (none, 129, 17845, hp M')) (hb : isT b) (e : Nat) (he : 2 + E ≤ e) : ∀ (x2 : Int32) (x4 : Int32) (s0 : Int32) (u1 : Option Value) (u3 : Option Value) (u5 : Option Value) (u6 : Option Value) (u7 : Option Value) (u8 : Option Value) (M : Mem) (r : Unit) (M' : Mem), J194_52 n gg b x2 x4 s0 M = some (r, M') → pm_ev pmT sc e 194 false (52, [some (.ref b), u1, some (.int x2), u3, some (.int x4), u5, u6, u7, u8], [.int s0], 129, 17845, hp M) (none, 129, 17845, hp M') := by
  intro x2 x4 s0 u1 u3 u5 u6 u7 u8 M r M' h
  unfold J194_52 at h
  refine pe_blk mm_194 2 (s' := (56, [some (.ref b), u1, some (.int x2), u3, some (.int x4), some (.int s0), u6, u7, u8], [.int x4], _, _, _)) rfl ?_
  by_cases q20 : x4 = 0
  · rw [if_pos q20] at h
    refine pe_blk mm_194 1 (s' := (if x4 = 0 then 73 else 59, [some (.ref b), u1, some (.int x2), u3, some (.int x4), some (.int s0), u6, u7, u8], [], _, _, _)) rfl ?_
    rw [if_pos q20]
    exact J194_73_ev sc n gg b E hg hb e he x2 x4 s0 _ _ _ _ _ _ _ _ h
  · rw [if_neg q20] at h
    refine pe_blk mm_194 1 (s' := (if x4 = 0 then 73 else 59, [some (.ref b), u1, some (.int x2), u3, some (.int x4), some (.int s0), u6, u7, u8], [], _, _, _)) rfl ?_
    rw [if_neg q20]
    refine pe_blk mm_194 1 (s' := (60, [some (.ref b), u1, some (.int x2), u3, some (.int x4), some (.int s0), u6, u7, u8], [.ref b], _, _, _)) rfl ?_
    refine pe_get mm_194 rfl rfl (isT_0 hb _) (by have := isT_lt hb; omega) rfl ?_
    show pm_ev _ _ _ _ _ (63, [some (.ref b), u1, some (.int x2), u3, some (.int x4), some (.int s0), u6, u7, u8], va_rf (M.2.1 b 4) :: [], _, _, _) _
    cases hq70 : M.2.1 b 4 with
    | none => rw [hq70] at h; cases h
    | some p68 =>
      rw [hq70] at h
      dsimp only at h
      by_cases f69 : isD p68
      · rw [if_pos f69] at h
        show pm_ev _ _ _ _ _ (63, [some (.ref b), u1, some (.int x2), u3, some (.int x4), some (.int s0), u6, u7, u8], [.ref p68], _, _, _) _
        refine pe_blk mm_194 1 (s' := (65, [some (.ref b), u1, some (.int x2), u3, some (.int x4), some (.int s0), u6, u7, u8], [.int s0, .ref p68], _, _, _)) rfl ?_
        obtain ⟨e1, rfl⟩ : ∃ e1, e = e1 + 1 := ⟨e - 1, by omega⟩
        cases hc73 : F118 n p68 s0 M with
        | none => rw [hc73] at h; cases h
        | some w =>
          obtain ⟨v71, M72⟩ := w
          rw [hc73] at h
          dsimp only at h
          refine pe_virt (al := [.int s0]) (a := p68) (L0 := [some (.ref p68), some (.int s0)]) (r1 := (some (.int v71), 129, 17845, hp M72)) mm_194 rfl rfl rfl mm_118 (isD_0 f69 _) (by have := isD_lt f69; omega) (by decide) rfl (Nat.le_of_ble_eq_true rfl) (Nat.le_of_ble_eq_true rfl) rfl rfl (F118_ev sc n p68 s0 f69 _ e1 (by omega) _ _ hc73) ?_
          show pm_ev _ _ _ _ _ (68, [some (.ref b), u1, some (.int x2), u3, some (.int x4), some (.int s0), u6, u7, u8], [.int v71], _, _, _) _
          refine pe_blk mm_194 1 (s' := (70, [some (.ref b), u1, some (.int x2), u3, some (.int x4), some (.int s0), u6, u7, u8], [.int 43, .int v71], _, _, _)) rfl ?_
          by_cases q74 : v71 = 43
          · rw [if_pos q74] at h
            refine pe_blk mm_194 1 (s' := (if v71 = 43 then 89 else 73, [some (.ref b), u1, some (.int x2), u3, some (.int x4), some (.int s0), u6, u7, u8], [], _, _, _)) rfl ?_
            rw [if_pos q74]
            exact J194_89_ev sc n gg b E hg hb (e1 + 1) he x2 x4 s0 _ _ _ _ _ _ _ _ h
          · rw [if_neg q74] at h
            refine pe_blk mm_194 1 (s' := (if v71 = 43 then 89 else 73, [some (.ref b), u1, some (.int x2), u3, some (.int x4), some (.int s0), u6, u7, u8], [], _, _, _)) rfl ?_
            rw [if_neg q74]
            exact J194_73_ev sc n gg b E hg hb (e1 + 1) he x2 x4 s0 _ _ _ _ _ _ _ _ h
      · rw [if_neg f69] at h
        cases h
def J194_42 (n : Nat) (gg : Nat → Int32 → Int32 → Mem → Option (Unit × Mem)) (b : Nat) (x1 : Int32) (x2 : Int32) (x3 : Int32) (x4 : Int32) (M : Mem) : Option (Unit × Mem) :=
  if x4 = 0 then (J194_52 n gg b x2 x4 x3 M) else (J194_52 n gg b x2 x4 x1 M)
set_option maxRecDepth 100000 in
set_option maxHeartbeats 4000000 in
theorem J194_42_ev (sc : Option (Nat × (Nat → Int32))) (n : Nat) (gg : Nat → Int32 → Int32 → Mem → Option (Unit × Mem)) (b : Nat) (E : Nat) (hg : ∀ (b : Nat) (a0 : Int32) (a1 : Int32) (hb : isT b) (M : Mem) (e : Nat), E ≤ e → ∀ (r : Unit) (M' : Mem), gg b a0 a1 M = some (r, M') → pm_ev pmT sc e 194 false (0, [some (.ref b), some (.int a0), some (.int a1), none, none, none, none, none, none], [], 129, 17845, hp M) (none, 129, 17845, hp M')) (hb : isT b) (e : Nat) (he : 2 + E ≤ e) : ∀ (x1 : Int32) (x2 : Int32) (x3 : Int32) (x4 : Int32) (u5 : Option Value) (u6 : Option Value) (u7 : Option Value) (u8 : Option Value) (M : Mem) (r : Unit) (M' : Mem), J194_42 n gg b x1 x2 x3 x4 M = some (r, M') → pm_ev pmT sc e 194 false (42, [some (.ref b), some (.int x1), some (.int x2), some (.int x3), some (.int x4), u5, u6, u7, u8], [], 129, 17845, hp M) (none, 129, 17845, hp M') := by
  intro x1 x2 x3 x4 u5 u6 u7 u8 M r M' h
  unfold J194_42 at h
  refine pe_blk mm_194 1 (s' := (44, [some (.ref b), some (.int x1), some (.int x2), some (.int x3), some (.int x4), u5, u6, u7, u8], [.int x4], _, _, _)) rfl ?_
  by_cases q19 : x4 = 0
  · rw [if_pos q19] at h
    refine pe_blk mm_194 1 (s' := (if x4 = 0 then 51 else 47, [some (.ref b), some (.int x1), some (.int x2), some (.int x3), some (.int x4), u5, u6, u7, u8], [], _, _, _)) rfl ?_
    rw [if_pos q19]
    refine pe_blk mm_194 1 (s' := (52, [some (.ref b), some (.int x1), some (.int x2), some (.int x3), some (.int x4), u5, u6, u7, u8], [.int x3], _, _, _)) rfl ?_
    exact J194_52_ev sc n gg b E hg hb e he x2 x4 x3 _ _ _ _ _ _ _ _ _ h
  · rw [if_neg q19] at h
    refine pe_blk mm_194 1 (s' := (if x4 = 0 then 51 else 47, [some (.ref b), some (.int x1), some (.int x2), some (.int x3), some (.int x4), u5, u6, u7, u8], [], _, _, _)) rfl ?_
    rw [if_neg q19]
    refine pe_blk mm_194 2 (s' := (52, [some (.ref b), some (.int x1), some (.int x2), some (.int x3), some (.int x4), u5, u6, u7, u8], [.int x1], _, _, _)) rfl ?_
    exact J194_52_ev sc n gg b E hg hb e he x2 x4 x1 _ _ _ _ _ _ _ _ _ h
def J194_31 (n : Nat) (gg : Nat → Int32 → Int32 → Mem → Option (Unit × Mem)) (b : Nat) (x1 : Int32) (x2 : Int32) (x3 : Int32) (x4 : Int32) (M : Mem) : Option (Unit × Mem) :=
  if x4 = 0 then (match F195 n b x1 M with | some (v16, M17) => (some ((), M17)) | none => none) else (J194_42 n gg b x1 x2 x3 x4 M)
set_option maxRecDepth 100000 in
set_option maxHeartbeats 4000000 in
theorem J194_31_ev (sc : Option (Nat × (Nat → Int32))) (n : Nat) (gg : Nat → Int32 → Int32 → Mem → Option (Unit × Mem)) (b : Nat) (E : Nat) (hg : ∀ (b : Nat) (a0 : Int32) (a1 : Int32) (hb : isT b) (M : Mem) (e : Nat), E ≤ e → ∀ (r : Unit) (M' : Mem), gg b a0 a1 M = some (r, M') → pm_ev pmT sc e 194 false (0, [some (.ref b), some (.int a0), some (.int a1), none, none, none, none, none, none], [], 129, 17845, hp M) (none, 129, 17845, hp M')) (hb : isT b) (e : Nat) (he : 2 + E ≤ e) : ∀ (x1 : Int32) (x2 : Int32) (x3 : Int32) (x4 : Int32) (u5 : Option Value) (u6 : Option Value) (u7 : Option Value) (u8 : Option Value) (M : Mem) (r : Unit) (M' : Mem), J194_31 n gg b x1 x2 x3 x4 M = some (r, M') → pm_ev pmT sc e 194 false (31, [some (.ref b), some (.int x1), some (.int x2), some (.int x3), some (.int x4), u5, u6, u7, u8], [], 129, 17845, hp M) (none, 129, 17845, hp M') := by
  intro x1 x2 x3 x4 u5 u6 u7 u8 M r M' h
  unfold J194_31 at h
  refine pe_blk mm_194 1 (s' := (33, [some (.ref b), some (.int x1), some (.int x2), some (.int x3), some (.int x4), u5, u6, u7, u8], [.int x4], _, _, _)) rfl ?_
  by_cases q15 : x4 = 0
  · rw [if_pos q15] at h
    refine pe_blk mm_194 1 (s' := (if x4 = 0 then 36 else 42, [some (.ref b), some (.int x1), some (.int x2), some (.int x3), some (.int x4), u5, u6, u7, u8], [], _, _, _)) rfl ?_
    rw [if_pos q15]
    refine pe_blk mm_194 2 (s' := (38, [some (.ref b), some (.int x1), some (.int x2), some (.int x3), some (.int x4), u5, u6, u7, u8], [.int x1, .ref b], _, _, _)) rfl ?_
    obtain ⟨e1, rfl⟩ : ∃ e1, e = e1 + 1 := ⟨e - 1, by omega⟩
    cases hc18 : F195 n b x1 M with
    | none => rw [hc18] at h; cases h
    | some w =>
      obtain ⟨v16, M17⟩ := w
      rw [hc18] at h
      dsimp only at h
      refine pe_virt (al := [.int x1]) (a := b) (L0 := [some (.ref b), some (.int x1), none, none]) (r1 := (none, 129, 17845, hp M17)) mm_194 rfl rfl rfl mm_195 (isT_0 hb _) (by have := isT_lt hb; omega) (by decide) rfl (Nat.le_of_ble_eq_true rfl) (Nat.le_of_ble_eq_true rfl) rfl rfl (F195_ev sc n b x1 hb _ e1 (by omega) _ _ hc18) ?_
      show pm_ev _ _ _ _ _ (41, [some (.ref b), some (.int x1), some (.int x2), some (.int x3), some (.int x4), u5, u6, u7, u8], [], _, _, _) _
      cases h
      exact pe_ret mm_194 rfl rfl
  · rw [if_neg q15] at h
    refine pe_blk mm_194 1 (s' := (if x4 = 0 then 36 else 42, [some (.ref b), some (.int x1), some (.int x2), some (.int x3), some (.int x4), u5, u6, u7, u8], [], _, _, _)) rfl ?_
    rw [if_neg q15]
    exact J194_42_ev sc n gg b E hg hb e he x1 x2 x3 x4 _ _ _ _ _ _ _ h
def J194_16 (n : Nat) (gg : Nat → Int32 → Int32 → Mem → Option (Unit × Mem)) (b : Nat) (x1 : Int32) (x2 : Int32) (x3 : Int32) (M : Mem) : Option (Unit × Mem) :=
  match M.2.1 b 4 with | some p8 => (if isD p8 then (match F116 n p8 x1 M with | some (v11, M12) => (if x3 = (-1) then (J194_31 n gg b x1 x2 x3 v11 M12) else (J194_42 n gg b x1 x2 x3 v11 M12)) | none => none) else none) | none => none
set_option maxRecDepth 100000 in
set_option maxHeartbeats 4000000 in
theorem J194_16_ev (sc : Option (Nat × (Nat → Int32))) (n : Nat) (gg : Nat → Int32 → Int32 → Mem → Option (Unit × Mem)) (b : Nat) (E : Nat) (hg : ∀ (b : Nat) (a0 : Int32) (a1 : Int32) (hb : isT b) (M : Mem) (e : Nat), E ≤ e → ∀ (r : Unit) (M' : Mem), gg b a0 a1 M = some (r, M') → pm_ev pmT sc e 194 false (0, [some (.ref b), some (.int a0), some (.int a1), none, none, none, none, none, none], [], 129, 17845, hp M) (none, 129, 17845, hp M')) (hb : isT b) (e : Nat) (he : 2 + E ≤ e) : ∀ (x1 : Int32) (x2 : Int32) (x3 : Int32) (u4 : Option Value) (u5 : Option Value) (u6 : Option Value) (u7 : Option Value) (u8 : Option Value) (M : Mem) (r : Unit) (M' : Mem), J194_16 n gg b x1 x2 x3 M = some (r, M') → pm_ev pmT sc e 194 false (16, [some (.ref b), some (.int x1), some (.int x2), some (.int x3), u4, u5, u6, u7, u8], [], 129, 17845, hp M) (none, 129, 17845, hp M') := by
  intro x1 x2 x3 u4 u5 u6 u7 u8 M r M' h
  unfold J194_16 at h
  refine pe_blk mm_194 1 (s' := (17, [some (.ref b), some (.int x1), some (.int x2), some (.int x3), u4, u5, u6, u7, u8], [.ref b], _, _, _)) rfl ?_
  refine pe_get mm_194 rfl rfl (isT_0 hb _) (by have := isT_lt hb; omega) rfl ?_
  show pm_ev _ _ _ _ _ (20, [some (.ref b), some (.int x1), some (.int x2), some (.int x3), u4, u5, u6, u7, u8], va_rf (M.2.1 b 4) :: [], _, _, _) _
  cases hq10 : M.2.1 b 4 with
  | none => rw [hq10] at h; cases h
  | some p8 =>
    rw [hq10] at h
    dsimp only at h
    by_cases f9 : isD p8
    · rw [if_pos f9] at h
      show pm_ev _ _ _ _ _ (20, [some (.ref b), some (.int x1), some (.int x2), some (.int x3), u4, u5, u6, u7, u8], [.ref p8], _, _, _) _
      refine pe_blk mm_194 1 (s' := (21, [some (.ref b), some (.int x1), some (.int x2), some (.int x3), u4, u5, u6, u7, u8], [.int x1, .ref p8], _, _, _)) rfl ?_
      obtain ⟨e1, rfl⟩ : ∃ e1, e = e1 + 1 := ⟨e - 1, by omega⟩
      cases hc13 : F116 n p8 x1 M with
      | none => rw [hc13] at h; cases h
      | some w =>
        obtain ⟨v11, M12⟩ := w
        rw [hc13] at h
        dsimp only at h
        refine pe_virt (al := [.int x1]) (a := p8) (L0 := [some (.ref p8), some (.int x1)]) (r1 := (some (.int v11), 129, 17845, hp M12)) mm_194 rfl rfl rfl mm_116 (isD_0 f9 _) (by have := isD_lt f9; omega) (by decide) rfl (Nat.le_of_ble_eq_true rfl) (Nat.le_of_ble_eq_true rfl) rfl rfl (F116_ev sc n p8 x1 f9 _ e1 (by omega) _ _ hc13) ?_
        show pm_ev _ _ _ _ _ (24, [some (.ref b), some (.int x1), some (.int x2), some (.int x3), u4, u5, u6, u7, u8], [.int v11], _, _, _) _
        refine pe_blk mm_194 3 (s' := (28, [some (.ref b), some (.int x1), some (.int x2), some (.int x3), some (.int v11), u5, u6, u7, u8], [.int (-1), .int x3], _, _, _)) rfl ?_
        by_cases q14 : x3 = (-1)
        · rw [if_pos q14] at h
          refine pe_blk mm_194 1 (s' := (if x3 = (-1) then 31 else 42, [some (.ref b), some (.int x1), some (.int x2), some (.int x3), some (.int v11), u5, u6, u7, u8], [], _, _, _)) rfl ?_
          rw [if_pos q14]
          exact J194_31_ev sc n gg b E hg hb (e1 + 1) he x1 x2 x3 v11 _ _ _ _ _ _ _ h
        · rw [if_neg q14] at h
          refine pe_blk mm_194 1 (s' := (if x3 = (-1) then 31 else 42, [some (.ref b), some (.int x1), some (.int x2), some (.int x3), some (.int v11), u5, u6, u7, u8], [], _, _, _)) rfl ?_
          rw [if_neg q14]
          exact J194_42_ev sc n gg b E hg hb (e1 + 1) he x1 x2 x3 v11 _ _ _ _ _ _ _ h
    · rw [if_neg f9] at h
      cases h
/-- ArmExpander$Threads.walk -/
def G194 (n : Nat) (gg : Nat → Int32 → Int32 → Mem → Option (Unit × Mem)) (b : Nat) (a0 : Int32) (a1 : Int32) (M : Mem) : Option (Unit × Mem) :=
  if a1 ≤ 16 then (match M.2.1 b 4 with | some p2 => (if isD p2 then (match F117 n p2 a0 M with | some (v5, M6) => (J194_16 n gg b a0 a1 v5 M6) | none => none) else none) | none => none) else (some ((), M))
set_option maxRecDepth 100000 in
set_option maxHeartbeats 4000000 in
theorem G194_ev (sc : Option (Nat × (Nat → Int32))) (n : Nat) (gg : Nat → Int32 → Int32 → Mem → Option (Unit × Mem)) (b : Nat) (a0 : Int32) (a1 : Int32) (E : Nat) (hg : ∀ (b : Nat) (a0 : Int32) (a1 : Int32) (hb : isT b) (M : Mem) (e : Nat), E ≤ e → ∀ (r : Unit) (M' : Mem), gg b a0 a1 M = some (r, M') → pm_ev pmT sc e 194 false (0, [some (.ref b), some (.int a0), some (.int a1), none, none, none, none, none, none], [], 129, 17845, hp M) (none, 129, 17845, hp M')) (hb : isT b) (M : Mem) (e : Nat) (he : 2 + E ≤ e) (r : Unit) (M' : Mem) (h : G194 n gg b a0 a1 M = some (r, M')) : pm_ev pmT sc e 194 false (0, [some (.ref b), some (.int a0), some (.int a1), none, none, none, none, none, none], [], 129, 17845, hp M) (none, 129, 17845, hp M') := by
  unfold G194 at h
  refine pe_blk mm_194 2 (s' := (3, [some (.ref b), some (.int a0), some (.int a1), none, none, none, none, none, none], [.int 16, .int a1], _, _, _)) rfl ?_
  by_cases q1 : a1 ≤ 16
  · rw [if_pos q1] at h
    refine pe_blk mm_194 1 (s' := (if a1 ≤ 16 then 7 else 6, [some (.ref b), some (.int a0), some (.int a1), none, none, none, none, none, none], [], _, _, _)) rfl ?_
    rw [if_pos q1]
    refine pe_blk mm_194 1 (s' := (8, [some (.ref b), some (.int a0), some (.int a1), none, none, none, none, none, none], [.ref b], _, _, _)) rfl ?_
    refine pe_get mm_194 rfl rfl (isT_0 hb _) (by have := isT_lt hb; omega) rfl ?_
    show pm_ev _ _ _ _ _ (11, [some (.ref b), some (.int a0), some (.int a1), none, none, none, none, none, none], va_rf (M.2.1 b 4) :: [], _, _, _) _
    cases hq4 : M.2.1 b 4 with
    | none => rw [hq4] at h; cases h
    | some p2 =>
      rw [hq4] at h
      dsimp only at h
      by_cases f3 : isD p2
      · rw [if_pos f3] at h
        show pm_ev _ _ _ _ _ (11, [some (.ref b), some (.int a0), some (.int a1), none, none, none, none, none, none], [.ref p2], _, _, _) _
        refine pe_blk mm_194 1 (s' := (12, [some (.ref b), some (.int a0), some (.int a1), none, none, none, none, none, none], [.int a0, .ref p2], _, _, _)) rfl ?_
        obtain ⟨e1, rfl⟩ : ∃ e1, e = e1 + 1 := ⟨e - 1, by omega⟩
        cases hc7 : F117 n p2 a0 M with
        | none => rw [hc7] at h; cases h
        | some w =>
          obtain ⟨v5, M6⟩ := w
          rw [hc7] at h
          dsimp only at h
          refine pe_virt (al := [.int a0]) (a := p2) (L0 := [some (.ref p2), some (.int a0), none]) (r1 := (some (.int v5), 129, 17845, hp M6)) mm_194 rfl rfl rfl mm_117 (isD_0 f3 _) (by have := isD_lt f3; omega) (by decide) rfl (Nat.le_of_ble_eq_true rfl) (Nat.le_of_ble_eq_true rfl) rfl rfl (F117_ev sc n p2 a0 f3 _ e1 (by omega) _ _ hc7) ?_
          show pm_ev _ _ _ _ _ (15, [some (.ref b), some (.int a0), some (.int a1), none, none, none, none, none, none], [.int v5], _, _, _) _
          refine pe_blk mm_194 1 (s' := (16, [some (.ref b), some (.int a0), some (.int a1), some (.int v5), none, none, none, none, none], [], _, _, _)) rfl ?_
          exact J194_16_ev sc n gg b E hg hb (e1 + 1) he a0 a1 v5 _ _ _ _ _ _ _ _ h
      · rw [if_neg f3] at h
        cases h
  · rw [if_neg q1] at h
    refine pe_blk mm_194 1 (s' := (if a1 ≤ 16 then 7 else 6, [some (.ref b), some (.int a0), some (.int a1), none, none, none, none, none, none], [], _, _, _)) rfl ?_
    rw [if_neg q1]
    cases h
    exact pe_ret mm_194 rfl rfl
def K194 (n : Nat) : Nat → Nat → Int32 → Int32 → Mem → Option (Unit × Mem)
  | 0, _, _, _, _ => none
  | k + 1, b, a0, a1, M => G194 n (K194 n k) b a0 a1 M
theorem K194_ev (sc : Option (Nat × (Nat → Int32))) (n : Nat) : ∀ (k : Nat) (b : Nat) (a0 : Int32) (a1 : Int32) (hb : isT b) (M : Mem) (e : Nat), 2 * k ≤ e → ∀ (r : Unit) (M' : Mem), K194 n k b a0 a1 M = some (r, M') → pm_ev pmT sc e 194 false (0, [some (.ref b), some (.int a0), some (.int a1), none, none, none, none, none, none], [], 129, 17845, hp M) (none, 129, 17845, hp M') := by
  intro k
  induction k with
  | zero => intro b a0 a1 hb M e he r M' h; cases h
  | succ k ih => intro b a0 a1 hb M e he r M' h; exact G194_ev sc n (K194 n k) b a0 a1 (2 * k) ih hb M e (by omega) r M' h
/-- ArmExpander$Threads.walk -/
def F194 (n : Nat) (b : Nat) (a0 : Int32) (a1 : Int32) (M : Mem) : Option (Unit × Mem) := K194 n 18 b a0 a1 M
theorem F194_ev (sc : Option (Nat × (Nat → Int32))) (n : Nat) (b : Nat) (a0 : Int32) (a1 : Int32) (hb : isT b) (M : Mem) (e : Nat) (he : 36 ≤ e) (r : Unit) (M' : Mem) (h : F194 n b a0 a1 M = some (r, M')) : pm_ev pmT sc e 194 false (0, [some (.ref b), some (.int a0), some (.int a1), none, none, none, none, none, none], [], 129, 17845, hp M) (none, 129, 17845, hp M') := K194_ev sc n 18 b a0 a1 hb M e he r M' h
/-- ArmExpander$Threads.arrive -/
def F192 (n : Nat) (b : Nat) (a0 : Int32) (M : Mem) : Option (Unit × Mem) :=
  match F194 n b a0 0 M with | some (v1, M2) => (some ((), M2)) | none => none
set_option maxRecDepth 100000 in
set_option maxHeartbeats 4000000 in
theorem F192_ev (sc : Option (Nat × (Nat → Int32))) (n : Nat) (b : Nat) (a0 : Int32) (hb : isT b) (M : Mem) (e : Nat) (he : 37 ≤ e) (r : Unit) (M' : Mem) (h : F192 n b a0 M = some (r, M')) : pm_ev pmT sc e 192 false (0, [some (.ref b), some (.int a0)], [], 129, 17845, hp M) (none, 129, 17845, hp M') := by
  unfold F192 at h
  refine pe_blk mm_192 3 (s' := (3, [some (.ref b), some (.int a0)], [.int 0, .int a0, .ref b], _, _, _)) rfl ?_
  obtain ⟨e1, rfl⟩ : ∃ e1, e = e1 + 1 := ⟨e - 1, by omega⟩
  cases hc3 : F194 n b a0 0 M with
  | none => rw [hc3] at h; cases h
  | some w =>
    obtain ⟨v1, M2⟩ := w
    rw [hc3] at h
    dsimp only at h
    refine pe_virt (al := [.int 0, .int a0]) (a := b) (L0 := [some (.ref b), some (.int a0), some (.int 0), none, none, none, none, none, none]) (r1 := (none, 129, 17845, hp M2)) mm_192 rfl rfl rfl mm_194 (isT_0 hb _) (by have := isT_lt hb; omega) (by decide) rfl (Nat.le_of_ble_eq_true rfl) (Nat.le_of_ble_eq_true rfl) rfl rfl (F194_ev sc n b a0 0 hb _ e1 (by omega) _ _ hc3) ?_
    show pm_ev _ _ _ _ _ (6, [some (.ref b), some (.int a0)], [], _, _, _) _
    cases h
    exact pe_ret mm_192 rfl rfl
