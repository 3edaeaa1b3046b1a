/-! The methods as functions over Mem; written by program. -/
def J43_185 (n : Nat) (M : Mem) : Option (Int32 × Mem) :=
  some (1, M)
set_option maxRecDepth 100000 in
set_option maxHeartbeats 4000000 in
theorem J43_185_ev (sc : Option (Nat × (Nat → Int32))) (n : Nat)  (e : Nat) (he : 6 ≤ e) : ∀ (u0 : Option Value) (u1 : Option Value) (u2 : Option Value) (u3 : Option Value) (u4 : Option Value) (u5 : Option Value) (M : Mem) (r : Int32) (M' : Mem), J43_185 n  M = some (r, M') → pm_ev pmT sc e 43 false (185, [u0, u1, u2, u3, u4, u5], [], 129, 17845, hp M) (some (.int r), 129, 17845, hp M') := by
  intro u0 u1 u2 u3 u4 u5 M r M' h
  unfold J43_185 at h
  refine pe_blk mm_43 1 (s' := (186, [u0, u1, u2, u3, u4, u5], [.int 1], _, _, _)) rfl ?_
  cases h
  exact pe_ret mm_43 rfl rfl
def J43_177 (n : Nat) (x2 : Int32) (x5 : Int32) (M : Mem) : Option (Int32 × Mem) :=
  if x2 < 0 ∨ 128 ≤ (x2 : Int32).toNatClampNeg then none else (mlet (m_i M 99 (x2 : Int32).toNatClampNeg x5) (fun M23 => J43_185 n M23))
set_option maxRecDepth 100000 in
set_option maxHeartbeats 4000000 in
theorem J43_177_ev (sc : Option (Nat × (Nat → Int32))) (n : Nat)  (e : Nat) (he : 6 ≤ e) : ∀ (x2 : Int32) (x5 : Int32) (u1 : Option Value) (u3 : Option Value) (u4 : Option Value) (M : Mem) (r : Int32) (M' : Mem), J43_177 n x2 x5 M = some (r, M') → pm_ev pmT sc e 43 false (177, [some (.ref 83), u1, some (.int x2), u3, u4, some (.int x5)], [], 129, 17845, hp M) (some (.int r), 129, 17845, hp M') := by
  intro x2 x5 u1 u3 u4 M r M' h
  unfold J43_177 at h
  refine pe_blk mm_43 1 (s' := (178, [some (.ref 83), u1, some (.int x2), u3, u4, some (.int x5)], [.ref 83], _, _, _)) rfl ?_
  refine pe_get mm_43 rfl rfl rfl (by decide) rfl ?_
  refine pe_blk mm_43 2 (s' := (184, [some (.ref 83), u1, some (.int x2), u3, u4, some (.int x5)], [.int x5, .int x2, .ref 99], _, _, _)) rfl ?_
  by_cases q22 : x2 < 0 ∨ 128 ≤ (x2 : Int32).toNatClampNeg
  · rw [if_pos q22] at h
    cases h
  · rw [if_neg q22] at h
    refine pe_iasti mm_43 rfl rfl (by decide) q22 rfl ?_
    show pm_ev _ _ _ _ _ (185, [some (.ref 83), u1, some (.int x2), u3, u4, some (.int x5)], [], _, _, hp (m_i M 99 (x2 : Int32).toNatClampNeg x5)) _
    generalize m_i M 99 (x2 : Int32).toNatClampNeg x5 = M23 at h ⊢
    rw [mlet] at h
    exact J43_185_ev sc n e he _ _ _ _ _ _ _ _ _ h
def J43_150 (n : Nat) (x2 : Int32) (x4 : Int32) (x5 : Int32) (M : Mem) : Option (Int32 × Mem) :=
  match F36 n 5 0 M with | some (v15, M16) => (if x5 < 0 ∨ 128 ≤ (x5 : Int32).toNatClampNeg then none else (mlet (m_i M16 99 (x5 : Int32).toNatClampNeg x2) (fun M19 => if x5 < 0 ∨ 128 ≤ (x5 : Int32).toNatClampNeg then none else (mlet (m_i M19 100 (x5 : Int32).toNatClampNeg (x4 / 256)) (fun M21 => J43_177 n x2 x5 M21))))) | none => none
set_option maxRecDepth 100000 in
set_option maxHeartbeats 4000000 in
theorem J43_150_ev (sc : Option (Nat × (Nat → Int32))) (n : Nat)  (e : Nat) (he : 6 ≤ e) : ∀ (x2 : Int32) (x4 : Int32) (x5 : Int32) (u1 : Option Value) (u3 : Option Value) (M : Mem) (r : Int32) (M' : Mem), J43_150 n x2 x4 x5 M = some (r, M') → pm_ev pmT sc e 43 false (150, [some (.ref 83), u1, some (.int x2), u3, some (.int x4), some (.int x5)], [], 129, 17845, hp M) (some (.int r), 129, 17845, hp M') := by
  intro x2 x4 x5 u1 u3 M r M' h
  unfold J43_150 at h
  refine pe_blk mm_43 3 (s' := (153, [some (.ref 83), u1, some (.int x2), u3, some (.int x4), some (.int x5)], [.int 0, .int 5, .ref 83], _, _, _)) rfl ?_
  obtain ⟨e1, rfl⟩ : ∃ e1, e = e1 + 1 := ⟨e - 1, by omega⟩
  cases hc17 : F36 n 5 0 M with
  | none => rw [hc17] at h; cases h
  | some w =>
    obtain ⟨v15, M16⟩ := w
    rw [hc17] at h
    dsimp only at h
    refine pe_virt (al := [.int 0, .int 5]) (a := 83) (L0 := [some (.ref 83), some (.int 5), some (.int 0)]) (r1 := (none, 129, 17845, hp M16)) mm_43 rfl rfl rfl mm_36 rfl (by decide) (by decide) rfl (Nat.le_of_ble_eq_true rfl) (Nat.le_of_ble_eq_true rfl) rfl rfl (F36_ev sc n 5 0 _ e1 (by omega) _ _ hc17) ?_
    show pm_ev _ _ _ _ _ (156, [some (.ref 83), u1, some (.int x2), u3, some (.int x4), some (.int x5)], [], _, _, _) _
    refine pe_blk mm_43 1 (s' := (157, [some (.ref 83), u1, some (.int x2), u3, some (.int x4), some (.int x5)], [.ref 83], _, _, _)) rfl ?_
    refine pe_get mm_43 rfl rfl rfl (by decide) rfl ?_
    refine pe_blk mm_43 2 (s' := (163, [some (.ref 83), u1, some (.int x2), u3, some (.int x4), some (.int x5)], [.int x2, .int x5, .ref 99], _, _, _)) rfl ?_
    by_cases q18 : x5 < 0 ∨ 128 ≤ (x5 : Int32).toNatClampNeg
    · rw [if_pos q18] at h
      cases h
    · rw [if_neg q18] at h
      refine pe_iasti mm_43 rfl rfl (by decide) q18 rfl ?_
      show pm_ev _ _ _ _ _ (164, [some (.ref 83), u1, some (.int x2), u3, some (.int x4), some (.int x5)], [], _, _, hp (m_i M16 99 (x5 : Int32).toNatClampNeg x2)) _
      generalize m_i M16 99 (x5 : Int32).toNatClampNeg x2 = M19 at h ⊢
      rw [mlet] at h
      refine pe_blk mm_43 1 (s' := (165, [some (.ref 83), u1, some (.int x2), u3, some (.int x4), some (.int x5)], [.ref 83], _, _, _)) rfl ?_
      refine pe_get mm_43 rfl rfl rfl (by decide) rfl ?_
      refine pe_blk mm_43 4 (s' := (176, [some (.ref 83), u1, some (.int x2), u3, some (.int x4), some (.int x5)], [.int (x4 / 256), .int x5, .ref 100], _, _, _)) rfl ?_
      by_cases q20 : x5 < 0 ∨ 128 ≤ (x5 : Int32).toNatClampNeg
      · rw [if_pos q20] at h
        cases h
      · rw [if_neg q20] at h
        refine pe_iasti mm_43 rfl rfl (by decide) q20 rfl ?_
        show pm_ev _ _ _ _ _ (177, [some (.ref 83), u1, some (.int x2), u3, some (.int x4), some (.int x5)], [], _, _, hp (m_i M19 100 (x5 : Int32).toNatClampNeg (x4 / 256))) _
        generalize m_i M19 100 (x5 : Int32).toNatClampNeg (x4 / 256) = M21 at h ⊢
        rw [mlet] at h
        exact J43_177_ev sc n (e1 + 1) he x2 x5 _ _ _ _ _ _ h
def J43_135 (n : Nat) (x2 : Int32) (x4 : Int32) (M : Mem) : Option (Int32 × Mem) :=
  if x2 < 0 ∨ 128 ≤ (x2 : Int32).toNatClampNeg then none else (mlet (m_i M 94 (x2 : Int32).toNatClampNeg (x4 - x4 / 256 * 256)) (fun M36 => J43_185 n M36))
set_option maxRecDepth 100000 in
set_option maxHeartbeats 4000000 in
theorem J43_135_ev (sc : Option (Nat × (Nat → Int32))) (n : Nat)  (e : Nat) (he : 6 ≤ e) : ∀ (x2 : Int32) (x4 : Int32) (u1 : Option Value) (u3 : Option Value) (u5 : Option Value) (M : Mem) (r : Int32) (M' : Mem), J43_135 n x2 x4 M = some (r, M') → pm_ev pmT sc e 43 false (135, [some (.ref 83), u1, some (.int x2), u3, some (.int x4), u5], [], 129, 17845, hp M) (some (.int r), 129, 17845, hp M') := by
  intro x2 x4 u1 u3 u5 M r M' h
  unfold J43_135 at h
  refine pe_blk mm_43 1 (s' := (136, [some (.ref 83), u1, some (.int x2), u3, some (.int x4), u5], [.ref 83], _, _, _)) rfl ?_
  refine pe_get mm_43 rfl rfl rfl (by decide) rfl ?_
  refine pe_blk mm_43 4 (s' := (146, [some (.ref 83), u1, some (.int x2), u3, some (.int x4), u5], [.int (x4 - x4 / 256 * 256), .int x2, .ref 94], _, _, _)) rfl ?_
  by_cases q35 : x2 < 0 ∨ 128 ≤ (x2 : Int32).toNatClampNeg
  · rw [if_pos q35] at h
    cases h
  · rw [if_neg q35] at h
    refine pe_iasti mm_43 rfl rfl (by decide) q35 rfl ?_
    show pm_ev _ _ _ _ _ (147, [some (.ref 83), u1, some (.int x2), u3, some (.int x4), u5], [], _, _, hp (m_i M 94 (x2 : Int32).toNatClampNeg (x4 - x4 / 256 * 256))) _
    generalize m_i M 94 (x2 : Int32).toNatClampNeg (x4 - x4 / 256 * 256) = M36 at h ⊢
    rw [mlet] at h
    refine pe_blk mm_43 1 (s' := (185, [some (.ref 83), u1, some (.int x2), u3, some (.int x4), u5], [], _, _, _)) rfl ?_
    exact J43_185_ev sc n e he _ _ _ _ _ _ _ _ _ h
def J43_115 (n : Nat) (x2 : Int32) (x4 : Int32) (x5 : Int32) (M : Mem) : Option (Int32 × Mem) :=
  if x2 < 0 ∨ 128 ≤ (x2 : Int32).toNatClampNeg then none else (mlet (m_i M 92 (x2 : Int32).toNatClampNeg x5) (fun M32 => if x2 < 0 ∨ 128 ≤ (x2 : Int32).toNatClampNeg then none else (mlet (m_i M32 93 (x2 : Int32).toNatClampNeg (x4 / 256)) (fun M34 => J43_135 n x2 x4 M34))))
set_option maxRecDepth 100000 in
set_option maxHeartbeats 4000000 in
theorem J43_115_ev (sc : Option (Nat × (Nat → Int32))) (n : Nat)  (e : Nat) (he : 6 ≤ e) : ∀ (x2 : Int32) (x4 : Int32) (x5 : Int32) (u1 : Option Value) (u3 : Option Value) (M : Mem) (r : Int32) (M' : Mem), J43_115 n x2 x4 x5 M = some (r, M') → pm_ev pmT sc e 43 false (115, [some (.ref 83), u1, some (.int x2), u3, some (.int x4), some (.int x5)], [], 129, 17845, hp M) (some (.int r), 129, 17845, hp M') := by
  intro x2 x4 x5 u1 u3 M r M' h
  unfold J43_115 at h
  refine pe_blk mm_43 1 (s' := (116, [some (.ref 83), u1, some (.int x2), u3, some (.int x4), some (.int x5)], [.ref 83], _, _, _)) rfl ?_
  refine pe_get mm_43 rfl rfl rfl (by decide) rfl ?_
  refine pe_blk mm_43 2 (s' := (122, [some (.ref 83), u1, some (.int x2), u3, some (.int x4), some (.int x5)], [.int x5, .int x2, .ref 92], _, _, _)) rfl ?_
  by_cases q31 : x2 < 0 ∨ 128 ≤ (x2 : Int32).toNatClampNeg
  · rw [if_pos q31] at h
    cases h
  · rw [if_neg q31] at h
    refine pe_iasti mm_43 rfl rfl (by decide) q31 rfl ?_
    show pm_ev _ _ _ _ _ (123, [some (.ref 83), u1, some (.int x2), u3, some (.int x4), some (.int x5)], [], _, _, hp (m_i M 92 (x2 : Int32).toNatClampNeg x5)) _
    generalize m_i M 92 (x2 : Int32).toNatClampNeg x5 = M32 at h ⊢
    rw [mlet] at h
    refine pe_blk mm_43 1 (s' := (124, [some (.ref 83), u1, some (.int x2), u3, some (.int x4), some (.int x5)], [.ref 83], _, _, _)) rfl ?_
    refine pe_get mm_43 rfl rfl rfl (by decide) rfl ?_
    refine pe_blk mm_43 4 (s' := (134, [some (.ref 83), u1, some (.int x2), u3, some (.int x4), some (.int x5)], [.int (x4 / 256), .int x2, .ref 93], _, _, _)) rfl ?_
    by_cases q33 : x2 < 0 ∨ 128 ≤ (x2 : Int32).toNatClampNeg
    · rw [if_pos q33] at h
      cases h
    · rw [if_neg q33] at h
      refine pe_iasti mm_43 rfl rfl (by decide) q33 rfl ?_
      show pm_ev _ _ _ _ _ (135, [some (.ref 83), u1, some (.int x2), u3, some (.int x4), some (.int x5)], [], _, _, hp (m_i M32 93 (x2 : Int32).toNatClampNeg (x4 / 256))) _
      generalize m_i M32 93 (x2 : Int32).toNatClampNeg (x4 / 256) = M34 at h ⊢
      rw [mlet] at h
      exact J43_135_ev sc n e he x2 x4 _ _ _ _ _ _ h
def J43_82 (n : Nat) (x2 : Int32) (x4 : Int32) (x5 : Int32) (M : Mem) : Option (Int32 × Mem) :=
  match F35 n 5 0 (x4 - x4 / 256 * 256) M with | some (v24, M25) => (if x5 < 0 ∨ 128 ≤ (x5 : Int32).toNatClampNeg then none else (mlet (m_i M25 92 (x5 : Int32).toNatClampNeg x2) (fun M28 => if x5 < 0 ∨ 128 ≤ (x5 : Int32).toNatClampNeg then none else (mlet (m_i M28 93 (x5 : Int32).toNatClampNeg (x4 / 256)) (fun M30 => J43_115 n x2 x4 x5 M30))))) | none => none
set_option maxRecDepth 100000 in
set_option maxHeartbeats 4000000 in
theorem J43_82_ev (sc : Option (Nat × (Nat → Int32))) (n : Nat)  (e : Nat) (he : 6 ≤ e) : ∀ (x2 : Int32) (x4 : Int32) (x5 : Int32) (u1 : Option Value) (u3 : Option Value) (M : Mem) (r : Int32) (M' : Mem), J43_82 n x2 x4 x5 M = some (r, M') → pm_ev pmT sc e 43 false (82, [some (.ref 83), u1, some (.int x2), u3, some (.int x4), some (.int x5)], [], 129, 17845, hp M) (some (.int r), 129, 17845, hp M') := by
  intro x2 x4 x5 u1 u3 M r M' h
  unfold J43_82 at h
  refine pe_blk mm_43 6 (s' := (91, [some (.ref 83), u1, some (.int x2), u3, some (.int x4), some (.int x5)], [.int (x4 - x4 / 256 * 256), .int 0, .int 5, .ref 83], _, _, _)) rfl ?_
  obtain ⟨e1, rfl⟩ : ∃ e1, e = e1 + 1 := ⟨e - 1, by omega⟩
  cases hc26 : F35 n 5 0 (x4 - x4 / 256 * 256) M with
  | none => rw [hc26] at h; cases h
  | some w =>
    obtain ⟨v24, M25⟩ := w
    rw [hc26] at h
    dsimp only at h
    refine pe_virt (al := [.int (x4 - x4 / 256 * 256), .int 0, .int 5]) (a := 83) (L0 := [some (.ref 83), some (.int 5), some (.int 0), some (.int (x4 - x4 / 256 * 256))]) (r1 := (none, 129, 17845, hp M25)) mm_43 rfl rfl rfl mm_35 rfl (by decide) (by decide) rfl (Nat.le_of_ble_eq_true rfl) (Nat.le_of_ble_eq_true rfl) rfl rfl (F35_ev sc n 5 0 (x4 - x4 / 256 * 256) _ e1 (by omega) _ _ hc26) ?_
    show pm_ev _ _ _ _ _ (94, [some (.ref 83), u1, some (.int x2), u3, some (.int x4), some (.int x5)], [], _, _, _) _
    refine pe_blk mm_43 1 (s' := (95, [some (.ref 83), u1, some (.int x2), u3, some (.int x4), some (.int x5)], [.ref 83], _, _, _)) rfl ?_
    refine pe_get mm_43 rfl rfl rfl (by decide) rfl ?_
    refine pe_blk mm_43 2 (s' := (101, [some (.ref 83), u1, some (.int x2), u3, some (.int x4), some (.int x5)], [.int x2, .int x5, .ref 92], _, _, _)) rfl ?_
    by_cases q27 : x5 < 0 ∨ 128 ≤ (x5 : Int32).toNatClampNeg
    · rw [if_pos q27] at h
      cases h
    · rw [if_neg q27] at h
      refine pe_iasti mm_43 rfl rfl (by decide) q27 rfl ?_
      show pm_ev _ _ _ _ _ (102, [some (.ref 83), u1, some (.int x2), u3, some (.int x4), some (.int x5)], [], _, _, hp (m_i M25 92 (x5 : Int32).toNatClampNeg x2)) _
      generalize m_i M25 92 (x5 : Int32).toNatClampNeg x2 = M28 at h ⊢
      rw [mlet] at h
      refine pe_blk mm_43 1 (s' := (103, [some (.ref 83), u1, some (.int x2), u3, some (.int x4), some (.int x5)], [.ref 83], _, _, _)) rfl ?_
      refine pe_get mm_43 rfl rfl rfl (by decide) rfl ?_
      refine pe_blk mm_43 4 (s' := (114, [some (.ref 83), u1, some (.int x2), u3, some (.int x4), some (.int x5)], [.int (x4 / 256), .int x5, .ref 93], _, _, _)) rfl ?_
      by_cases q29 : x5 < 0 ∨ 128 ≤ (x5 : Int32).toNatClampNeg
      · rw [if_pos q29] at h
        cases h
      · rw [if_neg q29] at h
        refine pe_iasti mm_43 rfl rfl (by decide) q29 rfl ?_
        show pm_ev _ _ _ _ _ (115, [some (.ref 83), u1, some (.int x2), u3, some (.int x4), some (.int x5)], [], _, _, hp (m_i M28 93 (x5 : Int32).toNatClampNeg (x4 / 256))) _
        generalize m_i M28 93 (x5 : Int32).toNatClampNeg (x4 / 256) = M30 at h ⊢
        rw [mlet] at h
        exact J43_115_ev sc n (e1 + 1) he x2 x4 x5 _ _ _ _ _ h
def J43_59 (n : Nat) (x1 : Int32) (x2 : Int32) (M : Mem) : Option (Int32 × Mem) :=
  match F40 n M with | some (v10, M11) => (if 0 ≤ v10 then (if x1 = 0 then (J43_150 n x2 v10 (M11.1 83 32) M11) else (J43_82 n x2 v10 (M11.1 83 32) M11)) else (some (0, M11))) | none => none
set_option maxRecDepth 100000 in
set_option maxHeartbeats 4000000 in
theorem J43_59_ev (sc : Option (Nat × (Nat → Int32))) (n : Nat)  (e : Nat) (he : 6 ≤ e) : ∀ (x1 : Int32) (x2 : Int32) (u3 : Option Value) (u4 : Option Value) (u5 : Option Value) (M : Mem) (r : Int32) (M' : Mem), J43_59 n x1 x2 M = some (r, M') → pm_ev pmT sc e 43 false (59, [some (.ref 83), some (.int x1), some (.int x2), u3, u4, u5], [], 129, 17845, hp M) (some (.int r), 129, 17845, hp M') := by
  intro x1 x2 u3 u4 u5 M r M' h
  unfold J43_59 at h
  refine pe_blk mm_43 1 (s' := (60, [some (.ref 83), some (.int x1), some (.int x2), u3, u4, u5], [.ref 83], _, _, _)) rfl ?_
  obtain ⟨e1, rfl⟩ : ∃ e1, e = e1 + 1 := ⟨e - 1, by omega⟩
  cases hc12 : F40 n M with
  | none => rw [hc12] at h; cases h
  | some w =>
    obtain ⟨v10, M11⟩ := w
    rw [hc12] at h
    dsimp only at h
    refine pe_virt (al := []) (a := 83) (L0 := [some (.ref 83), none, none]) (r1 := (some (.int v10), 129, 17845, hp M11)) mm_43 rfl rfl rfl mm_40 rfl (by decide) (by decide) rfl (Nat.le_of_ble_eq_true rfl) (Nat.le_of_ble_eq_true rfl) rfl rfl (F40_ev sc n _ e1 (by omega) _ _ hc12) ?_
    show pm_ev _ _ _ _ _ (63, [some (.ref 83), some (.int x1), some (.int x2), u3, u4, u5], [.int v10], _, _, _) _
    refine pe_blk mm_43 2 (s' := (67, [some (.ref 83), some (.int x1), some (.int x2), u3, some (.int v10), u5], [.int v10], _, _, _)) rfl ?_
    by_cases q13 : 0 ≤ v10
    · rw [if_pos q13] at h
      refine pe_blk mm_43 1 (s' := (if 0 ≤ v10 then 72 else 70, [some (.ref 83), some (.int x1), some (.int x2), u3, some (.int v10), u5], [], _, _, _)) rfl ?_
      rw [if_pos q13]
      refine pe_blk mm_43 1 (s' := (73, [some (.ref 83), some (.int x1), some (.int x2), u3, some (.int v10), u5], [.ref 83], _, _, _)) rfl ?_
      refine pe_get mm_43 rfl rfl rfl (by decide) rfl ?_
      refine pe_blk mm_43 2 (s' := (79, [some (.ref 83), some (.int x1), some (.int x2), u3, some (.int v10), some (.int (M11.1 83 32))], [.int x1], _, _, _)) rfl ?_
      by_cases q14 : x1 = 0
      · rw [if_pos q14] at h
        refine pe_blk mm_43 1 (s' := (if x1 = 0 then 150 else 82, [some (.ref 83), some (.int x1), some (.int x2), u3, some (.int v10), some (.int (M11.1 83 32))], [], _, _, _)) rfl ?_
        rw [if_pos q14]
        exact J43_150_ev sc n (e1 + 1) he x2 v10 (M11.1 83 32) _ _ _ _ _ h
      · rw [if_neg q14] at h
        refine pe_blk mm_43 1 (s' := (if x1 = 0 then 150 else 82, [some (.ref 83), some (.int x1), some (.int x2), u3, some (.int v10), some (.int (M11.1 83 32))], [], _, _, _)) rfl ?_
        rw [if_neg q14]
        exact J43_82_ev sc n (e1 + 1) he x2 v10 (M11.1 83 32) _ _ _ _ _ h
    · rw [if_neg q13] at h
      refine pe_blk mm_43 1 (s' := (if 0 ≤ v10 then 72 else 70, [some (.ref 83), some (.int x1), some (.int x2), u3, some (.int v10), u5], [], _, _, _)) rfl ?_
      rw [if_neg q13]
      refine pe_blk mm_43 1 (s' := (71, [some (.ref 83), some (.int x1), some (.int x2), u3, some (.int v10), u5], [.int 0], _, _, _)) rfl ?_
      cases h
      exact pe_ret mm_43 rfl rfl
def J43_53 (n : Nat) (M : Mem) : Option (Int32 × Mem) :=
  some (1, M)
set_option maxRecDepth 100000 in
set_option maxHeartbeats 4000000 in
theorem J43_53_ev (sc : Option (Nat × (Nat → Int32))) (n : Nat)  (e : Nat) (he : 6 ≤ e) : ∀ (u0 : Option Value) (u1 : Option Value) (u2 : Option Value) (u3 : Option Value) (u4 : Option Value) (u5 : Option Value) (M : Mem) (r : Int32) (M' : Mem), J43_53 n  M = some (r, M') → pm_ev pmT sc e 43 false (53, [u0, u1, u2, u3, u4, u5], [], 129, 17845, hp M) (some (.int r), 129, 17845, hp M') := by
  intro u0 u1 u2 u3 u4 u5 M r M' h
  unfold J43_53 at h
  refine pe_blk mm_43 1 (s' := (54, [u0, u1, u2, u3, u4, u5], [.int 1], _, _, _)) rfl ?_
  cases h
  exact pe_ret mm_43 rfl rfl
def J43_25 (n : Nat) (x1 : Int32) (x2 : Int32) (x3 : Int32) (M : Mem) : Option (Int32 × Mem) :=
  match F28 n M with | some (v3, M4) => (if 0 ≤ x2 then (match F39 n M4 with | some (v7, M8) => (J43_59 n x1 x2 M8) | none => none) else (if x1 = 0 then (match F36 n 0 x3 M4 with | some (v38, M39) => (J43_53 n M39) | none => none) else (match F35 n 2 x3 0 M4 with | some (v41, M42) => (J43_53 n M42) | none => none))) | none => none
set_option maxRecDepth 100000 in
set_option maxHeartbeats 4000000 in
theorem J43_25_ev (sc : Option (Nat × (Nat → Int32))) (n : Nat)  (e : Nat) (he : 6 ≤ e) : ∀ (x1 : Int32) (x2 : Int32) (x3 : Int32) (u4 : Option Value) (u5 : Option Value) (M : Mem) (r : Int32) (M' : Mem), J43_25 n x1 x2 x3 M = some (r, M') → pm_ev pmT sc e 43 false (25, [some (.ref 83), some (.int x1), some (.int x2), some (.int x3), u4, u5], [], 129, 17845, hp M) (some (.int r), 129, 17845, hp M') := by
  intro x1 x2 x3 u4 u5 M r M' h
  unfold J43_25 at h
  refine pe_blk mm_43 1 (s' := (26, [some (.ref 83), some (.int x1), some (.int x2), some (.int x3), u4, u5], [.ref 83], _, _, _)) rfl ?_
  obtain ⟨e1, rfl⟩ : ∃ e1, e = e1 + 1 := ⟨e - 1, by omega⟩
  cases hc5 : F28 n M with
  | none => rw [hc5] at h; cases h
  | some w =>
    obtain ⟨v3, M4⟩ := w
    rw [hc5] at h
    dsimp only at h
    refine pe_virt (al := []) (a := 83) (L0 := [some (.ref 83), none, none, none, none, none]) (r1 := (none, 129, 17845, hp M4)) mm_43 rfl rfl rfl mm_28 rfl (by decide) (by decide) rfl (Nat.le_of_ble_eq_true rfl) (Nat.le_of_ble_eq_true rfl) rfl rfl (F28_ev sc n _ e1 (by omega) _ _ hc5) ?_
    show pm_ev _ _ _ _ _ (29, [some (.ref 83), some (.int x1), some (.int x2), some (.int x3), u4, u5], [], _, _, _) _
    refine pe_blk mm_43 1 (s' := (30, [some (.ref 83), some (.int x1), some (.int x2), some (.int x3), u4, u5], [.int x2], _, _, _)) rfl ?_
    by_cases q6 : 0 ≤ x2
    · rw [if_pos q6] at h
      refine pe_blk mm_43 1 (s' := (if 0 ≤ x2 then 55 else 33, [some (.ref 83), some (.int x1), some (.int x2), some (.int x3), u4, u5], [], _, _, _)) rfl ?_
      rw [if_pos q6]
      refine pe_blk mm_43 1 (s' := (56, [some (.ref 83), some (.int x1), some (.int x2), some (.int x3), u4, u5], [.ref 83], _, _, _)) rfl ?_
      skip
      cases hc9 : F39 n M4 with
      | none => rw [hc9] at h; cases h
      | some w =>
        obtain ⟨v7, M8⟩ := w
        rw [hc9] at h
        dsimp only at h
        refine pe_virt (al := []) (a := 83) (L0 := [some (.ref 83)]) (r1 := (none, 129, 17845, hp M8)) mm_43 rfl rfl rfl mm_39 rfl (by decide) (by decide) rfl (Nat.le_of_ble_eq_true rfl) (Nat.le_of_ble_eq_true rfl) rfl rfl (F39_ev sc n _ e1 (by omega) _ _ hc9) ?_
        show pm_ev _ _ _ _ _ (59, [some (.ref 83), some (.int x1), some (.int x2), some (.int x3), u4, u5], [], _, _, _) _
        exact J43_59_ev sc n (e1 + 1) he x1 x2 _ _ _ _ _ _ h
    · rw [if_neg q6] at h
      refine pe_blk mm_43 1 (s' := (if 0 ≤ x2 then 55 else 33, [some (.ref 83), some (.int x1), some (.int x2), some (.int x3), u4, u5], [], _, _, _)) rfl ?_
      rw [if_neg q6]
      refine pe_blk mm_43 1 (s' := (34, [some (.ref 83), some (.int x1), some (.int x2), some (.int x3), u4, u5], [.int x1], _, _, _)) rfl ?_
      by_cases q37 : x1 = 0
      · rw [if_pos q37] at h
        refine pe_blk mm_43 1 (s' := (if x1 = 0 then 47 else 37, [some (.ref 83), some (.int x1), some (.int x2), some (.int x3), u4, u5], [], _, _, _)) rfl ?_
        rw [if_pos q37]
        refine pe_blk mm_43 3 (s' := (50, [some (.ref 83), some (.int x1), some (.int x2), some (.int x3), u4, u5], [.int x3, .int 0, .ref 83], _, _, _)) rfl ?_
        skip
        cases hc40 : F36 n 0 x3 M4 with
        | none => rw [hc40] at h; cases h
        | some w =>
          obtain ⟨v38, M39⟩ := w
          rw [hc40] at h
          dsimp only at h
          refine pe_virt (al := [.int x3, .int 0]) (a := 83) (L0 := [some (.ref 83), some (.int 0), some (.int x3)]) (r1 := (none, 129, 17845, hp M39)) mm_43 rfl rfl rfl mm_36 rfl (by decide) (by decide) rfl (Nat.le_of_ble_eq_true rfl) (Nat.le_of_ble_eq_true rfl) rfl rfl (F36_ev sc n 0 x3 _ e1 (by omega) _ _ hc40) ?_
          show pm_ev _ _ _ _ _ (53, [some (.ref 83), some (.int x1), some (.int x2), some (.int x3), u4, u5], [], _, _, _) _
          exact J43_53_ev sc n (e1 + 1) he _ _ _ _ _ _ _ _ _ h
      · rw [if_neg q37] at h
        refine pe_blk mm_43 1 (s' := (if x1 = 0 then 47 else 37, [some (.ref 83), some (.int x1), some (.int x2), some (.int x3), u4, u5], [], _, _, _)) rfl ?_
        rw [if_neg q37]
        refine pe_blk mm_43 4 (s' := (41, [some (.ref 83), some (.int x1), some (.int x2), some (.int x3), u4, u5], [.int 0, .int x3, .int 2, .ref 83], _, _, _)) rfl ?_
        skip
        cases hc43 : F35 n 2 x3 0 M4 with
        | none => rw [hc43] at h; cases h
        | some w =>
          obtain ⟨v41, M42⟩ := w
          rw [hc43] at h
          dsimp only at h
          refine pe_virt (al := [.int 0, .int x3, .int 2]) (a := 83) (L0 := [some (.ref 83), some (.int 2), some (.int x3), some (.int 0)]) (r1 := (none, 129, 17845, hp M42)) mm_43 rfl rfl rfl mm_35 rfl (by decide) (by decide) rfl (Nat.le_of_ble_eq_true rfl) (Nat.le_of_ble_eq_true rfl) rfl rfl (F35_ev sc n 2 x3 0 _ e1 (by omega) _ _ hc43) ?_
          show pm_ev _ _ _ _ _ (44, [some (.ref 83), some (.int x1), some (.int x2), some (.int x3), u4, u5], [], _, _, _) _
          refine pe_blk mm_43 1 (s' := (53, [some (.ref 83), some (.int x1), some (.int x2), some (.int x3), u4, u5], [], _, _, _)) rfl ?_
          exact J43_53_ev sc n (e1 + 1) he _ _ _ _ _ _ _ _ _ h
/-- ArmExpanderModel.closeIt -/
def F43 (n : Nat) (a0 : Int32) (M : Mem) : Option (Int32 × Mem) :=
  mlet (m_i M 83 27 ((M.1 83 27) - 1)) (fun M1 => if (M1.1 83 27) < 0 ∨ 16 ≤ (M1.1 83 27 : Int32).toNatClampNeg then none else (J43_25 n a0 (M1.1 104 (M1.1 83 27 : Int32).toNatClampNeg) (M1.1 83 5) M1))
set_option maxRecDepth 100000 in
set_option maxHeartbeats 4000000 in
theorem F43_ev (sc : Option (Nat × (Nat → Int32))) (n : Nat) (a0 : Int32)  (M : Mem) (e : Nat) (he : 6 ≤ e) (r : Int32) (M' : Mem) (h : F43 n a0 M = some (r, M')) : pm_ev pmT sc e 43 false (0, [some (.ref 83), some (.int a0), none, none, none, none], [], 129, 17845, hp M) (some (.int r), 129, 17845, hp M') := by
  unfold F43 at h
  refine pe_blk mm_43 2 (s' := (2, [some (.ref 83), some (.int a0), none, none, none, none], [.ref 83, .ref 83], _, _, _)) rfl ?_
  refine pe_get mm_43 rfl rfl rfl (by decide) rfl ?_
  refine pe_blk mm_43 2 (s' := (7, [some (.ref 83), some (.int a0), none, none, none, none], [.int ((M.1 83 27) - 1), .ref 83], _, _, _)) rfl ?_
  refine pe_puti mm_43 rfl rfl rfl (by decide) (Nat.le_of_ble_eq_true rfl) rfl rfl ?_
  show pm_ev _ _ _ _ _ (10, [some (.ref 83), some (.int a0), none, none, none, none], [], _, _, hp (m_i M 83 27 ((M.1 83 27) - 1))) _
  generalize m_i M 83 27 ((M.1 83 27) - 1) = M1 at h ⊢
  rw [mlet] at h
  refine pe_blk mm_43 1 (s' := (11, [some (.ref 83), some (.int a0), none, none, none, none], [.ref 83], _, _, _)) rfl ?_
  refine pe_get mm_43 rfl rfl rfl (by decide) rfl ?_
  refine pe_blk mm_43 1 (s' := (15, [some (.ref 83), some (.int a0), none, none, none, none], [.ref 83, .ref 104], _, _, _)) rfl ?_
  refine pe_get mm_43 rfl rfl rfl (by decide) rfl ?_
  by_cases q2 : (M1.1 83 27) < 0 ∨ 16 ≤ (M1.1 83 27 : Int32).toNatClampNeg
  · rw [if_pos q2] at h
    cases h
  · rw [if_neg q2] at h
    refine pe_iald (f := M1.1 104) mm_43 rfl rfl (by decide) q2 ?_
    refine pe_blk mm_43 2 (s' := (21, [some (.ref 83), some (.int a0), some (.int (M1.1 104 (M1.1 83 27 : Int32).toNatClampNeg)), none, none, none], [.ref 83], _, _, _)) rfl ?_
    refine pe_get mm_43 rfl rfl rfl (by decide) rfl ?_
    refine pe_blk mm_43 1 (s' := (25, [some (.ref 83), some (.int a0), some (.int (M1.1 104 (M1.1 83 27 : Int32).toNatClampNeg)), some (.int (M1.1 83 5)), none, none], [], _, _, _)) rfl ?_
    exact J43_25_ev sc n e he a0 (M1.1 104 (M1.1 83 27 : Int32).toNatClampNeg) (M1.1 83 5) _ _ _ _ _ h
def J44_276 (n : Nat) (M : Mem) : Option (Int32 × Mem) :=
  some (1, M)
set_option maxRecDepth 100000 in
set_option maxHeartbeats 4000000 in
theorem J44_276_ev (sc : Option (Nat × (Nat → Int32))) (n : Nat)  (e : Nat) (he : 7 ≤ e) : ∀ (u0 : Option Value) (u1 : Option Value) (u2 : Option Value) (u3 : Option Value) (u4 : Option Value) (M : Mem) (r : Int32) (M' : Mem), J44_276 n  M = some (r, M') → pm_ev pmT sc e 44 false (276, [u0, u1, u2, u3, u4], [], 129, 17845, hp M) (some (.int r), 129, 17845, hp M') := by
  intro u0 u1 u2 u3 u4 M r M' h
  unfold J44_276 at h
  refine pe_blk mm_44 1 (s' := (277, [u0, u1, u2, u3, u4], [.int 1], _, _, _)) rfl ?_
  cases h
  exact pe_ret mm_44 rfl rfl
def J44_59 (n : Nat) (M : Mem) : Option (Int32 × Mem) :=
  match F29 n M with | some (v19, M20) => (if v19 = 0 ∨ v19 = 1 then some (v19, M20) else none) | none => none
set_option maxRecDepth 100000 in
set_option maxHeartbeats 4000000 in
theorem J44_59_ev (sc : Option (Nat × (Nat → Int32))) (n : Nat)  (e : Nat) (he : 7 ≤ e) : ∀ (u1 : Option Value) (u2 : Option Value) (u3 : Option Value) (u4 : Option Value) (M : Mem) (r : Int32) (M' : Mem), J44_59 n  M = some (r, M') → pm_ev pmT sc e 44 false (59, [some (.ref 83), u1, u2, u3, u4], [], 129, 17845, hp M) (some (.int r), 129, 17845, hp M') := by
  intro u1 u2 u3 u4 M r M' h
  unfold J44_59 at h
  refine pe_blk mm_44 1 (s' := (60, [some (.ref 83), u1, u2, u3, u4], [.ref 83], _, _, _)) rfl ?_
  obtain ⟨e1, rfl⟩ : ∃ e1, e = e1 + 1 := ⟨e - 1, by omega⟩
  cases hc21 : F29 n M with
  | none => rw [hc21] at h; cases h
  | some w =>
    obtain ⟨v19, M20⟩ := w
    rw [hc21] at h
    dsimp only at h
    refine pe_virt (al := []) (a := 83) (L0 := [some (.ref 83)]) (r1 := (some (.int v19), 129, 17845, hp M20)) mm_44 rfl rfl rfl mm_29 rfl (by decide) (by decide) rfl (Nat.le_of_ble_eq_true rfl) (Nat.le_of_ble_eq_true rfl) rfl rfl (F29_ev sc n _ e1 (by omega) _ _ hc21) ?_
    show pm_ev _ _ _ _ _ (63, [some (.ref 83), u1, u2, u3, u4], [.int v19], _, _, _) _
    by_cases q22 : v19 = 0 ∨ v19 = 1
    · rw [if_pos q22] at h
      cases h
      exact pe_ret mm_44 rfl (if_pos q22)
    · rw [if_neg q22] at h
      cases h
def J44_140 (n : Nat) (rec39 : Int32 → Int32 → Int32 → Mem → Option (Int32 × Mem)) (x1 : Int32) (x2 : Int32) (x3 : Int32) (M : Mem) : Option (Int32 × Mem) :=
  rec39 x1 x2 x3 M
set_option maxRecDepth 100000 in
set_option maxHeartbeats 4000000 in
theorem J44_140_ev (sc : Option (Nat × (Nat → Int32))) (n : Nat)  (e : Nat) (he : 7 ≤ e) (rec39 : Int32 → Int32 → Int32 → Mem → Option (Int32 × Mem)) (hr39 : ∀ (x1 : Int32) (x2 : Int32) (x3 : Int32) (u4 : Option Value) (M : Mem) (r : Int32) (M' : Mem), rec39 x1 x2 x3 M = some (r, M') → pm_ev pmT sc e 44 false (39, [some (.ref 83), some (.int x1), some (.int x2), some (.int x3), u4], [], 129, 17845, hp M) (some (.int r), 129, 17845, hp M')) : ∀ (x1 : Int32) (x2 : Int32) (x3 : Int32) (u4 : Option Value) (M : Mem) (r : Int32) (M' : Mem), J44_140 n rec39 x1 x2 x3 M = some (r, M') → pm_ev pmT sc e 44 false (140, [some (.ref 83), some (.int x1), some (.int x2), some (.int x3), u4], [], 129, 17845, hp M) (some (.int r), 129, 17845, hp M') := by
  intro x1 x2 x3 u4 M r M' h
  unfold J44_140 at h
  refine pe_blk mm_44 1 (s' := (39, [some (.ref 83), some (.int x1), some (.int x2), some (.int x3), u4], [], _, _, _)) rfl ?_
  exact hr39 x1 x2 x3 _ _ _ _ h
def J44_125 (n : Nat) (rec39 : Int32 → Int32 → Int32 → Mem → Option (Int32 × Mem)) (x1 : Int32) (x2 : Int32) (s0 : Int32) (M : Mem) : Option (Int32 × Mem) :=
  if s0 = 0 then (J44_140 n rec39 x1 x2 s0 M) else (match F43 n x1 M with | some (v29, M30) => (if v29 = 0 then (some (0, M30)) else (J44_140 n rec39 x1 x2 s0 M30)) | none => none)
set_option maxRecDepth 100000 in
set_option maxHeartbeats 4000000 in
theorem J44_125_ev (sc : Option (Nat × (Nat → Int32))) (n : Nat)  (e : Nat) (he : 7 ≤ e) (rec39 : Int32 → Int32 → Int32 → Mem → Option (Int32 × Mem)) (hr39 : ∀ (x1 : Int32) (x2 : Int32) (x3 : Int32) (u4 : Option Value) (M : Mem) (r : Int32) (M' : Mem), rec39 x1 x2 x3 M = some (r, M') → pm_ev pmT sc e 44 false (39, [some (.ref 83), some (.int x1), some (.int x2), some (.int x3), u4], [], 129, 17845, hp M) (some (.int r), 129, 17845, hp M')) : ∀ (x1 : Int32) (x2 : Int32) (s0 : Int32) (u3 : Option Value) (u4 : Option Value) (M : Mem) (r : Int32) (M' : Mem), J44_125 n rec39 x1 x2 s0 M = some (r, M') → pm_ev pmT sc e 44 false (125, [some (.ref 83), some (.int x1), some (.int x2), u3, u4], [.int s0], 129, 17845, hp M) (some (.int r), 129, 17845, hp M') := by
  intro x1 x2 s0 u3 u4 M r M' h
  unfold J44_125 at h
  refine pe_blk mm_44 2 (s' := (127, [some (.ref 83), some (.int x1), some (.int x2), some (.int s0), u4], [.int s0], _, _, _)) rfl ?_
  by_cases q28 : s0 = 0
  · rw [if_pos q28] at h
    refine pe_blk mm_44 1 (s' := (if s0 = 0 then 140 else 130, [some (.ref 83), some (.int x1), some (.int x2), some (.int s0), u4], [], _, _, _)) rfl ?_
    rw [if_pos q28]
    exact J44_140_ev sc n e he rec39 hr39 x1 x2 s0 _ _ _ _ h
  · rw [if_neg q28] at h
    refine pe_blk mm_44 1 (s' := (if s0 = 0 then 140 else 130, [some (.ref 83), some (.int x1), some (.int x2), some (.int s0), u4], [], _, _, _)) rfl ?_
    rw [if_neg q28]
    refine pe_blk mm_44 2 (s' := (132, [some (.ref 83), some (.int x1), some (.int x2), some (.int s0), u4], [.int x1, .ref 83], _, _, _)) rfl ?_
    obtain ⟨e1, rfl⟩ : ∃ e1, e = e1 + 1 := ⟨e - 1, by omega⟩
    cases hc31 : F43 n x1 M with
    | none => rw [hc31] at h; cases h
    | some w =>
      obtain ⟨v29, M30⟩ := w
      rw [hc31] at h
      dsimp only at h
      refine pe_virt (al := [.int x1]) (a := 83) (L0 := [some (.ref 83), some (.int x1), none, none, none, none]) (r1 := (some (.int v29), 129, 17845, hp M30)) mm_44 rfl rfl rfl mm_43 rfl (by decide) (by decide) rfl (Nat.le_of_ble_eq_true rfl) (Nat.le_of_ble_eq_true rfl) rfl rfl (F43_ev sc n x1 _ e1 (by omega) _ _ hc31) ?_
      show pm_ev _ _ _ _ _ (135, [some (.ref 83), some (.int x1), some (.int x2), some (.int s0), u4], [.int v29], _, _, _) _
      by_cases q32 : v29 = 0
      · rw [if_pos q32] at h
        refine pe_blk mm_44 1 (s' := (if v29 = 0 then 138 else 140, [some (.ref 83), some (.int x1), some (.int x2), some (.int s0), u4], [], _, _, _)) rfl ?_
        rw [if_pos q32]
        refine pe_blk mm_44 1 (s' := (139, [some (.ref 83), some (.int x1), some (.int x2), some (.int s0), u4], [.int 0], _, _, _)) rfl ?_
        cases h
        exact pe_ret mm_44 rfl rfl
      · rw [if_neg q32] at h
        refine pe_blk mm_44 1 (s' := (if v29 = 0 then 138 else 140, [some (.ref 83), some (.int x1), some (.int x2), some (.int s0), u4], [], _, _, _)) rfl ?_
        rw [if_neg q32]
        exact J44_140_ev sc n (e1 + 1) he rec39 hr39 x1 x2 s0 _ _ _ _ h
def J44_97 (n : Nat) (rec39 : Int32 → Int32 → Int32 → Mem → Option (Int32 × Mem)) (x1 : Int32) (x2 : Int32) (s0 : Int32) (M : Mem) : Option (Int32 × Mem) :=
  if (M.1 83 5) = s0 then (if (M.1 83 27) ≤ 0 then (J44_125 n rec39 x1 x2 0 M) else (J44_125 n rec39 x1 x2 1 M)) else (match F29 n M with | some (v33, M34) => (if v33 = 0 ∨ v33 = 1 then some (v33, M34) else none) | none => none)
set_option maxRecDepth 100000 in
set_option maxHeartbeats 4000000 in
theorem J44_97_ev (sc : Option (Nat × (Nat → Int32))) (n : Nat)  (e : Nat) (he : 7 ≤ e) (rec39 : Int32 → Int32 → Int32 → Mem → Option (Int32 × Mem)) (hr39 : ∀ (x1 : Int32) (x2 : Int32) (x3 : Int32) (u4 : Option Value) (M : Mem) (r : Int32) (M' : Mem), rec39 x1 x2 x3 M = some (r, M') → pm_ev pmT sc e 44 false (39, [some (.ref 83), some (.int x1), some (.int x2), some (.int x3), u4], [], 129, 17845, hp M) (some (.int r), 129, 17845, hp M')) : ∀ (x1 : Int32) (x2 : Int32) (s0 : Int32) (u3 : Option Value) (u4 : Option Value) (M : Mem) (r : Int32) (M' : Mem), J44_97 n rec39 x1 x2 s0 M = some (r, M') → pm_ev pmT sc e 44 false (97, [some (.ref 83), some (.int x1), some (.int x2), u3, u4], [.int s0], 129, 17845, hp M) (some (.int r), 129, 17845, hp M') := by
  intro x1 x2 s0 u3 u4 M r M' h
  unfold J44_97 at h
  refine pe_blk mm_44 2 (s' := (100, [some (.ref 83), some (.int x1), some (.int x2), u3, some (.int s0)], [.ref 83], _, _, _)) rfl ?_
  refine pe_get mm_44 rfl rfl rfl (by decide) rfl ?_
  refine pe_blk mm_44 1 (s' := (105, [some (.ref 83), some (.int x1), some (.int x2), u3, some (.int s0)], [.int s0, .int (M.1 83 5)], _, _, _)) rfl ?_
  by_cases q26 : (M.1 83 5) = s0
  · rw [if_pos q26] at h
    refine pe_blk mm_44 1 (s' := (if (M.1 83 5) = s0 then 113 else 108, [some (.ref 83), some (.int x1), some (.int x2), u3, some (.int s0)], [], _, _, _)) rfl ?_
    rw [if_pos q26]
    refine pe_blk mm_44 1 (s' := (114, [some (.ref 83), some (.int x1), some (.int x2), u3, some (.int s0)], [.ref 83], _, _, _)) rfl ?_
    refine pe_get mm_44 rfl rfl rfl (by decide) rfl ?_
    by_cases q27 : (M.1 83 27) ≤ 0
    · rw [if_pos q27] at h
      refine pe_blk mm_44 1 (s' := (if (M.1 83 27) ≤ 0 then 124 else 120, [some (.ref 83), some (.int x1), some (.int x2), u3, some (.int s0)], [], _, _, _)) rfl ?_
      rw [if_pos q27]
      refine pe_blk mm_44 1 (s' := (125, [some (.ref 83), some (.int x1), some (.int x2), u3, some (.int s0)], [.int 0], _, _, _)) rfl ?_
      exact J44_125_ev sc n e he rec39 hr39 x1 x2 0 _ _ _ _ _ h
    · rw [if_neg q27] at h
      refine pe_blk mm_44 1 (s' := (if (M.1 83 27) ≤ 0 then 124 else 120, [some (.ref 83), some (.int x1), some (.int x2), u3, some (.int s0)], [], _, _, _)) rfl ?_
      rw [if_neg q27]
      refine pe_blk mm_44 2 (s' := (125, [some (.ref 83), some (.int x1), some (.int x2), u3, some (.int s0)], [.int 1], _, _, _)) rfl ?_
      exact J44_125_ev sc n e he rec39 hr39 x1 x2 1 _ _ _ _ _ h
  · rw [if_neg q26] at h
    refine pe_blk mm_44 1 (s' := (if (M.1 83 5) = s0 then 113 else 108, [some (.ref 83), some (.int x1), some (.int x2), u3, some (.int s0)], [], _, _, _)) rfl ?_
    rw [if_neg q26]
    refine pe_blk mm_44 1 (s' := (109, [some (.ref 83), some (.int x1), some (.int x2), u3, some (.int s0)], [.ref 83], _, _, _)) rfl ?_
    obtain ⟨e1, rfl⟩ : ∃ e1, e = e1 + 1 := ⟨e - 1, by omega⟩
    cases hc35 : F29 n M with
    | none => rw [hc35] at h; cases h
    | some w =>
      obtain ⟨v33, M34⟩ := w
      rw [hc35] at h
      dsimp only at h
      refine pe_virt (al := []) (a := 83) (L0 := [some (.ref 83)]) (r1 := (some (.int v33), 129, 17845, hp M34)) mm_44 rfl rfl rfl mm_29 rfl (by decide) (by decide) rfl (Nat.le_of_ble_eq_true rfl) (Nat.le_of_ble_eq_true rfl) rfl rfl (F29_ev sc n _ e1 (by omega) _ _ hc35) ?_
      show pm_ev _ _ _ _ _ (112, [some (.ref 83), some (.int x1), some (.int x2), u3, some (.int s0)], [.int v33], _, _, _) _
      by_cases q36 : v33 = 0 ∨ v33 = 1
      · rw [if_pos q36] at h
        cases h
        exact pe_ret mm_44 rfl (if_pos q36)
      · rw [if_neg q36] at h
        cases h
def J44_72 (n : Nat) (rec39 : Int32 → Int32 → Int32 → Mem → Option (Int32 × Mem)) (x1 : Int32) (x2 : Int32) (M : Mem) : Option (Int32 × Mem) :=
  if (M.1 83 27) ≤ 0 then (J44_97 n rec39 x1 x2 x2 M) else (if ((M.1 83 27) - 1) < 0 ∨ 16 ≤ ((M.1 83 27) - 1 : Int32).toNatClampNeg then none else (match F23 n (M.1 103 ((M.1 83 27) - 1 : Int32).toNatClampNeg) M with | some (v38, M39) => (J44_97 n rec39 x1 x2 v38 M39) | none => none))
set_option maxRecDepth 100000 in
set_option maxHeartbeats 4000000 in
theorem J44_72_ev (sc : Option (Nat × (Nat → Int32))) (n : Nat)  (e : Nat) (he : 7 ≤ e) (rec39 : Int32 → Int32 → Int32 → Mem → Option (Int32 × Mem)) (hr39 : ∀ (x1 : Int32) (x2 : Int32) (x3 : Int32) (u4 : Option Value) (M : Mem) (r : Int32) (M' : Mem), rec39 x1 x2 x3 M = some (r, M') → pm_ev pmT sc e 44 false (39, [some (.ref 83), some (.int x1), some (.int x2), some (.int x3), u4], [], 129, 17845, hp M) (some (.int r), 129, 17845, hp M')) : ∀ (x1 : Int32) (x2 : Int32) (u3 : Option Value) (u4 : Option Value) (M : Mem) (r : Int32) (M' : Mem), J44_72 n rec39 x1 x2 M = some (r, M') → pm_ev pmT sc e 44 false (72, [some (.ref 83), some (.int x1), some (.int x2), u3, u4], [], 129, 17845, hp M) (some (.int r), 129, 17845, hp M') := by
  intro x1 x2 u3 u4 M r M' h
  unfold J44_72 at h
  refine pe_blk mm_44 1 (s' := (73, [some (.ref 83), some (.int x1), some (.int x2), u3, u4], [.ref 83], _, _, _)) rfl ?_
  refine pe_get mm_44 rfl rfl rfl (by decide) rfl ?_
  by_cases q25 : (M.1 83 27) ≤ 0
  · rw [if_pos q25] at h
    refine pe_blk mm_44 1 (s' := (if (M.1 83 27) ≤ 0 then 96 else 79, [some (.ref 83), some (.int x1), some (.int x2), u3, u4], [], _, _, _)) rfl ?_
    rw [if_pos q25]
    refine pe_blk mm_44 1 (s' := (97, [some (.ref 83), some (.int x1), some (.int x2), u3, u4], [.int x2], _, _, _)) rfl ?_
    exact J44_97_ev sc n e he rec39 hr39 x1 x2 x2 _ _ _ _ _ h
  · rw [if_neg q25] at h
    refine pe_blk mm_44 1 (s' := (if (M.1 83 27) ≤ 0 then 96 else 79, [some (.ref 83), some (.int x1), some (.int x2), u3, u4], [], _, _, _)) rfl ?_
    rw [if_neg q25]
    refine pe_blk mm_44 1 (s' := (80, [some (.ref 83), some (.int x1), some (.int x2), u3, u4], [.ref 83], _, _, _)) rfl ?_
    refine pe_get mm_44 rfl rfl rfl (by decide) rfl ?_
    refine pe_blk mm_44 1 (s' := (84, [some (.ref 83), some (.int x1), some (.int x2), u3, u4], [.ref 83, .ref 103], _, _, _)) rfl ?_
    refine pe_get mm_44 rfl rfl rfl (by decide) rfl ?_
    refine pe_blk mm_44 2 (s' := (89, [some (.ref 83), some (.int x1), some (.int x2), u3, u4], [.int ((M.1 83 27) - 1), .ref 103], _, _, _)) rfl ?_
    by_cases q37 : ((M.1 83 27) - 1) < 0 ∨ 16 ≤ ((M.1 83 27) - 1 : Int32).toNatClampNeg
    · rw [if_pos q37] at h
      cases h
    · rw [if_neg q37] at h
      refine pe_iald (f := M.1 103) mm_44 rfl rfl (by decide) q37 ?_
      obtain ⟨e1, rfl⟩ : ∃ e1, e = e1 + 1 := ⟨e - 1, by omega⟩
      cases hc40 : F23 n (M.1 103 ((M.1 83 27) - 1 : Int32).toNatClampNeg) M with
      | none => rw [hc40] at h; cases h
      | some w =>
        obtain ⟨v38, M39⟩ := w
        rw [hc40] at h
        dsimp only at h
        refine pe_stat (al := [.int (M.1 103 ((M.1 83 27) - 1 : Int32).toNatClampNeg)]) (L0 := [some (.int (M.1 103 ((M.1 83 27) - 1 : Int32).toNatClampNeg))]) (r1 := (some (.int v38), 129, 17845, hp M39)) mm_44 rfl rfl rfl mm_23 rfl (Nat.le_of_ble_eq_true rfl) (Nat.le_of_ble_eq_true rfl) rfl rfl (F23_ev sc n (M.1 103 ((M.1 83 27) - 1 : Int32).toNatClampNeg) _ e1 (by omega) _ _ hc40) ?_
        show pm_ev _ _ _ _ _ (93, [some (.ref 83), some (.int x1), some (.int x2), u3, u4], [.int v38], _, _, _) _
        refine pe_blk mm_44 1 (s' := (97, [some (.ref 83), some (.int x1), some (.int x2), u3, u4], [.int v38], _, _, _)) rfl ?_
        exact J44_97_ev sc n (e1 + 1) he rec39 hr39 x1 x2 v38 _ _ _ _ _ h
def J44_212 (n : Nat) (rec39 : Int32 → Int32 → Int32 → Mem → Option (Int32 × Mem)) (x1 : Int32) (x2 : Int32) (x3 : Int32) (M : Mem) : Option (Int32 × Mem) :=
  rec39 x1 x2 x3 M
set_option maxRecDepth 100000 in
set_option maxHeartbeats 4000000 in
theorem J44_212_ev (sc : Option (Nat × (Nat → Int32))) (n : Nat)  (e : Nat) (he : 7 ≤ e) (rec39 : Int32 → Int32 → Int32 → Mem → Option (Int32 × Mem)) (hr39 : ∀ (x1 : Int32) (x2 : Int32) (x3 : Int32) (u4 : Option Value) (M : Mem) (r : Int32) (M' : Mem), rec39 x1 x2 x3 M = some (r, M') → pm_ev pmT sc e 44 false (39, [some (.ref 83), some (.int x1), some (.int x2), some (.int x3), u4], [], 129, 17845, hp M) (some (.int r), 129, 17845, hp M')) : ∀ (x1 : Int32) (x2 : Int32) (x3 : Int32) (u4 : Option Value) (M : Mem) (r : Int32) (M' : Mem), J44_212 n rec39 x1 x2 x3 M = some (r, M') → pm_ev pmT sc e 44 false (212, [some (.ref 83), some (.int x1), some (.int x2), some (.int x3), u4], [], 129, 17845, hp M) (some (.int r), 129, 17845, hp M') := by
  intro x1 x2 x3 u4 M r M' h
  unfold J44_212 at h
  refine pe_blk mm_44 1 (s' := (39, [some (.ref 83), some (.int x1), some (.int x2), some (.int x3), u4], [], _, _, _)) rfl ?_
  exact hr39 x1 x2 x3 _ _ _ _ h
def J44_180 (n : Nat) (rec39 : Int32 → Int32 → Int32 → Mem → Option (Int32 × Mem)) (x1 : Int32) (x2 : Int32) (x3 : Int32) (x4 : Int32) (M : Mem) : Option (Int32 × Mem) :=
  match F37 n (-1) M with | some (v46, M47) => (if v46 = 0 then (some (0, M47)) else (if x1 = 0 then (match F36 n 0 x4 M47 with | some (v51, M52) => (J44_212 n rec39 x1 x2 x3 M52) | none => none) else (match F35 n 1 x4 0 M47 with | some (v54, M55) => (J44_212 n rec39 x1 x2 x3 M55) | none => none))) | none => none
set_option maxRecDepth 100000 in
set_option maxHeartbeats 4000000 in
theorem J44_180_ev (sc : Option (Nat × (Nat → Int32))) (n : Nat)  (e : Nat) (he : 7 ≤ e) (rec39 : Int32 → Int32 → Int32 → Mem → Option (Int32 × Mem)) (hr39 : ∀ (x1 : Int32) (x2 : Int32) (x3 : Int32) (u4 : Option Value) (M : Mem) (r : Int32) (M' : Mem), rec39 x1 x2 x3 M = some (r, M') → pm_ev pmT sc e 44 false (39, [some (.ref 83), some (.int x1), some (.int x2), some (.int x3), u4], [], 129, 17845, hp M) (some (.int r), 129, 17845, hp M')) : ∀ (x1 : Int32) (x2 : Int32) (x3 : Int32) (x4 : Int32) (M : Mem) (r : Int32) (M' : Mem), J44_180 n rec39 x1 x2 x3 x4 M = some (r, M') → pm_ev pmT sc e 44 false (180, [some (.ref 83), some (.int x1), some (.int x2), some (.int x3), some (.int x4)], [], 129, 17845, hp M) (some (.int r), 129, 17845, hp M') := by
  intro x1 x2 x3 x4  M r M' h
  unfold J44_180 at h
  refine pe_blk mm_44 2 (s' := (182, [some (.ref 83), some (.int x1), some (.int x2), some (.int x3), some (.int x4)], [.int (-1), .ref 83], _, _, _)) rfl ?_
  obtain ⟨e1, rfl⟩ : ∃ e1, e = e1 + 1 := ⟨e - 1, by omega⟩
  cases hc48 : F37 n (-1) M with
  | none => rw [hc48] at h; cases h
  | some w =>
    obtain ⟨v46, M47⟩ := w
    rw [hc48] at h
    dsimp only at h
    refine pe_virt (al := [.int (-1)]) (a := 83) (L0 := [some (.ref 83), some (.int (-1))]) (r1 := (some (.int v46), 129, 17845, hp M47)) mm_44 rfl rfl rfl mm_37 rfl (by decide) (by decide) rfl (Nat.le_of_ble_eq_true rfl) (Nat.le_of_ble_eq_true rfl) rfl rfl (F37_ev sc n (-1) _ e1 (by omega) _ _ hc48) ?_
    show pm_ev _ _ _ _ _ (185, [some (.ref 83), some (.int x1), some (.int x2), some (.int x3), some (.int x4)], [.int v46], _, _, _) _
    by_cases q49 : v46 = 0
    · rw [if_pos q49] at h
      refine pe_blk mm_44 1 (s' := (if v46 = 0 then 188 else 190, [some (.ref 83), some (.int x1), some (.int x2), some (.int x3), some (.int x4)], [], _, _, _)) rfl ?_
      rw [if_pos q49]
      refine pe_blk mm_44 1 (s' := (189, [some (.ref 83), some (.int x1), some (.int x2), some (.int x3), some (.int x4)], [.int 0], _, _, _)) rfl ?_
      cases h
      exact pe_ret mm_44 rfl rfl
    · rw [if_neg q49] at h
      refine pe_blk mm_44 1 (s' := (if v46 = 0 then 188 else 190, [some (.ref 83), some (.int x1), some (.int x2), some (.int x3), some (.int x4)], [], _, _, _)) rfl ?_
      rw [if_neg q49]
      refine pe_blk mm_44 1 (s' := (191, [some (.ref 83), some (.int x1), some (.int x2), some (.int x3), some (.int x4)], [.int x1], _, _, _)) rfl ?_
      by_cases q50 : x1 = 0
      · rw [if_pos q50] at h
        refine pe_blk mm_44 1 (s' := (if x1 = 0 then 205 else 194, [some (.ref 83), some (.int x1), some (.int x2), some (.int x3), some (.int x4)], [], _, _, _)) rfl ?_
        rw [if_pos q50]
        refine pe_blk mm_44 3 (s' := (209, [some (.ref 83), some (.int x1), some (.int x2), some (.int x3), some (.int x4)], [.int x4, .int 0, .ref 83], _, _, _)) rfl ?_
        skip
        cases hc53 : F36 n 0 x4 M47 with
        | none => rw [hc53] at h; cases h
        | some w =>
          obtain ⟨v51, M52⟩ := w
          rw [hc53] at h
          dsimp only at h
          refine pe_virt (al := [.int x4, .int 0]) (a := 83) (L0 := [some (.ref 83), some (.int 0), some (.int x4)]) (r1 := (none, 129, 17845, hp M52)) mm_44 rfl rfl rfl mm_36 rfl (by decide) (by decide) rfl (Nat.le_of_ble_eq_true rfl) (Nat.le_of_ble_eq_true rfl) rfl rfl (F36_ev sc n 0 x4 _ e1 (by omega) _ _ hc53) ?_
          show pm_ev _ _ _ _ _ (212, [some (.ref 83), some (.int x1), some (.int x2), some (.int x3), some (.int x4)], [], _, _, _) _
          exact J44_212_ev sc n (e1 + 1) he rec39 hr39 x1 x2 x3 _ _ _ _ h
      · rw [if_neg q50] at h
        refine pe_blk mm_44 1 (s' := (if x1 = 0 then 205 else 194, [some (.ref 83), some (.int x1), some (.int x2), some (.int x3), some (.int x4)], [], _, _, _)) rfl ?_
        rw [if_neg q50]
        refine pe_blk mm_44 4 (s' := (199, [some (.ref 83), some (.int x1), some (.int x2), some (.int x3), some (.int x4)], [.int 0, .int x4, .int 1, .ref 83], _, _, _)) rfl ?_
        skip
        cases hc56 : F35 n 1 x4 0 M47 with
        | none => rw [hc56] at h; cases h
        | some w =>
          obtain ⟨v54, M55⟩ := w
          rw [hc56] at h
          dsimp only at h
          refine pe_virt (al := [.int 0, .int x4, .int 1]) (a := 83) (L0 := [some (.ref 83), some (.int 1), some (.int x4), some (.int 0)]) (r1 := (none, 129, 17845, hp M55)) mm_44 rfl rfl rfl mm_35 rfl (by decide) (by decide) rfl (Nat.le_of_ble_eq_true rfl) (Nat.le_of_ble_eq_true rfl) rfl rfl (F35_ev sc n 1 x4 0 _ e1 (by omega) _ _ hc56) ?_
          show pm_ev _ _ _ _ _ (202, [some (.ref 83), some (.int x1), some (.int x2), some (.int x3), some (.int x4)], [], _, _, _) _
          refine pe_blk mm_44 1 (s' := (212, [some (.ref 83), some (.int x1), some (.int x2), some (.int x3), some (.int x4)], [], _, _, _)) rfl ?_
          exact J44_212_ev sc n (e1 + 1) he rec39 hr39 x1 x2 x3 _ _ _ _ h
def J44_247 (n : Nat) (rec39 : Int32 → Int32 → Int32 → Mem → Option (Int32 × Mem)) (x1 : Int32) (x2 : Int32) (x3 : Int32) (M : Mem) : Option (Int32 × Mem) :=
  rec39 x1 x2 x3 M
set_option maxRecDepth 100000 in
set_option maxHeartbeats 4000000 in
theorem J44_247_ev (sc : Option (Nat × (Nat → Int32))) (n : Nat)  (e : Nat) (he : 7 ≤ e) (rec39 : Int32 → Int32 → Int32 → Mem → Option (Int32 × Mem)) (hr39 : ∀ (x1 : Int32) (x2 : Int32) (x3 : Int32) (u4 : Option Value) (M : Mem) (r : Int32) (M' : Mem), rec39 x1 x2 x3 M = some (r, M') → pm_ev pmT sc e 44 false (39, [some (.ref 83), some (.int x1), some (.int x2), some (.int x3), u4], [], 129, 17845, hp M) (some (.int r), 129, 17845, hp M')) : ∀ (x1 : Int32) (x2 : Int32) (x3 : Int32) (u4 : Option Value) (M : Mem) (r : Int32) (M' : Mem), J44_247 n rec39 x1 x2 x3 M = some (r, M') → pm_ev pmT sc e 44 false (247, [some (.ref 83), some (.int x1), some (.int x2), some (.int x3), u4], [], 129, 17845, hp M) (some (.int r), 129, 17845, hp M') := by
  intro x1 x2 x3 u4 M r M' h
  unfold J44_247 at h
  refine pe_blk mm_44 1 (s' := (39, [some (.ref 83), some (.int x1), some (.int x2), some (.int x3), u4], [], _, _, _)) rfl ?_
  exact hr39 x1 x2 x3 _ _ _ _ h
def J44_221 (n : Nat) (rec39 : Int32 → Int32 → Int32 → Mem → Option (Int32 × Mem)) (x1 : Int32) (x2 : Int32) (x3 : Int32) (x4 : Int32) (M : Mem) : Option (Int32 × Mem) :=
  match F28 n M with | some (v57, M58) => (if x1 = 0 then (match F36 n 0 x4 M58 with | some (v61, M62) => (J44_247 n rec39 x1 x2 x3 M62) | none => none) else (match F35 n 0 x4 0 M58 with | some (v64, M65) => (J44_247 n rec39 x1 x2 x3 M65) | none => none)) | none => none
set_option maxRecDepth 100000 in
set_option maxHeartbeats 4000000 in
theorem J44_221_ev (sc : Option (Nat × (Nat → Int32))) (n : Nat)  (e : Nat) (he : 7 ≤ e) (rec39 : Int32 → Int32 → Int32 → Mem → Option (Int32 × Mem)) (hr39 : ∀ (x1 : Int32) (x2 : Int32) (x3 : Int32) (u4 : Option Value) (M : Mem) (r : Int32) (M' : Mem), rec39 x1 x2 x3 M = some (r, M') → pm_ev pmT sc e 44 false (39, [some (.ref 83), some (.int x1), some (.int x2), some (.int x3), u4], [], 129, 17845, hp M) (some (.int r), 129, 17845, hp M')) : ∀ (x1 : Int32) (x2 : Int32) (x3 : Int32) (x4 : Int32) (M : Mem) (r : Int32) (M' : Mem), J44_221 n rec39 x1 x2 x3 x4 M = some (r, M') → pm_ev pmT sc e 44 false (221, [some (.ref 83), some (.int x1), some (.int x2), some (.int x3), some (.int x4)], [], 129, 17845, hp M) (some (.int r), 129, 17845, hp M') := by
  intro x1 x2 x3 x4  M r M' h
  unfold J44_221 at h
  refine pe_blk mm_44 1 (s' := (222, [some (.ref 83), some (.int x1), some (.int x2), some (.int x3), some (.int x4)], [.ref 83], _, _, _)) rfl ?_
  obtain ⟨e1, rfl⟩ : ∃ e1, e = e1 + 1 := ⟨e - 1, by omega⟩
  cases hc59 : F28 n M with
  | none => rw [hc59] at h; cases h
  | some w =>
    obtain ⟨v57, M58⟩ := w
    rw [hc59] at h
    dsimp only at h
    refine pe_virt (al := []) (a := 83) (L0 := [some (.ref 83), none, none, none, none, none]) (r1 := (none, 129, 17845, hp M58)) mm_44 rfl rfl rfl mm_28 rfl (by decide) (by decide) rfl (Nat.le_of_ble_eq_true rfl) (Nat.le_of_ble_eq_true rfl) rfl rfl (F28_ev sc n _ e1 (by omega) _ _ hc59) ?_
    show pm_ev _ _ _ _ _ (225, [some (.ref 83), some (.int x1), some (.int x2), some (.int x3), some (.int x4)], [], _, _, _) _
    refine pe_blk mm_44 1 (s' := (226, [some (.ref 83), some (.int x1), some (.int x2), some (.int x3), some (.int x4)], [.int x1], _, _, _)) rfl ?_
    by_cases q60 : x1 = 0
    · rw [if_pos q60] at h
      refine pe_blk mm_44 1 (s' := (if x1 = 0 then 240 else 229, [some (.ref 83), some (.int x1), some (.int x2), some (.int x3), some (.int x4)], [], _, _, _)) rfl ?_
      rw [if_pos q60]
      refine pe_blk mm_44 3 (s' := (244, [some (.ref 83), some (.int x1), some (.int x2), some (.int x3), some (.int x4)], [.int x4, .int 0, .ref 83], _, _, _)) rfl ?_
      skip
      cases hc63 : F36 n 0 x4 M58 with
      | none => rw [hc63] at h; cases h
      | some w =>
        obtain ⟨v61, M62⟩ := w
        rw [hc63] at h
        dsimp only at h
        refine pe_virt (al := [.int x4, .int 0]) (a := 83) (L0 := [some (.ref 83), some (.int 0), some (.int x4)]) (r1 := (none, 129, 17845, hp M62)) mm_44 rfl rfl rfl mm_36 rfl (by decide) (by decide) rfl (Nat.le_of_ble_eq_true rfl) (Nat.le_of_ble_eq_true rfl) rfl rfl (F36_ev sc n 0 x4 _ e1 (by omega) _ _ hc63) ?_
        show pm_ev _ _ _ _ _ (247, [some (.ref 83), some (.int x1), some (.int x2), some (.int x3), some (.int x4)], [], _, _, _) _
        exact J44_247_ev sc n (e1 + 1) he rec39 hr39 x1 x2 x3 _ _ _ _ h
    · rw [if_neg q60] at h
      refine pe_blk mm_44 1 (s' := (if x1 = 0 then 240 else 229, [some (.ref 83), some (.int x1), some (.int x2), some (.int x3), some (.int x4)], [], _, _, _)) rfl ?_
      rw [if_neg q60]
      refine pe_blk mm_44 4 (s' := (234, [some (.ref 83), some (.int x1), some (.int x2), some (.int x3), some (.int x4)], [.int 0, .int x4, .int 0, .ref 83], _, _, _)) rfl ?_
      skip
      cases hc66 : F35 n 0 x4 0 M58 with
      | none => rw [hc66] at h; cases h
      | some w =>
        obtain ⟨v64, M65⟩ := w
        rw [hc66] at h
        dsimp only at h
        refine pe_virt (al := [.int 0, .int x4, .int 0]) (a := 83) (L0 := [some (.ref 83), some (.int 0), some (.int x4), some (.int 0)]) (r1 := (none, 129, 17845, hp M65)) mm_44 rfl rfl rfl mm_35 rfl (by decide) (by decide) rfl (Nat.le_of_ble_eq_true rfl) (Nat.le_of_ble_eq_true rfl) rfl rfl (F35_ev sc n 0 x4 0 _ e1 (by omega) _ _ hc66) ?_
        show pm_ev _ _ _ _ _ (237, [some (.ref 83), some (.int x1), some (.int x2), some (.int x3), some (.int x4)], [], _, _, _) _
        refine pe_blk mm_44 1 (s' := (247, [some (.ref 83), some (.int x1), some (.int x2), some (.int x3), some (.int x4)], [], _, _, _)) rfl ?_
        exact J44_247_ev sc n (e1 + 1) he rec39 hr39 x1 x2 x3 _ _ _ _ h
def J44_156 (n : Nat) (rec39 : Int32 → Int32 → Int32 → Mem → Option (Int32 × Mem)) (x1 : Int32) (x2 : Int32) (x3 : Int32) (M : Mem) : Option (Int32 × Mem) :=
  match F42 n x1 M with | some (v70, M71) => (if v70 = 0 then (some (0, M71)) else (rec39 x1 x2 x3 M71)) | none => none
set_option maxRecDepth 100000 in
set_option maxHeartbeats 4000000 in
theorem J44_156_ev (sc : Option (Nat × (Nat → Int32))) (n : Nat)  (e : Nat) (he : 7 ≤ e) (rec39 : Int32 → Int32 → Int32 → Mem → Option (Int32 × Mem)) (hr39 : ∀ (x1 : Int32) (x2 : Int32) (x3 : Int32) (u4 : Option Value) (M : Mem) (r : Int32) (M' : Mem), rec39 x1 x2 x3 M = some (r, M') → pm_ev pmT sc e 44 false (39, [some (.ref 83), some (.int x1), some (.int x2), some (.int x3), u4], [], 129, 17845, hp M) (some (.int r), 129, 17845, hp M')) : ∀ (x1 : Int32) (x2 : Int32) (x3 : Int32) (u4 : Option Value) (M : Mem) (r : Int32) (M' : Mem), J44_156 n rec39 x1 x2 x3 M = some (r, M') → pm_ev pmT sc e 44 false (156, [some (.ref 83), some (.int x1), some (.int x2), some (.int x3), u4], [], 129, 17845, hp M) (some (.int r), 129, 17845, hp M') := by
  intro x1 x2 x3 u4 M r M' h
  unfold J44_156 at h
  refine pe_blk mm_44 2 (s' := (158, [some (.ref 83), some (.int x1), some (.int x2), some (.int x3), u4], [.int x1, .ref 83], _, _, _)) rfl ?_
  obtain ⟨e1, rfl⟩ : ∃ e1, e = e1 + 1 := ⟨e - 1, by omega⟩
  cases hc72 : F42 n x1 M with
  | none => rw [hc72] at h; cases h
  | some w =>
    obtain ⟨v70, M71⟩ := w
    rw [hc72] at h
    dsimp only at h
    refine pe_virt (al := [.int x1]) (a := 83) (L0 := [some (.ref 83), some (.int x1), none, none]) (r1 := (some (.int v70), 129, 17845, hp M71)) mm_44 rfl rfl rfl mm_42 rfl (by decide) (by decide) rfl (Nat.le_of_ble_eq_true rfl) (Nat.le_of_ble_eq_true rfl) rfl rfl (F42_ev sc n x1 _ e1 (by omega) _ _ hc72) ?_
    show pm_ev _ _ _ _ _ (161, [some (.ref 83), some (.int x1), some (.int x2), some (.int x3), u4], [.int v70], _, _, _) _
    by_cases q73 : v70 = 0
    · rw [if_pos q73] at h
      refine pe_blk mm_44 1 (s' := (if v70 = 0 then 164 else 39, [some (.ref 83), some (.int x1), some (.int x2), some (.int x3), u4], [], _, _, _)) rfl ?_
      rw [if_pos q73]
      refine pe_blk mm_44 1 (s' := (165, [some (.ref 83), some (.int x1), some (.int x2), some (.int x3), u4], [.int 0], _, _, _)) rfl ?_
      cases h
      exact pe_ret mm_44 rfl rfl
    · rw [if_neg q73] at h
      refine pe_blk mm_44 1 (s' := (if v70 = 0 then 164 else 39, [some (.ref 83), some (.int x1), some (.int x2), some (.int x3), u4], [], _, _, _)) rfl ?_
      rw [if_neg q73]
      exact hr39 x1 x2 x3 _ _ _ _ h
def J44_143 (n : Nat) (rec39 : Int32 → Int32 → Int32 → Mem → Option (Int32 × Mem)) (x1 : Int32) (x2 : Int32) (x3 : Int32) (M : Mem) : Option (Int32 × Mem) :=
  match F31 n 36 M with | some (v41, M42) => (if v41 = 0 then (if (M42.1 83 4) = 4 then (J44_180 n rec39 x1 x2 x3 (M42.1 83 5) M42) else (J44_221 n rec39 x1 x2 x3 (M42.1 83 5) M42)) else (match F28 n M42 with | some (v67, M68) => (J44_156 n rec39 x1 x2 x3 M68) | none => none)) | none => none
set_option maxRecDepth 100000 in
set_option maxHeartbeats 4000000 in
theorem J44_143_ev (sc : Option (Nat × (Nat → Int32))) (n : Nat)  (e : Nat) (he : 7 ≤ e) (rec39 : Int32 → Int32 → Int32 → Mem → Option (Int32 × Mem)) (hr39 : ∀ (x1 : Int32) (x2 : Int32) (x3 : Int32) (u4 : Option Value) (M : Mem) (r : Int32) (M' : Mem), rec39 x1 x2 x3 M = some (r, M') → pm_ev pmT sc e 44 false (39, [some (.ref 83), some (.int x1), some (.int x2), some (.int x3), u4], [], 129, 17845, hp M) (some (.int r), 129, 17845, hp M')) : ∀ (x1 : Int32) (x2 : Int32) (x3 : Int32) (u4 : Option Value) (M : Mem) (r : Int32) (M' : Mem), J44_143 n rec39 x1 x2 x3 M = some (r, M') → pm_ev pmT sc e 44 false (143, [some (.ref 83), some (.int x1), some (.int x2), some (.int x3), u4], [], 129, 17845, hp M) (some (.int r), 129, 17845, hp M') := by
  intro x1 x2 x3 u4 M r M' h
  unfold J44_143 at h
  refine pe_blk mm_44 2 (s' := (146, [some (.ref 83), some (.int x1), some (.int x2), some (.int x3), u4], [.int 36, .ref 83], _, _, _)) rfl ?_
  obtain ⟨e1, rfl⟩ : ∃ e1, e = e1 + 1 := ⟨e - 1, by omega⟩
  cases hc43 : F31 n 36 M with
  | none => rw [hc43] at h; cases h
  | some w =>
    obtain ⟨v41, M42⟩ := w
    rw [hc43] at h
    dsimp only at h
    refine pe_virt (al := [.int 36]) (a := 83) (L0 := [some (.ref 83), some (.int 36)]) (r1 := (some (.int v41), 129, 17845, hp M42)) mm_44 rfl rfl rfl mm_31 rfl (by decide) (by decide) rfl (Nat.le_of_ble_eq_true rfl) (Nat.le_of_ble_eq_true rfl) rfl rfl (F31_ev sc n 36 _ e1 (by omega) _ _ hc43) ?_
    show pm_ev _ _ _ _ _ (149, [some (.ref 83), some (.int x1), some (.int x2), some (.int x3), u4], [.int v41], _, _, _) _
    by_cases q44 : v41 = 0
    · rw [if_pos q44] at h
      refine pe_blk mm_44 1 (s' := (if v41 = 0 then 166 else 152, [some (.ref 83), some (.int x1), some (.int x2), some (.int x3), u4], [], _, _, _)) rfl ?_
      rw [if_pos q44]
      refine pe_blk mm_44 1 (s' := (167, [some (.ref 83), some (.int x1), some (.int x2), some (.int x3), u4], [.ref 83], _, _, _)) rfl ?_
      refine pe_get mm_44 rfl rfl rfl (by decide) rfl ?_
      refine pe_blk mm_44 1 (s' := (171, [some (.ref 83), some (.int x1), some (.int x2), some (.int x3), u4], [.int 4, .int (M42.1 83 4)], _, _, _)) rfl ?_
      by_cases q45 : (M42.1 83 4) = 4
      · rw [if_pos q45] at h
        refine pe_blk mm_44 1 (s' := (if (M42.1 83 4) = 4 then 174 else 215, [some (.ref 83), some (.int x1), some (.int x2), some (.int x3), u4], [], _, _, _)) rfl ?_
        rw [if_pos q45]
        refine pe_blk mm_44 1 (s' := (175, [some (.ref 83), some (.int x1), some (.int x2), some (.int x3), u4], [.ref 83], _, _, _)) rfl ?_
        refine pe_get mm_44 rfl rfl rfl (by decide) rfl ?_
        refine pe_blk mm_44 1 (s' := (180, [some (.ref 83), some (.int x1), some (.int x2), some (.int x3), some (.int (M42.1 83 5))], [], _, _, _)) rfl ?_
        exact J44_180_ev sc n (e1 + 1) he rec39 hr39 x1 x2 x3 (M42.1 83 5) _ _ _ h
      · rw [if_neg q45] at h
        refine pe_blk mm_44 1 (s' := (if (M42.1 83 4) = 4 then 174 else 215, [some (.ref 83), some (.int x1), some (.int x2), some (.int x3), u4], [], _, _, _)) rfl ?_
        rw [if_neg q45]
        refine pe_blk mm_44 1 (s' := (216, [some (.ref 83), some (.int x1), some (.int x2), some (.int x3), u4], [.ref 83], _, _, _)) rfl ?_
        refine pe_get mm_44 rfl rfl rfl (by decide) rfl ?_
        refine pe_blk mm_44 1 (s' := (221, [some (.ref 83), some (.int x1), some (.int x2), some (.int x3), some (.int (M42.1 83 5))], [], _, _, _)) rfl ?_
        exact J44_221_ev sc n (e1 + 1) he rec39 hr39 x1 x2 x3 (M42.1 83 5) _ _ _ h
    · rw [if_neg q44] at h
      refine pe_blk mm_44 1 (s' := (if v41 = 0 then 166 else 152, [some (.ref 83), some (.int x1), some (.int x2), some (.int x3), u4], [], _, _, _)) rfl ?_
      rw [if_neg q44]
      refine pe_blk mm_44 1 (s' := (153, [some (.ref 83), some (.int x1), some (.int x2), some (.int x3), u4], [.ref 83], _, _, _)) rfl ?_
      skip
      cases hc69 : F28 n M42 with
      | none => rw [hc69] at h; cases h
      | some w =>
        obtain ⟨v67, M68⟩ := w
        rw [hc69] at h
        dsimp only at h
        refine pe_virt (al := []) (a := 83) (L0 := [some (.ref 83), none, none, none, none, none]) (r1 := (none, 129, 17845, hp M68)) mm_44 rfl rfl rfl mm_28 rfl (by decide) (by decide) rfl (Nat.le_of_ble_eq_true rfl) (Nat.le_of_ble_eq_true rfl) rfl rfl (F28_ev sc n _ e1 (by omega) _ _ hc69) ?_
        show pm_ev _ _ _ _ _ (156, [some (.ref 83), some (.int x1), some (.int x2), some (.int x3), u4], [], _, _, _) _
        exact J44_156_ev sc n (e1 + 1) he rec39 hr39 x1 x2 x3 _ _ _ _ h
def L44_39 (n : Nat) : Nat → Int32 → Int32 → Int32 → Mem → Option (Int32 × Mem)
  | 0, _, _, _, _ => none
  | k + 1, x1, x2, x3, M => if x3 = 0 then (match F28 n M with | some (v8, M9) => (if x1 = 0 then (match F36 n 6 0 M9 with | some (v12, M13) => (J44_276 n M13) | none => none) else (match F35 n 6 0 0 M9 with | some (v15, M16) => (J44_276 n M16) | none => none)) | none => none) else (if (M.1 83 4) = 0 then (J44_59 n M) else (if (M.1 83 4) = 6 then (J44_59 n M) else (if (M.1 83 4) = 5 then (J44_72 n (L44_39 n k) x1 x2 M) else (J44_143 n (L44_39 n k) x1 x2 x3 M))))
set_option maxRecDepth 100000 in
set_option maxHeartbeats 4000000 in
theorem L44_39_ev (sc : Option (Nat × (Nat → Int32))) (n : Nat)  (e : Nat) (he : 7 ≤ e) : ∀ k : Nat, ∀ (x1 : Int32) (x2 : Int32) (x3 : Int32) (u4 : Option Value) (M : Mem) (r : Int32) (M' : Mem), L44_39 n k x1 x2 x3 M = some (r, M') → pm_ev pmT sc e 44 false (39, [some (.ref 83), some (.int x1), some (.int x2), some (.int x3), u4], [], 129, 17845, hp M) (some (.int r), 129, 17845, hp M') := by
  intro k
  induction k with
  | zero => intro x1 x2 x3 u4 M r M' h; cases h
  | succ k hr39 =>
    intro x1 x2 x3 u4 M r M' h
    rw [L44_39] at h
    refine pe_blk mm_44 1 (s' := (40, [some (.ref 83), some (.int x1), some (.int x2), some (.int x3), u4], [.int x3], _, _, _)) rfl ?_
    by_cases q7 : x3 = 0
    · rw [if_pos q7] at h
      refine pe_blk mm_44 1 (s' := (if x3 = 0 then 250 else 43, [some (.ref 83), some (.int x1), some (.int x2), some (.int x3), u4], [], _, _, _)) rfl ?_
      rw [if_pos q7]
      refine pe_blk mm_44 1 (s' := (251, [some (.ref 83), some (.int x1), some (.int x2), some (.int x3), u4], [.ref 83], _, _, _)) rfl ?_
      obtain ⟨e1, rfl⟩ : ∃ e1, e = e1 + 1 := ⟨e - 1, by omega⟩
      cases hc10 : F28 n M with
      | none => rw [hc10] at h; cases h
      | some w =>
        obtain ⟨v8, M9⟩ := w
        rw [hc10] at h
        dsimp only at h
        refine pe_virt (al := []) (a := 83) (L0 := [some (.ref 83), none, none, none, none, none]) (r1 := (none, 129, 17845, hp M9)) mm_44 rfl rfl rfl mm_28 rfl (by decide) (by decide) rfl (Nat.le_of_ble_eq_true rfl) (Nat.le_of_ble_eq_true rfl) rfl rfl (F28_ev sc n _ e1 (by omega) _ _ hc10) ?_
        show pm_ev _ _ _ _ _ (254, [some (.ref 83), some (.int x1), some (.int x2), some (.int x3), u4], [], _, _, _) _
        refine pe_blk mm_44 1 (s' := (255, [some (.ref 83), some (.int x1), some (.int x2), some (.int x3), u4], [.int x1], _, _, _)) rfl ?_
        by_cases q11 : x1 = 0
        · rw [if_pos q11] at h
          refine pe_blk mm_44 1 (s' := (if x1 = 0 then 269 else 258, [some (.ref 83), some (.int x1), some (.int x2), some (.int x3), u4], [], _, _, _)) rfl ?_
          rw [if_pos q11]
          refine pe_blk mm_44 3 (s' := (273, [some (.ref 83), some (.int x1), some (.int x2), some (.int x3), u4], [.int 0, .int 6, .ref 83], _, _, _)) rfl ?_
          skip
          cases hc14 : F36 n 6 0 M9 with
          | none => rw [hc14] at h; cases h
          | some w =>
            obtain ⟨v12, M13⟩ := w
            rw [hc14] at h
            dsimp only at h
            refine pe_virt (al := [.int 0, .int 6]) (a := 83) (L0 := [some (.ref 83), some (.int 6), some (.int 0)]) (r1 := (none, 129, 17845, hp M13)) mm_44 rfl rfl rfl mm_36 rfl (by decide) (by decide) rfl (Nat.le_of_ble_eq_true rfl) (Nat.le_of_ble_eq_true rfl) rfl rfl (F36_ev sc n 6 0 _ e1 (by omega) _ _ hc14) ?_
            show pm_ev _ _ _ _ _ (276, [some (.ref 83), some (.int x1), some (.int x2), some (.int x3), u4], [], _, _, _) _
            exact J44_276_ev sc n (e1 + 1) he _ _ _ _ _ _ _ _ h
        · rw [if_neg q11] at h
          refine pe_blk mm_44 1 (s' := (if x1 = 0 then 269 else 258, [some (.ref 83), some (.int x1), some (.int x2), some (.int x3), u4], [], _, _, _)) rfl ?_
          rw [if_neg q11]
          refine pe_blk mm_44 4 (s' := (263, [some (.ref 83), some (.int x1), some (.int x2), some (.int x3), u4], [.int 0, .int 0, .int 6, .ref 83], _, _, _)) rfl ?_
          skip
          cases hc17 : F35 n 6 0 0 M9 with
          | none => rw [hc17] at h; cases h
          | some w =>
            obtain ⟨v15, M16⟩ := w
            rw [hc17] at h
            dsimp only at h
            refine pe_virt (al := [.int 0, .int 0, .int 6]) (a := 83) (L0 := [some (.ref 83), some (.int 6), some (.int 0), some (.int 0)]) (r1 := (none, 129, 17845, hp M16)) mm_44 rfl rfl rfl mm_35 rfl (by decide) (by decide) rfl (Nat.le_of_ble_eq_true rfl) (Nat.le_of_ble_eq_true rfl) rfl rfl (F35_ev sc n 6 0 0 _ e1 (by omega) _ _ hc17) ?_
            show pm_ev _ _ _ _ _ (266, [some (.ref 83), some (.int x1), some (.int x2), some (.int x3), u4], [], _, _, _) _
            refine pe_blk mm_44 1 (s' := (276, [some (.ref 83), some (.int x1), some (.int x2), some (.int x3), u4], [], _, _, _)) rfl ?_
            exact J44_276_ev sc n (e1 + 1) he _ _ _ _ _ _ _ _ h
    · rw [if_neg q7] at h
      refine pe_blk mm_44 1 (s' := (if x3 = 0 then 250 else 43, [some (.ref 83), some (.int x1), some (.int x2), some (.int x3), u4], [], _, _, _)) rfl ?_
      rw [if_neg q7]
      refine pe_blk mm_44 1 (s' := (44, [some (.ref 83), some (.int x1), some (.int x2), some (.int x3), u4], [.ref 83], _, _, _)) rfl ?_
      refine pe_get mm_44 rfl rfl rfl (by decide) rfl ?_
      by_cases q18 : (M.1 83 4) = 0
      · rw [if_pos q18] at h
        refine pe_blk mm_44 1 (s' := (if (M.1 83 4) = 0 then 59 else 50, [some (.ref 83), some (.int x1), some (.int x2), some (.int x3), u4], [], _, _, _)) rfl ?_
        rw [if_pos q18]
        exact J44_59_ev sc n e he _ _ _ _ _ _ _ h
      · rw [if_neg q18] at h
        refine pe_blk mm_44 1 (s' := (if (M.1 83 4) = 0 then 59 else 50, [some (.ref 83), some (.int x1), some (.int x2), some (.int x3), u4], [], _, _, _)) rfl ?_
        rw [if_neg q18]
        refine pe_blk mm_44 1 (s' := (51, [some (.ref 83), some (.int x1), some (.int x2), some (.int x3), u4], [.ref 83], _, _, _)) rfl ?_
        refine pe_get mm_44 rfl rfl rfl (by decide) rfl ?_
        refine pe_blk mm_44 1 (s' := (56, [some (.ref 83), some (.int x1), some (.int x2), some (.int x3), u4], [.int 6, .int (M.1 83 4)], _, _, _)) rfl ?_
        by_cases q23 : (M.1 83 4) = 6
        · rw [if_pos q23] at h
          refine pe_blk mm_44 1 (s' := (if (M.1 83 4) = 6 then 59 else 64, [some (.ref 83), some (.int x1), some (.int x2), some (.int x3), u4], [], _, _, _)) rfl ?_
          rw [if_pos q23]
          exact J44_59_ev sc n e he _ _ _ _ _ _ _ h
        · rw [if_neg q23] at h
          refine pe_blk mm_44 1 (s' := (if (M.1 83 4) = 6 then 59 else 64, [some (.ref 83), some (.int x1), some (.int x2), some (.int x3), u4], [], _, _, _)) rfl ?_
          rw [if_neg q23]
          refine pe_blk mm_44 1 (s' := (65, [some (.ref 83), some (.int x1), some (.int x2), some (.int x3), u4], [.ref 83], _, _, _)) rfl ?_
          refine pe_get mm_44 rfl rfl rfl (by decide) rfl ?_
          refine pe_blk mm_44 1 (s' := (69, [some (.ref 83), some (.int x1), some (.int x2), some (.int x3), u4], [.int 5, .int (M.1 83 4)], _, _, _)) rfl ?_
          by_cases q24 : (M.1 83 4) = 5
          · rw [if_pos q24] at h
            refine pe_blk mm_44 1 (s' := (if (M.1 83 4) = 5 then 72 else 143, [some (.ref 83), some (.int x1), some (.int x2), some (.int x3), u4], [], _, _, _)) rfl ?_
            rw [if_pos q24]
            exact J44_72_ev sc n e he (L44_39 n k) hr39 x1 x2 _ _ _ _ _ h
          · rw [if_neg q24] at h
            refine pe_blk mm_44 1 (s' := (if (M.1 83 4) = 5 then 72 else 143, [some (.ref 83), some (.int x1), some (.int x2), some (.int x3), u4], [], _, _, _)) rfl ?_
            rw [if_neg q24]
            exact J44_143_ev sc n e he (L44_39 n k) hr39 x1 x2 x3 _ _ _ _ h
def J44_36 (n : Nat) (x1 : Int32) (s0 : Int32) (M : Mem) : Option (Int32 × Mem) :=
  L44_39 n n x1 s0 1 M
set_option maxRecDepth 100000 in
set_option maxHeartbeats 4000000 in
theorem J44_36_ev (sc : Option (Nat × (Nat → Int32))) (n : Nat)  (e : Nat) (he : 7 ≤ e) : ∀ (x1 : Int32) (s0 : Int32) (u2 : Option Value) (u3 : Option Value) (u4 : Option Value) (M : Mem) (r : Int32) (M' : Mem), J44_36 n x1 s0 M = some (r, M') → pm_ev pmT sc e 44 false (36, [some (.ref 83), some (.int x1), u2, u3, u4], [.int s0], 129, 17845, hp M) (some (.int r), 129, 17845, hp M') := by
  intro x1 s0 u2 u3 u4 M r M' h
  unfold J44_36 at h
  refine pe_blk mm_44 3 (s' := (39, [some (.ref 83), some (.int x1), some (.int s0), some (.int 1), u4], [], _, _, _)) rfl ?_
  exact L44_39_ev sc n e he n x1 s0 1 _ _ _ _ h
def J44_15 (n : Nat) (x1 : Int32) (M : Mem) : Option (Int32 × Mem) :=
  mlet (m_i M 83 32 0) (fun M4 => mlet (m_i M4 83 33 0) (fun M5 => if x1 = 0 then (J44_36 n x1 125 M5) else (J44_36 n x1 41 M5)))
set_option maxRecDepth 100000 in
set_option maxHeartbeats 4000000 in
theorem J44_15_ev (sc : Option (Nat × (Nat → Int32))) (n : Nat)  (e : Nat) (he : 7 ≤ e) : ∀ (x1 : Int32) (u2 : Option Value) (u3 : Option Value) (u4 : Option Value) (M : Mem) (r : Int32) (M' : Mem), J44_15 n x1 M = some (r, M') → pm_ev pmT sc e 44 false (15, [some (.ref 83), some (.int x1), u2, u3, u4], [], 129, 17845, hp M) (some (.int r), 129, 17845, hp M') := by
  intro x1 u2 u3 u4 M r M' h
  unfold J44_15 at h
  refine pe_blk mm_44 2 (s' := (17, [some (.ref 83), some (.int x1), u2, u3, u4], [.int 0, .ref 83], _, _, _)) rfl ?_
  refine pe_puti mm_44 rfl rfl rfl (by decide) (Nat.le_of_ble_eq_true rfl) rfl rfl ?_
  show pm_ev _ _ _ _ _ (20, [some (.ref 83), some (.int x1), u2, u3, u4], [], _, _, hp (m_i M 83 32 0)) _
  generalize m_i M 83 32 0 = M4 at h ⊢
  rw [mlet] at h
  refine pe_blk mm_44 2 (s' := (22, [some (.ref 83), some (.int x1), u2, u3, u4], [.int 0, .ref 83], _, _, _)) rfl ?_
  refine pe_puti mm_44 rfl rfl rfl (by decide) (Nat.le_of_ble_eq_true rfl) rfl rfl ?_
  show pm_ev _ _ _ _ _ (25, [some (.ref 83), some (.int x1), u2, u3, u4], [], _, _, hp (m_i M4 83 33 0)) _
  generalize m_i M4 83 33 0 = M5 at h ⊢
  rw [mlet] at h
  refine pe_blk mm_44 1 (s' := (26, [some (.ref 83), some (.int x1), u2, u3, u4], [.int x1], _, _, _)) rfl ?_
  by_cases q6 : x1 = 0
  · rw [if_pos q6] at h
    refine pe_blk mm_44 1 (s' := (if x1 = 0 then 34 else 29, [some (.ref 83), some (.int x1), u2, u3, u4], [], _, _, _)) rfl ?_
    rw [if_pos q6]
    refine pe_blk mm_44 1 (s' := (36, [some (.ref 83), some (.int x1), u2, u3, u4], [.int 125], _, _, _)) rfl ?_
    exact J44_36_ev sc n e he x1 125 _ _ _ _ _ _ h
  · rw [if_neg q6] at h
    refine pe_blk mm_44 1 (s' := (if x1 = 0 then 34 else 29, [some (.ref 83), some (.int x1), u2, u3, u4], [], _, _, _)) rfl ?_
    rw [if_neg q6]
    refine pe_blk mm_44 2 (s' := (36, [some (.ref 83), some (.int x1), u2, u3, u4], [.int 41], _, _, _)) rfl ?_
    exact J44_36_ev sc n e he x1 41 _ _ _ _ _ _ h
/-- ArmExpanderModel.readRow -/
def F44 (n : Nat) (a0 : Int32) (M : Mem) : Option (Int32 × Mem) :=
  mlet (m_i M 83 27 0) (fun M1 => mlet (m_i M1 83 30 (-1)) (fun M2 => mlet (m_i M2 83 31 (-1)) (fun M3 => J44_15 n a0 M3)))
set_option maxRecDepth 100000 in
set_option maxHeartbeats 4000000 in
theorem F44_ev (sc : Option (Nat × (Nat → Int32))) (n : Nat) (a0 : Int32)  (M : Mem) (e : Nat) (he : 7 ≤ e) (r : Int32) (M' : Mem) (h : F44 n a0 M = some (r, M')) : pm_ev pmT sc e 44 false (0, [some (.ref 83), some (.int a0), none, none, none], [], 129, 17845, hp M) (some (.int r), 129, 17845, hp M') := by
  unfold F44 at h
  refine pe_blk mm_44 2 (s' := (2, [some (.ref 83), some (.int a0), none, none, none], [.int 0, .ref 83], _, _, _)) rfl ?_
  refine pe_puti mm_44 rfl rfl rfl (by decide) (Nat.le_of_ble_eq_true rfl) rfl rfl ?_
  show pm_ev _ _ _ _ _ (5, [some (.ref 83), some (.int a0), none, none, none], [], _, _, hp (m_i M 83 27 0)) _
  generalize m_i M 83 27 0 = M1 at h ⊢
  rw [mlet] at h
  refine pe_blk mm_44 2 (s' := (7, [some (.ref 83), some (.int a0), none, none, none], [.int (-1), .ref 83], _, _, _)) rfl ?_
  refine pe_puti mm_44 rfl rfl rfl (by decide) (Nat.le_of_ble_eq_true rfl) rfl rfl ?_
  show pm_ev _ _ _ _ _ (10, [some (.ref 83), some (.int a0), none, none, none], [], _, _, hp (m_i M1 83 30 (-1))) _
  generalize m_i M1 83 30 (-1) = M2 at h ⊢
  rw [mlet] at h
  refine pe_blk mm_44 2 (s' := (12, [some (.ref 83), some (.int a0), none, none, none], [.int (-1), .ref 83], _, _, _)) rfl ?_
  refine pe_puti mm_44 rfl rfl rfl (by decide) (Nat.le_of_ble_eq_true rfl) rfl rfl ?_
  show pm_ev _ _ _ _ _ (15, [some (.ref 83), some (.int a0), none, none, none], [], _, _, hp (m_i M2 83 31 (-1))) _
  generalize m_i M2 83 31 (-1) = M3 at h ⊢
  rw [mlet] at h
  exact J44_15_ev sc n e he a0 _ _ _ _ _ _ h
def J45_176 (n : Nat) (s0 : Int32) (M : Mem) : Option (Int32 × Mem) :=
  if s0 = 0 ∨ s0 = 1 then some (s0, M) else none
set_option maxRecDepth 100000 in
set_option maxHeartbeats 4000000 in
theorem J45_176_ev (sc : Option (Nat × (Nat → Int32))) (n : Nat)  (e : Nat) (he : 8 ≤ e) : ∀ (s0 : Int32) (u0 : Option Value) (u1 : Option Value) (u2 : Option Value) (u3 : Option Value) (M : Mem) (r : Int32) (M' : Mem), J45_176 n s0 M = some (r, M') → pm_ev pmT sc e 45 false (176, [u0, u1, u2, u3], [.int s0], 129, 17845, hp M) (some (.int r), 129, 17845, hp M') := by
  intro s0 u0 u1 u2 u3 M r M' h
  unfold J45_176 at h
  by_cases q12 : s0 = 0 ∨ s0 = 1
  · rw [if_pos q12] at h
    cases h
    exact pe_ret mm_45 rfl (if_pos q12)
  · rw [if_neg q12] at h
    cases h
def J45_171 (n : Nat) (M : Mem) : Option (Int32 × Mem) :=
  J45_176 n 1 M
set_option maxRecDepth 100000 in
set_option maxHeartbeats 4000000 in
theorem J45_171_ev (sc : Option (Nat × (Nat → Int32))) (n : Nat)  (e : Nat) (he : 8 ≤ e) : ∀ (u0 : Option Value) (u1 : Option Value) (u2 : Option Value) (u3 : Option Value) (M : Mem) (r : Int32) (M' : Mem), J45_171 n  M = some (r, M') → pm_ev pmT sc e 45 false (171, [u0, u1, u2, u3], [], 129, 17845, hp M) (some (.int r), 129, 17845, hp M') := by
  intro u0 u1 u2 u3 M r M' h
  unfold J45_171 at h
  refine pe_blk mm_45 2 (s' := (176, [u0, u1, u2, u3], [.int 1], _, _, _)) rfl ?_
  exact J45_176_ev sc n e he 1 _ _ _ _ _ _ _ h
def J45_175 (n : Nat) (M : Mem) : Option (Int32 × Mem) :=
  J45_176 n 0 M
set_option maxRecDepth 100000 in
set_option maxHeartbeats 4000000 in
theorem J45_175_ev (sc : Option (Nat × (Nat → Int32))) (n : Nat)  (e : Nat) (he : 8 ≤ e) : ∀ (u0 : Option Value) (u1 : Option Value) (u2 : Option Value) (u3 : Option Value) (M : Mem) (r : Int32) (M' : Mem), J45_175 n  M = some (r, M') → pm_ev pmT sc e 45 false (175, [u0, u1, u2, u3], [], 129, 17845, hp M) (some (.int r), 129, 17845, hp M') := by
  intro u0 u1 u2 u3 M r M' h
  unfold J45_175 at h
  refine pe_blk mm_45 1 (s' := (176, [u0, u1, u2, u3], [.int 0], _, _, _)) rfl ?_
  exact J45_176_ev sc n e he 0 _ _ _ _ _ _ _ h
def J45_66 (n : Nat) (M : Mem) : Option (Int32 × Mem) :=
  some (0, M)
set_option maxRecDepth 100000 in
set_option maxHeartbeats 4000000 in
theorem J45_66_ev (sc : Option (Nat × (Nat → Int32))) (n : Nat)  (e : Nat) (he : 8 ≤ e) : ∀ (u0 : Option Value) (u1 : Option Value) (u2 : Option Value) (u3 : Option Value) (M : Mem) (r : Int32) (M' : Mem), J45_66 n  M = some (r, M') → pm_ev pmT sc e 45 false (66, [u0, u1, u2, u3], [], 129, 17845, hp M) (some (.int r), 129, 17845, hp M') := by
  intro u0 u1 u2 u3 M r M' h
  unfold J45_66 at h
  refine pe_blk mm_45 1 (s' := (67, [u0, u1, u2, u3], [.int 0], _, _, _)) rfl ?_
  cases h
  exact pe_ret mm_45 rfl rfl
def J45_89 (n : Nat) (M : Mem) : Option (Int32 × Mem) :=
  some (0, M)
set_option maxRecDepth 100000 in
set_option maxHeartbeats 4000000 in
theorem J45_89_ev (sc : Option (Nat × (Nat → Int32))) (n : Nat)  (e : Nat) (he : 8 ≤ e) : ∀ (u0 : Option Value) (u1 : Option Value) (u2 : Option Value) (u3 : Option Value) (M : Mem) (r : Int32) (M' : Mem), J45_89 n  M = some (r, M') → pm_ev pmT sc e 45 false (89, [u0, u1, u2, u3], [], 129, 17845, hp M) (some (.int r), 129, 17845, hp M') := by
  intro u0 u1 u2 u3 M r M' h
  unfold J45_89 at h
  refine pe_blk mm_45 1 (s' := (90, [u0, u1, u2, u3], [.int 0], _, _, _)) rfl ?_
  cases h
  exact pe_ret mm_45 rfl rfl
def J45_143 (n : Nat) (rec41 : Int32 → Int32 → Int32 → Mem → Option (Int32 × Mem)) (x1 : Int32) (x2 : Int32) (s0 : Int32) (M : Mem) : Option (Int32 × Mem) :=
  if s0 = 0 then (rec41 x1 x2 s0 M) else (match F28 n M with | some (v49, M50) => (rec41 x1 x2 s0 M50) | none => none)
set_option maxRecDepth 100000 in
set_option maxHeartbeats 4000000 in
theorem J45_143_ev (sc : Option (Nat × (Nat → Int32))) (n : Nat)  (e : Nat) (he : 8 ≤ e) (rec41 : Int32 → Int32 → Int32 → Mem → Option (Int32 × Mem)) (hr41 : ∀ (x1 : Int32) (x2 : Int32) (x3 : Int32) (M : Mem) (r : Int32) (M' : Mem), rec41 x1 x2 x3 M = some (r, M') → pm_ev pmT sc e 45 false (41, [some (.ref 83), some (.int x1), some (.int x2), some (.int x3)], [], 129, 17845, hp M) (some (.int r), 129, 17845, hp M')) : ∀ (x1 : Int32) (x2 : Int32) (s0 : Int32) (u3 : Option Value) (M : Mem) (r : Int32) (M' : Mem), J45_143 n rec41 x1 x2 s0 M = some (r, M') → pm_ev pmT sc e 45 false (143, [some (.ref 83), some (.int x1), some (.int x2), u3], [.int s0], 129, 17845, hp M) (some (.int r), 129, 17845, hp M') := by
  intro x1 x2 s0 u3 M r M' h
  unfold J45_143 at h
  refine pe_blk mm_45 2 (s' := (145, [some (.ref 83), some (.int x1), some (.int x2), some (.int s0)], [.int s0], _, _, _)) rfl ?_
  by_cases q48 : s0 = 0
  · rw [if_pos q48] at h
    refine pe_blk mm_45 1 (s' := (if s0 = 0 then 41 else 148, [some (.ref 83), some (.int x1), some (.int x2), some (.int s0)], [], _, _, _)) rfl ?_
    rw [if_pos q48]
    exact hr41 x1 x2 s0 _ _ _ h
  · rw [if_neg q48] at h
    refine pe_blk mm_45 1 (s' := (if s0 = 0 then 41 else 148, [some (.ref 83), some (.int x1), some (.int x2), some (.int s0)], [], _, _, _)) rfl ?_
    rw [if_neg q48]
    refine pe_blk mm_45 1 (s' := (149, [some (.ref 83), some (.int x1), some (.int x2), some (.int s0)], [.ref 83], _, _, _)) rfl ?_
    obtain ⟨e1, rfl⟩ : ∃ e1, e = e1 + 1 := ⟨e - 1, by omega⟩
    cases hc51 : F28 n M with
    | none => rw [hc51] at h; cases h
    | some w =>
      obtain ⟨v49, M50⟩ := w
      rw [hc51] at h
      dsimp only at h
      refine pe_virt (al := []) (a := 83) (L0 := [some (.ref 83), none, none, none, none, none]) (r1 := (none, 129, 17845, hp M50)) mm_45 rfl rfl rfl mm_28 rfl (by decide) (by decide) rfl (Nat.le_of_ble_eq_true rfl) (Nat.le_of_ble_eq_true rfl) rfl rfl (F28_ev sc n _ e1 (by omega) _ _ hc51) ?_
      show pm_ev _ _ _ _ _ (152, [some (.ref 83), some (.int x1), some (.int x2), some (.int s0)], [], _, _, _) _
      refine pe_blk mm_45 1 (s' := (41, [some (.ref 83), some (.int x1), some (.int x2), some (.int s0)], [], _, _, _)) rfl ?_
      exact hr41 x1 x2 s0 _ _ _ h
def J45_142 (n : Nat) (rec41 : Int32 → Int32 → Int32 → Mem → Option (Int32 × Mem)) (x1 : Int32) (x2 : Int32) (M : Mem) : Option (Int32 × Mem) :=
  J45_143 n rec41 x1 x2 0 M
set_option maxRecDepth 100000 in
set_option maxHeartbeats 4000000 in
theorem J45_142_ev (sc : Option (Nat × (Nat → Int32))) (n : Nat)  (e : Nat) (he : 8 ≤ e) (rec41 : Int32 → Int32 → Int32 → Mem → Option (Int32 × Mem)) (hr41 : ∀ (x1 : Int32) (x2 : Int32) (x3 : Int32) (M : Mem) (r : Int32) (M' : Mem), rec41 x1 x2 x3 M = some (r, M') → pm_ev pmT sc e 45 false (41, [some (.ref 83), some (.int x1), some (.int x2), some (.int x3)], [], 129, 17845, hp M) (some (.int r), 129, 17845, hp M')) : ∀ (x1 : Int32) (x2 : Int32) (u3 : Option Value) (M : Mem) (r : Int32) (M' : Mem), J45_142 n rec41 x1 x2 M = some (r, M') → pm_ev pmT sc e 45 false (142, [some (.ref 83), some (.int x1), some (.int x2), u3], [], 129, 17845, hp M) (some (.int r), 129, 17845, hp M') := by
  intro x1 x2 u3 M r M' h
  unfold J45_142 at h
  refine pe_blk mm_45 1 (s' := (143, [some (.ref 83), some (.int x1), some (.int x2), u3], [.int 0], _, _, _)) rfl ?_
  exact J45_143_ev sc n e he rec41 hr41 x1 x2 0 _ _ _ _ h
def J45_128 (n : Nat) (rec41 : Int32 → Int32 → Int32 → Mem → Option (Int32 × Mem)) (x1 : Int32) (x2 : Int32) (M : Mem) : Option (Int32 × Mem) :=
  if x1 < 0 ∨ 6 ≤ (x1 : Int32).toNatClampNeg then none else (if 3 ≤ (M.1 89 (x1 : Int32).toNatClampNeg) then (J45_142 n rec41 x1 x2 M) else (J45_143 n rec41 x1 x2 1 M))
set_option maxRecDepth 100000 in
set_option maxHeartbeats 4000000 in
theorem J45_128_ev (sc : Option (Nat × (Nat → Int32))) (n : Nat)  (e : Nat) (he : 8 ≤ e) (rec41 : Int32 → Int32 → Int32 → Mem → Option (Int32 × Mem)) (hr41 : ∀ (x1 : Int32) (x2 : Int32) (x3 : Int32) (M : Mem) (r : Int32) (M' : Mem), rec41 x1 x2 x3 M = some (r, M') → pm_ev pmT sc e 45 false (41, [some (.ref 83), some (.int x1), some (.int x2), some (.int x3)], [], 129, 17845, hp M) (some (.int r), 129, 17845, hp M')) : ∀ (x1 : Int32) (x2 : Int32) (u3 : Option Value) (M : Mem) (r : Int32) (M' : Mem), J45_128 n rec41 x1 x2 M = some (r, M') → pm_ev pmT sc e 45 false (128, [some (.ref 83), some (.int x1), some (.int x2), u3], [], 129, 17845, hp M) (some (.int r), 129, 17845, hp M') := by
  intro x1 x2 u3 M r M' h
  unfold J45_128 at h
  refine pe_blk mm_45 1 (s' := (129, [some (.ref 83), some (.int x1), some (.int x2), u3], [.ref 83], _, _, _)) rfl ?_
  refine pe_get mm_45 rfl rfl rfl (by decide) rfl ?_
  refine pe_blk mm_45 1 (s' := (133, [some (.ref 83), some (.int x1), some (.int x2), u3], [.int x1, .ref 89], _, _, _)) rfl ?_
  by_cases q52 : x1 < 0 ∨ 6 ≤ (x1 : Int32).toNatClampNeg
  · rw [if_pos q52] at h
    cases h
  · rw [if_neg q52] at h
    refine pe_iald (f := M.1 89) mm_45 rfl rfl (by decide) q52 ?_
    refine pe_blk mm_45 1 (s' := (135, [some (.ref 83), some (.int x1), some (.int x2), u3], [.int 3, .int (M.1 89 (x1 : Int32).toNatClampNeg)], _, _, _)) rfl ?_
    by_cases q53 : 3 ≤ (M.1 89 (x1 : Int32).toNatClampNeg)
    · rw [if_pos q53] at h
      refine pe_blk mm_45 1 (s' := (if 3 ≤ (M.1 89 (x1 : Int32).toNatClampNeg) then 142 else 138, [some (.ref 83), some (.int x1), some (.int x2), u3], [], _, _, _)) rfl ?_
      rw [if_pos q53]
      exact J45_142_ev sc n e he rec41 hr41 x1 x2 _ _ _ _ h
    · rw [if_neg q53] at h
      refine pe_blk mm_45 1 (s' := (if 3 ≤ (M.1 89 (x1 : Int32).toNatClampNeg) then 142 else 138, [some (.ref 83), some (.int x1), some (.int x2), u3], [], _, _, _)) rfl ?_
      rw [if_neg q53]
      refine pe_blk mm_45 2 (s' := (143, [some (.ref 83), some (.int x1), some (.int x2), u3], [.int 1], _, _, _)) rfl ?_
      exact J45_143_ev sc n e he rec41 hr41 x1 x2 1 _ _ _ _ h
def J45_105 (n : Nat) (rec41 : Int32 → Int32 → Int32 → Mem → Option (Int32 × Mem)) (x1 : Int32) (x2 : Int32) (M : Mem) : Option (Int32 × Mem) :=
  if x1 < 0 ∨ 6 ≤ (x1 : Int32).toNatClampNeg then none else (if (M.1 89 (x1 : Int32).toNatClampNeg) = (x2 + 1) then (some (1, M)) else (match F31 n 59 M with | some (v44, M45) => (if v44 = 0 then (J45_142 n rec41 x1 x2 M45) else (J45_128 n rec41 x1 x2 M45)) | none => none))
set_option maxRecDepth 100000 in
set_option maxHeartbeats 4000000 in
theorem J45_105_ev (sc : Option (Nat × (Nat → Int32))) (n : Nat)  (e : Nat) (he : 8 ≤ e) (rec41 : Int32 → Int32 → Int32 → Mem → Option (Int32 × Mem)) (hr41 : ∀ (x1 : Int32) (x2 : Int32) (x3 : Int32) (M : Mem) (r : Int32) (M' : Mem), rec41 x1 x2 x3 M = some (r, M') → pm_ev pmT sc e 45 false (41, [some (.ref 83), some (.int x1), some (.int x2), some (.int x3)], [], 129, 17845, hp M) (some (.int r), 129, 17845, hp M')) : ∀ (x1 : Int32) (x2 : Int32) (u3 : Option Value) (M : Mem) (r : Int32) (M' : Mem), J45_105 n rec41 x1 x2 M = some (r, M') → pm_ev pmT sc e 45 false (105, [some (.ref 83), some (.int x1), some (.int x2), u3], [], 129, 17845, hp M) (some (.int r), 129, 17845, hp M') := by
  intro x1 x2 u3 M r M' h
  unfold J45_105 at h
  refine pe_blk mm_45 1 (s' := (106, [some (.ref 83), some (.int x1), some (.int x2), u3], [.ref 83], _, _, _)) rfl ?_
  refine pe_get mm_45 rfl rfl rfl (by decide) rfl ?_
  refine pe_blk mm_45 1 (s' := (110, [some (.ref 83), some (.int x1), some (.int x2), u3], [.int x1, .ref 89], _, _, _)) rfl ?_
  by_cases q42 : x1 < 0 ∨ 6 ≤ (x1 : Int32).toNatClampNeg
  · rw [if_pos q42] at h
    cases h
  · rw [if_neg q42] at h
    refine pe_iald (f := M.1 89) mm_45 rfl rfl (by decide) q42 ?_
    refine pe_blk mm_45 3 (s' := (114, [some (.ref 83), some (.int x1), some (.int x2), u3], [.int (x2 + 1), .int (M.1 89 (x1 : Int32).toNatClampNeg)], _, _, _)) rfl ?_
    by_cases q43 : (M.1 89 (x1 : Int32).toNatClampNeg) = (x2 + 1)
    · rw [if_pos q43] at h
      refine pe_blk mm_45 1 (s' := (if (M.1 89 (x1 : Int32).toNatClampNeg) = (x2 + 1) then 117 else 119, [some (.ref 83), some (.int x1), some (.int x2), u3], [], _, _, _)) rfl ?_
      rw [if_pos q43]
      refine pe_blk mm_45 1 (s' := (118, [some (.ref 83), some (.int x1), some (.int x2), u3], [.int 1], _, _, _)) rfl ?_
      cases h
      exact pe_ret mm_45 rfl rfl
    · rw [if_neg q43] at h
      refine pe_blk mm_45 1 (s' := (if (M.1 89 (x1 : Int32).toNatClampNeg) = (x2 + 1) then 117 else 119, [some (.ref 83), some (.int x1), some (.int x2), u3], [], _, _, _)) rfl ?_
      rw [if_neg q43]
      refine pe_blk mm_45 2 (s' := (122, [some (.ref 83), some (.int x1), some (.int x2), u3], [.int 59, .ref 83], _, _, _)) rfl ?_
      obtain ⟨e1, rfl⟩ : ∃ e1, e = e1 + 1 := ⟨e - 1, by omega⟩
      cases hc46 : F31 n 59 M with
      | none => rw [hc46] at h; cases h
      | some w =>
        obtain ⟨v44, M45⟩ := w
        rw [hc46] at h
        dsimp only at h
        refine pe_virt (al := [.int 59]) (a := 83) (L0 := [some (.ref 83), some (.int 59)]) (r1 := (some (.int v44), 129, 17845, hp M45)) mm_45 rfl rfl rfl mm_31 rfl (by decide) (by decide) rfl (Nat.le_of_ble_eq_true rfl) (Nat.le_of_ble_eq_true rfl) rfl rfl (F31_ev sc n 59 _ e1 (by omega) _ _ hc46) ?_
        show pm_ev _ _ _ _ _ (125, [some (.ref 83), some (.int x1), some (.int x2), u3], [.int v44], _, _, _) _
        by_cases q47 : v44 = 0
        · rw [if_pos q47] at h
          refine pe_blk mm_45 1 (s' := (if v44 = 0 then 142 else 128, [some (.ref 83), some (.int x1), some (.int x2), u3], [], _, _, _)) rfl ?_
          rw [if_pos q47]
          exact J45_142_ev sc n (e1 + 1) he rec41 hr41 x1 x2 _ _ _ _ h
        · rw [if_neg q47] at h
          refine pe_blk mm_45 1 (s' := (if v44 = 0 then 142 else 128, [some (.ref 83), some (.int x1), some (.int x2), u3], [], _, _, _)) rfl ?_
          rw [if_neg q47]
          exact J45_128_ev sc n (e1 + 1) he rec41 hr41 x1 x2 _ _ _ _ h
def J45_81 (n : Nat) (rec41 : Int32 → Int32 → Int32 → Mem → Option (Int32 × Mem)) (x1 : Int32) (x2 : Int32) (M : Mem) : Option (Int32 × Mem) :=
  match F44 n 0 M with | some (v35, M36) => (if v35 = 0 then (J45_89 n M36) else (if x1 < 0 ∨ 6 ≤ (x1 : Int32).toNatClampNeg then none else (if x1 < 0 ∨ 6 ≤ (x1 : Int32).toNatClampNeg then none else (mlet (m_i M36 89 (x1 : Int32).toNatClampNeg ((M36.1 89 (x1 : Int32).toNatClampNeg) + 1)) (fun M41 => J45_105 n rec41 x1 x2 M41))))) | none => none
set_option maxRecDepth 100000 in
set_option maxHeartbeats 4000000 in
theorem J45_81_ev (sc : Option (Nat × (Nat → Int32))) (n : Nat)  (e : Nat) (he : 8 ≤ e) (rec41 : Int32 → Int32 → Int32 → Mem → Option (Int32 × Mem)) (hr41 : ∀ (x1 : Int32) (x2 : Int32) (x3 : Int32) (M : Mem) (r : Int32) (M' : Mem), rec41 x1 x2 x3 M = some (r, M') → pm_ev pmT sc e 45 false (41, [some (.ref 83), some (.int x1), some (.int x2), some (.int x3)], [], 129, 17845, hp M) (some (.int r), 129, 17845, hp M')) : ∀ (x1 : Int32) (x2 : Int32) (u3 : Option Value) (M : Mem) (r : Int32) (M' : Mem), J45_81 n rec41 x1 x2 M = some (r, M') → pm_ev pmT sc e 45 false (81, [some (.ref 83), some (.int x1), some (.int x2), u3], [], 129, 17845, hp M) (some (.int r), 129, 17845, hp M') := by
  intro x1 x2 u3 M r M' h
  unfold J45_81 at h
  refine pe_blk mm_45 2 (s' := (83, [some (.ref 83), some (.int x1), some (.int x2), u3], [.int 0, .ref 83], _, _, _)) rfl ?_
  obtain ⟨e1, rfl⟩ : ∃ e1, e = e1 + 1 := ⟨e - 1, by omega⟩
  cases hc37 : F44 n 0 M with
  | none => rw [hc37] at h; cases h
  | some w =>
    obtain ⟨v35, M36⟩ := w
    rw [hc37] at h
    dsimp only at h
    refine pe_virt (al := [.int 0]) (a := 83) (L0 := [some (.ref 83), some (.int 0), none, none, none]) (r1 := (some (.int v35), 129, 17845, hp M36)) mm_45 rfl rfl rfl mm_44 rfl (by decide) (by decide) rfl (Nat.le_of_ble_eq_true rfl) (Nat.le_of_ble_eq_true rfl) rfl rfl (F44_ev sc n 0 _ e1 (by omega) _ _ hc37) ?_
    show pm_ev _ _ _ _ _ (86, [some (.ref 83), some (.int x1), some (.int x2), u3], [.int v35], _, _, _) _
    by_cases q38 : v35 = 0
    · rw [if_pos q38] at h
      refine pe_blk mm_45 1 (s' := (if v35 = 0 then 89 else 91, [some (.ref 83), some (.int x1), some (.int x2), u3], [], _, _, _)) rfl ?_
      rw [if_pos q38]
      exact J45_89_ev sc n (e1 + 1) he _ _ _ _ _ _ _ h
    · rw [if_neg q38] at h
      refine pe_blk mm_45 1 (s' := (if v35 = 0 then 89 else 91, [some (.ref 83), some (.int x1), some (.int x2), u3], [], _, _, _)) rfl ?_
      rw [if_neg q38]
      refine pe_blk mm_45 1 (s' := (92, [some (.ref 83), some (.int x1), some (.int x2), u3], [.ref 83], _, _, _)) rfl ?_
      refine pe_get mm_45 rfl rfl rfl (by decide) rfl ?_
      refine pe_blk mm_45 2 (s' := (97, [some (.ref 83), some (.int x1), some (.int x2), u3], [.ref 83, .int x1, .ref 89], _, _, _)) rfl ?_
      refine pe_get mm_45 rfl rfl rfl (by decide) rfl ?_
      refine pe_blk mm_45 1 (s' := (101, [some (.ref 83), some (.int x1), some (.int x2), u3], [.int x1, .ref 89, .int x1, .ref 89], _, _, _)) rfl ?_
      by_cases q39 : x1 < 0 ∨ 6 ≤ (x1 : Int32).toNatClampNeg
      · rw [if_pos q39] at h
        cases h
      · rw [if_neg q39] at h
        refine pe_iald (f := M36.1 89) mm_45 rfl rfl (by decide) q39 ?_
        refine pe_blk mm_45 2 (s' := (104, [some (.ref 83), some (.int x1), some (.int x2), u3], [.int ((M36.1 89 (x1 : Int32).toNatClampNeg) + 1), .int x1, .ref 89], _, _, _)) rfl ?_
        by_cases q40 : x1 < 0 ∨ 6 ≤ (x1 : Int32).toNatClampNeg
        · rw [if_pos q40] at h
          cases h
        · rw [if_neg q40] at h
          refine pe_iasti mm_45 rfl rfl (by decide) q40 rfl ?_
          show pm_ev _ _ _ _ _ (105, [some (.ref 83), some (.int x1), some (.int x2), u3], [], _, _, hp (m_i M36 89 (x1 : Int32).toNatClampNeg ((M36.1 89 (x1 : Int32).toNatClampNeg) + 1))) _
          generalize m_i M36 89 (x1 : Int32).toNatClampNeg ((M36.1 89 (x1 : Int32).toNatClampNeg) + 1) = M41 at h ⊢
          rw [mlet] at h
          exact J45_105_ev sc n (e1 + 1) he rec41 hr41 x1 x2 _ _ _ _ h
def J45_58 (n : Nat) (rec41 : Int32 → Int32 → Int32 → Mem → Option (Int32 × Mem)) (x1 : Int32) (x2 : Int32) (M : Mem) : Option (Int32 × Mem) :=
  match F44 n 1 M with | some (v24, M25) => (if v24 = 0 then (J45_66 n M25) else (match F31 n 123 M25 with | some (v28, M29) => (match F30 n v28 M29 with | some (v31, M32) => (if v31 = 0 then (J45_89 n M32) else (J45_81 n rec41 x1 x2 M32)) | none => none) | none => none)) | none => none
set_option maxRecDepth 100000 in
set_option maxHeartbeats 4000000 in
theorem J45_58_ev (sc : Option (Nat × (Nat → Int32))) (n : Nat)  (e : Nat) (he : 8 ≤ e) (rec41 : Int32 → Int32 → Int32 → Mem → Option (Int32 × Mem)) (hr41 : ∀ (x1 : Int32) (x2 : Int32) (x3 : Int32) (M : Mem) (r : Int32) (M' : Mem), rec41 x1 x2 x3 M = some (r, M') → pm_ev pmT sc e 45 false (41, [some (.ref 83), some (.int x1), some (.int x2), some (.int x3)], [], 129, 17845, hp M) (some (.int r), 129, 17845, hp M')) : ∀ (x1 : Int32) (x2 : Int32) (u3 : Option Value) (M : Mem) (r : Int32) (M' : Mem), J45_58 n rec41 x1 x2 M = some (r, M') → pm_ev pmT sc e 45 false (58, [some (.ref 83), some (.int x1), some (.int x2), u3], [], 129, 17845, hp M) (some (.int r), 129, 17845, hp M') := by
  intro x1 x2 u3 M r M' h
  unfold J45_58 at h
  refine pe_blk mm_45 2 (s' := (60, [some (.ref 83), some (.int x1), some (.int x2), u3], [.int 1, .ref 83], _, _, _)) rfl ?_
  obtain ⟨e1, rfl⟩ : ∃ e1, e = e1 + 1 := ⟨e - 1, by omega⟩
  cases hc26 : F44 n 1 M with
  | none => rw [hc26] at h; cases h
  | some w =>
    obtain ⟨v24, M25⟩ := w
    rw [hc26] at h
    dsimp only at h
    refine pe_virt (al := [.int 1]) (a := 83) (L0 := [some (.ref 83), some (.int 1), none, none, none]) (r1 := (some (.int v24), 129, 17845, hp M25)) mm_45 rfl rfl rfl mm_44 rfl (by decide) (by decide) rfl (Nat.le_of_ble_eq_true rfl) (Nat.le_of_ble_eq_true rfl) rfl rfl (F44_ev sc n 1 _ e1 (by omega) _ _ hc26) ?_
    show pm_ev _ _ _ _ _ (63, [some (.ref 83), some (.int x1), some (.int x2), u3], [.int v24], _, _, _) _
    by_cases q27 : v24 = 0
    · rw [if_pos q27] at h
      refine pe_blk mm_45 1 (s' := (if v24 = 0 then 66 else 68, [some (.ref 83), some (.int x1), some (.int x2), u3], [], _, _, _)) rfl ?_
      rw [if_pos q27]
      exact J45_66_ev sc n (e1 + 1) he _ _ _ _ _ _ _ h
    · rw [if_neg q27] at h
      refine pe_blk mm_45 1 (s' := (if v24 = 0 then 66 else 68, [some (.ref 83), some (.int x1), some (.int x2), u3], [], _, _, _)) rfl ?_
      rw [if_neg q27]
      refine pe_blk mm_45 3 (s' := (72, [some (.ref 83), some (.int x1), some (.int x2), u3], [.int 123, .ref 83, .ref 83], _, _, _)) rfl ?_
      skip
      cases hc30 : F31 n 123 M25 with
      | none => rw [hc30] at h; cases h
      | some w =>
        obtain ⟨v28, M29⟩ := w
        rw [hc30] at h
        dsimp only at h
        refine pe_virt (al := [.int 123]) (a := 83) (L0 := [some (.ref 83), some (.int 123)]) (r1 := (some (.int v28), 129, 17845, hp M29)) mm_45 rfl rfl rfl mm_31 rfl (by decide) (by decide) rfl (Nat.le_of_ble_eq_true rfl) (Nat.le_of_ble_eq_true rfl) rfl rfl (F31_ev sc n 123 _ e1 (by omega) _ _ hc30) ?_
        show pm_ev _ _ _ _ _ (75, [some (.ref 83), some (.int x1), some (.int x2), u3], [.int v28, .ref 83], _, _, _) _
        skip
        cases hc33 : F30 n v28 M29 with
        | none => rw [hc33] at h; cases h
        | some w =>
          obtain ⟨v31, M32⟩ := w
          rw [hc33] at h
          dsimp only at h
          refine pe_virt (al := [.int v28]) (a := 83) (L0 := [some (.ref 83), some (.int v28)]) (r1 := (some (.int v31), 129, 17845, hp M32)) mm_45 rfl rfl rfl mm_30 rfl (by decide) (by decide) rfl (Nat.le_of_ble_eq_true rfl) (Nat.le_of_ble_eq_true rfl) rfl rfl (F30_ev sc n v28 _ e1 (by omega) _ _ hc33) ?_
          show pm_ev _ _ _ _ _ (78, [some (.ref 83), some (.int x1), some (.int x2), u3], [.int v31], _, _, _) _
          by_cases q34 : v31 = 0
          · rw [if_pos q34] at h
            refine pe_blk mm_45 1 (s' := (if v31 = 0 then 89 else 81, [some (.ref 83), some (.int x1), some (.int x2), u3], [], _, _, _)) rfl ?_
            rw [if_pos q34]
            exact J45_89_ev sc n (e1 + 1) he _ _ _ _ _ _ _ h
          · rw [if_neg q34] at h
            refine pe_blk mm_45 1 (s' := (if v31 = 0 then 89 else 81, [some (.ref 83), some (.int x1), some (.int x2), u3], [], _, _, _)) rfl ?_
            rw [if_neg q34]
            exact J45_81_ev sc n (e1 + 1) he rec41 hr41 x1 x2 _ _ _ _ h
def L45_41 (n : Nat) : Nat → Int32 → Int32 → Int32 → Mem → Option (Int32 × Mem)
  | 0, _, _, _, _ => none
  | k + 1, x1, x2, x3, M => if x3 = 0 then (if (M.1 83 4) = 6 then (J45_171 n M) else (match F29 n M with | some (v13, M14) => (if v13 = 0 then (J45_175 n M14) else (J45_171 n M14)) | none => none)) else (match F31 n 40 M with | some (v17, M18) => (match F30 n v17 M18 with | some (v20, M21) => (if v20 = 0 then (J45_66 n M21) else (J45_58 n (L45_41 n k) x1 x2 M21)) | none => none) | none => none)
set_option maxRecDepth 100000 in
set_option maxHeartbeats 4000000 in
theorem L45_41_ev (sc : Option (Nat × (Nat → Int32))) (n : Nat)  (e : Nat) (he : 8 ≤ e) : ∀ k : Nat, ∀ (x1 : Int32) (x2 : Int32) (x3 : Int32) (M : Mem) (r : Int32) (M' : Mem), L45_41 n k x1 x2 x3 M = some (r, M') → pm_ev pmT sc e 45 false (41, [some (.ref 83), some (.int x1), some (.int x2), some (.int x3)], [], 129, 17845, hp M) (some (.int r), 129, 17845, hp M') := by
  intro k
  induction k with
  | zero => intro x1 x2 x3  M r M' h; cases h
  | succ k hr41 =>
    intro x1 x2 x3  M r M' h
    rw [L45_41] at h
    refine pe_blk mm_45 1 (s' := (42, [some (.ref 83), some (.int x1), some (.int x2), some (.int x3)], [.int x3], _, _, _)) rfl ?_
    by_cases q10 : x3 = 0
    · rw [if_pos q10] at h
      refine pe_blk mm_45 1 (s' := (if x3 = 0 then 155 else 45, [some (.ref 83), some (.int x1), some (.int x2), some (.int x3)], [], _, _, _)) rfl ?_
      rw [if_pos q10]
      refine pe_blk mm_45 1 (s' := (156, [some (.ref 83), some (.int x1), some (.int x2), some (.int x3)], [.ref 83], _, _, _)) rfl ?_
      refine pe_get mm_45 rfl rfl rfl (by decide) rfl ?_
      refine pe_blk mm_45 1 (s' := (161, [some (.ref 83), some (.int x1), some (.int x2), some (.int x3)], [.int 6, .int (M.1 83 4)], _, _, _)) rfl ?_
      by_cases q11 : (M.1 83 4) = 6
      · rw [if_pos q11] at h
        refine pe_blk mm_45 1 (s' := (if (M.1 83 4) = 6 then 171 else 164, [some (.ref 83), some (.int x1), some (.int x2), some (.int x3)], [], _, _, _)) rfl ?_
        rw [if_pos q11]
        exact J45_171_ev sc n e he _ _ _ _ _ _ _ h
      · rw [if_neg q11] at h
        refine pe_blk mm_45 1 (s' := (if (M.1 83 4) = 6 then 171 else 164, [some (.ref 83), some (.int x1), some (.int x2), some (.int x3)], [], _, _, _)) rfl ?_
        rw [if_neg q11]
        refine pe_blk mm_45 1 (s' := (165, [some (.ref 83), some (.int x1), some (.int x2), some (.int x3)], [.ref 83], _, _, _)) rfl ?_
        obtain ⟨e1, rfl⟩ : ∃ e1, e = e1 + 1 := ⟨e - 1, by omega⟩
        cases hc15 : F29 n M with
        | none => rw [hc15] at h; cases h
        | some w =>
          obtain ⟨v13, M14⟩ := w
          rw [hc15] at h
          dsimp only at h
          refine pe_virt (al := []) (a := 83) (L0 := [some (.ref 83)]) (r1 := (some (.int v13), 129, 17845, hp M14)) mm_45 rfl rfl rfl mm_29 rfl (by decide) (by decide) rfl (Nat.le_of_ble_eq_true rfl) (Nat.le_of_ble_eq_true rfl) rfl rfl (F29_ev sc n _ e1 (by omega) _ _ hc15) ?_
          show pm_ev _ _ _ _ _ (168, [some (.ref 83), some (.int x1), some (.int x2), some (.int x3)], [.int v13], _, _, _) _
          by_cases q16 : v13 = 0
          · rw [if_pos q16] at h
            refine pe_blk mm_45 1 (s' := (if v13 = 0 then 175 else 171, [some (.ref 83), some (.int x1), some (.int x2), some (.int x3)], [], _, _, _)) rfl ?_
            rw [if_pos q16]
            exact J45_175_ev sc n (e1 + 1) he _ _ _ _ _ _ _ h
          · rw [if_neg q16] at h
            refine pe_blk mm_45 1 (s' := (if v13 = 0 then 175 else 171, [some (.ref 83), some (.int x1), some (.int x2), some (.int x3)], [], _, _, _)) rfl ?_
            rw [if_neg q16]
            exact J45_171_ev sc n (e1 + 1) he _ _ _ _ _ _ _ h
    · rw [if_neg q10] at h
      refine pe_blk mm_45 1 (s' := (if x3 = 0 then 155 else 45, [some (.ref 83), some (.int x1), some (.int x2), some (.int x3)], [], _, _, _)) rfl ?_
      rw [if_neg q10]
      refine pe_blk mm_45 3 (s' := (49, [some (.ref 83), some (.int x1), some (.int x2), some (.int x3)], [.int 40, .ref 83, .ref 83], _, _, _)) rfl ?_
      obtain ⟨e1, rfl⟩ : ∃ e1, e = e1 + 1 := ⟨e - 1, by omega⟩
      cases hc19 : F31 n 40 M with
      | none => rw [hc19] at h; cases h
      | some w =>
        obtain ⟨v17, M18⟩ := w
        rw [hc19] at h
        dsimp only at h
        refine pe_virt (al := [.int 40]) (a := 83) (L0 := [some (.ref 83), some (.int 40)]) (r1 := (some (.int v17), 129, 17845, hp M18)) mm_45 rfl rfl rfl mm_31 rfl (by decide) (by decide) rfl (Nat.le_of_ble_eq_true rfl) (Nat.le_of_ble_eq_true rfl) rfl rfl (F31_ev sc n 40 _ e1 (by omega) _ _ hc19) ?_
        show pm_ev _ _ _ _ _ (52, [some (.ref 83), some (.int x1), some (.int x2), some (.int x3)], [.int v17, .ref 83], _, _, _) _
        skip
        cases hc22 : F30 n v17 M18 with
        | none => rw [hc22] at h; cases h
        | some w =>
          obtain ⟨v20, M21⟩ := w
          rw [hc22] at h
          dsimp only at h
          refine pe_virt (al := [.int v17]) (a := 83) (L0 := [some (.ref 83), some (.int v17)]) (r1 := (some (.int v20), 129, 17845, hp M21)) mm_45 rfl rfl rfl mm_30 rfl (by decide) (by decide) rfl (Nat.le_of_ble_eq_true rfl) (Nat.le_of_ble_eq_true rfl) rfl rfl (F30_ev sc n v17 _ e1 (by omega) _ _ hc22) ?_
          show pm_ev _ _ _ _ _ (55, [some (.ref 83), some (.int x1), some (.int x2), some (.int x3)], [.int v20], _, _, _) _
          by_cases q23 : v20 = 0
          · rw [if_pos q23] at h
            refine pe_blk mm_45 1 (s' := (if v20 = 0 then 66 else 58, [some (.ref 83), some (.int x1), some (.int x2), some (.int x3)], [], _, _, _)) rfl ?_
            rw [if_pos q23]
            exact J45_66_ev sc n (e1 + 1) he _ _ _ _ _ _ _ h
          · rw [if_neg q23] at h
            refine pe_blk mm_45 1 (s' := (if v20 = 0 then 66 else 58, [some (.ref 83), some (.int x1), some (.int x2), some (.int x3)], [], _, _, _)) rfl ?_
            rw [if_neg q23]
            exact J45_58_ev sc n (e1 + 1) he (L45_41 n k) hr41 x1 x2 _ _ _ _ h
def J45_39 (n : Nat) (x1 : Int32) (x2 : Int32) (M : Mem) : Option (Int32 × Mem) :=
  L45_41 n n x1 x2 1 M
set_option maxRecDepth 100000 in
set_option maxHeartbeats 4000000 in
theorem J45_39_ev (sc : Option (Nat × (Nat → Int32))) (n : Nat)  (e : Nat) (he : 8 ≤ e) : ∀ (x1 : Int32) (x2 : Int32) (u3 : Option Value) (M : Mem) (r : Int32) (M' : Mem), J45_39 n x1 x2 M = some (r, M') → pm_ev pmT sc e 45 false (39, [some (.ref 83), some (.int x1), some (.int x2), u3], [], 129, 17845, hp M) (some (.int r), 129, 17845, hp M') := by
  intro x1 x2 u3 M r M' h
  unfold J45_39 at h
  refine pe_blk mm_45 2 (s' := (41, [some (.ref 83), some (.int x1), some (.int x2), some (.int 1)], [], _, _, _)) rfl ?_
  exact L45_41_ev sc n e he n x1 x2 1 _ _ _ h
def J45_24 (n : Nat) (x1 : Int32) (x2 : Int32) (s0 : Int32) (M : Mem) : Option (Int32 × Mem) :=
  match F30 n s0 M with | some (v4, M5) => (if v4 = 0 then (some (0, M5)) else (if x1 < 0 ∨ 6 ≤ (x1 : Int32).toNatClampNeg then none else (mlet (m_i M5 89 (x1 : Int32).toNatClampNeg 0) (fun M9 => J45_39 n x1 x2 M9)))) | none => none
set_option maxRecDepth 100000 in
set_option maxHeartbeats 4000000 in
theorem J45_24_ev (sc : Option (Nat × (Nat → Int32))) (n : Nat)  (e : Nat) (he : 8 ≤ e) : ∀ (x1 : Int32) (x2 : Int32) (s0 : Int32) (u3 : Option Value) (M : Mem) (r : Int32) (M' : Mem), J45_24 n x1 x2 s0 M = some (r, M') → pm_ev pmT sc e 45 false (24, [some (.ref 83), some (.int x1), some (.int x2), u3], [.int s0, .ref 83], 129, 17845, hp M) (some (.int r), 129, 17845, hp M') := by
  intro x1 x2 s0 u3 M r M' h
  unfold J45_24 at h
  obtain ⟨e1, rfl⟩ : ∃ e1, e = e1 + 1 := ⟨e - 1, by omega⟩
  cases hc6 : F30 n s0 M with
  | none => rw [hc6] at h; cases h
  | some w =>
    obtain ⟨v4, M5⟩ := w
    rw [hc6] at h
    dsimp only at h
    refine pe_virt (al := [.int s0]) (a := 83) (L0 := [some (.ref 83), some (.int s0)]) (r1 := (some (.int v4), 129, 17845, hp M5)) mm_45 rfl rfl rfl mm_30 rfl (by decide) (by decide) rfl (Nat.le_of_ble_eq_true rfl) (Nat.le_of_ble_eq_true rfl) rfl rfl (F30_ev sc n s0 _ e1 (by omega) _ _ hc6) ?_
    show pm_ev _ _ _ _ _ (27, [some (.ref 83), some (.int x1), some (.int x2), u3], [.int v4], _, _, _) _
    by_cases q7 : v4 = 0
    · rw [if_pos q7] at h
      refine pe_blk mm_45 1 (s' := (if v4 = 0 then 30 else 32, [some (.ref 83), some (.int x1), some (.int x2), u3], [], _, _, _)) rfl ?_
      rw [if_pos q7]
      refine pe_blk mm_45 1 (s' := (31, [some (.ref 83), some (.int x1), some (.int x2), u3], [.int 0], _, _, _)) rfl ?_
      cases h
      exact pe_ret mm_45 rfl rfl
    · rw [if_neg q7] at h
      refine pe_blk mm_45 1 (s' := (if v4 = 0 then 30 else 32, [some (.ref 83), some (.int x1), some (.int x2), u3], [], _, _, _)) rfl ?_
      rw [if_neg q7]
      refine pe_blk mm_45 1 (s' := (33, [some (.ref 83), some (.int x1), some (.int x2), u3], [.ref 83], _, _, _)) rfl ?_
      refine pe_get mm_45 rfl rfl rfl (by decide) rfl ?_
      refine pe_blk mm_45 2 (s' := (38, [some (.ref 83), some (.int x1), some (.int x2), u3], [.int 0, .int x1, .ref 89], _, _, _)) rfl ?_
      by_cases q8 : x1 < 0 ∨ 6 ≤ (x1 : Int32).toNatClampNeg
      · rw [if_pos q8] at h
        cases h
      · rw [if_neg q8] at h
        refine pe_iasti mm_45 rfl rfl (by decide) q8 rfl ?_
        show pm_ev _ _ _ _ _ (39, [some (.ref 83), some (.int x1), some (.int x2), u3], [], _, _, hp (m_i M5 89 (x1 : Int32).toNatClampNeg 0)) _
        generalize m_i M5 89 (x1 : Int32).toNatClampNeg 0 = M9 at h ⊢
        rw [mlet] at h
        exact J45_39_ev sc n (e1 + 1) he x1 x2 _ _ _ _ h
/-- ArmExpanderModel.readDefinition -/
def F45 (n : Nat) (a0 : Int32) (a1 : Int32) (M : Mem) : Option (Int32 × Mem) :=
  if a0 < 0 ∨ 6 ≤ (a0 : Int32).toNatClampNeg then none else (mlet (m_i M 88 (a0 : Int32).toNatClampNeg (M.1 83 5)) (fun M2 => if (M2.1 83 4) = 1 then (J45_24 n a0 a1 1 M2) else (J45_24 n a0 a1 0 M2)))
set_option maxRecDepth 100000 in
set_option maxHeartbeats 4000000 in
theorem F45_ev (sc : Option (Nat × (Nat → Int32))) (n : Nat) (a0 : Int32) (a1 : Int32)  (M : Mem) (e : Nat) (he : 8 ≤ e) (r : Int32) (M' : Mem) (h : F45 n a0 a1 M = some (r, M')) : pm_ev pmT sc e 45 false (0, [some (.ref 83), some (.int a0), some (.int a1), none], [], 129, 17845, hp M) (some (.int r), 129, 17845, hp M') := by
  unfold F45 at h
  refine pe_blk mm_45 1 (s' := (1, [some (.ref 83), some (.int a0), some (.int a1), none], [.ref 83], _, _, _)) rfl ?_
  refine pe_get mm_45 rfl rfl rfl (by decide) rfl ?_
  refine pe_blk mm_45 2 (s' := (6, [some (.ref 83), some (.int a0), some (.int a1), none], [.ref 83, .int a0, .ref 88], _, _, _)) rfl ?_
  refine pe_get mm_45 rfl rfl rfl (by decide) rfl ?_
  by_cases q1 : a0 < 0 ∨ 6 ≤ (a0 : Int32).toNatClampNeg
  · rw [if_pos q1] at h
    cases h
  · rw [if_neg q1] at h
    refine pe_iasti mm_45 rfl rfl (by decide) q1 rfl ?_
    show pm_ev _ _ _ _ _ (10, [some (.ref 83), some (.int a0), some (.int a1), none], [], _, _, hp (m_i M 88 (a0 : Int32).toNatClampNeg (M.1 83 5))) _
    generalize m_i M 88 (a0 : Int32).toNatClampNeg (M.1 83 5) = M2 at h ⊢
    rw [mlet] at h
    refine pe_blk mm_45 2 (s' := (12, [some (.ref 83), some (.int a0), some (.int a1), none], [.ref 83, .ref 83], _, _, _)) rfl ?_
    refine pe_get mm_45 rfl rfl rfl (by decide) rfl ?_
    refine pe_blk mm_45 1 (s' := (16, [some (.ref 83), some (.int a0), some (.int a1), none], [.int 1, .int (M2.1 83 4), .ref 83], _, _, _)) rfl ?_
    by_cases q3 : (M2.1 83 4) = 1
    · rw [if_pos q3] at h
      refine pe_blk mm_45 1 (s' := (if (M2.1 83 4) = 1 then 19 else 23, [some (.ref 83), some (.int a0), some (.int a1), none], [.ref 83], _, _, _)) rfl ?_
      rw [if_pos q3]
      refine pe_blk mm_45 2 (s' := (24, [some (.ref 83), some (.int a0), some (.int a1), none], [.int 1, .ref 83], _, _, _)) rfl ?_
      exact J45_24_ev sc n e he a0 a1 1 _ _ _ _ h
    · rw [if_neg q3] at h
      refine pe_blk mm_45 1 (s' := (if (M2.1 83 4) = 1 then 19 else 23, [some (.ref 83), some (.int a0), some (.int a1), none], [.ref 83], _, _, _)) rfl ?_
      rw [if_neg q3]
      refine pe_blk mm_45 1 (s' := (24, [some (.ref 83), some (.int a0), some (.int a1), none], [.int 0, .ref 83], _, _, _)) rfl ?_
      exact J45_24_ev sc n e he a0 a1 0 _ _ _ _ h
def J46_40 (n : Nat) (rec4 : Int32 → Int32 → Int32 → Mem → Option (Int32 × Mem)) (x1 : Int32) (x3 : Int32) (s0 : Int32) (M : Mem) : Option (Int32 × Mem) :=
  rec4 x1 s0 (x3 + 1) M
set_option maxRecDepth 100000 in
set_option maxHeartbeats 4000000 in
theorem J46_40_ev (sc : Option (Nat × (Nat → Int32))) (n : Nat)  (e : Nat) (he : 1 ≤ e) (rec4 : Int32 → Int32 → Int32 → Mem → Option (Int32 × Mem)) (hr4 : ∀ (x1 : Int32) (x2 : Int32) (x3 : Int32) (M : Mem) (r : Int32) (M' : Mem), rec4 x1 x2 x3 M = some (r, M') → pm_ev pmT sc e 46 false (4, [some (.ref 83), some (.int x1), some (.int x2), some (.int x3)], [], 129, 17845, hp M) (some (.int r), 129, 17845, hp M')) : ∀ (x1 : Int32) (x3 : Int32) (s0 : Int32) (u2 : Option Value) (M : Mem) (r : Int32) (M' : Mem), J46_40 n rec4 x1 x3 s0 M = some (r, M') → pm_ev pmT sc e 46 false (40, [some (.ref 83), some (.int x1), u2, some (.int x3)], [.int s0], 129, 17845, hp M) (some (.int r), 129, 17845, hp M') := by
  intro x1 x3 s0 u2 M r M' h
  unfold J46_40 at h
  refine pe_blk mm_46 3 (s' := (4, [some (.ref 83), some (.int x1), some (.int s0), some (.int (x3 + 1))], [], _, _, _)) rfl ?_
  exact hr4 x1 s0 (x3 + 1) _ _ _ h
def J46_39 (n : Nat) (rec4 : Int32 → Int32 → Int32 → Mem → Option (Int32 × Mem)) (x1 : Int32) (x2 : Int32) (x3 : Int32) (M : Mem) : Option (Int32 × Mem) :=
  J46_40 n rec4 x1 x3 x2 M
set_option maxRecDepth 100000 in
set_option maxHeartbeats 4000000 in
theorem J46_39_ev (sc : Option (Nat × (Nat → Int32))) (n : Nat)  (e : Nat) (he : 1 ≤ e) (rec4 : Int32 → Int32 → Int32 → Mem → Option (Int32 × Mem)) (hr4 : ∀ (x1 : Int32) (x2 : Int32) (x3 : Int32) (M : Mem) (r : Int32) (M' : Mem), rec4 x1 x2 x3 M = some (r, M') → pm_ev pmT sc e 46 false (4, [some (.ref 83), some (.int x1), some (.int x2), some (.int x3)], [], 129, 17845, hp M) (some (.int r), 129, 17845, hp M')) : ∀ (x1 : Int32) (x2 : Int32) (x3 : Int32) (M : Mem) (r : Int32) (M' : Mem), J46_39 n rec4 x1 x2 x3 M = some (r, M') → pm_ev pmT sc e 46 false (39, [some (.ref 83), some (.int x1), some (.int x2), some (.int x3)], [], 129, 17845, hp M) (some (.int r), 129, 17845, hp M') := by
  intro x1 x2 x3  M r M' h
  unfold J46_39 at h
  refine pe_blk mm_46 1 (s' := (40, [some (.ref 83), some (.int x1), some (.int x2), some (.int x3)], [.int x2], _, _, _)) rfl ?_
  exact J46_40_ev sc n e he rec4 hr4 x1 x3 x2 _ _ _ _ h
def J46_25 (n : Nat) (rec4 : Int32 → Int32 → Int32 → Mem → Option (Int32 × Mem)) (x1 : Int32) (x2 : Int32) (x3 : Int32) (M : Mem) : Option (Int32 × Mem) :=
  if x3 < 0 ∨ 128 ≤ (x3 : Int32).toNatClampNeg then none else (if (M.1 91 (x3 : Int32).toNatClampNeg) = x1 then (J46_40 n rec4 x1 x3 x3 M) else (J46_39 n rec4 x1 x2 x3 M))
set_option maxRecDepth 100000 in
set_option maxHeartbeats 4000000 in
theorem J46_25_ev (sc : Option (Nat × (Nat → Int32))) (n : Nat)  (e : Nat) (he : 1 ≤ e) (rec4 : Int32 → Int32 → Int32 → Mem → Option (Int32 × Mem)) (hr4 : ∀ (x1 : Int32) (x2 : Int32) (x3 : Int32) (M : Mem) (r : Int32) (M' : Mem), rec4 x1 x2 x3 M = some (r, M') → pm_ev pmT sc e 46 false (4, [some (.ref 83), some (.int x1), some (.int x2), some (.int x3)], [], 129, 17845, hp M) (some (.int r), 129, 17845, hp M')) : ∀ (x1 : Int32) (x2 : Int32) (x3 : Int32) (M : Mem) (r : Int32) (M' : Mem), J46_25 n rec4 x1 x2 x3 M = some (r, M') → pm_ev pmT sc e 46 false (25, [some (.ref 83), some (.int x1), some (.int x2), some (.int x3)], [], 129, 17845, hp M) (some (.int r), 129, 17845, hp M') := by
  intro x1 x2 x3  M r M' h
  unfold J46_25 at h
  refine pe_blk mm_46 1 (s' := (26, [some (.ref 83), some (.int x1), some (.int x2), some (.int x3)], [.ref 83], _, _, _)) rfl ?_
  refine pe_get mm_46 rfl rfl rfl (by decide) rfl ?_
  refine pe_blk mm_46 1 (s' := (30, [some (.ref 83), some (.int x1), some (.int x2), some (.int x3)], [.int x3, .ref 91], _, _, _)) rfl ?_
  by_cases q5 : x3 < 0 ∨ 128 ≤ (x3 : Int32).toNatClampNeg
  · rw [if_pos q5] at h
    cases h
  · rw [if_neg q5] at h
    refine pe_iald (f := M.1 91) mm_46 rfl rfl (by decide) q5 ?_
    refine pe_blk mm_46 1 (s' := (32, [some (.ref 83), some (.int x1), some (.int x2), some (.int x3)], [.int x1, .int (M.1 91 (x3 : Int32).toNatClampNeg)], _, _, _)) rfl ?_
    by_cases q6 : (M.1 91 (x3 : Int32).toNatClampNeg) = x1
    · rw [if_pos q6] at h
      refine pe_blk mm_46 1 (s' := (if (M.1 91 (x3 : Int32).toNatClampNeg) = x1 then 35 else 39, [some (.ref 83), some (.int x1), some (.int x2), some (.int x3)], [], _, _, _)) rfl ?_
      rw [if_pos q6]
      refine pe_blk mm_46 2 (s' := (40, [some (.ref 83), some (.int x1), some (.int x2), some (.int x3)], [.int x3], _, _, _)) rfl ?_
      exact J46_40_ev sc n e he rec4 hr4 x1 x3 x3 _ _ _ _ h
    · rw [if_neg q6] at h
      refine pe_blk mm_46 1 (s' := (if (M.1 91 (x3 : Int32).toNatClampNeg) = x1 then 35 else 39, [some (.ref 83), some (.int x1), some (.int x2), some (.int x3)], [], _, _, _)) rfl ?_
      rw [if_neg q6]
      exact J46_39_ev sc n e he rec4 hr4 x1 x2 x3 _ _ _ h
def L46_4 (n : Nat) : Nat → Int32 → Int32 → Int32 → Mem → Option (Int32 × Mem)
  | 0, _, _, _, _ => none
  | k + 1, x1, x2, x3, M => if x3 < 0 ∨ 128 ≤ (x3 : Int32).toNatClampNeg then none else (if (M.1 90 (x3 : Int32).toNatClampNeg) = 6 then (some (x2, M)) else (if x3 < 0 ∨ 128 ≤ (x3 : Int32).toNatClampNeg then none else (if (M.1 90 (x3 : Int32).toNatClampNeg) = 3 then (J46_25 n (L46_4 n k) x1 x2 x3 M) else (J46_39 n (L46_4 n k) x1 x2 x3 M))))
set_option maxRecDepth 100000 in
set_option maxHeartbeats 4000000 in
theorem L46_4_ev (sc : Option (Nat × (Nat → Int32))) (n : Nat)  (e : Nat) (he : 1 ≤ e) : ∀ k : Nat, ∀ (x1 : Int32) (x2 : Int32) (x3 : Int32) (M : Mem) (r : Int32) (M' : Mem), L46_4 n k x1 x2 x3 M = some (r, M') → pm_ev pmT sc e 46 false (4, [some (.ref 83), some (.int x1), some (.int x2), some (.int x3)], [], 129, 17845, hp M) (some (.int r), 129, 17845, hp M') := by
  intro k
  induction k with
  | zero => intro x1 x2 x3  M r M' h; cases h
  | succ k hr4 =>
    intro x1 x2 x3  M r M' h
    rw [L46_4] at h
    refine pe_blk mm_46 1 (s' := (5, [some (.ref 83), some (.int x1), some (.int x2), some (.int x3)], [.ref 83], _, _, _)) rfl ?_
    refine pe_get mm_46 rfl rfl rfl (by decide) rfl ?_
    refine pe_blk mm_46 1 (s' := (9, [some (.ref 83), some (.int x1), some (.int x2), some (.int x3)], [.int x3, .ref 90], _, _, _)) rfl ?_
    by_cases q1 : x3 < 0 ∨ 128 ≤ (x3 : Int32).toNatClampNeg
    · rw [if_pos q1] at h
      cases h
    · rw [if_neg q1] at h
      refine pe_iald (f := M.1 90) mm_46 rfl rfl (by decide) q1 ?_
      refine pe_blk mm_46 1 (s' := (12, [some (.ref 83), some (.int x1), some (.int x2), some (.int x3)], [.int 6, .int (M.1 90 (x3 : Int32).toNatClampNeg)], _, _, _)) rfl ?_
      by_cases q2 : (M.1 90 (x3 : Int32).toNatClampNeg) = 6
      · rw [if_pos q2] at h
        refine pe_blk mm_46 1 (s' := (if (M.1 90 (x3 : Int32).toNatClampNeg) = 6 then 47 else 15, [some (.ref 83), some (.int x1), some (.int x2), some (.int x3)], [], _, _, _)) rfl ?_
        rw [if_pos q2]
        refine pe_blk mm_46 1 (s' := (48, [some (.ref 83), some (.int x1), some (.int x2), some (.int x3)], [.int x2], _, _, _)) rfl ?_
        cases h
        exact pe_ret mm_46 rfl rfl
      · rw [if_neg q2] at h
        refine pe_blk mm_46 1 (s' := (if (M.1 90 (x3 : Int32).toNatClampNeg) = 6 then 47 else 15, [some (.ref 83), some (.int x1), some (.int x2), some (.int x3)], [], _, _, _)) rfl ?_
        rw [if_neg q2]
        refine pe_blk mm_46 1 (s' := (16, [some (.ref 83), some (.int x1), some (.int x2), some (.int x3)], [.ref 83], _, _, _)) rfl ?_
        refine pe_get mm_46 rfl rfl rfl (by decide) rfl ?_
        refine pe_blk mm_46 1 (s' := (20, [some (.ref 83), some (.int x1), some (.int x2), some (.int x3)], [.int x3, .ref 90], _, _, _)) rfl ?_
        by_cases q3 : x3 < 0 ∨ 128 ≤ (x3 : Int32).toNatClampNeg
        · rw [if_pos q3] at h
          cases h
        · rw [if_neg q3] at h
          refine pe_iald (f := M.1 90) mm_46 rfl rfl (by decide) q3 ?_
          refine pe_blk mm_46 1 (s' := (22, [some (.ref 83), some (.int x1), some (.int x2), some (.int x3)], [.int 3, .int (M.1 90 (x3 : Int32).toNatClampNeg)], _, _, _)) rfl ?_
          by_cases q4 : (M.1 90 (x3 : Int32).toNatClampNeg) = 3
          · rw [if_pos q4] at h
            refine pe_blk mm_46 1 (s' := (if (M.1 90 (x3 : Int32).toNatClampNeg) = 3 then 25 else 39, [some (.ref 83), some (.int x1), some (.int x2), some (.int x3)], [], _, _, _)) rfl ?_
            rw [if_pos q4]
            exact J46_25_ev sc n e he (L46_4 n k) hr4 x1 x2 x3 _ _ _ h
          · rw [if_neg q4] at h
            refine pe_blk mm_46 1 (s' := (if (M.1 90 (x3 : Int32).toNatClampNeg) = 3 then 25 else 39, [some (.ref 83), some (.int x1), some (.int x2), some (.int x3)], [], _, _, _)) rfl ?_
            rw [if_neg q4]
            exact J46_39_ev sc n e he (L46_4 n k) hr4 x1 x2 x3 _ _ _ h
/-- ArmExpanderModel.place -/
def F46 (n : Nat) (a0 : Int32) (M : Mem) : Option (Int32 × Mem) :=
  L46_4 n n a0 (-1) 0 M
set_option maxRecDepth 100000 in
set_option maxHeartbeats 4000000 in
theorem F46_ev (sc : Option (Nat × (Nat → Int32))) (n : Nat) (a0 : Int32)  (M : Mem) (e : Nat) (he : 1 ≤ e) (r : Int32) (M' : Mem) (h : F46 n a0 M = some (r, M')) : pm_ev pmT sc e 46 false (0, [some (.ref 83), some (.int a0), none, none], [], 129, 17845, hp M) (some (.int r), 129, 17845, hp M') := by
  unfold F46 at h
  refine pe_blk mm_46 4 (s' := (4, [some (.ref 83), some (.int a0), some (.int (-1)), some (.int 0)], [], _, _, _)) rfl ?_
  exact L46_4_ev sc n e he n a0 (-1) 0 _ _ _ h
