/-! The methods as functions over Mem; written by program. -/
def J5_25 (n : Nat) (s0 : Int32) (M : Mem) : Option (Int32 × Mem) :=
  some (s0, M)
set_option maxRecDepth 100000 in
set_option maxHeartbeats 4000000 in
theorem J5_25_ev (sc : Option (Nat × (Nat → Int32))) (n : Nat)  (e : Nat) (he : 2 ≤ e) : ∀ (s0 : Int32) (u0 : Option Value) (u1 : Option Value) (M : Mem) (r : Int32) (M' : Mem), J5_25 n s0 M = some (r, M') → pm_ev pmT sc e 5 false (25, [u0, u1], [.int s0], 129, 17845, hp M) (some (.int r), 129, 17845, hp M') := by
  intro s0 u0 u1 M r M' h
  unfold J5_25 at h
  cases h
  exact pe_ret mm_5 rfl rfl
def J5_24 (n : Nat) (M : Mem) : Option (Int32 × Mem) :=
  J5_25 n (-1) M
set_option maxRecDepth 100000 in
set_option maxHeartbeats 4000000 in
theorem J5_24_ev (sc : Option (Nat × (Nat → Int32))) (n : Nat)  (e : Nat) (he : 2 ≤ e) : ∀ (u0 : Option Value) (u1 : Option Value) (M : Mem) (r : Int32) (M' : Mem), J5_24 n  M = some (r, M') → pm_ev pmT sc e 5 false (24, [u0, u1], [], 129, 17845, hp M) (some (.int r), 129, 17845, hp M') := by
  intro u0 u1 M r M' h
  unfold J5_24 at h
  refine pe_blk mm_5 1 (s' := (25, [u0, u1], [.int (-1)], _, _, _)) rfl ?_
  exact J5_25_ev sc n e he (-1) _ _ _ _ _ h
/-- ArmExpander.arms -/
def F5 (n : Nat) (a0 : Int32) (M : Mem) : Option (Int32 × Mem) :=
  if a0 < 0 then (J5_24 n M) else (if (M.1 0 5) ≤ a0 then (J5_24 n M) else (if a0 < 0 ∨ 6 ≤ (a0 : Int32).toNatClampNeg then none else (match m_pl (a0 : Int32).toNatClampNeg with | some p4 => (if isD p4 then (match F108 n p4 M with | some (v7, M8) => (J5_25 n v7 M8) | none => none) else none) | none => none)))
set_option maxRecDepth 100000 in
set_option maxHeartbeats 4000000 in
theorem F5_ev (sc : Option (Nat × (Nat → Int32))) (n : Nat) (a0 : Int32)  (M : Mem) (e : Nat) (he : 2 ≤ e) (r : Int32) (M' : Mem) (h : F5 n a0 M = some (r, M')) : pm_ev pmT sc e 5 false (0, [some (.ref 0), some (.int a0)], [], 129, 17845, hp M) (some (.int r), 129, 17845, hp M') := by
  unfold F5 at h
  refine pe_blk mm_5 1 (s' := (1, [some (.ref 0), some (.int a0)], [.int a0], _, _, _)) rfl ?_
  by_cases q1 : a0 < 0
  · rw [if_pos q1] at h
    refine pe_blk mm_5 1 (s' := (if a0 < 0 then 24 else 4, [some (.ref 0), some (.int a0)], [], _, _, _)) rfl ?_
    rw [if_pos q1]
    exact J5_24_ev sc n e he _ _ _ _ _ h
  · rw [if_neg q1] at h
    refine pe_blk mm_5 1 (s' := (if a0 < 0 then 24 else 4, [some (.ref 0), some (.int a0)], [], _, _, _)) rfl ?_
    rw [if_neg q1]
    refine pe_blk mm_5 2 (s' := (6, [some (.ref 0), some (.int a0)], [.ref 0, .int a0], _, _, _)) rfl ?_
    refine pe_get mm_5 rfl rfl rfl (by decide) rfl ?_
    by_cases q2 : (M.1 0 5) ≤ a0
    · rw [if_pos q2] at h
      refine pe_blk mm_5 1 (s' := (if (M.1 0 5) ≤ a0 then 24 else 12, [some (.ref 0), some (.int a0)], [], _, _, _)) rfl ?_
      rw [if_pos q2]
      exact J5_24_ev sc n e he _ _ _ _ _ h
    · rw [if_neg q2] at h
      refine pe_blk mm_5 1 (s' := (if (M.1 0 5) ≤ a0 then 24 else 12, [some (.ref 0), some (.int a0)], [], _, _, _)) rfl ?_
      rw [if_neg q2]
      refine pe_blk mm_5 1 (s' := (13, [some (.ref 0), some (.int a0)], [.ref 0], _, _, _)) rfl ?_
      refine pe_get mm_5 rfl rfl rfl (by decide) rfl ?_
      refine pe_blk mm_5 1 (s' := (17, [some (.ref 0), some (.int a0)], [.int a0, .ref 40], _, _, _)) rfl ?_
      by_cases q3 : a0 < 0 ∨ 6 ≤ (a0 : Int32).toNatClampNeg
      · rw [if_pos q3] at h
        cases h
      · rw [if_neg q3] at h
        refine pe_pl mm_5 rfl q3 ?_
        show pm_ev _ _ _ _ _ (18, [some (.ref 0), some (.int a0)], va_rf (m_pl (a0 : Int32).toNatClampNeg) :: [], _, _, _) _
        cases hq6 : m_pl (a0 : Int32).toNatClampNeg with
        | none => rw [hq6] at h; cases h
        | some p4 =>
          rw [hq6] at h
          dsimp only at h
          by_cases f5 : isD p4
          · rw [if_pos f5] at h
            show pm_ev _ _ _ _ _ (18, [some (.ref 0), some (.int a0)], [.ref p4], _, _, _) _
            obtain ⟨e1, rfl⟩ : ∃ e1, e = e1 + 1 := ⟨e - 1, by omega⟩
            cases hc9 : F108 n p4 M with
            | none => rw [hc9] at h; cases h
            | some w =>
              obtain ⟨v7, M8⟩ := w
              rw [hc9] at h
              dsimp only at h
              refine pe_virt (al := []) (a := p4) (L0 := [some (.ref p4)]) (r1 := (some (.int v7), 129, 17845, hp M8)) mm_5 rfl rfl rfl mm_108 (isD_0 f5 _) (by have := isD_lt f5; omega) (by decide) rfl (Nat.le_of_ble_eq_true rfl) (Nat.le_of_ble_eq_true rfl) rfl rfl (F108_ev sc n p4 f5 _ e1 (by omega) _ _ hc9) ?_
              show pm_ev _ _ _ _ _ (21, [some (.ref 0), some (.int a0)], [.int v7], _, _, _) _
              refine pe_blk mm_5 1 (s' := (25, [some (.ref 0), some (.int a0)], [.int v7], _, _, _)) rfl ?_
              exact J5_25_ev sc n (e1 + 1) he v7 _ _ _ _ _ h
          · rw [if_neg f5] at h
            cases h
