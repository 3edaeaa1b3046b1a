/-! The methods as functions over Mem; written by program. -/
def J43_185 (n : Nat) (M : Mem) : Option (Int32 × Mem) :=
  some (1, M)
set_option maxRecDepth 100000 in
set_option maxHeartbeats 4000000 in
theorem J43_185_ev (sc : Option (Nat × (Nat → Int32))) (n : Nat)  (e : Nat) (he : 6 ≤ e) : ∀ (u0 : Option Value) (u1 : Option Value) (u2 : Option Value) (u3 : Option Value) (u4 : Option Value) (u5 : Option Value) (M : Mem) (r : Int32) (M' : Mem), J43_185 n  M = some (r, M') → pm_ev pmT sc e 43 false (185, [u0, u1, u2, u3, u4, u5], [], 129, 17845, hp M) (some (.int r), 129, 17845, hp M') := by
  intro u0 u1 u2 u3 u4 u5 M r M' h
  unfold J43_185 at h
  refine pe_blk mm_43 1 (s' := (186, [u0, u1, u2, u3, u4, u5], [.int 1], _, _, _)) rfl ?_
  cases h
  exact pe_ret mm_43 rfl rfl
def J43_53 (n : Nat) (M : Mem) : Option (Int32 × Mem) :=
  some (1, M)
set_option maxRecDepth 100000 in
set_option maxHeartbeats 4000000 in
theorem J43_53_ev (sc : Option (Nat × (Nat → Int32))) (n : Nat)  (e : Nat) (he : 6 ≤ e) : ∀ (u0 : Option Value) (u1 : Option Value) (u2 : Option Value) (u3 : Option Value) (u4 : Option Value) (u5 : Option Value) (M : Mem) (r : Int32) (M' : Mem), J43_53 n  M = some (r, M') → pm_ev pmT sc e 43 false (53, [u0, u1, u2, u3, u4, u5], [], 129, 17845, hp M) (some (.int r), 129, 17845, hp M') := by
  intro u0 u1 u2 u3 u4 u5 M r M' h
  unfold J43_53 at h
  refine pe_blk mm_43 1 (s' := (54, [u0, u1, u2, u3, u4, u5], [.int 1], _, _, _)) rfl ?_
  cases h
  exact pe_ret mm_43 rfl rfl
/-- ArmExpanderModel.closeIt -/
def F43 (n : Nat) (a0 : Int32) (M : Mem) : Option (Int32 × Mem) :=
  if ((m_i M 83 27 ((M.1 83 27) - 1)).1 83 27) < 0 ∨ 16 ≤ ((m_i M 83 27 ((M.1 83 27) - 1)).1 83 27 : Int32).toNatClampNeg then none else (match F28 n (m_i M 83 27 ((M.1 83 27) - 1)) with | some (v2, M3) => (if 0 ≤ ((m_i M 83 27 ((M.1 83 27) - 1)).1 104 ((m_i M 83 27 ((M.1 83 27) - 1)).1 83 27 : Int32).toNatClampNeg) then (match F39 n M3 with | some (v6, M7) => (match F40 n M7 with | some (v9, M10) => (if 0 ≤ v9 then (if a0 = 0 then (match F36 n 5 0 M10 with | some (v14, M15) => (if (M10.1 83 32) < 0 ∨ 128 ≤ (M10.1 83 32 : Int32).toNatClampNeg then none else (if (M10.1 83 32) < 0 ∨ 128 ≤ (M10.1 83 32 : Int32).toNatClampNeg then none else (if ((m_i M 83 27 ((M.1 83 27) - 1)).1 104 ((m_i M 83 27 ((M.1 83 27) - 1)).1 83 27 : Int32).toNatClampNeg) < 0 ∨ 128 ≤ ((m_i M 83 27 ((M.1 83 27) - 1)).1 104 ((m_i M 83 27 ((M.1 83 27) - 1)).1 83 27 : Int32).toNatClampNeg : Int32).toNatClampNeg then none else (J43_185 n (m_i (m_i (m_i M15 99 (M10.1 83 32 : Int32).toNatClampNeg ((m_i M 83 27 ((M.1 83 27) - 1)).1 104 ((m_i M 83 27 ((M.1 83 27) - 1)).1 83 27 : Int32).toNatClampNeg)) 100 (M10.1 83 32 : Int32).toNatClampNeg (v9 / 256)) 99 ((m_i M 83 27 ((M.1 83 27) - 1)).1 104 ((m_i M 83 27 ((M.1 83 27) - 1)).1 83 27 : Int32).toNatClampNeg : Int32).toNatClampNeg (M10.1 83 32)))))) | none => none) else (match F35 n 5 0 (v9 - v9 / 256 * 256) M10 with | some (v20, M21) => (if (M10.1 83 32) < 0 ∨ 128 ≤ (M10.1 83 32 : Int32).toNatClampNeg then none else (if (M10.1 83 32) < 0 ∨ 128 ≤ (M10.1 83 32 : Int32).toNatClampNeg then none else (if ((m_i M 83 27 ((M.1 83 27) - 1)).1 104 ((m_i M 83 27 ((M.1 83 27) - 1)).1 83 27 : Int32).toNatClampNeg) < 0 ∨ 128 ≤ ((m_i M 83 27 ((M.1 83 27) - 1)).1 104 ((m_i M 83 27 ((M.1 83 27) - 1)).1 83 27 : Int32).toNatClampNeg : Int32).toNatClampNeg then none else (if ((m_i M 83 27 ((M.1 83 27) - 1)).1 104 ((m_i M 83 27 ((M.1 83 27) - 1)).1 83 27 : Int32).toNatClampNeg) < 0 ∨ 128 ≤ ((m_i M 83 27 ((M.1 83 27) - 1)).1 104 ((m_i M 83 27 ((M.1 83 27) - 1)).1 83 27 : Int32).toNatClampNeg : Int32).toNatClampNeg then none else (if ((m_i M 83 27 ((M.1 83 27) - 1)).1 104 ((m_i M 83 27 ((M.1 83 27) - 1)).1 83 27 : Int32).toNatClampNeg) < 0 ∨ 128 ≤ ((m_i M 83 27 ((M.1 83 27) - 1)).1 104 ((m_i M 83 27 ((M.1 83 27) - 1)).1 83 27 : Int32).toNatClampNeg : Int32).toNatClampNeg then none else (J43_185 n (m_i (m_i (m_i (m_i (m_i M21 92 (M10.1 83 32 : Int32).toNatClampNeg ((m_i M 83 27 ((M.1 83 27) - 1)).1 104 ((m_i M 83 27 ((M.1 83 27) - 1)).1 83 27 : Int32).toNatClampNeg)) 93 (M10.1 83 32 : Int32).toNatClampNeg (v9 / 256)) 92 ((m_i M 83 27 ((M.1 83 27) - 1)).1 104 ((m_i M 83 27 ((M.1 83 27) - 1)).1 83 27 : Int32).toNatClampNeg : Int32).toNatClampNeg (M10.1 83 32)) 93 ((m_i M 83 27 ((M.1 83 27) - 1)).1 104 ((m_i M 83 27 ((M.1 83 27) - 1)).1 83 27 : Int32).toNatClampNeg : Int32).toNatClampNeg (v9 / 256)) 94 ((m_i M 83 27 ((M.1 83 27) - 1)).1 104 ((m_i M 83 27 ((M.1 83 27) - 1)).1 83 27 : Int32).toNatClampNeg : Int32).toNatClampNeg (v9 - v9 / 256 * 256)))))))) | none => none)) else (some (0, M10))) | none => none) | none => none) else (if a0 = 0 then (match F36 n 0 ((m_i M 83 27 ((M.1 83 27) - 1)).1 83 5) M3 with | some (v29, M30) => (J43_53 n M30) | none => none) else (match F35 n 2 ((m_i M 83 27 ((M.1 83 27) - 1)).1 83 5) 0 M3 with | some (v32, M33) => (J43_53 n M33) | none => none))) | none => none)
set_option maxRecDepth 100000 in
set_option maxHeartbeats 4000000 in
theorem F43_ev (sc : Option (Nat × (Nat → Int32))) (n : Nat) (a0 : Int32)  (M : Mem) (e : Nat) (he : 6 ≤ e) (r : Int32) (M' : Mem) (h : F43 n a0 M = some (r, M')) : pm_ev pmT sc e 43 false (0, [some (.ref 83), some (.int a0), none, none, none, none], [], 129, 17845, hp M) (some (.int r), 129, 17845, hp M') := by
  unfold F43 at h
  refine pe_blk mm_43 2 (s' := (2, [some (.ref 83), some (.int a0), none, none, none, none], [.ref 83, .ref 83], _, _, _)) rfl ?_
  refine pe_get mm_43 rfl rfl rfl (by decide) rfl ?_
  refine pe_blk mm_43 2 (s' := (7, [some (.ref 83), some (.int a0), none, none, none, none], [.int ((M.1 83 27) - 1), .ref 83], _, _, _)) rfl ?_
  refine pe_puti mm_43 rfl rfl rfl (by decide) (Nat.le_of_ble_eq_true rfl) rfl rfl ?_
  refine pe_blk mm_43 1 (s' := (11, [some (.ref 83), some (.int a0), none, none, none, none], [.ref 83], _, _, _)) rfl ?_
  refine pe_get mm_43 rfl rfl rfl (by decide) rfl ?_
  refine pe_blk mm_43 1 (s' := (15, [some (.ref 83), some (.int a0), none, none, none, none], [.ref 83, .ref 104], _, _, _)) rfl ?_
  refine pe_get mm_43 rfl rfl rfl (by decide) rfl ?_
  by_cases q1 : ((m_i M 83 27 ((M.1 83 27) - 1)).1 83 27) < 0 ∨ 16 ≤ ((m_i M 83 27 ((M.1 83 27) - 1)).1 83 27 : Int32).toNatClampNeg
  · rw [if_pos q1] at h
    cases h
  · rw [if_neg q1] at h
    refine pe_iald (f := (m_i M 83 27 ((M.1 83 27) - 1)).1 104) mm_43 rfl rfl (by decide) q1 ?_
    refine pe_blk mm_43 2 (s' := (21, [some (.ref 83), some (.int a0), some (.int ((m_i M 83 27 ((M.1 83 27) - 1)).1 104 ((m_i M 83 27 ((M.1 83 27) - 1)).1 83 27 : Int32).toNatClampNeg)), none, none, none], [.ref 83], _, _, _)) rfl ?_
    refine pe_get mm_43 rfl rfl rfl (by decide) rfl ?_
    refine pe_blk mm_43 2 (s' := (26, [some (.ref 83), some (.int a0), some (.int ((m_i M 83 27 ((M.1 83 27) - 1)).1 104 ((m_i M 83 27 ((M.1 83 27) - 1)).1 83 27 : Int32).toNatClampNeg)), some (.int ((m_i M 83 27 ((M.1 83 27) - 1)).1 83 5)), none, none], [.ref 83], _, _, _)) rfl ?_
    obtain ⟨e1, rfl⟩ : ∃ e1, e = e1 + 1 := ⟨e - 1, by omega⟩
    cases hc4 : F28 n (m_i M 83 27 ((M.1 83 27) - 1)) with
    | none => rw [hc4] at h; cases h
    | some w =>
      obtain ⟨v2, M3⟩ := w
      rw [hc4] at h
      dsimp only at h
      refine pe_virt (al := []) (a := 83) (L0 := [some (.ref 83), none, none, none, none, none]) (r1 := (none, 129, 17845, hp M3)) mm_43 rfl rfl rfl mm_28 rfl (by decide) (by decide) rfl (Nat.le_of_ble_eq_true rfl) (Nat.le_of_ble_eq_true rfl) rfl rfl (F28_ev sc n _ e1 (by omega) _ _ hc4) ?_
      show pm_ev _ _ _ _ _ (29, [some (.ref 83), some (.int a0), some (.int ((m_i M 83 27 ((M.1 83 27) - 1)).1 104 ((m_i M 83 27 ((M.1 83 27) - 1)).1 83 27 : Int32).toNatClampNeg)), some (.int ((m_i M 83 27 ((M.1 83 27) - 1)).1 83 5)), none, none], [], _, _, _) _
      refine pe_blk mm_43 1 (s' := (30, [some (.ref 83), some (.int a0), some (.int ((m_i M 83 27 ((M.1 83 27) - 1)).1 104 ((m_i M 83 27 ((M.1 83 27) - 1)).1 83 27 : Int32).toNatClampNeg)), some (.int ((m_i M 83 27 ((M.1 83 27) - 1)).1 83 5)), none, none], [.int ((m_i M 83 27 ((M.1 83 27) - 1)).1 104 ((m_i M 83 27 ((M.1 83 27) - 1)).1 83 27 : Int32).toNatClampNeg)], _, _, _)) rfl ?_
      by_cases q5 : 0 ≤ ((m_i M 83 27 ((M.1 83 27) - 1)).1 104 ((m_i M 83 27 ((M.1 83 27) - 1)).1 83 27 : Int32).toNatClampNeg)
      · rw [if_pos q5] at h
        refine pe_blk mm_43 1 (s' := (if 0 ≤ ((m_i M 83 27 ((M.1 83 27) - 1)).1 104 ((m_i M 83 27 ((M.1 83 27) - 1)).1 83 27 : Int32).toNatClampNeg) then 55 else 33, [some (.ref 83), some (.int a0), some (.int ((m_i M 83 27 ((M.1 83 27) - 1)).1 104 ((m_i M 83 27 ((M.1 83 27) - 1)).1 83 27 : Int32).toNatClampNeg)), some (.int ((m_i M 83 27 ((M.1 83 27) - 1)).1 83 5)), none, none], [], _, _, _)) rfl ?_
        rw [if_pos q5]
        refine pe_blk mm_43 1 (s' := (56, [some (.ref 83), some (.int a0), some (.int ((m_i M 83 27 ((M.1 83 27) - 1)).1 104 ((m_i M 83 27 ((M.1 83 27) - 1)).1 83 27 : Int32).toNatClampNeg)), some (.int ((m_i M 83 27 ((M.1 83 27) - 1)).1 83 5)), none, none], [.ref 83], _, _, _)) rfl ?_
        skip
        cases hc8 : F39 n M3 with
        | none => rw [hc8] at h; cases h
        | some w =>
          obtain ⟨v6, M7⟩ := w
          rw [hc8] at h
          dsimp only at h
          refine pe_virt (al := []) (a := 83) (L0 := [some (.ref 83)]) (r1 := (none, 129, 17845, hp M7)) mm_43 rfl rfl rfl mm_39 rfl (by decide) (by decide) rfl (Nat.le_of_ble_eq_true rfl) (Nat.le_of_ble_eq_true rfl) rfl rfl (F39_ev sc n _ e1 (by omega) _ _ hc8) ?_
          show pm_ev _ _ _ _ _ (59, [some (.ref 83), some (.int a0), some (.int ((m_i M 83 27 ((M.1 83 27) - 1)).1 104 ((m_i M 83 27 ((M.1 83 27) - 1)).1 83 27 : Int32).toNatClampNeg)), some (.int ((m_i M 83 27 ((M.1 83 27) - 1)).1 83 5)), none, none], [], _, _, _) _
          refine pe_blk mm_43 1 (s' := (60, [some (.ref 83), some (.int a0), some (.int ((m_i M 83 27 ((M.1 83 27) - 1)).1 104 ((m_i M 83 27 ((M.1 83 27) - 1)).1 83 27 : Int32).toNatClampNeg)), some (.int ((m_i M 83 27 ((M.1 83 27) - 1)).1 83 5)), none, none], [.ref 83], _, _, _)) rfl ?_
          skip
          cases hc11 : F40 n M7 with
          | none => rw [hc11] at h; cases h
          | some w =>
            obtain ⟨v9, M10⟩ := w
            rw [hc11] at h
            dsimp only at h
            refine pe_virt (al := []) (a := 83) (L0 := [some (.ref 83), none, none]) (r1 := (some (.int v9), 129, 17845, hp M10)) mm_43 rfl rfl rfl mm_40 rfl (by decide) (by decide) rfl (Nat.le_of_ble_eq_true rfl) (Nat.le_of_ble_eq_true rfl) rfl rfl (F40_ev sc n _ e1 (by omega) _ _ hc11) ?_
            show pm_ev _ _ _ _ _ (63, [some (.ref 83), some (.int a0), some (.int ((m_i M 83 27 ((M.1 83 27) - 1)).1 104 ((m_i M 83 27 ((M.1 83 27) - 1)).1 83 27 : Int32).toNatClampNeg)), some (.int ((m_i M 83 27 ((M.1 83 27) - 1)).1 83 5)), none, none], [.int v9], _, _, _) _
            refine pe_blk mm_43 2 (s' := (67, [some (.ref 83), some (.int a0), some (.int ((m_i M 83 27 ((M.1 83 27) - 1)).1 104 ((m_i M 83 27 ((M.1 83 27) - 1)).1 83 27 : Int32).toNatClampNeg)), some (.int ((m_i M 83 27 ((M.1 83 27) - 1)).1 83 5)), some (.int v9), none], [.int v9], _, _, _)) rfl ?_
            by_cases q12 : 0 ≤ v9
            · rw [if_pos q12] at h
              refine pe_blk mm_43 1 (s' := (if 0 ≤ v9 then 72 else 70, [some (.ref 83), some (.int a0), some (.int ((m_i M 83 27 ((M.1 83 27) - 1)).1 104 ((m_i M 83 27 ((M.1 83 27) - 1)).1 83 27 : Int32).toNatClampNeg)), some (.int ((m_i M 83 27 ((M.1 83 27) - 1)).1 83 5)), some (.int v9), none], [], _, _, _)) rfl ?_
              rw [if_pos q12]
              refine pe_blk mm_43 1 (s' := (73, [some (.ref 83), some (.int a0), some (.int ((m_i M 83 27 ((M.1 83 27) - 1)).1 104 ((m_i M 83 27 ((M.1 83 27) - 1)).1 83 27 : Int32).toNatClampNeg)), some (.int ((m_i M 83 27 ((M.1 83 27) - 1)).1 83 5)), some (.int v9), none], [.ref 83], _, _, _)) rfl ?_
              refine pe_get mm_43 rfl rfl rfl (by decide) rfl ?_
              refine pe_blk mm_43 2 (s' := (79, [some (.ref 83), some (.int a0), some (.int ((m_i M 83 27 ((M.1 83 27) - 1)).1 104 ((m_i M 83 27 ((M.1 83 27) - 1)).1 83 27 : Int32).toNatClampNeg)), some (.int ((m_i M 83 27 ((M.1 83 27) - 1)).1 83 5)), some (.int v9), some (.int (M10.1 83 32))], [.int a0], _, _, _)) rfl ?_
              by_cases q13 : a0 = 0
              · rw [if_pos q13] at h
                refine pe_blk mm_43 1 (s' := (if a0 = 0 then 150 else 82, [some (.ref 83), some (.int a0), some (.int ((m_i M 83 27 ((M.1 83 27) - 1)).1 104 ((m_i M 83 27 ((M.1 83 27) - 1)).1 83 27 : Int32).toNatClampNeg)), some (.int ((m_i M 83 27 ((M.1 83 27) - 1)).1 83 5)), some (.int v9), some (.int (M10.1 83 32))], [], _, _, _)) rfl ?_
                rw [if_pos q13]
                refine pe_blk mm_43 3 (s' := (153, [some (.ref 83), some (.int a0), some (.int ((m_i M 83 27 ((M.1 83 27) - 1)).1 104 ((m_i M 83 27 ((M.1 83 27) - 1)).1 83 27 : Int32).toNatClampNeg)), some (.int ((m_i M 83 27 ((M.1 83 27) - 1)).1 83 5)), some (.int v9), some (.int (M10.1 83 32))], [.int 0, .int 5, .ref 83], _, _, _)) rfl ?_
                skip
                cases hc16 : F36 n 5 0 M10 with
                | none => rw [hc16] at h; cases h
                | some w =>
                  obtain ⟨v14, M15⟩ := w
                  rw [hc16] at h
                  dsimp only at h
                  refine pe_virt (al := [.int 0, .int 5]) (a := 83) (L0 := [some (.ref 83), some (.int 5), some (.int 0)]) (r1 := (none, 129, 17845, hp M15)) mm_43 rfl rfl rfl mm_36 rfl (by decide) (by decide) rfl (Nat.le_of_ble_eq_true rfl) (Nat.le_of_ble_eq_true rfl) rfl rfl (F36_ev sc n 5 0 _ e1 (by omega) _ _ hc16) ?_
                  show pm_ev _ _ _ _ _ (156, [some (.ref 83), some (.int a0), some (.int ((m_i M 83 27 ((M.1 83 27) - 1)).1 104 ((m_i M 83 27 ((M.1 83 27) - 1)).1 83 27 : Int32).toNatClampNeg)), some (.int ((m_i M 83 27 ((M.1 83 27) - 1)).1 83 5)), some (.int v9), some (.int (M10.1 83 32))], [], _, _, _) _
                  refine pe_blk mm_43 1 (s' := (157, [some (.ref 83), some (.int a0), some (.int ((m_i M 83 27 ((M.1 83 27) - 1)).1 104 ((m_i M 83 27 ((M.1 83 27) - 1)).1 83 27 : Int32).toNatClampNeg)), some (.int ((m_i M 83 27 ((M.1 83 27) - 1)).1 83 5)), some (.int v9), some (.int (M10.1 83 32))], [.ref 83], _, _, _)) rfl ?_
                  refine pe_get mm_43 rfl rfl rfl (by decide) rfl ?_
                  refine pe_blk mm_43 2 (s' := (163, [some (.ref 83), some (.int a0), some (.int ((m_i M 83 27 ((M.1 83 27) - 1)).1 104 ((m_i M 83 27 ((M.1 83 27) - 1)).1 83 27 : Int32).toNatClampNeg)), some (.int ((m_i M 83 27 ((M.1 83 27) - 1)).1 83 5)), some (.int v9), some (.int (M10.1 83 32))], [.int ((m_i M 83 27 ((M.1 83 27) - 1)).1 104 ((m_i M 83 27 ((M.1 83 27) - 1)).1 83 27 : Int32).toNatClampNeg), .int (M10.1 83 32), .ref 99], _, _, _)) rfl ?_
                  by_cases q17 : (M10.1 83 32) < 0 ∨ 128 ≤ (M10.1 83 32 : Int32).toNatClampNeg
                  · rw [if_pos q17] at h
                    cases h
                  · rw [if_neg q17] at h
                    refine pe_iasti mm_43 rfl rfl (by decide) q17 rfl ?_
                    refine pe_blk mm_43 1 (s' := (165, [some (.ref 83), some (.int a0), some (.int ((m_i M 83 27 ((M.1 83 27) - 1)).1 104 ((m_i M 83 27 ((M.1 83 27) - 1)).1 83 27 : Int32).toNatClampNeg)), some (.int ((m_i M 83 27 ((M.1 83 27) - 1)).1 83 5)), some (.int v9), some (.int (M10.1 83 32))], [.ref 83], _, _, _)) rfl ?_
                    refine pe_get mm_43 rfl rfl rfl (by decide) rfl ?_
                    refine pe_blk mm_43 4 (s' := (176, [some (.ref 83), some (.int a0), some (.int ((m_i M 83 27 ((M.1 83 27) - 1)).1 104 ((m_i M 83 27 ((M.1 83 27) - 1)).1 83 27 : Int32).toNatClampNeg)), some (.int ((m_i M 83 27 ((M.1 83 27) - 1)).1 83 5)), some (.int v9), some (.int (M10.1 83 32))], [.int (v9 / 256), .int (M10.1 83 32), .ref 100], _, _, _)) rfl ?_
                    by_cases q18 : (M10.1 83 32) < 0 ∨ 128 ≤ (M10.1 83 32 : Int32).toNatClampNeg
                    · rw [if_pos q18] at h
                      cases h
                    · rw [if_neg q18] at h
                      refine pe_iasti mm_43 rfl rfl (by decide) q18 rfl ?_
                      refine pe_blk mm_43 1 (s' := (178, [some (.ref 83), some (.int a0), some (.int ((m_i M 83 27 ((M.1 83 27) - 1)).1 104 ((m_i M 83 27 ((M.1 83 27) - 1)).1 83 27 : Int32).toNatClampNeg)), some (.int ((m_i M 83 27 ((M.1 83 27) - 1)).1 83 5)), some (.int v9), some (.int (M10.1 83 32))], [.ref 83], _, _, _)) rfl ?_
                      refine pe_get mm_43 rfl rfl rfl (by decide) rfl ?_
                      refine pe_blk mm_43 2 (s' := (184, [some (.ref 83), some (.int a0), some (.int ((m_i M 83 27 ((M.1 83 27) - 1)).1 104 ((m_i M 83 27 ((M.1 83 27) - 1)).1 83 27 : Int32).toNatClampNeg)), some (.int ((m_i M 83 27 ((M.1 83 27) - 1)).1 83 5)), some (.int v9), some (.int (M10.1 83 32))], [.int (M10.1 83 32), .int ((m_i M 83 27 ((M.1 83 27) - 1)).1 104 ((m_i M 83 27 ((M.1 83 27) - 1)).1 83 27 : Int32).toNatClampNeg), .ref 99], _, _, _)) rfl ?_
                      by_cases q19 : ((m_i M 83 27 ((M.1 83 27) - 1)).1 104 ((m_i M 83 27 ((M.1 83 27) - 1)).1 83 27 : Int32).toNatClampNeg) < 0 ∨ 128 ≤ ((m_i M 83 27 ((M.1 83 27) - 1)).1 104 ((m_i M 83 27 ((M.1 83 27) - 1)).1 83 27 : Int32).toNatClampNeg : Int32).toNatClampNeg
                      · rw [if_pos q19] at h
                        cases h
                      · rw [if_neg q19] at h
                        refine pe_iasti mm_43 rfl rfl (by decide) q19 rfl ?_
                        exact J43_185_ev sc n (e1 + 1) he _ _ _ _ _ _ _ _ _ h
              · rw [if_neg q13] at h
                refine pe_blk mm_43 1 (s' := (if a0 = 0 then 150 else 82, [some (.ref 83), some (.int a0), some (.int ((m_i M 83 27 ((M.1 83 27) - 1)).1 104 ((m_i M 83 27 ((M.1 83 27) - 1)).1 83 27 : Int32).toNatClampNeg)), some (.int ((m_i M 83 27 ((M.1 83 27) - 1)).1 83 5)), some (.int v9), some (.int (M10.1 83 32))], [], _, _, _)) rfl ?_
                rw [if_neg q13]
                refine pe_blk mm_43 6 (s' := (91, [some (.ref 83), some (.int a0), some (.int ((m_i M 83 27 ((M.1 83 27) - 1)).1 104 ((m_i M 83 27 ((M.1 83 27) - 1)).1 83 27 : Int32).toNatClampNeg)), some (.int ((m_i M 83 27 ((M.1 83 27) - 1)).1 83 5)), some (.int v9), some (.int (M10.1 83 32))], [.int (v9 - v9 / 256 * 256), .int 0, .int 5, .ref 83], _, _, _)) rfl ?_
                skip
                cases hc22 : F35 n 5 0 (v9 - v9 / 256 * 256) M10 with
                | none => rw [hc22] at h; cases h
                | some w =>
                  obtain ⟨v20, M21⟩ := w
                  rw [hc22] at h
                  dsimp only at h
                  refine pe_virt (al := [.int (v9 - v9 / 256 * 256), .int 0, .int 5]) (a := 83) (L0 := [some (.ref 83), some (.int 5), some (.int 0), some (.int (v9 - v9 / 256 * 256))]) (r1 := (none, 129, 17845, hp M21)) mm_43 rfl rfl rfl mm_35 rfl (by decide) (by decide) rfl (Nat.le_of_ble_eq_true rfl) (Nat.le_of_ble_eq_true rfl) rfl rfl (F35_ev sc n 5 0 (v9 - v9 / 256 * 256) _ e1 (by omega) _ _ hc22) ?_
                  show pm_ev _ _ _ _ _ (94, [some (.ref 83), some (.int a0), some (.int ((m_i M 83 27 ((M.1 83 27) - 1)).1 104 ((m_i M 83 27 ((M.1 83 27) - 1)).1 83 27 : Int32).toNatClampNeg)), some (.int ((m_i M 83 27 ((M.1 83 27) - 1)).1 83 5)), some (.int v9), some (.int (M10.1 83 32))], [], _, _, _) _
                  refine pe_blk mm_43 1 (s' := (95, [some (.ref 83), some (.int a0), some (.int ((m_i M 83 27 ((M.1 83 27) - 1)).1 104 ((m_i M 83 27 ((M.1 83 27) - 1)).1 83 27 : Int32).toNatClampNeg)), some (.int ((m_i M 83 27 ((M.1 83 27) - 1)).1 83 5)), some (.int v9), some (.int (M10.1 83 32))], [.ref 83], _, _, _)) rfl ?_
                  refine pe_get mm_43 rfl rfl rfl (by decide) rfl ?_
                  refine pe_blk mm_43 2 (s' := (101, [some (.ref 83), some (.int a0), some (.int ((m_i M 83 27 ((M.1 83 27) - 1)).1 104 ((m_i M 83 27 ((M.1 83 27) - 1)).1 83 27 : Int32).toNatClampNeg)), some (.int ((m_i M 83 27 ((M.1 83 27) - 1)).1 83 5)), some (.int v9), some (.int (M10.1 83 32))], [.int ((m_i M 83 27 ((M.1 83 27) - 1)).1 104 ((m_i M 83 27 ((M.1 83 27) - 1)).1 83 27 : Int32).toNatClampNeg), .int (M10.1 83 32), .ref 92], _, _, _)) rfl ?_
                  by_cases q23 : (M10.1 83 32) < 0 ∨ 128 ≤ (M10.1 83 32 : Int32).toNatClampNeg
                  · rw [if_pos q23] at h
                    cases h
                  · rw [if_neg q23] at h
                    refine pe_iasti mm_43 rfl rfl (by decide) q23 rfl ?_
                    refine pe_blk mm_43 1 (s' := (103, [some (.ref 83), some (.int a0), some (.int ((m_i M 83 27 ((M.1 83 27) - 1)).1 104 ((m_i M 83 27 ((M.1 83 27) - 1)).1 83 27 : Int32).toNatClampNeg)), some (.int ((m_i M 83 27 ((M.1 83 27) - 1)).1 83 5)), some (.int v9), some (.int (M10.1 83 32))], [.ref 83], _, _, _)) rfl ?_
                    refine pe_get mm_43 rfl rfl rfl (by decide) rfl ?_
                    refine pe_blk mm_43 4 (s' := (114, [some (.ref 83), some (.int a0), some (.int ((m_i M 83 27 ((M.1 83 27) - 1)).1 104 ((m_i M 83 27 ((M.1 83 27) - 1)).1 83 27 : Int32).toNatClampNeg)), some (.int ((m_i M 83 27 ((M.1 83 27) - 1)).1 83 5)), some (.int v9), some (.int (M10.1 83 32))], [.int (v9 / 256), .int (M10.1 83 32), .ref 93], _, _, _)) rfl ?_
                    by_cases q24 : (M10.1 83 32) < 0 ∨ 128 ≤ (M10.1 83 32 : Int32).toNatClampNeg
                    · rw [if_pos q24] at h
                      cases h
                    · rw [if_neg q24] at h
                      refine pe_iasti mm_43 rfl rfl (by decide) q24 rfl ?_
                      refine pe_blk mm_43 1 (s' := (116, [some (.ref 83), some (.int a0), some (.int ((m_i M 83 27 ((M.1 83 27) - 1)).1 104 ((m_i M 83 27 ((M.1 83 27) - 1)).1 83 27 : Int32).toNatClampNeg)), some (.int ((m_i M 83 27 ((M.1 83 27) - 1)).1 83 5)), some (.int v9), some (.int (M10.1 83 32))], [.ref 83], _, _, _)) rfl ?_
                      refine pe_get mm_43 rfl rfl rfl (by decide) rfl ?_
                      refine pe_blk mm_43 2 (s' := (122, [some (.ref 83), some (.int a0), some (.int ((m_i M 83 27 ((M.1 83 27) - 1)).1 104 ((m_i M 83 27 ((M.1 83 27) - 1)).1 83 27 : Int32).toNatClampNeg)), some (.int ((m_i M 83 27 ((M.1 83 27) - 1)).1 83 5)), some (.int v9), some (.int (M10.1 83 32))], [.int (M10.1 83 32), .int ((m_i M 83 27 ((M.1 83 27) - 1)).1 104 ((m_i M 83 27 ((M.1 83 27) - 1)).1 83 27 : Int32).toNatClampNeg), .ref 92], _, _, _)) rfl ?_
                      by_cases q25 : ((m_i M 83 27 ((M.1 83 27) - 1)).1 104 ((m_i M 83 27 ((M.1 83 27) - 1)).1 83 27 : Int32).toNatClampNeg) < 0 ∨ 128 ≤ ((m_i M 83 27 ((M.1 83 27) - 1)).1 104 ((m_i M 83 27 ((M.1 83 27) - 1)).1 83 27 : Int32).toNatClampNeg : Int32).toNatClampNeg
                      · rw [if_pos q25] at h
                        cases h
                      · rw [if_neg q25] at h
                        refine pe_iasti mm_43 rfl rfl (by decide) q25 rfl ?_
                        refine pe_blk mm_43 1 (s' := (124, [some (.ref 83), some (.int a0), some (.int ((m_i M 83 27 ((M.1 83 27) - 1)).1 104 ((m_i M 83 27 ((M.1 83 27) - 1)).1 83 27 : Int32).toNatClampNeg)), some (.int ((m_i M 83 27 ((M.1 83 27) - 1)).1 83 5)), some (.int v9), some (.int (M10.1 83 32))], [.ref 83], _, _, _)) rfl ?_
                        refine pe_get mm_43 rfl rfl rfl (by decide) rfl ?_
                        refine pe_blk mm_43 4 (s' := (134, [some (.ref 83), some (.int a0), some (.int ((m_i M 83 27 ((M.1 83 27) - 1)).1 104 ((m_i M 83 27 ((M.1 83 27) - 1)).1 83 27 : Int32).toNatClampNeg)), some (.int ((m_i M 83 27 ((M.1 83 27) - 1)).1 83 5)), some (.int v9), some (.int (M10.1 83 32))], [.int (v9 / 256), .int ((m_i M 83 27 ((M.1 83 27) - 1)).1 104 ((m_i M 83 27 ((M.1 83 27) - 1)).1 83 27 : Int32).toNatClampNeg), .ref 93], _, _, _)) rfl ?_
                        by_cases q26 : ((m_i M 83 27 ((M.1 83 27) - 1)).1 104 ((m_i M 83 27 ((M.1 83 27) - 1)).1 83 27 : Int32).toNatClampNeg) < 0 ∨ 128 ≤ ((m_i M 83 27 ((M.1 83 27) - 1)).1 104 ((m_i M 83 27 ((M.1 83 27) - 1)).1 83 27 : Int32).toNatClampNeg : Int32).toNatClampNeg
                        · rw [if_pos q26] at h
                          cases h
                        · rw [if_neg q26] at h
                          refine pe_iasti mm_43 rfl rfl (by decide) q26 rfl ?_
                          refine pe_blk mm_43 1 (s' := (136, [some (.ref 83), some (.int a0), some (.int ((m_i M 83 27 ((M.1 83 27) - 1)).1 104 ((m_i M 83 27 ((M.1 83 27) - 1)).1 83 27 : Int32).toNatClampNeg)), some (.int ((m_i M 83 27 ((M.1 83 27) - 1)).1 83 5)), some (.int v9), some (.int (M10.1 83 32))], [.ref 83], _, _, _)) rfl ?_
                          refine pe_get mm_43 rfl rfl rfl (by decide) rfl ?_
                          refine pe_blk mm_43 4 (s' := (146, [some (.ref 83), some (.int a0), some (.int ((m_i M 83 27 ((M.1 83 27) - 1)).1 104 ((m_i M 83 27 ((M.1 83 27) - 1)).1 83 27 : Int32).toNatClampNeg)), some (.int ((m_i M 83 27 ((M.1 83 27) - 1)).1 83 5)), some (.int v9), some (.int (M10.1 83 32))], [.int (v9 - v9 / 256 * 256), .int ((m_i M 83 27 ((M.1 83 27) - 1)).1 104 ((m_i M 83 27 ((M.1 83 27) - 1)).1 83 27 : Int32).toNatClampNeg), .ref 94], _, _, _)) rfl ?_
                          by_cases q27 : ((m_i M 83 27 ((M.1 83 27) - 1)).1 104 ((m_i M 83 27 ((M.1 83 27) - 1)).1 83 27 : Int32).toNatClampNeg) < 0 ∨ 128 ≤ ((m_i M 83 27 ((M.1 83 27) - 1)).1 104 ((m_i M 83 27 ((M.1 83 27) - 1)).1 83 27 : Int32).toNatClampNeg : Int32).toNatClampNeg
                          · rw [if_pos q27] at h
                            cases h
                          · rw [if_neg q27] at h
                            refine pe_iasti mm_43 rfl rfl (by decide) q27 rfl ?_
                            refine pe_blk mm_43 1 (s' := (185, [some (.ref 83), some (.int a0), some (.int ((m_i M 83 27 ((M.1 83 27) - 1)).1 104 ((m_i M 83 27 ((M.1 83 27) - 1)).1 83 27 : Int32).toNatClampNeg)), some (.int ((m_i M 83 27 ((M.1 83 27) - 1)).1 83 5)), some (.int v9), some (.int (M10.1 83 32))], [], _, _, _)) rfl ?_
                            exact J43_185_ev sc n (e1 + 1) he _ _ _ _ _ _ _ _ _ h
            · rw [if_neg q12] at h
              refine pe_blk mm_43 1 (s' := (if 0 ≤ v9 then 72 else 70, [some (.ref 83), some (.int a0), some (.int ((m_i M 83 27 ((M.1 83 27) - 1)).1 104 ((m_i M 83 27 ((M.1 83 27) - 1)).1 83 27 : Int32).toNatClampNeg)), some (.int ((m_i M 83 27 ((M.1 83 27) - 1)).1 83 5)), some (.int v9), none], [], _, _, _)) rfl ?_
              rw [if_neg q12]
              refine pe_blk mm_43 1 (s' := (71, [some (.ref 83), some (.int a0), some (.int ((m_i M 83 27 ((M.1 83 27) - 1)).1 104 ((m_i M 83 27 ((M.1 83 27) - 1)).1 83 27 : Int32).toNatClampNeg)), some (.int ((m_i M 83 27 ((M.1 83 27) - 1)).1 83 5)), some (.int v9), none], [.int 0], _, _, _)) rfl ?_
              cases h
              exact pe_ret mm_43 rfl rfl
      · rw [if_neg q5] at h
        refine pe_blk mm_43 1 (s' := (if 0 ≤ ((m_i M 83 27 ((M.1 83 27) - 1)).1 104 ((m_i M 83 27 ((M.1 83 27) - 1)).1 83 27 : Int32).toNatClampNeg) then 55 else 33, [some (.ref 83), some (.int a0), some (.int ((m_i M 83 27 ((M.1 83 27) - 1)).1 104 ((m_i M 83 27 ((M.1 83 27) - 1)).1 83 27 : Int32).toNatClampNeg)), some (.int ((m_i M 83 27 ((M.1 83 27) - 1)).1 83 5)), none, none], [], _, _, _)) rfl ?_
        rw [if_neg q5]
        refine pe_blk mm_43 1 (s' := (34, [some (.ref 83), some (.int a0), some (.int ((m_i M 83 27 ((M.1 83 27) - 1)).1 104 ((m_i M 83 27 ((M.1 83 27) - 1)).1 83 27 : Int32).toNatClampNeg)), some (.int ((m_i M 83 27 ((M.1 83 27) - 1)).1 83 5)), none, none], [.int a0], _, _, _)) rfl ?_
        by_cases q28 : a0 = 0
        · rw [if_pos q28] at h
          refine pe_blk mm_43 1 (s' := (if a0 = 0 then 47 else 37, [some (.ref 83), some (.int a0), some (.int ((m_i M 83 27 ((M.1 83 27) - 1)).1 104 ((m_i M 83 27 ((M.1 83 27) - 1)).1 83 27 : Int32).toNatClampNeg)), some (.int ((m_i M 83 27 ((M.1 83 27) - 1)).1 83 5)), none, none], [], _, _, _)) rfl ?_
          rw [if_pos q28]
          refine pe_blk mm_43 3 (s' := (50, [some (.ref 83), some (.int a0), some (.int ((m_i M 83 27 ((M.1 83 27) - 1)).1 104 ((m_i M 83 27 ((M.1 83 27) - 1)).1 83 27 : Int32).toNatClampNeg)), some (.int ((m_i M 83 27 ((M.1 83 27) - 1)).1 83 5)), none, none], [.int ((m_i M 83 27 ((M.1 83 27) - 1)).1 83 5), .int 0, .ref 83], _, _, _)) rfl ?_
          skip
          cases hc31 : F36 n 0 ((m_i M 83 27 ((M.1 83 27) - 1)).1 83 5) M3 with
          | none => rw [hc31] at h; cases h
          | some w =>
            obtain ⟨v29, M30⟩ := w
            rw [hc31] at h
            dsimp only at h
            refine pe_virt (al := [.int ((m_i M 83 27 ((M.1 83 27) - 1)).1 83 5), .int 0]) (a := 83) (L0 := [some (.ref 83), some (.int 0), some (.int ((m_i M 83 27 ((M.1 83 27) - 1)).1 83 5))]) (r1 := (none, 129, 17845, hp M30)) mm_43 rfl rfl rfl mm_36 rfl (by decide) (by decide) rfl (Nat.le_of_ble_eq_true rfl) (Nat.le_of_ble_eq_true rfl) rfl rfl (F36_ev sc n 0 ((m_i M 83 27 ((M.1 83 27) - 1)).1 83 5) _ e1 (by omega) _ _ hc31) ?_
            show pm_ev _ _ _ _ _ (53, [some (.ref 83), some (.int a0), some (.int ((m_i M 83 27 ((M.1 83 27) - 1)).1 104 ((m_i M 83 27 ((M.1 83 27) - 1)).1 83 27 : Int32).toNatClampNeg)), some (.int ((m_i M 83 27 ((M.1 83 27) - 1)).1 83 5)), none, none], [], _, _, _) _
            exact J43_53_ev sc n (e1 + 1) he _ _ _ _ _ _ _ _ _ h
        · rw [if_neg q28] at h
          refine pe_blk mm_43 1 (s' := (if a0 = 0 then 47 else 37, [some (.ref 83), some (.int a0), some (.int ((m_i M 83 27 ((M.1 83 27) - 1)).1 104 ((m_i M 83 27 ((M.1 83 27) - 1)).1 83 27 : Int32).toNatClampNeg)), some (.int ((m_i M 83 27 ((M.1 83 27) - 1)).1 83 5)), none, none], [], _, _, _)) rfl ?_
          rw [if_neg q28]
          refine pe_blk mm_43 4 (s' := (41, [some (.ref 83), some (.int a0), some (.int ((m_i M 83 27 ((M.1 83 27) - 1)).1 104 ((m_i M 83 27 ((M.1 83 27) - 1)).1 83 27 : Int32).toNatClampNeg)), some (.int ((m_i M 83 27 ((M.1 83 27) - 1)).1 83 5)), none, none], [.int 0, .int ((m_i M 83 27 ((M.1 83 27) - 1)).1 83 5), .int 2, .ref 83], _, _, _)) rfl ?_
          skip
          cases hc34 : F35 n 2 ((m_i M 83 27 ((M.1 83 27) - 1)).1 83 5) 0 M3 with
          | none => rw [hc34] at h; cases h
          | some w =>
            obtain ⟨v32, M33⟩ := w
            rw [hc34] at h
            dsimp only at h
            refine pe_virt (al := [.int 0, .int ((m_i M 83 27 ((M.1 83 27) - 1)).1 83 5), .int 2]) (a := 83) (L0 := [some (.ref 83), some (.int 2), some (.int ((m_i M 83 27 ((M.1 83 27) - 1)).1 83 5)), some (.int 0)]) (r1 := (none, 129, 17845, hp M33)) mm_43 rfl rfl rfl mm_35 rfl (by decide) (by decide) rfl (Nat.le_of_ble_eq_true rfl) (Nat.le_of_ble_eq_true rfl) rfl rfl (F35_ev sc n 2 ((m_i M 83 27 ((M.1 83 27) - 1)).1 83 5) 0 _ e1 (by omega) _ _ hc34) ?_
            show pm_ev _ _ _ _ _ (44, [some (.ref 83), some (.int a0), some (.int ((m_i M 83 27 ((M.1 83 27) - 1)).1 104 ((m_i M 83 27 ((M.1 83 27) - 1)).1 83 27 : Int32).toNatClampNeg)), some (.int ((m_i M 83 27 ((M.1 83 27) - 1)).1 83 5)), none, none], [], _, _, _) _
            refine pe_blk mm_43 1 (s' := (53, [some (.ref 83), some (.int a0), some (.int ((m_i M 83 27 ((M.1 83 27) - 1)).1 104 ((m_i M 83 27 ((M.1 83 27) - 1)).1 83 27 : Int32).toNatClampNeg)), some (.int ((m_i M 83 27 ((M.1 83 27) - 1)).1 83 5)), none, none], [], _, _, _)) rfl ?_
            exact J43_53_ev sc n (e1 + 1) he _ _ _ _ _ _ _ _ _ h
def J44_276 (n : Nat) (M : Mem) : Option (Int32 × Mem) :=
  some (1, M)
set_option maxRecDepth 100000 in
set_option maxHeartbeats 4000000 in
theorem J44_276_ev (sc : Option (Nat × (Nat → Int32))) (n : Nat)  (e : Nat) (he : 7 ≤ e) : ∀ (u0 : Option Value) (u1 : Option Value) (u2 : Option Value) (u3 : Option Value) (u4 : Option Value) (M : Mem) (r : Int32) (M' : Mem), J44_276 n  M = some (r, M') → pm_ev pmT sc e 44 false (276, [u0, u1, u2, u3, u4], [], 129, 17845, hp M) (some (.int r), 129, 17845, hp M') := by
  intro u0 u1 u2 u3 u4 M r M' h
  unfold J44_276 at h
  refine pe_blk mm_44 1 (s' := (277, [u0, u1, u2, u3, u4], [.int 1], _, _, _)) rfl ?_
  cases h
  exact pe_ret mm_44 rfl rfl
def J44_59 (n : Nat) (M : Mem) : Option (Int32 × Mem) :=
  match F29 n M with | some (v14, M15) => (if v14 = 0 ∨ v14 = 1 then some (v14, M15) else none) | none => none
set_option maxRecDepth 100000 in
set_option maxHeartbeats 4000000 in
theorem J44_59_ev (sc : Option (Nat × (Nat → Int32))) (n : Nat)  (e : Nat) (he : 7 ≤ e) : ∀ (u1 : Option Value) (u2 : Option Value) (u3 : Option Value) (u4 : Option Value) (M : Mem) (r : Int32) (M' : Mem), J44_59 n  M = some (r, M') → pm_ev pmT sc e 44 false (59, [some (.ref 83), u1, u2, u3, u4], [], 129, 17845, hp M) (some (.int r), 129, 17845, hp M') := by
  intro u1 u2 u3 u4 M r M' h
  unfold J44_59 at h
  refine pe_blk mm_44 1 (s' := (60, [some (.ref 83), u1, u2, u3, u4], [.ref 83], _, _, _)) rfl ?_
  obtain ⟨e1, rfl⟩ : ∃ e1, e = e1 + 1 := ⟨e - 1, by omega⟩
  cases hc16 : F29 n M with
  | none => rw [hc16] at h; cases h
  | some w =>
    obtain ⟨v14, M15⟩ := w
    rw [hc16] at h
    dsimp only at h
    refine pe_virt (al := []) (a := 83) (L0 := [some (.ref 83)]) (r1 := (some (.int v14), 129, 17845, hp M15)) mm_44 rfl rfl rfl mm_29 rfl (by decide) (by decide) rfl (Nat.le_of_ble_eq_true rfl) (Nat.le_of_ble_eq_true rfl) rfl rfl (F29_ev sc n _ e1 (by omega) _ _ hc16) ?_
    show pm_ev _ _ _ _ _ (63, [some (.ref 83), u1, u2, u3, u4], [.int v14], _, _, _) _
    by_cases q17 : v14 = 0 ∨ v14 = 1
    · rw [if_pos q17] at h
      cases h
      exact pe_ret mm_44 rfl (if_pos q17)
    · rw [if_neg q17] at h
      cases h
def J44_140 (n : Nat) (rec39 : Int32 → Int32 → Int32 → Mem → Option (Int32 × Mem)) (x1 : Int32) (x2 : Int32) (x3 : Int32) (M : Mem) : Option (Int32 × Mem) :=
  rec39 x1 x2 x3 M
set_option maxRecDepth 100000 in
set_option maxHeartbeats 4000000 in
theorem J44_140_ev (sc : Option (Nat × (Nat → Int32))) (n : Nat)  (e : Nat) (he : 7 ≤ e) (rec39 : Int32 → Int32 → Int32 → Mem → Option (Int32 × Mem)) (hr39 : ∀ (x1 : Int32) (x2 : Int32) (x3 : Int32) (u4 : Option Value) (M : Mem) (r : Int32) (M' : Mem), rec39 x1 x2 x3 M = some (r, M') → pm_ev pmT sc e 44 false (39, [some (.ref 83), some (.int x1), some (.int x2), some (.int x3), u4], [], 129, 17845, hp M) (some (.int r), 129, 17845, hp M')) : ∀ (x1 : Int32) (x2 : Int32) (x3 : Int32) (u4 : Option Value) (M : Mem) (r : Int32) (M' : Mem), J44_140 n rec39 x1 x2 x3 M = some (r, M') → pm_ev pmT sc e 44 false (140, [some (.ref 83), some (.int x1), some (.int x2), some (.int x3), u4], [], 129, 17845, hp M) (some (.int r), 129, 17845, hp M') := by
  intro x1 x2 x3 u4 M r M' h
  unfold J44_140 at h
  refine pe_blk mm_44 1 (s' := (39, [some (.ref 83), some (.int x1), some (.int x2), some (.int x3), u4], [], _, _, _)) rfl ?_
  exact hr39 x1 x2 x3 _ _ _ _ h
def J44_125 (n : Nat) (rec39 : Int32 → Int32 → Int32 → Mem → Option (Int32 × Mem)) (x1 : Int32) (x2 : Int32) (s0 : Int32) (M : Mem) : Option (Int32 × Mem) :=
  if s0 = 0 then (J44_140 n rec39 x1 x2 s0 M) else (match F43 n x1 M with | some (v24, M25) => (if v24 = 0 then (some (0, M25)) else (J44_140 n rec39 x1 x2 s0 M25)) | none => none)
set_option maxRecDepth 100000 in
set_option maxHeartbeats 4000000 in
theorem J44_125_ev (sc : Option (Nat × (Nat → Int32))) (n : Nat)  (e : Nat) (he : 7 ≤ e) (rec39 : Int32 → Int32 → Int32 → Mem → Option (Int32 × Mem)) (hr39 : ∀ (x1 : Int32) (x2 : Int32) (x3 : Int32) (u4 : Option Value) (M : Mem) (r : Int32) (M' : Mem), rec39 x1 x2 x3 M = some (r, M') → pm_ev pmT sc e 44 false (39, [some (.ref 83), some (.int x1), some (.int x2), some (.int x3), u4], [], 129, 17845, hp M) (some (.int r), 129, 17845, hp M')) : ∀ (x1 : Int32) (x2 : Int32) (s0 : Int32) (u3 : Option Value) (u4 : Option Value) (M : Mem) (r : Int32) (M' : Mem), J44_125 n rec39 x1 x2 s0 M = some (r, M') → pm_ev pmT sc e 44 false (125, [some (.ref 83), some (.int x1), some (.int x2), u3, u4], [.int s0], 129, 17845, hp M) (some (.int r), 129, 17845, hp M') := by
  intro x1 x2 s0 u3 u4 M r M' h
  unfold J44_125 at h
  refine pe_blk mm_44 2 (s' := (127, [some (.ref 83), some (.int x1), some (.int x2), some (.int s0), u4], [.int s0], _, _, _)) rfl ?_
  by_cases q23 : s0 = 0
  · rw [if_pos q23] at h
    refine pe_blk mm_44 1 (s' := (if s0 = 0 then 140 else 130, [some (.ref 83), some (.int x1), some (.int x2), some (.int s0), u4], [], _, _, _)) rfl ?_
    rw [if_pos q23]
    exact J44_140_ev sc n e he rec39 hr39 x1 x2 s0 _ _ _ _ h
  · rw [if_neg q23] at h
    refine pe_blk mm_44 1 (s' := (if s0 = 0 then 140 else 130, [some (.ref 83), some (.int x1), some (.int x2), some (.int s0), u4], [], _, _, _)) rfl ?_
    rw [if_neg q23]
    refine pe_blk mm_44 2 (s' := (132, [some (.ref 83), some (.int x1), some (.int x2), some (.int s0), u4], [.int x1, .ref 83], _, _, _)) rfl ?_
    obtain ⟨e1, rfl⟩ : ∃ e1, e = e1 + 1 := ⟨e - 1, by omega⟩
    cases hc26 : F43 n x1 M with
    | none => rw [hc26] at h; cases h
    | some w =>
      obtain ⟨v24, M25⟩ := w
      rw [hc26] at h
      dsimp only at h
      refine pe_virt (al := [.int x1]) (a := 83) (L0 := [some (.ref 83), some (.int x1), none, none, none, none]) (r1 := (some (.int v24), 129, 17845, hp M25)) mm_44 rfl rfl rfl mm_43 rfl (by decide) (by decide) rfl (Nat.le_of_ble_eq_true rfl) (Nat.le_of_ble_eq_true rfl) rfl rfl (F43_ev sc n x1 _ e1 (by omega) _ _ hc26) ?_
      show pm_ev _ _ _ _ _ (135, [some (.ref 83), some (.int x1), some (.int x2), some (.int s0), u4], [.int v24], _, _, _) _
      by_cases q27 : v24 = 0
      · rw [if_pos q27] at h
        refine pe_blk mm_44 1 (s' := (if v24 = 0 then 138 else 140, [some (.ref 83), some (.int x1), some (.int x2), some (.int s0), u4], [], _, _, _)) rfl ?_
        rw [if_pos q27]
        refine pe_blk mm_44 1 (s' := (139, [some (.ref 83), some (.int x1), some (.int x2), some (.int s0), u4], [.int 0], _, _, _)) rfl ?_
        cases h
        exact pe_ret mm_44 rfl rfl
      · rw [if_neg q27] at h
        refine pe_blk mm_44 1 (s' := (if v24 = 0 then 138 else 140, [some (.ref 83), some (.int x1), some (.int x2), some (.int s0), u4], [], _, _, _)) rfl ?_
        rw [if_neg q27]
        exact J44_140_ev sc n (e1 + 1) he rec39 hr39 x1 x2 s0 _ _ _ _ h
def J44_97 (n : Nat) (rec39 : Int32 → Int32 → Int32 → Mem → Option (Int32 × Mem)) (x1 : Int32) (x2 : Int32) (s0 : Int32) (M : Mem) : Option (Int32 × Mem) :=
  if (M.1 83 5) = s0 then (if (M.1 83 27) ≤ 0 then (J44_125 n rec39 x1 x2 0 M) else (J44_125 n rec39 x1 x2 1 M)) else (match F29 n M with | some (v28, M29) => (if v28 = 0 ∨ v28 = 1 then some (v28, M29) else none) | none => none)
set_option maxRecDepth 100000 in
set_option maxHeartbeats 4000000 in
theorem J44_97_ev (sc : Option (Nat × (Nat → Int32))) (n : Nat)  (e : Nat) (he : 7 ≤ e) (rec39 : Int32 → Int32 → Int32 → Mem → Option (Int32 × Mem)) (hr39 : ∀ (x1 : Int32) (x2 : Int32) (x3 : Int32) (u4 : Option Value) (M : Mem) (r : Int32) (M' : Mem), rec39 x1 x2 x3 M = some (r, M') → pm_ev pmT sc e 44 false (39, [some (.ref 83), some (.int x1), some (.int x2), some (.int x3), u4], [], 129, 17845, hp M) (some (.int r), 129, 17845, hp M')) : ∀ (x1 : Int32) (x2 : Int32) (s0 : Int32) (u3 : Option Value) (u4 : Option Value) (M : Mem) (r : Int32) (M' : Mem), J44_97 n rec39 x1 x2 s0 M = some (r, M') → pm_ev pmT sc e 44 false (97, [some (.ref 83), some (.int x1), some (.int x2), u3, u4], [.int s0], 129, 17845, hp M) (some (.int r), 129, 17845, hp M') := by
  intro x1 x2 s0 u3 u4 M r M' h
  unfold J44_97 at h
  refine pe_blk mm_44 2 (s' := (100, [some (.ref 83), some (.int x1), some (.int x2), u3, some (.int s0)], [.ref 83], _, _, _)) rfl ?_
  refine pe_get mm_44 rfl rfl rfl (by decide) rfl ?_
  refine pe_blk mm_44 1 (s' := (105, [some (.ref 83), some (.int x1), some (.int x2), u3, some (.int s0)], [.int s0, .int (M.1 83 5)], _, _, _)) rfl ?_
  by_cases q21 : (M.1 83 5) = s0
  · rw [if_pos q21] at h
    refine pe_blk mm_44 1 (s' := (if (M.1 83 5) = s0 then 113 else 108, [some (.ref 83), some (.int x1), some (.int x2), u3, some (.int s0)], [], _, _, _)) rfl ?_
    rw [if_pos q21]
    refine pe_blk mm_44 1 (s' := (114, [some (.ref 83), some (.int x1), some (.int x2), u3, some (.int s0)], [.ref 83], _, _, _)) rfl ?_
    refine pe_get mm_44 rfl rfl rfl (by decide) rfl ?_
    by_cases q22 : (M.1 83 27) ≤ 0
    · rw [if_pos q22] at h
      refine pe_blk mm_44 1 (s' := (if (M.1 83 27) ≤ 0 then 124 else 120, [some (.ref 83), some (.int x1), some (.int x2), u3, some (.int s0)], [], _, _, _)) rfl ?_
      rw [if_pos q22]
      refine pe_blk mm_44 1 (s' := (125, [some (.ref 83), some (.int x1), some (.int x2), u3, some (.int s0)], [.int 0], _, _, _)) rfl ?_
      exact J44_125_ev sc n e he rec39 hr39 x1 x2 0 _ _ _ _ _ h
    · rw [if_neg q22] at h
      refine pe_blk mm_44 1 (s' := (if (M.1 83 27) ≤ 0 then 124 else 120, [some (.ref 83), some (.int x1), some (.int x2), u3, some (.int s0)], [], _, _, _)) rfl ?_
      rw [if_neg q22]
      refine pe_blk mm_44 2 (s' := (125, [some (.ref 83), some (.int x1), some (.int x2), u3, some (.int s0)], [.int 1], _, _, _)) rfl ?_
      exact J44_125_ev sc n e he rec39 hr39 x1 x2 1 _ _ _ _ _ h
  · rw [if_neg q21] at h
    refine pe_blk mm_44 1 (s' := (if (M.1 83 5) = s0 then 113 else 108, [some (.ref 83), some (.int x1), some (.int x2), u3, some (.int s0)], [], _, _, _)) rfl ?_
    rw [if_neg q21]
    refine pe_blk mm_44 1 (s' := (109, [some (.ref 83), some (.int x1), some (.int x2), u3, some (.int s0)], [.ref 83], _, _, _)) rfl ?_
    obtain ⟨e1, rfl⟩ : ∃ e1, e = e1 + 1 := ⟨e - 1, by omega⟩
    cases hc30 : F29 n M with
    | none => rw [hc30] at h; cases h
    | some w =>
      obtain ⟨v28, M29⟩ := w
      rw [hc30] at h
      dsimp only at h
      refine pe_virt (al := []) (a := 83) (L0 := [some (.ref 83)]) (r1 := (some (.int v28), 129, 17845, hp M29)) mm_44 rfl rfl rfl mm_29 rfl (by decide) (by decide) rfl (Nat.le_of_ble_eq_true rfl) (Nat.le_of_ble_eq_true rfl) rfl rfl (F29_ev sc n _ e1 (by omega) _ _ hc30) ?_
      show pm_ev _ _ _ _ _ (112, [some (.ref 83), some (.int x1), some (.int x2), u3, some (.int s0)], [.int v28], _, _, _) _
      by_cases q31 : v28 = 0 ∨ v28 = 1
      · rw [if_pos q31] at h
        cases h
        exact pe_ret mm_44 rfl (if_pos q31)
      · rw [if_neg q31] at h
        cases h
def J44_212 (n : Nat) (rec39 : Int32 → Int32 → Int32 → Mem → Option (Int32 × Mem)) (x1 : Int32) (x2 : Int32) (x3 : Int32) (M : Mem) : Option (Int32 × Mem) :=
  rec39 x1 x2 x3 M
set_option maxRecDepth 100000 in
set_option maxHeartbeats 4000000 in
theorem J44_212_ev (sc : Option (Nat × (Nat → Int32))) (n : Nat)  (e : Nat) (he : 7 ≤ e) (rec39 : Int32 → Int32 → Int32 → Mem → Option (Int32 × Mem)) (hr39 : ∀ (x1 : Int32) (x2 : Int32) (x3 : Int32) (u4 : Option Value) (M : Mem) (r : Int32) (M' : Mem), rec39 x1 x2 x3 M = some (r, M') → pm_ev pmT sc e 44 false (39, [some (.ref 83), some (.int x1), some (.int x2), some (.int x3), u4], [], 129, 17845, hp M) (some (.int r), 129, 17845, hp M')) : ∀ (x1 : Int32) (x2 : Int32) (x3 : Int32) (u4 : Option Value) (M : Mem) (r : Int32) (M' : Mem), J44_212 n rec39 x1 x2 x3 M = some (r, M') → pm_ev pmT sc e 44 false (212, [some (.ref 83), some (.int x1), some (.int x2), some (.int x3), u4], [], 129, 17845, hp M) (some (.int r), 129, 17845, hp M') := by
  intro x1 x2 x3 u4 M r M' h
  unfold J44_212 at h
  refine pe_blk mm_44 1 (s' := (39, [some (.ref 83), some (.int x1), some (.int x2), some (.int x3), u4], [], _, _, _)) rfl ?_
  exact hr39 x1 x2 x3 _ _ _ _ h
def J44_247 (n : Nat) (rec39 : Int32 → Int32 → Int32 → Mem → Option (Int32 × Mem)) (x1 : Int32) (x2 : Int32) (x3 : Int32) (M : Mem) : Option (Int32 × Mem) :=
  rec39 x1 x2 x3 M
set_option maxRecDepth 100000 in
set_option maxHeartbeats 4000000 in
theorem J44_247_ev (sc : Option (Nat × (Nat → Int32))) (n : Nat)  (e : Nat) (he : 7 ≤ e) (rec39 : Int32 → Int32 → Int32 → Mem → Option (Int32 × Mem)) (hr39 : ∀ (x1 : Int32) (x2 : Int32) (x3 : Int32) (u4 : Option Value) (M : Mem) (r : Int32) (M' : Mem), rec39 x1 x2 x3 M = some (r, M') → pm_ev pmT sc e 44 false (39, [some (.ref 83), some (.int x1), some (.int x2), some (.int x3), u4], [], 129, 17845, hp M) (some (.int r), 129, 17845, hp M')) : ∀ (x1 : Int32) (x2 : Int32) (x3 : Int32) (u4 : Option Value) (M : Mem) (r : Int32) (M' : Mem), J44_247 n rec39 x1 x2 x3 M = some (r, M') → pm_ev pmT sc e 44 false (247, [some (.ref 83), some (.int x1), some (.int x2), some (.int x3), u4], [], 129, 17845, hp M) (some (.int r), 129, 17845, hp M') := by
  intro x1 x2 x3 u4 M r M' h
  unfold J44_247 at h
  refine pe_blk mm_44 1 (s' := (39, [some (.ref 83), some (.int x1), some (.int x2), some (.int x3), u4], [], _, _, _)) rfl ?_
  exact hr39 x1 x2 x3 _ _ _ _ h
def L44_39 (n : Nat) : Nat → Int32 → Int32 → Int32 → Mem → Option (Int32 × Mem)
  | 0, _, _, _, _ => none
  | k + 1, x1, x2, x3, M => if x3 = 0 then (match F28 n M with | some (v3, M4) => (if x1 = 0 then (match F36 n 6 0 M4 with | some (v7, M8) => (J44_276 n M8) | none => none) else (match F35 n 6 0 0 M4 with | some (v10, M11) => (J44_276 n M11) | none => none)) | none => none) else (if (M.1 83 4) = 0 then (J44_59 n M) else (if (M.1 83 4) = 6 then (J44_59 n M) else (if (M.1 83 4) = 5 then (if (M.1 83 27) ≤ 0 then (J44_97 n (L44_39 n k) x1 x2 x2 M) else (if ((M.1 83 27) - 1) < 0 ∨ 16 ≤ ((M.1 83 27) - 1 : Int32).toNatClampNeg then none else (match F23 n (M.1 103 ((M.1 83 27) - 1 : Int32).toNatClampNeg) M with | some (v33, M34) => (J44_97 n (L44_39 n k) x1 x2 v33 M34) | none => none))) else (match F31 n 36 M with | some (v36, M37) => (if v36 = 0 then (if (M37.1 83 4) = 4 then (match F37 n (-1) M37 with | some (v41, M42) => (if v41 = 0 then (some (0, M42)) else (if x1 = 0 then (match F36 n 0 (M37.1 83 5) M42 with | some (v46, M47) => (J44_212 n (L44_39 n k) x1 x2 x3 M47) | none => none) else (match F35 n 1 (M37.1 83 5) 0 M42 with | some (v49, M50) => (J44_212 n (L44_39 n k) x1 x2 x3 M50) | none => none))) | none => none) else (match F28 n M37 with | some (v52, M53) => (if x1 = 0 then (match F36 n 0 (M37.1 83 5) M53 with | some (v56, M57) => (J44_247 n (L44_39 n k) x1 x2 x3 M57) | none => none) else (match F35 n 0 (M37.1 83 5) 0 M53 with | some (v59, M60) => (J44_247 n (L44_39 n k) x1 x2 x3 M60) | none => none)) | none => none)) else (match F28 n M37 with | some (v62, M63) => (match F42 n x1 M63 with | some (v65, M66) => (if v65 = 0 then (some (0, M66)) else ((L44_39 n k) x1 x2 x3 M66)) | none => none) | none => none)) | none => none))))
set_option maxRecDepth 100000 in
set_option maxHeartbeats 4000000 in
theorem L44_39_ev (sc : Option (Nat × (Nat → Int32))) (n : Nat)  (e : Nat) (he : 7 ≤ e) : ∀ k : Nat, ∀ (x1 : Int32) (x2 : Int32) (x3 : Int32) (u4 : Option Value) (M : Mem) (r : Int32) (M' : Mem), L44_39 n k x1 x2 x3 M = some (r, M') → pm_ev pmT sc e 44 false (39, [some (.ref 83), some (.int x1), some (.int x2), some (.int x3), u4], [], 129, 17845, hp M) (some (.int r), 129, 17845, hp M') := by
  intro k
  induction k with
  | zero => intro x1 x2 x3 u4 M r M' h; cases h
  | succ k hr39 =>
    intro x1 x2 x3 u4 M r M' h
    rw [L44_39] at h
    refine pe_blk mm_44 1 (s' := (40, [some (.ref 83), some (.int x1), some (.int x2), some (.int x3), u4], [.int x3], _, _, _)) rfl ?_
    by_cases q2 : x3 = 0
    · rw [if_pos q2] at h
      refine pe_blk mm_44 1 (s' := (if x3 = 0 then 250 else 43, [some (.ref 83), some (.int x1), some (.int x2), some (.int x3), u4], [], _, _, _)) rfl ?_
      rw [if_pos q2]
      refine pe_blk mm_44 1 (s' := (251, [some (.ref 83), some (.int x1), some (.int x2), some (.int x3), u4], [.ref 83], _, _, _)) rfl ?_
      obtain ⟨e1, rfl⟩ : ∃ e1, e = e1 + 1 := ⟨e - 1, by omega⟩
      cases hc5 : F28 n M with
      | none => rw [hc5] at h; cases h
      | some w =>
        obtain ⟨v3, M4⟩ := w
        rw [hc5] at h
        dsimp only at h
        refine pe_virt (al := []) (a := 83) (L0 := [some (.ref 83), none, none, none, none, none]) (r1 := (none, 129, 17845, hp M4)) mm_44 rfl rfl rfl mm_28 rfl (by decide) (by decide) rfl (Nat.le_of_ble_eq_true rfl) (Nat.le_of_ble_eq_true rfl) rfl rfl (F28_ev sc n _ e1 (by omega) _ _ hc5) ?_
        show pm_ev _ _ _ _ _ (254, [some (.ref 83), some (.int x1), some (.int x2), some (.int x3), u4], [], _, _, _) _
        refine pe_blk mm_44 1 (s' := (255, [some (.ref 83), some (.int x1), some (.int x2), some (.int x3), u4], [.int x1], _, _, _)) rfl ?_
        by_cases q6 : x1 = 0
        · rw [if_pos q6] at h
          refine pe_blk mm_44 1 (s' := (if x1 = 0 then 269 else 258, [some (.ref 83), some (.int x1), some (.int x2), some (.int x3), u4], [], _, _, _)) rfl ?_
          rw [if_pos q6]
          refine pe_blk mm_44 3 (s' := (273, [some (.ref 83), some (.int x1), some (.int x2), some (.int x3), u4], [.int 0, .int 6, .ref 83], _, _, _)) rfl ?_
          skip
          cases hc9 : F36 n 6 0 M4 with
          | none => rw [hc9] at h; cases h
          | some w =>
            obtain ⟨v7, M8⟩ := w
            rw [hc9] at h
            dsimp only at h
            refine pe_virt (al := [.int 0, .int 6]) (a := 83) (L0 := [some (.ref 83), some (.int 6), some (.int 0)]) (r1 := (none, 129, 17845, hp M8)) mm_44 rfl rfl rfl mm_36 rfl (by decide) (by decide) rfl (Nat.le_of_ble_eq_true rfl) (Nat.le_of_ble_eq_true rfl) rfl rfl (F36_ev sc n 6 0 _ e1 (by omega) _ _ hc9) ?_
            show pm_ev _ _ _ _ _ (276, [some (.ref 83), some (.int x1), some (.int x2), some (.int x3), u4], [], _, _, _) _
            exact J44_276_ev sc n (e1 + 1) he _ _ _ _ _ _ _ _ h
        · rw [if_neg q6] at h
          refine pe_blk mm_44 1 (s' := (if x1 = 0 then 269 else 258, [some (.ref 83), some (.int x1), some (.int x2), some (.int x3), u4], [], _, _, _)) rfl ?_
          rw [if_neg q6]
          refine pe_blk mm_44 4 (s' := (263, [some (.ref 83), some (.int x1), some (.int x2), some (.int x3), u4], [.int 0, .int 0, .int 6, .ref 83], _, _, _)) rfl ?_
          skip
          cases hc12 : F35 n 6 0 0 M4 with
          | none => rw [hc12] at h; cases h
          | some w =>
            obtain ⟨v10, M11⟩ := w
            rw [hc12] at h
            dsimp only at h
            refine pe_virt (al := [.int 0, .int 0, .int 6]) (a := 83) (L0 := [some (.ref 83), some (.int 6), some (.int 0), some (.int 0)]) (r1 := (none, 129, 17845, hp M11)) mm_44 rfl rfl rfl mm_35 rfl (by decide) (by decide) rfl (Nat.le_of_ble_eq_true rfl) (Nat.le_of_ble_eq_true rfl) rfl rfl (F35_ev sc n 6 0 0 _ e1 (by omega) _ _ hc12) ?_
            show pm_ev _ _ _ _ _ (266, [some (.ref 83), some (.int x1), some (.int x2), some (.int x3), u4], [], _, _, _) _
            refine pe_blk mm_44 1 (s' := (276, [some (.ref 83), some (.int x1), some (.int x2), some (.int x3), u4], [], _, _, _)) rfl ?_
            exact J44_276_ev sc n (e1 + 1) he _ _ _ _ _ _ _ _ h
    · rw [if_neg q2] at h
      refine pe_blk mm_44 1 (s' := (if x3 = 0 then 250 else 43, [some (.ref 83), some (.int x1), some (.int x2), some (.int x3), u4], [], _, _, _)) rfl ?_
      rw [if_neg q2]
      refine pe_blk mm_44 1 (s' := (44, [some (.ref 83), some (.int x1), some (.int x2), some (.int x3), u4], [.ref 83], _, _, _)) rfl ?_
      refine pe_get mm_44 rfl rfl rfl (by decide) rfl ?_
      by_cases q13 : (M.1 83 4) = 0
      · rw [if_pos q13] at h
        refine pe_blk mm_44 1 (s' := (if (M.1 83 4) = 0 then 59 else 50, [some (.ref 83), some (.int x1), some (.int x2), some (.int x3), u4], [], _, _, _)) rfl ?_
        rw [if_pos q13]
        exact J44_59_ev sc n e he _ _ _ _ _ _ _ h
      · rw [if_neg q13] at h
        refine pe_blk mm_44 1 (s' := (if (M.1 83 4) = 0 then 59 else 50, [some (.ref 83), some (.int x1), some (.int x2), some (.int x3), u4], [], _, _, _)) rfl ?_
        rw [if_neg q13]
        refine pe_blk mm_44 1 (s' := (51, [some (.ref 83), some (.int x1), some (.int x2), some (.int x3), u4], [.ref 83], _, _, _)) rfl ?_
        refine pe_get mm_44 rfl rfl rfl (by decide) rfl ?_
        refine pe_blk mm_44 1 (s' := (56, [some (.ref 83), some (.int x1), some (.int x2), some (.int x3), u4], [.int 6, .int (M.1 83 4)], _, _, _)) rfl ?_
        by_cases q18 : (M.1 83 4) = 6
        · rw [if_pos q18] at h
          refine pe_blk mm_44 1 (s' := (if (M.1 83 4) = 6 then 59 else 64, [some (.ref 83), some (.int x1), some (.int x2), some (.int x3), u4], [], _, _, _)) rfl ?_
          rw [if_pos q18]
          exact J44_59_ev sc n e he _ _ _ _ _ _ _ h
        · rw [if_neg q18] at h
          refine pe_blk mm_44 1 (s' := (if (M.1 83 4) = 6 then 59 else 64, [some (.ref 83), some (.int x1), some (.int x2), some (.int x3), u4], [], _, _, _)) rfl ?_
          rw [if_neg q18]
          refine pe_blk mm_44 1 (s' := (65, [some (.ref 83), some (.int x1), some (.int x2), some (.int x3), u4], [.ref 83], _, _, _)) rfl ?_
          refine pe_get mm_44 rfl rfl rfl (by decide) rfl ?_
          refine pe_blk mm_44 1 (s' := (69, [some (.ref 83), some (.int x1), some (.int x2), some (.int x3), u4], [.int 5, .int (M.1 83 4)], _, _, _)) rfl ?_
          by_cases q19 : (M.1 83 4) = 5
          · rw [if_pos q19] at h
            refine pe_blk mm_44 1 (s' := (if (M.1 83 4) = 5 then 72 else 143, [some (.ref 83), some (.int x1), some (.int x2), some (.int x3), u4], [], _, _, _)) rfl ?_
            rw [if_pos q19]
            refine pe_blk mm_44 1 (s' := (73, [some (.ref 83), some (.int x1), some (.int x2), some (.int x3), u4], [.ref 83], _, _, _)) rfl ?_
            refine pe_get mm_44 rfl rfl rfl (by decide) rfl ?_
            by_cases q20 : (M.1 83 27) ≤ 0
            · rw [if_pos q20] at h
              refine pe_blk mm_44 1 (s' := (if (M.1 83 27) ≤ 0 then 96 else 79, [some (.ref 83), some (.int x1), some (.int x2), some (.int x3), u4], [], _, _, _)) rfl ?_
              rw [if_pos q20]
              refine pe_blk mm_44 1 (s' := (97, [some (.ref 83), some (.int x1), some (.int x2), some (.int x3), u4], [.int x2], _, _, _)) rfl ?_
              exact J44_97_ev sc n e he (L44_39 n k) hr39 x1 x2 x2 _ _ _ _ _ h
            · rw [if_neg q20] at h
              refine pe_blk mm_44 1 (s' := (if (M.1 83 27) ≤ 0 then 96 else 79, [some (.ref 83), some (.int x1), some (.int x2), some (.int x3), u4], [], _, _, _)) rfl ?_
              rw [if_neg q20]
              refine pe_blk mm_44 1 (s' := (80, [some (.ref 83), some (.int x1), some (.int x2), some (.int x3), u4], [.ref 83], _, _, _)) rfl ?_
              refine pe_get mm_44 rfl rfl rfl (by decide) rfl ?_
              refine pe_blk mm_44 1 (s' := (84, [some (.ref 83), some (.int x1), some (.int x2), some (.int x3), u4], [.ref 83, .ref 103], _, _, _)) rfl ?_
              refine pe_get mm_44 rfl rfl rfl (by decide) rfl ?_
              refine pe_blk mm_44 2 (s' := (89, [some (.ref 83), some (.int x1), some (.int x2), some (.int x3), u4], [.int ((M.1 83 27) - 1), .ref 103], _, _, _)) rfl ?_
              by_cases q32 : ((M.1 83 27) - 1) < 0 ∨ 16 ≤ ((M.1 83 27) - 1 : Int32).toNatClampNeg
              · rw [if_pos q32] at h
                cases h
              · rw [if_neg q32] at h
                refine pe_iald (f := M.1 103) mm_44 rfl rfl (by decide) q32 ?_
                obtain ⟨e1, rfl⟩ : ∃ e1, e = e1 + 1 := ⟨e - 1, by omega⟩
                cases hc35 : F23 n (M.1 103 ((M.1 83 27) - 1 : Int32).toNatClampNeg) M with
                | none => rw [hc35] at h; cases h
                | some w =>
                  obtain ⟨v33, M34⟩ := w
                  rw [hc35] at h
                  dsimp only at h
                  refine pe_stat (al := [.int (M.1 103 ((M.1 83 27) - 1 : Int32).toNatClampNeg)]) (L0 := [some (.int (M.1 103 ((M.1 83 27) - 1 : Int32).toNatClampNeg))]) (r1 := (some (.int v33), 129, 17845, hp M34)) mm_44 rfl rfl rfl mm_23 rfl (Nat.le_of_ble_eq_true rfl) (Nat.le_of_ble_eq_true rfl) rfl rfl (F23_ev sc n (M.1 103 ((M.1 83 27) - 1 : Int32).toNatClampNeg) _ e1 (by omega) _ _ hc35) ?_
                  show pm_ev _ _ _ _ _ (93, [some (.ref 83), some (.int x1), some (.int x2), some (.int x3), u4], [.int v33], _, _, _) _
                  refine pe_blk mm_44 1 (s' := (97, [some (.ref 83), some (.int x1), some (.int x2), some (.int x3), u4], [.int v33], _, _, _)) rfl ?_
                  exact J44_97_ev sc n (e1 + 1) he (L44_39 n k) hr39 x1 x2 v33 _ _ _ _ _ h
          · rw [if_neg q19] at h
            refine pe_blk mm_44 1 (s' := (if (M.1 83 4) = 5 then 72 else 143, [some (.ref 83), some (.int x1), some (.int x2), some (.int x3), u4], [], _, _, _)) rfl ?_
            rw [if_neg q19]
            refine pe_blk mm_44 2 (s' := (146, [some (.ref 83), some (.int x1), some (.int x2), some (.int x3), u4], [.int 36, .ref 83], _, _, _)) rfl ?_
            obtain ⟨e1, rfl⟩ : ∃ e1, e = e1 + 1 := ⟨e - 1, by omega⟩
            cases hc38 : F31 n 36 M with
            | none => rw [hc38] at h; cases h
            | some w =>
              obtain ⟨v36, M37⟩ := w
              rw [hc38] at h
              dsimp only at h
              refine pe_virt (al := [.int 36]) (a := 83) (L0 := [some (.ref 83), some (.int 36)]) (r1 := (some (.int v36), 129, 17845, hp M37)) mm_44 rfl rfl rfl mm_31 rfl (by decide) (by decide) rfl (Nat.le_of_ble_eq_true rfl) (Nat.le_of_ble_eq_true rfl) rfl rfl (F31_ev sc n 36 _ e1 (by omega) _ _ hc38) ?_
              show pm_ev _ _ _ _ _ (149, [some (.ref 83), some (.int x1), some (.int x2), some (.int x3), u4], [.int v36], _, _, _) _
              by_cases q39 : v36 = 0
              · rw [if_pos q39] at h
                refine pe_blk mm_44 1 (s' := (if v36 = 0 then 166 else 152, [some (.ref 83), some (.int x1), some (.int x2), some (.int x3), u4], [], _, _, _)) rfl ?_
                rw [if_pos q39]
                refine pe_blk mm_44 1 (s' := (167, [some (.ref 83), some (.int x1), some (.int x2), some (.int x3), u4], [.ref 83], _, _, _)) rfl ?_
                refine pe_get mm_44 rfl rfl rfl (by decide) rfl ?_
                refine pe_blk mm_44 1 (s' := (171, [some (.ref 83), some (.int x1), some (.int x2), some (.int x3), u4], [.int 4, .int (M37.1 83 4)], _, _, _)) rfl ?_
                by_cases q40 : (M37.1 83 4) = 4
                · rw [if_pos q40] at h
                  refine pe_blk mm_44 1 (s' := (if (M37.1 83 4) = 4 then 174 else 215, [some (.ref 83), some (.int x1), some (.int x2), some (.int x3), u4], [], _, _, _)) rfl ?_
                  rw [if_pos q40]
                  refine pe_blk mm_44 1 (s' := (175, [some (.ref 83), some (.int x1), some (.int x2), some (.int x3), u4], [.ref 83], _, _, _)) rfl ?_
                  refine pe_get mm_44 rfl rfl rfl (by decide) rfl ?_
                  refine pe_blk mm_44 3 (s' := (182, [some (.ref 83), some (.int x1), some (.int x2), some (.int x3), some (.int (M37.1 83 5))], [.int (-1), .ref 83], _, _, _)) rfl ?_
                  skip
                  cases hc43 : F37 n (-1) M37 with
                  | none => rw [hc43] at h; cases h
                  | some w =>
                    obtain ⟨v41, M42⟩ := w
                    rw [hc43] at h
                    dsimp only at h
                    refine pe_virt (al := [.int (-1)]) (a := 83) (L0 := [some (.ref 83), some (.int (-1))]) (r1 := (some (.int v41), 129, 17845, hp M42)) mm_44 rfl rfl rfl mm_37 rfl (by decide) (by decide) rfl (Nat.le_of_ble_eq_true rfl) (Nat.le_of_ble_eq_true rfl) rfl rfl (F37_ev sc n (-1) _ e1 (by omega) _ _ hc43) ?_
                    show pm_ev _ _ _ _ _ (185, [some (.ref 83), some (.int x1), some (.int x2), some (.int x3), some (.int (M37.1 83 5))], [.int v41], _, _, _) _
                    by_cases q44 : v41 = 0
                    · rw [if_pos q44] at h
                      refine pe_blk mm_44 1 (s' := (if v41 = 0 then 188 else 190, [some (.ref 83), some (.int x1), some (.int x2), some (.int x3), some (.int (M37.1 83 5))], [], _, _, _)) rfl ?_
                      rw [if_pos q44]
                      refine pe_blk mm_44 1 (s' := (189, [some (.ref 83), some (.int x1), some (.int x2), some (.int x3), some (.int (M37.1 83 5))], [.int 0], _, _, _)) rfl ?_
                      cases h
                      exact pe_ret mm_44 rfl rfl
                    · rw [if_neg q44] at h
                      refine pe_blk mm_44 1 (s' := (if v41 = 0 then 188 else 190, [some (.ref 83), some (.int x1), some (.int x2), some (.int x3), some (.int (M37.1 83 5))], [], _, _, _)) rfl ?_
                      rw [if_neg q44]
                      refine pe_blk mm_44 1 (s' := (191, [some (.ref 83), some (.int x1), some (.int x2), some (.int x3), some (.int (M37.1 83 5))], [.int x1], _, _, _)) rfl ?_
                      by_cases q45 : x1 = 0
                      · rw [if_pos q45] at h
                        refine pe_blk mm_44 1 (s' := (if x1 = 0 then 205 else 194, [some (.ref 83), some (.int x1), some (.int x2), some (.int x3), some (.int (M37.1 83 5))], [], _, _, _)) rfl ?_
                        rw [if_pos q45]
                        refine pe_blk mm_44 3 (s' := (209, [some (.ref 83), some (.int x1), some (.int x2), some (.int x3), some (.int (M37.1 83 5))], [.int (M37.1 83 5), .int 0, .ref 83], _, _, _)) rfl ?_
                        skip
                        cases hc48 : F36 n 0 (M37.1 83 5) M42 with
                        | none => rw [hc48] at h; cases h
                        | some w =>
                          obtain ⟨v46, M47⟩ := w
                          rw [hc48] at h
                          dsimp only at h
                          refine pe_virt (al := [.int (M37.1 83 5), .int 0]) (a := 83) (L0 := [some (.ref 83), some (.int 0), some (.int (M37.1 83 5))]) (r1 := (none, 129, 17845, hp M47)) mm_44 rfl rfl rfl mm_36 rfl (by decide) (by decide) rfl (Nat.le_of_ble_eq_true rfl) (Nat.le_of_ble_eq_true rfl) rfl rfl (F36_ev sc n 0 (M37.1 83 5) _ e1 (by omega) _ _ hc48) ?_
                          show pm_ev _ _ _ _ _ (212, [some (.ref 83), some (.int x1), some (.int x2), some (.int x3), some (.int (M37.1 83 5))], [], _, _, _) _
                          exact J44_212_ev sc n (e1 + 1) he (L44_39 n k) hr39 x1 x2 x3 _ _ _ _ h
                      · rw [if_neg q45] at h
                        refine pe_blk mm_44 1 (s' := (if x1 = 0 then 205 else 194, [some (.ref 83), some (.int x1), some (.int x2), some (.int x3), some (.int (M37.1 83 5))], [], _, _, _)) rfl ?_
                        rw [if_neg q45]
                        refine pe_blk mm_44 4 (s' := (199, [some (.ref 83), some (.int x1), some (.int x2), some (.int x3), some (.int (M37.1 83 5))], [.int 0, .int (M37.1 83 5), .int 1, .ref 83], _, _, _)) rfl ?_
                        skip
                        cases hc51 : F35 n 1 (M37.1 83 5) 0 M42 with
                        | none => rw [hc51] at h; cases h
                        | some w =>
                          obtain ⟨v49, M50⟩ := w
                          rw [hc51] at h
                          dsimp only at h
                          refine pe_virt (al := [.int 0, .int (M37.1 83 5), .int 1]) (a := 83) (L0 := [some (.ref 83), some (.int 1), some (.int (M37.1 83 5)), some (.int 0)]) (r1 := (none, 129, 17845, hp M50)) mm_44 rfl rfl rfl mm_35 rfl (by decide) (by decide) rfl (Nat.le_of_ble_eq_true rfl) (Nat.le_of_ble_eq_true rfl) rfl rfl (F35_ev sc n 1 (M37.1 83 5) 0 _ e1 (by omega) _ _ hc51) ?_
                          show pm_ev _ _ _ _ _ (202, [some (.ref 83), some (.int x1), some (.int x2), some (.int x3), some (.int (M37.1 83 5))], [], _, _, _) _
                          refine pe_blk mm_44 1 (s' := (212, [some (.ref 83), some (.int x1), some (.int x2), some (.int x3), some (.int (M37.1 83 5))], [], _, _, _)) rfl ?_
                          exact J44_212_ev sc n (e1 + 1) he (L44_39 n k) hr39 x1 x2 x3 _ _ _ _ h
                · rw [if_neg q40] at h
                  refine pe_blk mm_44 1 (s' := (if (M37.1 83 4) = 4 then 174 else 215, [some (.ref 83), some (.int x1), some (.int x2), some (.int x3), u4], [], _, _, _)) rfl ?_
                  rw [if_neg q40]
                  refine pe_blk mm_44 1 (s' := (216, [some (.ref 83), some (.int x1), some (.int x2), some (.int x3), u4], [.ref 83], _, _, _)) rfl ?_
                  refine pe_get mm_44 rfl rfl rfl (by decide) rfl ?_
                  refine pe_blk mm_44 2 (s' := (222, [some (.ref 83), some (.int x1), some (.int x2), some (.int x3), some (.int (M37.1 83 5))], [.ref 83], _, _, _)) rfl ?_
                  skip
                  cases hc54 : F28 n M37 with
                  | none => rw [hc54] at h; cases h
                  | some w =>
                    obtain ⟨v52, M53⟩ := w
                    rw [hc54] at h
                    dsimp only at h
                    refine pe_virt (al := []) (a := 83) (L0 := [some (.ref 83), none, none, none, none, none]) (r1 := (none, 129, 17845, hp M53)) mm_44 rfl rfl rfl mm_28 rfl (by decide) (by decide) rfl (Nat.le_of_ble_eq_true rfl) (Nat.le_of_ble_eq_true rfl) rfl rfl (F28_ev sc n _ e1 (by omega) _ _ hc54) ?_
                    show pm_ev _ _ _ _ _ (225, [some (.ref 83), some (.int x1), some (.int x2), some (.int x3), some (.int (M37.1 83 5))], [], _, _, _) _
                    refine pe_blk mm_44 1 (s' := (226, [some (.ref 83), some (.int x1), some (.int x2), some (.int x3), some (.int (M37.1 83 5))], [.int x1], _, _, _)) rfl ?_
                    by_cases q55 : x1 = 0
                    · rw [if_pos q55] at h
                      refine pe_blk mm_44 1 (s' := (if x1 = 0 then 240 else 229, [some (.ref 83), some (.int x1), some (.int x2), some (.int x3), some (.int (M37.1 83 5))], [], _, _, _)) rfl ?_
                      rw [if_pos q55]
                      refine pe_blk mm_44 3 (s' := (244, [some (.ref 83), some (.int x1), some (.int x2), some (.int x3), some (.int (M37.1 83 5))], [.int (M37.1 83 5), .int 0, .ref 83], _, _, _)) rfl ?_
                      skip
                      cases hc58 : F36 n 0 (M37.1 83 5) M53 with
                      | none => rw [hc58] at h; cases h
                      | some w =>
                        obtain ⟨v56, M57⟩ := w
                        rw [hc58] at h
                        dsimp only at h
                        refine pe_virt (al := [.int (M37.1 83 5), .int 0]) (a := 83) (L0 := [some (.ref 83), some (.int 0), some (.int (M37.1 83 5))]) (r1 := (none, 129, 17845, hp M57)) mm_44 rfl rfl rfl mm_36 rfl (by decide) (by decide) rfl (Nat.le_of_ble_eq_true rfl) (Nat.le_of_ble_eq_true rfl) rfl rfl (F36_ev sc n 0 (M37.1 83 5) _ e1 (by omega) _ _ hc58) ?_
                        show pm_ev _ _ _ _ _ (247, [some (.ref 83), some (.int x1), some (.int x2), some (.int x3), some (.int (M37.1 83 5))], [], _, _, _) _
                        exact J44_247_ev sc n (e1 + 1) he (L44_39 n k) hr39 x1 x2 x3 _ _ _ _ h
                    · rw [if_neg q55] at h
                      refine pe_blk mm_44 1 (s' := (if x1 = 0 then 240 else 229, [some (.ref 83), some (.int x1), some (.int x2), some (.int x3), some (.int (M37.1 83 5))], [], _, _, _)) rfl ?_
                      rw [if_neg q55]
                      refine pe_blk mm_44 4 (s' := (234, [some (.ref 83), some (.int x1), some (.int x2), some (.int x3), some (.int (M37.1 83 5))], [.int 0, .int (M37.1 83 5), .int 0, .ref 83], _, _, _)) rfl ?_
                      skip
                      cases hc61 : F35 n 0 (M37.1 83 5) 0 M53 with
                      | none => rw [hc61] at h; cases h
                      | some w =>
                        obtain ⟨v59, M60⟩ := w
                        rw [hc61] at h
                        dsimp only at h
                        refine pe_virt (al := [.int 0, .int (M37.1 83 5), .int 0]) (a := 83) (L0 := [some (.ref 83), some (.int 0), some (.int (M37.1 83 5)), some (.int 0)]) (r1 := (none, 129, 17845, hp M60)) mm_44 rfl rfl rfl mm_35 rfl (by decide) (by decide) rfl (Nat.le_of_ble_eq_true rfl) (Nat.le_of_ble_eq_true rfl) rfl rfl (F35_ev sc n 0 (M37.1 83 5) 0 _ e1 (by omega) _ _ hc61) ?_
                        show pm_ev _ _ _ _ _ (237, [some (.ref 83), some (.int x1), some (.int x2), some (.int x3), some (.int (M37.1 83 5))], [], _, _, _) _
                        refine pe_blk mm_44 1 (s' := (247, [some (.ref 83), some (.int x1), some (.int x2), some (.int x3), some (.int (M37.1 83 5))], [], _, _, _)) rfl ?_
                        exact J44_247_ev sc n (e1 + 1) he (L44_39 n k) hr39 x1 x2 x3 _ _ _ _ h
              · rw [if_neg q39] at h
                refine pe_blk mm_44 1 (s' := (if v36 = 0 then 166 else 152, [some (.ref 83), some (.int x1), some (.int x2), some (.int x3), u4], [], _, _, _)) rfl ?_
                rw [if_neg q39]
                refine pe_blk mm_44 1 (s' := (153, [some (.ref 83), some (.int x1), some (.int x2), some (.int x3), u4], [.ref 83], _, _, _)) rfl ?_
                skip
                cases hc64 : F28 n M37 with
                | none => rw [hc64] at h; cases h
                | some w =>
                  obtain ⟨v62, M63⟩ := w
                  rw [hc64] at h
                  dsimp only at h
                  refine pe_virt (al := []) (a := 83) (L0 := [some (.ref 83), none, none, none, none, none]) (r1 := (none, 129, 17845, hp M63)) mm_44 rfl rfl rfl mm_28 rfl (by decide) (by decide) rfl (Nat.le_of_ble_eq_true rfl) (Nat.le_of_ble_eq_true rfl) rfl rfl (F28_ev sc n _ e1 (by omega) _ _ hc64) ?_
                  show pm_ev _ _ _ _ _ (156, [some (.ref 83), some (.int x1), some (.int x2), some (.int x3), u4], [], _, _, _) _
                  refine pe_blk mm_44 2 (s' := (158, [some (.ref 83), some (.int x1), some (.int x2), some (.int x3), u4], [.int x1, .ref 83], _, _, _)) rfl ?_
                  skip
                  cases hc67 : F42 n x1 M63 with
                  | none => rw [hc67] at h; cases h
                  | some w =>
                    obtain ⟨v65, M66⟩ := w
                    rw [hc67] at h
                    dsimp only at h
                    refine pe_virt (al := [.int x1]) (a := 83) (L0 := [some (.ref 83), some (.int x1), none, none]) (r1 := (some (.int v65), 129, 17845, hp M66)) mm_44 rfl rfl rfl mm_42 rfl (by decide) (by decide) rfl (Nat.le_of_ble_eq_true rfl) (Nat.le_of_ble_eq_true rfl) rfl rfl (F42_ev sc n x1 _ e1 (by omega) _ _ hc67) ?_
                    show pm_ev _ _ _ _ _ (161, [some (.ref 83), some (.int x1), some (.int x2), some (.int x3), u4], [.int v65], _, _, _) _
                    by_cases q68 : v65 = 0
                    · rw [if_pos q68] at h
                      refine pe_blk mm_44 1 (s' := (if v65 = 0 then 164 else 39, [some (.ref 83), some (.int x1), some (.int x2), some (.int x3), u4], [], _, _, _)) rfl ?_
                      rw [if_pos q68]
                      refine pe_blk mm_44 1 (s' := (165, [some (.ref 83), some (.int x1), some (.int x2), some (.int x3), u4], [.int 0], _, _, _)) rfl ?_
                      cases h
                      exact pe_ret mm_44 rfl rfl
                    · rw [if_neg q68] at h
                      refine pe_blk mm_44 1 (s' := (if v65 = 0 then 164 else 39, [some (.ref 83), some (.int x1), some (.int x2), some (.int x3), u4], [], _, _, _)) rfl ?_
                      rw [if_neg q68]
                      exact hr39 x1 x2 x3 _ _ _ _ h
def J44_36 (n : Nat) (x1 : Int32) (s0 : Int32) (M : Mem) : Option (Int32 × Mem) :=
  L44_39 n n x1 s0 1 M
set_option maxRecDepth 100000 in
set_option maxHeartbeats 4000000 in
theorem J44_36_ev (sc : Option (Nat × (Nat → Int32))) (n : Nat)  (e : Nat) (he : 7 ≤ e) : ∀ (x1 : Int32) (s0 : Int32) (u2 : Option Value) (u3 : Option Value) (u4 : Option Value) (M : Mem) (r : Int32) (M' : Mem), J44_36 n x1 s0 M = some (r, M') → pm_ev pmT sc e 44 false (36, [some (.ref 83), some (.int x1), u2, u3, u4], [.int s0], 129, 17845, hp M) (some (.int r), 129, 17845, hp M') := by
  intro x1 s0 u2 u3 u4 M r M' h
  unfold J44_36 at h
  refine pe_blk mm_44 3 (s' := (39, [some (.ref 83), some (.int x1), some (.int s0), some (.int 1), u4], [], _, _, _)) rfl ?_
  exact L44_39_ev sc n e he n x1 s0 1 _ _ _ _ h
/-- ArmExpanderModel.readRow -/
def F44 (n : Nat) (a0 : Int32) (M : Mem) : Option (Int32 × Mem) :=
  if a0 = 0 then (J44_36 n a0 125 (m_i (m_i (m_i (m_i (m_i M 83 27 0) 83 30 (-1)) 83 31 (-1)) 83 32 0) 83 33 0)) else (J44_36 n a0 41 (m_i (m_i (m_i (m_i (m_i M 83 27 0) 83 30 (-1)) 83 31 (-1)) 83 32 0) 83 33 0))
set_option maxRecDepth 100000 in
set_option maxHeartbeats 4000000 in
theorem F44_ev (sc : Option (Nat × (Nat → Int32))) (n : Nat) (a0 : Int32)  (M : Mem) (e : Nat) (he : 7 ≤ e) (r : Int32) (M' : Mem) (h : F44 n a0 M = some (r, M')) : pm_ev pmT sc e 44 false (0, [some (.ref 83), some (.int a0), none, none, none], [], 129, 17845, hp M) (some (.int r), 129, 17845, hp M') := by
  unfold F44 at h
  refine pe_blk mm_44 2 (s' := (2, [some (.ref 83), some (.int a0), none, none, none], [.int 0, .ref 83], _, _, _)) rfl ?_
  refine pe_puti mm_44 rfl rfl rfl (by decide) (Nat.le_of_ble_eq_true rfl) rfl rfl ?_
  refine pe_blk mm_44 2 (s' := (7, [some (.ref 83), some (.int a0), none, none, none], [.int (-1), .ref 83], _, _, _)) rfl ?_
  refine pe_puti mm_44 rfl rfl rfl (by decide) (Nat.le_of_ble_eq_true rfl) rfl rfl ?_
  refine pe_blk mm_44 2 (s' := (12, [some (.ref 83), some (.int a0), none, none, none], [.int (-1), .ref 83], _, _, _)) rfl ?_
  refine pe_puti mm_44 rfl rfl rfl (by decide) (Nat.le_of_ble_eq_true rfl) rfl rfl ?_
  refine pe_blk mm_44 2 (s' := (17, [some (.ref 83), some (.int a0), none, none, none], [.int 0, .ref 83], _, _, _)) rfl ?_
  refine pe_puti mm_44 rfl rfl rfl (by decide) (Nat.le_of_ble_eq_true rfl) rfl rfl ?_
  refine pe_blk mm_44 2 (s' := (22, [some (.ref 83), some (.int a0), none, none, none], [.int 0, .ref 83], _, _, _)) rfl ?_
  refine pe_puti mm_44 rfl rfl rfl (by decide) (Nat.le_of_ble_eq_true rfl) rfl rfl ?_
  refine pe_blk mm_44 1 (s' := (26, [some (.ref 83), some (.int a0), none, none, none], [.int a0], _, _, _)) rfl ?_
  by_cases q1 : a0 = 0
  · rw [if_pos q1] at h
    refine pe_blk mm_44 1 (s' := (if a0 = 0 then 34 else 29, [some (.ref 83), some (.int a0), none, none, none], [], _, _, _)) rfl ?_
    rw [if_pos q1]
    refine pe_blk mm_44 1 (s' := (36, [some (.ref 83), some (.int a0), none, none, none], [.int 125], _, _, _)) rfl ?_
    exact J44_36_ev sc n e he a0 125 _ _ _ _ _ _ h
  · rw [if_neg q1] at h
    refine pe_blk mm_44 1 (s' := (if a0 = 0 then 34 else 29, [some (.ref 83), some (.int a0), none, none, none], [], _, _, _)) rfl ?_
    rw [if_neg q1]
    refine pe_blk mm_44 2 (s' := (36, [some (.ref 83), some (.int a0), none, none, none], [.int 41], _, _, _)) rfl ?_
    exact J44_36_ev sc n e he a0 41 _ _ _ _ _ _ h
def J45_176 (n : Nat) (s0 : Int32) (M : Mem) : Option (Int32 × Mem) :=
  if s0 = 0 ∨ s0 = 1 then some (s0, M) else none
set_option maxRecDepth 100000 in
set_option maxHeartbeats 4000000 in
theorem J45_176_ev (sc : Option (Nat × (Nat → Int32))) (n : Nat)  (e : Nat) (he : 8 ≤ e) : ∀ (s0 : Int32) (u0 : Option Value) (u1 : Option Value) (u2 : Option Value) (u3 : Option Value) (M : Mem) (r : Int32) (M' : Mem), J45_176 n s0 M = some (r, M') → pm_ev pmT sc e 45 false (176, [u0, u1, u2, u3], [.int s0], 129, 17845, hp M) (some (.int r), 129, 17845, hp M') := by
  intro s0 u0 u1 u2 u3 M r M' h
  unfold J45_176 at h
  by_cases q10 : s0 = 0 ∨ s0 = 1
  · rw [if_pos q10] at h
    cases h
    exact pe_ret mm_45 rfl (if_pos q10)
  · rw [if_neg q10] at h
    cases h
def J45_171 (n : Nat) (M : Mem) : Option (Int32 × Mem) :=
  J45_176 n 1 M
set_option maxRecDepth 100000 in
set_option maxHeartbeats 4000000 in
theorem J45_171_ev (sc : Option (Nat × (Nat → Int32))) (n : Nat)  (e : Nat) (he : 8 ≤ e) : ∀ (u0 : Option Value) (u1 : Option Value) (u2 : Option Value) (u3 : Option Value) (M : Mem) (r : Int32) (M' : Mem), J45_171 n  M = some (r, M') → pm_ev pmT sc e 45 false (171, [u0, u1, u2, u3], [], 129, 17845, hp M) (some (.int r), 129, 17845, hp M') := by
  intro u0 u1 u2 u3 M r M' h
  unfold J45_171 at h
  refine pe_blk mm_45 2 (s' := (176, [u0, u1, u2, u3], [.int 1], _, _, _)) rfl ?_
  exact J45_176_ev sc n e he 1 _ _ _ _ _ _ _ h
def J45_66 (n : Nat) (M : Mem) : Option (Int32 × Mem) :=
  some (0, M)
set_option maxRecDepth 100000 in
set_option maxHeartbeats 4000000 in
theorem J45_66_ev (sc : Option (Nat × (Nat → Int32))) (n : Nat)  (e : Nat) (he : 8 ≤ e) : ∀ (u0 : Option Value) (u1 : Option Value) (u2 : Option Value) (u3 : Option Value) (M : Mem) (r : Int32) (M' : Mem), J45_66 n  M = some (r, M') → pm_ev pmT sc e 45 false (66, [u0, u1, u2, u3], [], 129, 17845, hp M) (some (.int r), 129, 17845, hp M') := by
  intro u0 u1 u2 u3 M r M' h
  unfold J45_66 at h
  refine pe_blk mm_45 1 (s' := (67, [u0, u1, u2, u3], [.int 0], _, _, _)) rfl ?_
  cases h
  exact pe_ret mm_45 rfl rfl
def J45_89 (n : Nat) (M : Mem) : Option (Int32 × Mem) :=
  some (0, M)
set_option maxRecDepth 100000 in
set_option maxHeartbeats 4000000 in
theorem J45_89_ev (sc : Option (Nat × (Nat → Int32))) (n : Nat)  (e : Nat) (he : 8 ≤ e) : ∀ (u0 : Option Value) (u1 : Option Value) (u2 : Option Value) (u3 : Option Value) (M : Mem) (r : Int32) (M' : Mem), J45_89 n  M = some (r, M') → pm_ev pmT sc e 45 false (89, [u0, u1, u2, u3], [], 129, 17845, hp M) (some (.int r), 129, 17845, hp M') := by
  intro u0 u1 u2 u3 M r M' h
  unfold J45_89 at h
  refine pe_blk mm_45 1 (s' := (90, [u0, u1, u2, u3], [.int 0], _, _, _)) rfl ?_
  cases h
  exact pe_ret mm_45 rfl rfl
def J45_143 (n : Nat) (rec41 : Int32 → Int32 → Int32 → Mem → Option (Int32 × Mem)) (x1 : Int32) (x2 : Int32) (s0 : Int32) (M : Mem) : Option (Int32 × Mem) :=
  if s0 = 0 then (rec41 x1 x2 s0 M) else (match F28 n M with | some (v46, M47) => (rec41 x1 x2 s0 M47) | none => none)
set_option maxRecDepth 100000 in
set_option maxHeartbeats 4000000 in
theorem J45_143_ev (sc : Option (Nat × (Nat → Int32))) (n : Nat)  (e : Nat) (he : 8 ≤ e) (rec41 : Int32 → Int32 → Int32 → Mem → Option (Int32 × Mem)) (hr41 : ∀ (x1 : Int32) (x2 : Int32) (x3 : Int32) (M : Mem) (r : Int32) (M' : Mem), rec41 x1 x2 x3 M = some (r, M') → pm_ev pmT sc e 45 false (41, [some (.ref 83), some (.int x1), some (.int x2), some (.int x3)], [], 129, 17845, hp M) (some (.int r), 129, 17845, hp M')) : ∀ (x1 : Int32) (x2 : Int32) (s0 : Int32) (u3 : Option Value) (M : Mem) (r : Int32) (M' : Mem), J45_143 n rec41 x1 x2 s0 M = some (r, M') → pm_ev pmT sc e 45 false (143, [some (.ref 83), some (.int x1), some (.int x2), u3], [.int s0], 129, 17845, hp M) (some (.int r), 129, 17845, hp M') := by
  intro x1 x2 s0 u3 M r M' h
  unfold J45_143 at h
  refine pe_blk mm_45 2 (s' := (145, [some (.ref 83), some (.int x1), some (.int x2), some (.int s0)], [.int s0], _, _, _)) rfl ?_
  by_cases q45 : s0 = 0
  · rw [if_pos q45] at h
    refine pe_blk mm_45 1 (s' := (if s0 = 0 then 41 else 148, [some (.ref 83), some (.int x1), some (.int x2), some (.int s0)], [], _, _, _)) rfl ?_
    rw [if_pos q45]
    exact hr41 x1 x2 s0 _ _ _ h
  · rw [if_neg q45] at h
    refine pe_blk mm_45 1 (s' := (if s0 = 0 then 41 else 148, [some (.ref 83), some (.int x1), some (.int x2), some (.int s0)], [], _, _, _)) rfl ?_
    rw [if_neg q45]
    refine pe_blk mm_45 1 (s' := (149, [some (.ref 83), some (.int x1), some (.int x2), some (.int s0)], [.ref 83], _, _, _)) rfl ?_
    obtain ⟨e1, rfl⟩ : ∃ e1, e = e1 + 1 := ⟨e - 1, by omega⟩
    cases hc48 : F28 n M with
    | none => rw [hc48] at h; cases h
    | some w =>
      obtain ⟨v46, M47⟩ := w
      rw [hc48] at h
      dsimp only at h
      refine pe_virt (al := []) (a := 83) (L0 := [some (.ref 83), none, none, none, none, none]) (r1 := (none, 129, 17845, hp M47)) mm_45 rfl rfl rfl mm_28 rfl (by decide) (by decide) rfl (Nat.le_of_ble_eq_true rfl) (Nat.le_of_ble_eq_true rfl) rfl rfl (F28_ev sc n _ e1 (by omega) _ _ hc48) ?_
      show pm_ev _ _ _ _ _ (152, [some (.ref 83), some (.int x1), some (.int x2), some (.int s0)], [], _, _, _) _
      refine pe_blk mm_45 1 (s' := (41, [some (.ref 83), some (.int x1), some (.int x2), some (.int s0)], [], _, _, _)) rfl ?_
      exact hr41 x1 x2 s0 _ _ _ h
def J45_142 (n : Nat) (rec41 : Int32 → Int32 → Int32 → Mem → Option (Int32 × Mem)) (x1 : Int32) (x2 : Int32) (M : Mem) : Option (Int32 × Mem) :=
  J45_143 n rec41 x1 x2 0 M
set_option maxRecDepth 100000 in
set_option maxHeartbeats 4000000 in
theorem J45_142_ev (sc : Option (Nat × (Nat → Int32))) (n : Nat)  (e : Nat) (he : 8 ≤ e) (rec41 : Int32 → Int32 → Int32 → Mem → Option (Int32 × Mem)) (hr41 : ∀ (x1 : Int32) (x2 : Int32) (x3 : Int32) (M : Mem) (r : Int32) (M' : Mem), rec41 x1 x2 x3 M = some (r, M') → pm_ev pmT sc e 45 false (41, [some (.ref 83), some (.int x1), some (.int x2), some (.int x3)], [], 129, 17845, hp M) (some (.int r), 129, 17845, hp M')) : ∀ (x1 : Int32) (x2 : Int32) (u3 : Option Value) (M : Mem) (r : Int32) (M' : Mem), J45_142 n rec41 x1 x2 M = some (r, M') → pm_ev pmT sc e 45 false (142, [some (.ref 83), some (.int x1), some (.int x2), u3], [], 129, 17845, hp M) (some (.int r), 129, 17845, hp M') := by
  intro x1 x2 u3 M r M' h
  unfold J45_142 at h
  refine pe_blk mm_45 1 (s' := (143, [some (.ref 83), some (.int x1), some (.int x2), u3], [.int 0], _, _, _)) rfl ?_
  exact J45_143_ev sc n e he rec41 hr41 x1 x2 0 _ _ _ _ h
def L45_41 (n : Nat) : Nat → Int32 → Int32 → Int32 → Mem → Option (Int32 × Mem)
  | 0, _, _, _, _ => none
  | k + 1, x1, x2, x3, M => if x3 = 0 then (if (M.1 83 4) = 6 then (J45_171 n M) else (match F29 n M with | some (v11, M12) => (if v11 = 0 then (J45_176 n 0 M12) else (J45_171 n M12)) | none => none)) else (match F31 n 40 M with | some (v15, M16) => (match F30 n v15 M16 with | some (v18, M19) => (if v18 = 0 then (J45_66 n M19) else (match F44 n 1 M19 with | some (v22, M23) => (if v22 = 0 then (J45_66 n M23) else (match F31 n 123 M23 with | some (v26, M27) => (match F30 n v26 M27 with | some (v29, M30) => (if v29 = 0 then (J45_89 n M30) else (match F44 n 0 M30 with | some (v33, M34) => (if v33 = 0 then (J45_89 n M34) else (if x1 < 0 ∨ 6 ≤ (x1 : Int32).toNatClampNeg then none else (if x1 < 0 ∨ 6 ≤ (x1 : Int32).toNatClampNeg then none else (if x1 < 0 ∨ 6 ≤ (x1 : Int32).toNatClampNeg then none else (if ((m_i M34 89 (x1 : Int32).toNatClampNeg ((M34.1 89 (x1 : Int32).toNatClampNeg) + 1)).1 89 (x1 : Int32).toNatClampNeg) = (x2 + 1) then (some (1, m_i M34 89 (x1 : Int32).toNatClampNeg ((M34.1 89 (x1 : Int32).toNatClampNeg) + 1))) else (match F31 n 59 (m_i M34 89 (x1 : Int32).toNatClampNeg ((M34.1 89 (x1 : Int32).toNatClampNeg) + 1)) with | some (v41, M42) => (if v41 = 0 then (J45_142 n (L45_41 n k) x1 x2 M42) else (if x1 < 0 ∨ 6 ≤ (x1 : Int32).toNatClampNeg then none else (if 3 ≤ (M42.1 89 (x1 : Int32).toNatClampNeg) then (J45_142 n (L45_41 n k) x1 x2 M42) else (J45_143 n (L45_41 n k) x1 x2 1 M42)))) | none => none)))))) | none => none)) | none => none) | none => none)) | none => none)) | none => none) | none => none)
set_option maxRecDepth 100000 in
set_option maxHeartbeats 4000000 in
theorem L45_41_ev (sc : Option (Nat × (Nat → Int32))) (n : Nat)  (e : Nat) (he : 8 ≤ e) : ∀ k : Nat, ∀ (x1 : Int32) (x2 : Int32) (x3 : Int32) (M : Mem) (r : Int32) (M' : Mem), L45_41 n k x1 x2 x3 M = some (r, M') → pm_ev pmT sc e 45 false (41, [some (.ref 83), some (.int x1), some (.int x2), some (.int x3)], [], 129, 17845, hp M) (some (.int r), 129, 17845, hp M') := by
  intro k
  induction k with
  | zero => intro x1 x2 x3  M r M' h; cases h
  | succ k hr41 =>
    intro x1 x2 x3  M r M' h
    rw [L45_41] at h
    refine pe_blk mm_45 1 (s' := (42, [some (.ref 83), some (.int x1), some (.int x2), some (.int x3)], [.int x3], _, _, _)) rfl ?_
    by_cases q8 : x3 = 0
    · rw [if_pos q8] at h
      refine pe_blk mm_45 1 (s' := (if x3 = 0 then 155 else 45, [some (.ref 83), some (.int x1), some (.int x2), some (.int x3)], [], _, _, _)) rfl ?_
      rw [if_pos q8]
      refine pe_blk mm_45 1 (s' := (156, [some (.ref 83), some (.int x1), some (.int x2), some (.int x3)], [.ref 83], _, _, _)) rfl ?_
      refine pe_get mm_45 rfl rfl rfl (by decide) rfl ?_
      refine pe_blk mm_45 1 (s' := (161, [some (.ref 83), some (.int x1), some (.int x2), some (.int x3)], [.int 6, .int (M.1 83 4)], _, _, _)) rfl ?_
      by_cases q9 : (M.1 83 4) = 6
      · rw [if_pos q9] at h
        refine pe_blk mm_45 1 (s' := (if (M.1 83 4) = 6 then 171 else 164, [some (.ref 83), some (.int x1), some (.int x2), some (.int x3)], [], _, _, _)) rfl ?_
        rw [if_pos q9]
        exact J45_171_ev sc n e he _ _ _ _ _ _ _ h
      · rw [if_neg q9] at h
        refine pe_blk mm_45 1 (s' := (if (M.1 83 4) = 6 then 171 else 164, [some (.ref 83), some (.int x1), some (.int x2), some (.int x3)], [], _, _, _)) rfl ?_
        rw [if_neg q9]
        refine pe_blk mm_45 1 (s' := (165, [some (.ref 83), some (.int x1), some (.int x2), some (.int x3)], [.ref 83], _, _, _)) rfl ?_
        obtain ⟨e1, rfl⟩ : ∃ e1, e = e1 + 1 := ⟨e - 1, by omega⟩
        cases hc13 : F29 n M with
        | none => rw [hc13] at h; cases h
        | some w =>
          obtain ⟨v11, M12⟩ := w
          rw [hc13] at h
          dsimp only at h
          refine pe_virt (al := []) (a := 83) (L0 := [some (.ref 83)]) (r1 := (some (.int v11), 129, 17845, hp M12)) mm_45 rfl rfl rfl mm_29 rfl (by decide) (by decide) rfl (Nat.le_of_ble_eq_true rfl) (Nat.le_of_ble_eq_true rfl) rfl rfl (F29_ev sc n _ e1 (by omega) _ _ hc13) ?_
          show pm_ev _ _ _ _ _ (168, [some (.ref 83), some (.int x1), some (.int x2), some (.int x3)], [.int v11], _, _, _) _
          by_cases q14 : v11 = 0
          · rw [if_pos q14] at h
            refine pe_blk mm_45 1 (s' := (if v11 = 0 then 175 else 171, [some (.ref 83), some (.int x1), some (.int x2), some (.int x3)], [], _, _, _)) rfl ?_
            rw [if_pos q14]
            refine pe_blk mm_45 1 (s' := (176, [some (.ref 83), some (.int x1), some (.int x2), some (.int x3)], [.int 0], _, _, _)) rfl ?_
            exact J45_176_ev sc n (e1 + 1) he 0 _ _ _ _ _ _ _ h
          · rw [if_neg q14] at h
            refine pe_blk mm_45 1 (s' := (if v11 = 0 then 175 else 171, [some (.ref 83), some (.int x1), some (.int x2), some (.int x3)], [], _, _, _)) rfl ?_
            rw [if_neg q14]
            exact J45_171_ev sc n (e1 + 1) he _ _ _ _ _ _ _ h
    · rw [if_neg q8] at h
      refine pe_blk mm_45 1 (s' := (if x3 = 0 then 155 else 45, [some (.ref 83), some (.int x1), some (.int x2), some (.int x3)], [], _, _, _)) rfl ?_
      rw [if_neg q8]
      refine pe_blk mm_45 3 (s' := (49, [some (.ref 83), some (.int x1), some (.int x2), some (.int x3)], [.int 40, .ref 83, .ref 83], _, _, _)) rfl ?_
      obtain ⟨e1, rfl⟩ : ∃ e1, e = e1 + 1 := ⟨e - 1, by omega⟩
      cases hc17 : F31 n 40 M with
      | none => rw [hc17] at h; cases h
      | some w =>
        obtain ⟨v15, M16⟩ := w
        rw [hc17] at h
        dsimp only at h
        refine pe_virt (al := [.int 40]) (a := 83) (L0 := [some (.ref 83), some (.int 40)]) (r1 := (some (.int v15), 129, 17845, hp M16)) mm_45 rfl rfl rfl mm_31 rfl (by decide) (by decide) rfl (Nat.le_of_ble_eq_true rfl) (Nat.le_of_ble_eq_true rfl) rfl rfl (F31_ev sc n 40 _ e1 (by omega) _ _ hc17) ?_
        show pm_ev _ _ _ _ _ (52, [some (.ref 83), some (.int x1), some (.int x2), some (.int x3)], [.int v15, .ref 83], _, _, _) _
        skip
        cases hc20 : F30 n v15 M16 with
        | none => rw [hc20] at h; cases h
        | some w =>
          obtain ⟨v18, M19⟩ := w
          rw [hc20] at h
          dsimp only at h
          refine pe_virt (al := [.int v15]) (a := 83) (L0 := [some (.ref 83), some (.int v15)]) (r1 := (some (.int v18), 129, 17845, hp M19)) mm_45 rfl rfl rfl mm_30 rfl (by decide) (by decide) rfl (Nat.le_of_ble_eq_true rfl) (Nat.le_of_ble_eq_true rfl) rfl rfl (F30_ev sc n v15 _ e1 (by omega) _ _ hc20) ?_
          show pm_ev _ _ _ _ _ (55, [some (.ref 83), some (.int x1), some (.int x2), some (.int x3)], [.int v18], _, _, _) _
          by_cases q21 : v18 = 0
          · rw [if_pos q21] at h
            refine pe_blk mm_45 1 (s' := (if v18 = 0 then 66 else 58, [some (.ref 83), some (.int x1), some (.int x2), some (.int x3)], [], _, _, _)) rfl ?_
            rw [if_pos q21]
            exact J45_66_ev sc n (e1 + 1) he _ _ _ _ _ _ _ h
          · rw [if_neg q21] at h
            refine pe_blk mm_45 1 (s' := (if v18 = 0 then 66 else 58, [some (.ref 83), some (.int x1), some (.int x2), some (.int x3)], [], _, _, _)) rfl ?_
            rw [if_neg q21]
            refine pe_blk mm_45 2 (s' := (60, [some (.ref 83), some (.int x1), some (.int x2), some (.int x3)], [.int 1, .ref 83], _, _, _)) rfl ?_
            skip
            cases hc24 : F44 n 1 M19 with
            | none => rw [hc24] at h; cases h
            | some w =>
              obtain ⟨v22, M23⟩ := w
              rw [hc24] at h
              dsimp only at h
              refine pe_virt (al := [.int 1]) (a := 83) (L0 := [some (.ref 83), some (.int 1), none, none, none]) (r1 := (some (.int v22), 129, 17845, hp M23)) mm_45 rfl rfl rfl mm_44 rfl (by decide) (by decide) rfl (Nat.le_of_ble_eq_true rfl) (Nat.le_of_ble_eq_true rfl) rfl rfl (F44_ev sc n 1 _ e1 (by omega) _ _ hc24) ?_
              show pm_ev _ _ _ _ _ (63, [some (.ref 83), some (.int x1), some (.int x2), some (.int x3)], [.int v22], _, _, _) _
              by_cases q25 : v22 = 0
              · rw [if_pos q25] at h
                refine pe_blk mm_45 1 (s' := (if v22 = 0 then 66 else 68, [some (.ref 83), some (.int x1), some (.int x2), some (.int x3)], [], _, _, _)) rfl ?_
                rw [if_pos q25]
                exact J45_66_ev sc n (e1 + 1) he _ _ _ _ _ _ _ h
              · rw [if_neg q25] at h
                refine pe_blk mm_45 1 (s' := (if v22 = 0 then 66 else 68, [some (.ref 83), some (.int x1), some (.int x2), some (.int x3)], [], _, _, _)) rfl ?_
                rw [if_neg q25]
                refine pe_blk mm_45 3 (s' := (72, [some (.ref 83), some (.int x1), some (.int x2), some (.int x3)], [.int 123, .ref 83, .ref 83], _, _, _)) rfl ?_
                skip
                cases hc28 : F31 n 123 M23 with
                | none => rw [hc28] at h; cases h
                | some w =>
                  obtain ⟨v26, M27⟩ := w
                  rw [hc28] at h
                  dsimp only at h
                  refine pe_virt (al := [.int 123]) (a := 83) (L0 := [some (.ref 83), some (.int 123)]) (r1 := (some (.int v26), 129, 17845, hp M27)) mm_45 rfl rfl rfl mm_31 rfl (by decide) (by decide) rfl (Nat.le_of_ble_eq_true rfl) (Nat.le_of_ble_eq_true rfl) rfl rfl (F31_ev sc n 123 _ e1 (by omega) _ _ hc28) ?_
                  show pm_ev _ _ _ _ _ (75, [some (.ref 83), some (.int x1), some (.int x2), some (.int x3)], [.int v26, .ref 83], _, _, _) _
                  skip
                  cases hc31 : F30 n v26 M27 with
                  | none => rw [hc31] at h; cases h
                  | some w =>
                    obtain ⟨v29, M30⟩ := w
                    rw [hc31] at h
                    dsimp only at h
                    refine pe_virt (al := [.int v26]) (a := 83) (L0 := [some (.ref 83), some (.int v26)]) (r1 := (some (.int v29), 129, 17845, hp M30)) mm_45 rfl rfl rfl mm_30 rfl (by decide) (by decide) rfl (Nat.le_of_ble_eq_true rfl) (Nat.le_of_ble_eq_true rfl) rfl rfl (F30_ev sc n v26 _ e1 (by omega) _ _ hc31) ?_
                    show pm_ev _ _ _ _ _ (78, [some (.ref 83), some (.int x1), some (.int x2), some (.int x3)], [.int v29], _, _, _) _
                    by_cases q32 : v29 = 0
                    · rw [if_pos q32] at h
                      refine pe_blk mm_45 1 (s' := (if v29 = 0 then 89 else 81, [some (.ref 83), some (.int x1), some (.int x2), some (.int x3)], [], _, _, _)) rfl ?_
                      rw [if_pos q32]
                      exact J45_89_ev sc n (e1 + 1) he _ _ _ _ _ _ _ h
                    · rw [if_neg q32] at h
                      refine pe_blk mm_45 1 (s' := (if v29 = 0 then 89 else 81, [some (.ref 83), some (.int x1), some (.int x2), some (.int x3)], [], _, _, _)) rfl ?_
                      rw [if_neg q32]
                      refine pe_blk mm_45 2 (s' := (83, [some (.ref 83), some (.int x1), some (.int x2), some (.int x3)], [.int 0, .ref 83], _, _, _)) rfl ?_
                      skip
                      cases hc35 : F44 n 0 M30 with
                      | none => rw [hc35] at h; cases h
                      | some w =>
                        obtain ⟨v33, M34⟩ := w
                        rw [hc35] at h
                        dsimp only at h
                        refine pe_virt (al := [.int 0]) (a := 83) (L0 := [some (.ref 83), some (.int 0), none, none, none]) (r1 := (some (.int v33), 129, 17845, hp M34)) mm_45 rfl rfl rfl mm_44 rfl (by decide) (by decide) rfl (Nat.le_of_ble_eq_true rfl) (Nat.le_of_ble_eq_true rfl) rfl rfl (F44_ev sc n 0 _ e1 (by omega) _ _ hc35) ?_
                        show pm_ev _ _ _ _ _ (86, [some (.ref 83), some (.int x1), some (.int x2), some (.int x3)], [.int v33], _, _, _) _
                        by_cases q36 : v33 = 0
                        · rw [if_pos q36] at h
                          refine pe_blk mm_45 1 (s' := (if v33 = 0 then 89 else 91, [some (.ref 83), some (.int x1), some (.int x2), some (.int x3)], [], _, _, _)) rfl ?_
                          rw [if_pos q36]
                          exact J45_89_ev sc n (e1 + 1) he _ _ _ _ _ _ _ h
                        · rw [if_neg q36] at h
                          refine pe_blk mm_45 1 (s' := (if v33 = 0 then 89 else 91, [some (.ref 83), some (.int x1), some (.int x2), some (.int x3)], [], _, _, _)) rfl ?_
                          rw [if_neg q36]
                          refine pe_blk mm_45 1 (s' := (92, [some (.ref 83), some (.int x1), some (.int x2), some (.int x3)], [.ref 83], _, _, _)) rfl ?_
                          refine pe_get mm_45 rfl rfl rfl (by decide) rfl ?_
                          refine pe_blk mm_45 2 (s' := (97, [some (.ref 83), some (.int x1), some (.int x2), some (.int x3)], [.ref 83, .int x1, .ref 89], _, _, _)) rfl ?_
                          refine pe_get mm_45 rfl rfl rfl (by decide) rfl ?_
                          refine pe_blk mm_45 1 (s' := (101, [some (.ref 83), some (.int x1), some (.int x2), some (.int x3)], [.int x1, .ref 89, .int x1, .ref 89], _, _, _)) rfl ?_
                          by_cases q37 : x1 < 0 ∨ 6 ≤ (x1 : Int32).toNatClampNeg
                          · rw [if_pos q37] at h
                            cases h
                          · rw [if_neg q37] at h
                            refine pe_iald (f := M34.1 89) mm_45 rfl rfl (by decide) q37 ?_
                            refine pe_blk mm_45 2 (s' := (104, [some (.ref 83), some (.int x1), some (.int x2), some (.int x3)], [.int ((M34.1 89 (x1 : Int32).toNatClampNeg) + 1), .int x1, .ref 89], _, _, _)) rfl ?_
                            by_cases q38 : x1 < 0 ∨ 6 ≤ (x1 : Int32).toNatClampNeg
                            · rw [if_pos q38] at h
                              cases h
                            · rw [if_neg q38] at h
                              refine pe_iasti mm_45 rfl rfl (by decide) q38 rfl ?_
                              refine pe_blk mm_45 1 (s' := (106, [some (.ref 83), some (.int x1), some (.int x2), some (.int x3)], [.ref 83], _, _, _)) rfl ?_
                              refine pe_get mm_45 rfl rfl rfl (by decide) rfl ?_
                              refine pe_blk mm_45 1 (s' := (110, [some (.ref 83), some (.int x1), some (.int x2), some (.int x3)], [.int x1, .ref 89], _, _, _)) rfl ?_
                              by_cases q39 : x1 < 0 ∨ 6 ≤ (x1 : Int32).toNatClampNeg
                              · rw [if_pos q39] at h
                                cases h
                              · rw [if_neg q39] at h
                                refine pe_iald (f := (m_i M34 89 (x1 : Int32).toNatClampNeg ((M34.1 89 (x1 : Int32).toNatClampNeg) + 1)).1 89) mm_45 rfl rfl (by decide) q39 ?_
                                refine pe_blk mm_45 3 (s' := (114, [some (.ref 83), some (.int x1), some (.int x2), some (.int x3)], [.int (x2 + 1), .int ((m_i M34 89 (x1 : Int32).toNatClampNeg ((M34.1 89 (x1 : Int32).toNatClampNeg) + 1)).1 89 (x1 : Int32).toNatClampNeg)], _, _, _)) rfl ?_
                                by_cases q40 : ((m_i M34 89 (x1 : Int32).toNatClampNeg ((M34.1 89 (x1 : Int32).toNatClampNeg) + 1)).1 89 (x1 : Int32).toNatClampNeg) = (x2 + 1)
                                · rw [if_pos q40] at h
                                  refine pe_blk mm_45 1 (s' := (if ((m_i M34 89 (x1 : Int32).toNatClampNeg ((M34.1 89 (x1 : Int32).toNatClampNeg) + 1)).1 89 (x1 : Int32).toNatClampNeg) = (x2 + 1) then 117 else 119, [some (.ref 83), some (.int x1), some (.int x2), some (.int x3)], [], _, _, _)) rfl ?_
                                  rw [if_pos q40]
                                  refine pe_blk mm_45 1 (s' := (118, [some (.ref 83), some (.int x1), some (.int x2), some (.int x3)], [.int 1], _, _, _)) rfl ?_
                                  cases h
                                  exact pe_ret mm_45 rfl rfl
                                · rw [if_neg q40] at h
                                  refine pe_blk mm_45 1 (s' := (if ((m_i M34 89 (x1 : Int32).toNatClampNeg ((M34.1 89 (x1 : Int32).toNatClampNeg) + 1)).1 89 (x1 : Int32).toNatClampNeg) = (x2 + 1) then 117 else 119, [some (.ref 83), some (.int x1), some (.int x2), some (.int x3)], [], _, _, _)) rfl ?_
                                  rw [if_neg q40]
                                  refine pe_blk mm_45 2 (s' := (122, [some (.ref 83), some (.int x1), some (.int x2), some (.int x3)], [.int 59, .ref 83], _, _, _)) rfl ?_
                                  skip
                                  cases hc43 : F31 n 59 (m_i M34 89 (x1 : Int32).toNatClampNeg ((M34.1 89 (x1 : Int32).toNatClampNeg) + 1)) with
                                  | none => rw [hc43] at h; cases h
                                  | some w =>
                                    obtain ⟨v41, M42⟩ := w
                                    rw [hc43] at h
                                    dsimp only at h
                                    refine pe_virt (al := [.int 59]) (a := 83) (L0 := [some (.ref 83), some (.int 59)]) (r1 := (some (.int v41), 129, 17845, hp M42)) mm_45 rfl rfl rfl mm_31 rfl (by decide) (by decide) rfl (Nat.le_of_ble_eq_true rfl) (Nat.le_of_ble_eq_true rfl) rfl rfl (F31_ev sc n 59 _ e1 (by omega) _ _ hc43) ?_
                                    show pm_ev _ _ _ _ _ (125, [some (.ref 83), some (.int x1), some (.int x2), some (.int x3)], [.int v41], _, _, _) _
                                    by_cases q44 : v41 = 0
                                    · rw [if_pos q44] at h
                                      refine pe_blk mm_45 1 (s' := (if v41 = 0 then 142 else 128, [some (.ref 83), some (.int x1), some (.int x2), some (.int x3)], [], _, _, _)) rfl ?_
                                      rw [if_pos q44]
                                      exact J45_142_ev sc n (e1 + 1) he (L45_41 n k) hr41 x1 x2 _ _ _ _ h
                                    · rw [if_neg q44] at h
                                      refine pe_blk mm_45 1 (s' := (if v41 = 0 then 142 else 128, [some (.ref 83), some (.int x1), some (.int x2), some (.int x3)], [], _, _, _)) rfl ?_
                                      rw [if_neg q44]
                                      refine pe_blk mm_45 1 (s' := (129, [some (.ref 83), some (.int x1), some (.int x2), some (.int x3)], [.ref 83], _, _, _)) rfl ?_
                                      refine pe_get mm_45 rfl rfl rfl (by decide) rfl ?_
                                      refine pe_blk mm_45 1 (s' := (133, [some (.ref 83), some (.int x1), some (.int x2), some (.int x3)], [.int x1, .ref 89], _, _, _)) rfl ?_
                                      by_cases q49 : x1 < 0 ∨ 6 ≤ (x1 : Int32).toNatClampNeg
                                      · rw [if_pos q49] at h
                                        cases h
                                      · rw [if_neg q49] at h
                                        refine pe_iald (f := M42.1 89) mm_45 rfl rfl (by decide) q49 ?_
                                        refine pe_blk mm_45 1 (s' := (135, [some (.ref 83), some (.int x1), some (.int x2), some (.int x3)], [.int 3, .int (M42.1 89 (x1 : Int32).toNatClampNeg)], _, _, _)) rfl ?_
                                        by_cases q50 : 3 ≤ (M42.1 89 (x1 : Int32).toNatClampNeg)
                                        · rw [if_pos q50] at h
                                          refine pe_blk mm_45 1 (s' := (if 3 ≤ (M42.1 89 (x1 : Int32).toNatClampNeg) then 142 else 138, [some (.ref 83), some (.int x1), some (.int x2), some (.int x3)], [], _, _, _)) rfl ?_
                                          rw [if_pos q50]
                                          exact J45_142_ev sc n (e1 + 1) he (L45_41 n k) hr41 x1 x2 _ _ _ _ h
                                        · rw [if_neg q50] at h
                                          refine pe_blk mm_45 1 (s' := (if 3 ≤ (M42.1 89 (x1 : Int32).toNatClampNeg) then 142 else 138, [some (.ref 83), some (.int x1), some (.int x2), some (.int x3)], [], _, _, _)) rfl ?_
                                          rw [if_neg q50]
                                          refine pe_blk mm_45 2 (s' := (143, [some (.ref 83), some (.int x1), some (.int x2), some (.int x3)], [.int 1], _, _, _)) rfl ?_
                                          exact J45_143_ev sc n (e1 + 1) he (L45_41 n k) hr41 x1 x2 1 _ _ _ _ h
def J45_24 (n : Nat) (x1 : Int32) (x2 : Int32) (s0 : Int32) (M : Mem) : Option (Int32 × Mem) :=
  match F30 n s0 M with | some (v3, M4) => (if v3 = 0 then (some (0, M4)) else (if x1 < 0 ∨ 6 ≤ (x1 : Int32).toNatClampNeg then none else (L45_41 n n x1 x2 1 (m_i M4 89 (x1 : Int32).toNatClampNeg 0)))) | none => none
set_option maxRecDepth 100000 in
set_option maxHeartbeats 4000000 in
theorem J45_24_ev (sc : Option (Nat × (Nat → Int32))) (n : Nat)  (e : Nat) (he : 8 ≤ e) : ∀ (x1 : Int32) (x2 : Int32) (s0 : Int32) (u3 : Option Value) (M : Mem) (r : Int32) (M' : Mem), J45_24 n x1 x2 s0 M = some (r, M') → pm_ev pmT sc e 45 false (24, [some (.ref 83), some (.int x1), some (.int x2), u3], [.int s0, .ref 83], 129, 17845, hp M) (some (.int r), 129, 17845, hp M') := by
  intro x1 x2 s0 u3 M r M' h
  unfold J45_24 at h
  obtain ⟨e1, rfl⟩ : ∃ e1, e = e1 + 1 := ⟨e - 1, by omega⟩
  cases hc5 : F30 n s0 M with
  | none => rw [hc5] at h; cases h
  | some w =>
    obtain ⟨v3, M4⟩ := w
    rw [hc5] at h
    dsimp only at h
    refine pe_virt (al := [.int s0]) (a := 83) (L0 := [some (.ref 83), some (.int s0)]) (r1 := (some (.int v3), 129, 17845, hp M4)) mm_45 rfl rfl rfl mm_30 rfl (by decide) (by decide) rfl (Nat.le_of_ble_eq_true rfl) (Nat.le_of_ble_eq_true rfl) rfl rfl (F30_ev sc n s0 _ e1 (by omega) _ _ hc5) ?_
    show pm_ev _ _ _ _ _ (27, [some (.ref 83), some (.int x1), some (.int x2), u3], [.int v3], _, _, _) _
    by_cases q6 : v3 = 0
    · rw [if_pos q6] at h
      refine pe_blk mm_45 1 (s' := (if v3 = 0 then 30 else 32, [some (.ref 83), some (.int x1), some (.int x2), u3], [], _, _, _)) rfl ?_
      rw [if_pos q6]
      refine pe_blk mm_45 1 (s' := (31, [some (.ref 83), some (.int x1), some (.int x2), u3], [.int 0], _, _, _)) rfl ?_
      cases h
      exact pe_ret mm_45 rfl rfl
    · rw [if_neg q6] at h
      refine pe_blk mm_45 1 (s' := (if v3 = 0 then 30 else 32, [some (.ref 83), some (.int x1), some (.int x2), u3], [], _, _, _)) rfl ?_
      rw [if_neg q6]
      refine pe_blk mm_45 1 (s' := (33, [some (.ref 83), some (.int x1), some (.int x2), u3], [.ref 83], _, _, _)) rfl ?_
      refine pe_get mm_45 rfl rfl rfl (by decide) rfl ?_
      refine pe_blk mm_45 2 (s' := (38, [some (.ref 83), some (.int x1), some (.int x2), u3], [.int 0, .int x1, .ref 89], _, _, _)) rfl ?_
      by_cases q7 : x1 < 0 ∨ 6 ≤ (x1 : Int32).toNatClampNeg
      · rw [if_pos q7] at h
        cases h
      · rw [if_neg q7] at h
        refine pe_iasti mm_45 rfl rfl (by decide) q7 rfl ?_
        refine pe_blk mm_45 2 (s' := (41, [some (.ref 83), some (.int x1), some (.int x2), some (.int 1)], [], _, _, _)) rfl ?_
        exact L45_41_ev sc n (e1 + 1) he n x1 x2 1 _ _ _ h
/-- ArmExpanderModel.readDefinition -/
def F45 (n : Nat) (a0 : Int32) (a1 : Int32) (M : Mem) : Option (Int32 × Mem) :=
  if a0 < 0 ∨ 6 ≤ (a0 : Int32).toNatClampNeg then none else (if ((m_i M 88 (a0 : Int32).toNatClampNeg (M.1 83 5)).1 83 4) = 1 then (J45_24 n a0 a1 1 (m_i M 88 (a0 : Int32).toNatClampNeg (M.1 83 5))) else (J45_24 n a0 a1 0 (m_i M 88 (a0 : Int32).toNatClampNeg (M.1 83 5))))
set_option maxRecDepth 100000 in
set_option maxHeartbeats 4000000 in
theorem F45_ev (sc : Option (Nat × (Nat → Int32))) (n : Nat) (a0 : Int32) (a1 : Int32)  (M : Mem) (e : Nat) (he : 8 ≤ e) (r : Int32) (M' : Mem) (h : F45 n a0 a1 M = some (r, M')) : pm_ev pmT sc e 45 false (0, [some (.ref 83), some (.int a0), some (.int a1), none], [], 129, 17845, hp M) (some (.int r), 129, 17845, hp M') := by
  unfold F45 at h
  refine pe_blk mm_45 1 (s' := (1, [some (.ref 83), some (.int a0), some (.int a1), none], [.ref 83], _, _, _)) rfl ?_
  refine pe_get mm_45 rfl rfl rfl (by decide) rfl ?_
  refine pe_blk mm_45 2 (s' := (6, [some (.ref 83), some (.int a0), some (.int a1), none], [.ref 83, .int a0, .ref 88], _, _, _)) rfl ?_
  refine pe_get mm_45 rfl rfl rfl (by decide) rfl ?_
  by_cases q1 : a0 < 0 ∨ 6 ≤ (a0 : Int32).toNatClampNeg
  · rw [if_pos q1] at h
    cases h
  · rw [if_neg q1] at h
    refine pe_iasti mm_45 rfl rfl (by decide) q1 rfl ?_
    refine pe_blk mm_45 2 (s' := (12, [some (.ref 83), some (.int a0), some (.int a1), none], [.ref 83, .ref 83], _, _, _)) rfl ?_
    refine pe_get mm_45 rfl rfl rfl (by decide) rfl ?_
    refine pe_blk mm_45 1 (s' := (16, [some (.ref 83), some (.int a0), some (.int a1), none], [.int 1, .int ((m_i M 88 (a0 : Int32).toNatClampNeg (M.1 83 5)).1 83 4), .ref 83], _, _, _)) rfl ?_
    by_cases q2 : ((m_i M 88 (a0 : Int32).toNatClampNeg (M.1 83 5)).1 83 4) = 1
    · rw [if_pos q2] at h
      refine pe_blk mm_45 1 (s' := (if ((m_i M 88 (a0 : Int32).toNatClampNeg (M.1 83 5)).1 83 4) = 1 then 19 else 23, [some (.ref 83), some (.int a0), some (.int a1), none], [.ref 83], _, _, _)) rfl ?_
      rw [if_pos q2]
      refine pe_blk mm_45 2 (s' := (24, [some (.ref 83), some (.int a0), some (.int a1), none], [.int 1, .ref 83], _, _, _)) rfl ?_
      exact J45_24_ev sc n e he a0 a1 1 _ _ _ _ h
    · rw [if_neg q2] at h
      refine pe_blk mm_45 1 (s' := (if ((m_i M 88 (a0 : Int32).toNatClampNeg (M.1 83 5)).1 83 4) = 1 then 19 else 23, [some (.ref 83), some (.int a0), some (.int a1), none], [.ref 83], _, _, _)) rfl ?_
      rw [if_neg q2]
      refine pe_blk mm_45 1 (s' := (24, [some (.ref 83), some (.int a0), some (.int a1), none], [.int 0, .ref 83], _, _, _)) rfl ?_
      exact J45_24_ev sc n e he a0 a1 0 _ _ _ _ h
def J46_40 (n : Nat) (rec4 : Int32 → Int32 → Int32 → Mem → Option (Int32 × Mem)) (x1 : Int32) (x3 : Int32) (s0 : Int32) (M : Mem) : Option (Int32 × Mem) :=
  rec4 x1 s0 (x3 + 1) M
set_option maxRecDepth 100000 in
set_option maxHeartbeats 4000000 in
theorem J46_40_ev (sc : Option (Nat × (Nat → Int32))) (n : Nat)  (e : Nat) (he : 1 ≤ e) (rec4 : Int32 → Int32 → Int32 → Mem → Option (Int32 × Mem)) (hr4 : ∀ (x1 : Int32) (x2 : Int32) (x3 : Int32) (M : Mem) (r : Int32) (M' : Mem), rec4 x1 x2 x3 M = some (r, M') → pm_ev pmT sc e 46 false (4, [some (.ref 83), some (.int x1), some (.int x2), some (.int x3)], [], 129, 17845, hp M) (some (.int r), 129, 17845, hp M')) : ∀ (x1 : Int32) (x3 : Int32) (s0 : Int32) (u2 : Option Value) (M : Mem) (r : Int32) (M' : Mem), J46_40 n rec4 x1 x3 s0 M = some (r, M') → pm_ev pmT sc e 46 false (40, [some (.ref 83), some (.int x1), u2, some (.int x3)], [.int s0], 129, 17845, hp M) (some (.int r), 129, 17845, hp M') := by
  intro x1 x3 s0 u2 M r M' h
  unfold J46_40 at h
  refine pe_blk mm_46 3 (s' := (4, [some (.ref 83), some (.int x1), some (.int s0), some (.int (x3 + 1))], [], _, _, _)) rfl ?_
  exact hr4 x1 s0 (x3 + 1) _ _ _ h
def J46_39 (n : Nat) (rec4 : Int32 → Int32 → Int32 → Mem → Option (Int32 × Mem)) (x1 : Int32) (x2 : Int32) (x3 : Int32) (M : Mem) : Option (Int32 × Mem) :=
  J46_40 n rec4 x1 x3 x2 M
set_option maxRecDepth 100000 in
set_option maxHeartbeats 4000000 in
theorem J46_39_ev (sc : Option (Nat × (Nat → Int32))) (n : Nat)  (e : Nat) (he : 1 ≤ e) (rec4 : Int32 → Int32 → Int32 → Mem → Option (Int32 × Mem)) (hr4 : ∀ (x1 : Int32) (x2 : Int32) (x3 : Int32) (M : Mem) (r : Int32) (M' : Mem), rec4 x1 x2 x3 M = some (r, M') → pm_ev pmT sc e 46 false (4, [some (.ref 83), some (.int x1), some (.int x2), some (.int x3)], [], 129, 17845, hp M) (some (.int r), 129, 17845, hp M')) : ∀ (x1 : Int32) (x2 : Int32) (x3 : Int32) (M : Mem) (r : Int32) (M' : Mem), J46_39 n rec4 x1 x2 x3 M = some (r, M') → pm_ev pmT sc e 46 false (39, [some (.ref 83), some (.int x1), some (.int x2), some (.int x3)], [], 129, 17845, hp M) (some (.int r), 129, 17845, hp M') := by
  intro x1 x2 x3  M r M' h
  unfold J46_39 at h
  refine pe_blk mm_46 1 (s' := (40, [some (.ref 83), some (.int x1), some (.int x2), some (.int x3)], [.int x2], _, _, _)) rfl ?_
  exact J46_40_ev sc n e he rec4 hr4 x1 x3 x2 _ _ _ _ h
def L46_4 (n : Nat) : Nat → Int32 → Int32 → Int32 → Mem → Option (Int32 × Mem)
  | 0, _, _, _, _ => none
  | k + 1, x1, x2, x3, M => if x3 < 0 ∨ 128 ≤ (x3 : Int32).toNatClampNeg then none else (if (M.1 90 (x3 : Int32).toNatClampNeg) = 6 then (some (x2, M)) else (if x3 < 0 ∨ 128 ≤ (x3 : Int32).toNatClampNeg then none else (if (M.1 90 (x3 : Int32).toNatClampNeg) = 3 then (if x3 < 0 ∨ 128 ≤ (x3 : Int32).toNatClampNeg then none else (if (M.1 91 (x3 : Int32).toNatClampNeg) = x1 then (J46_40 n (L46_4 n k) x1 x3 x3 M) else (J46_39 n (L46_4 n k) x1 x2 x3 M))) else (J46_39 n (L46_4 n k) x1 x2 x3 M))))
set_option maxRecDepth 100000 in
set_option maxHeartbeats 4000000 in
theorem L46_4_ev (sc : Option (Nat × (Nat → Int32))) (n : Nat)  (e : Nat) (he : 1 ≤ e) : ∀ k : Nat, ∀ (x1 : Int32) (x2 : Int32) (x3 : Int32) (M : Mem) (r : Int32) (M' : Mem), L46_4 n k x1 x2 x3 M = some (r, M') → pm_ev pmT sc e 46 false (4, [some (.ref 83), some (.int x1), some (.int x2), some (.int x3)], [], 129, 17845, hp M) (some (.int r), 129, 17845, hp M') := by
  intro k
  induction k with
  | zero => intro x1 x2 x3  M r M' h; cases h
  | succ k hr4 =>
    intro x1 x2 x3  M r M' h
    rw [L46_4] at h
    refine pe_blk mm_46 1 (s' := (5, [some (.ref 83), some (.int x1), some (.int x2), some (.int x3)], [.ref 83], _, _, _)) rfl ?_
    refine pe_get mm_46 rfl rfl rfl (by decide) rfl ?_
    refine pe_blk mm_46 1 (s' := (9, [some (.ref 83), some (.int x1), some (.int x2), some (.int x3)], [.int x3, .ref 90], _, _, _)) rfl ?_
    by_cases q1 : x3 < 0 ∨ 128 ≤ (x3 : Int32).toNatClampNeg
    · rw [if_pos q1] at h
      cases h
    · rw [if_neg q1] at h
      refine pe_iald (f := M.1 90) mm_46 rfl rfl (by decide) q1 ?_
      refine pe_blk mm_46 1 (s' := (12, [some (.ref 83), some (.int x1), some (.int x2), some (.int x3)], [.int 6, .int (M.1 90 (x3 : Int32).toNatClampNeg)], _, _, _)) rfl ?_
      by_cases q2 : (M.1 90 (x3 : Int32).toNatClampNeg) = 6
      · rw [if_pos q2] at h
        refine pe_blk mm_46 1 (s' := (if (M.1 90 (x3 : Int32).toNatClampNeg) = 6 then 47 else 15, [some (.ref 83), some (.int x1), some (.int x2), some (.int x3)], [], _, _, _)) rfl ?_
        rw [if_pos q2]
        refine pe_blk mm_46 1 (s' := (48, [some (.ref 83), some (.int x1), some (.int x2), some (.int x3)], [.int x2], _, _, _)) rfl ?_
        cases h
        exact pe_ret mm_46 rfl rfl
      · rw [if_neg q2] at h
        refine pe_blk mm_46 1 (s' := (if (M.1 90 (x3 : Int32).toNatClampNeg) = 6 then 47 else 15, [some (.ref 83), some (.int x1), some (.int x2), some (.int x3)], [], _, _, _)) rfl ?_
        rw [if_neg q2]
        refine pe_blk mm_46 1 (s' := (16, [some (.ref 83), some (.int x1), some (.int x2), some (.int x3)], [.ref 83], _, _, _)) rfl ?_
        refine pe_get mm_46 rfl rfl rfl (by decide) rfl ?_
        refine pe_blk mm_46 1 (s' := (20, [some (.ref 83), some (.int x1), some (.int x2), some (.int x3)], [.int x3, .ref 90], _, _, _)) rfl ?_
        by_cases q3 : x3 < 0 ∨ 128 ≤ (x3 : Int32).toNatClampNeg
        · rw [if_pos q3] at h
          cases h
        · rw [if_neg q3] at h
          refine pe_iald (f := M.1 90) mm_46 rfl rfl (by decide) q3 ?_
          refine pe_blk mm_46 1 (s' := (22, [some (.ref 83), some (.int x1), some (.int x2), some (.int x3)], [.int 3, .int (M.1 90 (x3 : Int32).toNatClampNeg)], _, _, _)) rfl ?_
          by_cases q4 : (M.1 90 (x3 : Int32).toNatClampNeg) = 3
          · rw [if_pos q4] at h
            refine pe_blk mm_46 1 (s' := (if (M.1 90 (x3 : Int32).toNatClampNeg) = 3 then 25 else 39, [some (.ref 83), some (.int x1), some (.int x2), some (.int x3)], [], _, _, _)) rfl ?_
            rw [if_pos q4]
            refine pe_blk mm_46 1 (s' := (26, [some (.ref 83), some (.int x1), some (.int x2), some (.int x3)], [.ref 83], _, _, _)) rfl ?_
            refine pe_get mm_46 rfl rfl rfl (by decide) rfl ?_
            refine pe_blk mm_46 1 (s' := (30, [some (.ref 83), some (.int x1), some (.int x2), some (.int x3)], [.int x3, .ref 91], _, _, _)) rfl ?_
            by_cases q5 : x3 < 0 ∨ 128 ≤ (x3 : Int32).toNatClampNeg
            · rw [if_pos q5] at h
              cases h
            · rw [if_neg q5] at h
              refine pe_iald (f := M.1 91) mm_46 rfl rfl (by decide) q5 ?_
              refine pe_blk mm_46 1 (s' := (32, [some (.ref 83), some (.int x1), some (.int x2), some (.int x3)], [.int x1, .int (M.1 91 (x3 : Int32).toNatClampNeg)], _, _, _)) rfl ?_
              by_cases q6 : (M.1 91 (x3 : Int32).toNatClampNeg) = x1
              · rw [if_pos q6] at h
                refine pe_blk mm_46 1 (s' := (if (M.1 91 (x3 : Int32).toNatClampNeg) = x1 then 35 else 39, [some (.ref 83), some (.int x1), some (.int x2), some (.int x3)], [], _, _, _)) rfl ?_
                rw [if_pos q6]
                refine pe_blk mm_46 2 (s' := (40, [some (.ref 83), some (.int x1), some (.int x2), some (.int x3)], [.int x3], _, _, _)) rfl ?_
                exact J46_40_ev sc n e he (L46_4 n k) hr4 x1 x3 x3 _ _ _ _ h
              · rw [if_neg q6] at h
                refine pe_blk mm_46 1 (s' := (if (M.1 91 (x3 : Int32).toNatClampNeg) = x1 then 35 else 39, [some (.ref 83), some (.int x1), some (.int x2), some (.int x3)], [], _, _, _)) rfl ?_
                rw [if_neg q6]
                exact J46_39_ev sc n e he (L46_4 n k) hr4 x1 x2 x3 _ _ _ h
          · rw [if_neg q4] at h
            refine pe_blk mm_46 1 (s' := (if (M.1 90 (x3 : Int32).toNatClampNeg) = 3 then 25 else 39, [some (.ref 83), some (.int x1), some (.int x2), some (.int x3)], [], _, _, _)) rfl ?_
            rw [if_neg q4]
            exact J46_39_ev sc n e he (L46_4 n k) hr4 x1 x2 x3 _ _ _ h
/-- ArmExpanderModel.place -/
def F46 (n : Nat) (a0 : Int32) (M : Mem) : Option (Int32 × Mem) :=
  L46_4 n n a0 (-1) 0 M
set_option maxRecDepth 100000 in
set_option maxHeartbeats 4000000 in
theorem F46_ev (sc : Option (Nat × (Nat → Int32))) (n : Nat) (a0 : Int32)  (M : Mem) (e : Nat) (he : 1 ≤ e) (r : Int32) (M' : Mem) (h : F46 n a0 M = some (r, M')) : pm_ev pmT sc e 46 false (0, [some (.ref 83), some (.int a0), none, none], [], 129, 17845, hp M) (some (.int r), 129, 17845, hp M') := by
  unfold F46 at h
  refine pe_blk mm_46 4 (s' := (4, [some (.ref 83), some (.int a0), some (.int (-1)), some (.int 0)], [], _, _, _)) rfl ?_
  exact L46_4_ev sc n e he n a0 (-1) 0 _ _ _ h
