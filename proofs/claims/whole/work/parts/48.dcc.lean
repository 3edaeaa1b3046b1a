/-! The methods as functions over Mem; written by program. -/
def J211_125 (n : Nat) (gg : Int32 → Int32 → Int32 → Mem → Option (Int32 × Mem)) (x2 : Int32) (x6 : Int32) (M : Mem) : Option (Int32 × Mem) :=
  if x2 < 0 ∨ 2 ≤ (x2 : Int32).toNatClampNeg then none else (mlet (m_i M 32 (x2 : Int32).toNatClampNeg 0) (fun M20 => if x6 = 0 ∨ x6 = 1 then some (x6, M20) else none))
set_option maxRecDepth 100000 in
set_option maxHeartbeats 4000000 in
theorem J211_125_ev (sc : Option (Nat × (Nat → Int32))) (n : Nat) (gg : Int32 → Int32 → Int32 → Mem → Option (Int32 × Mem)) (E : Nat) (hg : ∀ (a0 : Int32) (a1 : Int32) (a2 : Int32)  (M : Mem) (e : Nat), E ≤ e → ∀ (r : Int32) (M' : Mem), gg a0 a1 a2 M = some (r, M') → pm_ev pmT sc e 210 false (0, [some (.ref 31), some (.int a0), some (.int a1), some (.int a2), none, none], [], 129, 17845, hp M) (some (.int r), 129, 17845, hp M')) (e : Nat) (he : 3 + E ≤ e) : ∀ (x2 : Int32) (x6 : Int32) (u1 : Option Value) (u3 : Option Value) (u4 : Option Value) (u5 : Option Value) (u7 : Option Value) (M : Mem) (r : Int32) (M' : Mem), J211_125 n gg x2 x6 M = some (r, M') → pm_ev pmT sc e 211 false (125, [some (.ref 31), u1, some (.int x2), u3, u4, u5, some (.int x6), u7], [], 129, 17845, hp M) (some (.int r), 129, 17845, hp M') := by
  intro x2 x6 u1 u3 u4 u5 u7 M r M' h
  unfold J211_125 at h
  refine pe_blk mm_211 1 (s' := (126, [some (.ref 31), u1, some (.int x2), u3, u4, u5, some (.int x6), u7], [.ref 31], _, _, _)) rfl ?_
  refine pe_get mm_211 rfl rfl rfl (by decide) rfl ?_
  refine pe_blk mm_211 2 (s' := (131, [some (.ref 31), u1, some (.int x2), u3, u4, u5, some (.int x6), u7], [.int 0, .int x2, .ref 32], _, _, _)) rfl ?_
  by_cases q19 : x2 < 0 ∨ 2 ≤ (x2 : Int32).toNatClampNeg
  · rw [if_pos q19] at h
    cases h
  · rw [if_neg q19] at h
    refine pe_iasti mm_211 rfl rfl (by decide) q19 rfl ?_
    show pm_ev _ _ _ _ _ (132, [some (.ref 31), u1, some (.int x2), u3, u4, u5, some (.int x6), u7], [], _, _, hp (m_i M 32 (x2 : Int32).toNatClampNeg 0)) _
    generalize m_i M 32 (x2 : Int32).toNatClampNeg 0 = M20 at h ⊢
    rw [mlet] at h
    refine pe_blk mm_211 1 (s' := (134, [some (.ref 31), u1, some (.int x2), u3, u4, u5, some (.int x6), u7], [.int x6], _, _, _)) rfl ?_
    by_cases q21 : x6 = 0 ∨ x6 = 1
    · rw [if_pos q21] at h
      cases h
      exact pe_ret mm_211 rfl (if_pos q21)
    · rw [if_neg q21] at h
      cases h
def J211_97 (n : Nat) (gg : Int32 → Int32 → Int32 → Mem → Option (Int32 × Mem)) (rec55 : Int32 → Int32 → Int32 → Int32 → Int32 → Int32 → Int32 → Mem → Option (Int32 × Mem)) (x1 : Int32) (x2 : Int32) (x3 : Int32) (x4 : Int32) (x5 : Int32) (x7 : Int32) (M : Mem) : Option (Int32 × Mem) :=
  if x2 < 0 ∨ 2 ≤ (x2 : Int32).toNatClampNeg then none else (mlet (m_i M 32 (x2 : Int32).toNatClampNeg x7) (fun M25 => match gg (x1 + 2) x5 (x2 + 1) M25 with | some (v26, M27) => (rec55 x1 x2 x3 x4 x5 v26 (x7 + 1) M27) | none => none))
set_option maxRecDepth 100000 in
set_option maxHeartbeats 4000000 in
theorem J211_97_ev (sc : Option (Nat × (Nat → Int32))) (n : Nat) (gg : Int32 → Int32 → Int32 → Mem → Option (Int32 × Mem)) (E : Nat) (hg : ∀ (a0 : Int32) (a1 : Int32) (a2 : Int32)  (M : Mem) (e : Nat), E ≤ e → ∀ (r : Int32) (M' : Mem), gg a0 a1 a2 M = some (r, M') → pm_ev pmT sc e 210 false (0, [some (.ref 31), some (.int a0), some (.int a1), some (.int a2), none, none], [], 129, 17845, hp M) (some (.int r), 129, 17845, hp M')) (e : Nat) (he : 3 + E ≤ e) (rec55 : Int32 → Int32 → Int32 → Int32 → Int32 → Int32 → Int32 → Mem → Option (Int32 × Mem)) (hr55 : ∀ (x1 : Int32) (x2 : Int32) (x3 : Int32) (x4 : Int32) (x5 : Int32) (x6 : Int32) (x7 : Int32) (M : Mem) (r : Int32) (M' : Mem), rec55 x1 x2 x3 x4 x5 x6 x7 M = some (r, M') → pm_ev pmT sc e 211 false (55, [some (.ref 31), some (.int x1), some (.int x2), some (.int x3), some (.int x4), some (.int x5), some (.int x6), some (.int x7)], [], 129, 17845, hp M) (some (.int r), 129, 17845, hp M')) : ∀ (x1 : Int32) (x2 : Int32) (x3 : Int32) (x4 : Int32) (x5 : Int32) (x7 : Int32) (u6 : Option Value) (M : Mem) (r : Int32) (M' : Mem), J211_97 n gg rec55 x1 x2 x3 x4 x5 x7 M = some (r, M') → pm_ev pmT sc e 211 false (97, [some (.ref 31), some (.int x1), some (.int x2), some (.int x3), some (.int x4), some (.int x5), u6, some (.int x7)], [], 129, 17845, hp M) (some (.int r), 129, 17845, hp M') := by
  intro x1 x2 x3 x4 x5 x7 u6 M r M' h
  unfold J211_97 at h
  refine pe_blk mm_211 1 (s' := (98, [some (.ref 31), some (.int x1), some (.int x2), some (.int x3), some (.int x4), some (.int x5), u6, some (.int x7)], [.ref 31], _, _, _)) rfl ?_
  refine pe_get mm_211 rfl rfl rfl (by decide) rfl ?_
  refine pe_blk mm_211 2 (s' := (104, [some (.ref 31), some (.int x1), some (.int x2), some (.int x3), some (.int x4), some (.int x5), u6, some (.int x7)], [.int x7, .int x2, .ref 32], _, _, _)) rfl ?_
  by_cases q24 : x2 < 0 ∨ 2 ≤ (x2 : Int32).toNatClampNeg
  · rw [if_pos q24] at h
    cases h
  · rw [if_neg q24] at h
    refine pe_iasti mm_211 rfl rfl (by decide) q24 rfl ?_
    show pm_ev _ _ _ _ _ (105, [some (.ref 31), some (.int x1), some (.int x2), some (.int x3), some (.int x4), some (.int x5), u6, some (.int x7)], [], _, _, hp (m_i M 32 (x2 : Int32).toNatClampNeg x7)) _
    generalize m_i M 32 (x2 : Int32).toNatClampNeg x7 = M25 at h ⊢
    rw [mlet] at h
    refine pe_blk mm_211 8 (s' := (114, [some (.ref 31), some (.int x1), some (.int x2), some (.int x3), some (.int x4), some (.int x5), u6, some (.int x7)], [.int (x2 + 1), .int x5, .int (x1 + 2), .ref 31], _, _, _)) rfl ?_
    obtain ⟨e1, rfl⟩ : ∃ e1, e = e1 + 1 := ⟨e - 1, by omega⟩
    cases hc28 : gg (x1 + 2) x5 (x2 + 1) M25 with
    | none => rw [hc28] at h; cases h
    | some w =>
      obtain ⟨v26, M27⟩ := w
      rw [hc28] at h
      dsimp only at h
      refine pe_virt (al := [.int (x2 + 1), .int x5, .int (x1 + 2)]) (a := 31) (L0 := [some (.ref 31), some (.int (x1 + 2)), some (.int x5), some (.int (x2 + 1)), none, none]) (r1 := (some (.int v26), 129, 17845, hp M27)) mm_211 rfl rfl rfl mm_210 rfl (by decide) (by decide) rfl (Nat.le_of_ble_eq_true rfl) (Nat.le_of_ble_eq_true rfl) rfl rfl (hg (x1 + 2) x5 (x2 + 1) _ e1 (by omega) _ _ hc28) ?_
      show pm_ev _ _ _ _ _ (117, [some (.ref 31), some (.int x1), some (.int x2), some (.int x3), some (.int x4), some (.int x5), u6, some (.int x7)], [.int v26], _, _, _) _
      refine pe_blk mm_211 3 (s' := (55, [some (.ref 31), some (.int x1), some (.int x2), some (.int x3), some (.int x4), some (.int x5), some (.int v26), some (.int (x7 + 1))], [], _, _, _)) rfl ?_
      exact hr55 x1 x2 x3 x4 x5 v26 (x7 + 1) _ _ _ h
def L211_55 (n : Nat) (gg : Int32 → Int32 → Int32 → Mem → Option (Int32 × Mem)) : Nat → Int32 → Int32 → Int32 → Int32 → Int32 → Int32 → Int32 → Mem → Option (Int32 × Mem)
  | 0, _, _, _, _, _, _, _, _ => none
  | k + 1, x1, x2, x3, x4, x5, x6, x7, M => if x3 ≤ x7 then (J211_125 n gg x2 x6 M) else (if x6 = 0 then (J211_125 n gg x2 x6 M) else (if x7 ≤ 0 then (J211_97 n gg (L211_55 n gg k) x1 x2 x3 x4 x5 x7 M) else (if x4 = (-1) then (J211_97 n gg (L211_55 n gg k) x1 x2 x3 x4 x5 x7 M) else (match M.2.1 31 6 with | some p30 => (if isR p30 then (match M.2.1 31 1 with | some p33 => (if isD p33 then (match F109 n p33 x4 M with | some (v36, M37) => (match F168 n p30 v36 (M37.1 31 3) M37 with | some (v39, M40) => (J211_97 n gg (L211_55 n gg k) x1 x2 x3 x4 x5 x7 M40) | none => none) | none => none) else none) | none => none) else none) | none => none))))
set_option maxRecDepth 100000 in
set_option maxHeartbeats 4000000 in
theorem L211_55_ev (sc : Option (Nat × (Nat → Int32))) (n : Nat) (gg : Int32 → Int32 → Int32 → Mem → Option (Int32 × Mem)) (E : Nat) (hg : ∀ (a0 : Int32) (a1 : Int32) (a2 : Int32)  (M : Mem) (e : Nat), E ≤ e → ∀ (r : Int32) (M' : Mem), gg a0 a1 a2 M = some (r, M') → pm_ev pmT sc e 210 false (0, [some (.ref 31), some (.int a0), some (.int a1), some (.int a2), none, none], [], 129, 17845, hp M) (some (.int r), 129, 17845, hp M')) (e : Nat) (he : 3 + E ≤ e) : ∀ k : Nat, ∀ (x1 : Int32) (x2 : Int32) (x3 : Int32) (x4 : Int32) (x5 : Int32) (x6 : Int32) (x7 : Int32) (M : Mem) (r : Int32) (M' : Mem), L211_55 n gg k x1 x2 x3 x4 x5 x6 x7 M = some (r, M') → pm_ev pmT sc e 211 false (55, [some (.ref 31), some (.int x1), some (.int x2), some (.int x3), some (.int x4), some (.int x5), some (.int x6), some (.int x7)], [], 129, 17845, hp M) (some (.int r), 129, 17845, hp M') := by
  intro k
  induction k with
  | zero => intro x1 x2 x3 x4 x5 x6 x7  M r M' h; cases h
  | succ k hr55 =>
    intro x1 x2 x3 x4 x5 x6 x7  M r M' h
    rw [L211_55] at h
    refine pe_blk mm_211 2 (s' := (58, [some (.ref 31), some (.int x1), some (.int x2), some (.int x3), some (.int x4), some (.int x5), some (.int x6), some (.int x7)], [.int x3, .int x7], _, _, _)) rfl ?_
    by_cases q18 : x3 ≤ x7
    · rw [if_pos q18] at h
      refine pe_blk mm_211 1 (s' := (if x3 ≤ x7 then 125 else 61, [some (.ref 31), some (.int x1), some (.int x2), some (.int x3), some (.int x4), some (.int x5), some (.int x6), some (.int x7)], [], _, _, _)) rfl ?_
      rw [if_pos q18]
      exact J211_125_ev sc n gg E hg e he x2 x6 _ _ _ _ _ _ _ _ h
    · rw [if_neg q18] at h
      refine pe_blk mm_211 1 (s' := (if x3 ≤ x7 then 125 else 61, [some (.ref 31), some (.int x1), some (.int x2), some (.int x3), some (.int x4), some (.int x5), some (.int x6), some (.int x7)], [], _, _, _)) rfl ?_
      rw [if_neg q18]
      refine pe_blk mm_211 1 (s' := (63, [some (.ref 31), some (.int x1), some (.int x2), some (.int x3), some (.int x4), some (.int x5), some (.int x6), some (.int x7)], [.int x6], _, _, _)) rfl ?_
      by_cases q22 : x6 = 0
      · rw [if_pos q22] at h
        refine pe_blk mm_211 1 (s' := (if x6 = 0 then 125 else 66, [some (.ref 31), some (.int x1), some (.int x2), some (.int x3), some (.int x4), some (.int x5), some (.int x6), some (.int x7)], [], _, _, _)) rfl ?_
        rw [if_pos q22]
        exact J211_125_ev sc n gg E hg e he x2 x6 _ _ _ _ _ _ _ _ h
      · rw [if_neg q22] at h
        refine pe_blk mm_211 1 (s' := (if x6 = 0 then 125 else 66, [some (.ref 31), some (.int x1), some (.int x2), some (.int x3), some (.int x4), some (.int x5), some (.int x6), some (.int x7)], [], _, _, _)) rfl ?_
        rw [if_neg q22]
        refine pe_blk mm_211 1 (s' := (68, [some (.ref 31), some (.int x1), some (.int x2), some (.int x3), some (.int x4), some (.int x5), some (.int x6), some (.int x7)], [.int x7], _, _, _)) rfl ?_
        by_cases q23 : x7 ≤ 0
        · rw [if_pos q23] at h
          refine pe_blk mm_211 1 (s' := (if x7 ≤ 0 then 97 else 71, [some (.ref 31), some (.int x1), some (.int x2), some (.int x3), some (.int x4), some (.int x5), some (.int x6), some (.int x7)], [], _, _, _)) rfl ?_
          rw [if_pos q23]
          exact J211_97_ev sc n gg E hg e he (L211_55 n gg k) hr55 x1 x2 x3 x4 x5 x7 _ _ _ _ h
        · rw [if_neg q23] at h
          refine pe_blk mm_211 1 (s' := (if x7 ≤ 0 then 97 else 71, [some (.ref 31), some (.int x1), some (.int x2), some (.int x3), some (.int x4), some (.int x5), some (.int x6), some (.int x7)], [], _, _, _)) rfl ?_
          rw [if_neg q23]
          refine pe_blk mm_211 2 (s' := (74, [some (.ref 31), some (.int x1), some (.int x2), some (.int x3), some (.int x4), some (.int x5), some (.int x6), some (.int x7)], [.int (-1), .int x4], _, _, _)) rfl ?_
          by_cases q29 : x4 = (-1)
          · rw [if_pos q29] at h
            refine pe_blk mm_211 1 (s' := (if x4 = (-1) then 97 else 77, [some (.ref 31), some (.int x1), some (.int x2), some (.int x3), some (.int x4), some (.int x5), some (.int x6), some (.int x7)], [], _, _, _)) rfl ?_
            rw [if_pos q29]
            exact J211_97_ev sc n gg E hg e he (L211_55 n gg k) hr55 x1 x2 x3 x4 x5 x7 _ _ _ _ h
          · rw [if_neg q29] at h
            refine pe_blk mm_211 1 (s' := (if x4 = (-1) then 97 else 77, [some (.ref 31), some (.int x1), some (.int x2), some (.int x3), some (.int x4), some (.int x5), some (.int x6), some (.int x7)], [], _, _, _)) rfl ?_
            rw [if_neg q29]
            refine pe_blk mm_211 1 (s' := (78, [some (.ref 31), some (.int x1), some (.int x2), some (.int x3), some (.int x4), some (.int x5), some (.int x6), some (.int x7)], [.ref 31], _, _, _)) rfl ?_
            refine pe_get mm_211 rfl rfl rfl (by decide) rfl ?_
            show pm_ev _ _ _ _ _ (81, [some (.ref 31), some (.int x1), some (.int x2), some (.int x3), some (.int x4), some (.int x5), some (.int x6), some (.int x7)], va_rf (M.2.1 31 6) :: [], _, _, _) _
            cases hq32 : M.2.1 31 6 with
            | none => rw [hq32] at h; cases h
            | some p30 =>
              rw [hq32] at h
              dsimp only at h
              by_cases f31 : isR p30
              · rw [if_pos f31] at h
                show pm_ev _ _ _ _ _ (81, [some (.ref 31), some (.int x1), some (.int x2), some (.int x3), some (.int x4), some (.int x5), some (.int x6), some (.int x7)], [.ref p30], _, _, _) _
                refine pe_blk mm_211 1 (s' := (82, [some (.ref 31), some (.int x1), some (.int x2), some (.int x3), some (.int x4), some (.int x5), some (.int x6), some (.int x7)], [.ref 31, .ref p30], _, _, _)) rfl ?_
                refine pe_get mm_211 rfl rfl rfl (by decide) rfl ?_
                show pm_ev _ _ _ _ _ (85, [some (.ref 31), some (.int x1), some (.int x2), some (.int x3), some (.int x4), some (.int x5), some (.int x6), some (.int x7)], va_rf (M.2.1 31 1) :: [.ref p30], _, _, _) _
                cases hq35 : M.2.1 31 1 with
                | none => rw [hq35] at h; cases h
                | some p33 =>
                  rw [hq35] at h
                  dsimp only at h
                  by_cases f34 : isD p33
                  · rw [if_pos f34] at h
                    show pm_ev _ _ _ _ _ (85, [some (.ref 31), some (.int x1), some (.int x2), some (.int x3), some (.int x4), some (.int x5), some (.int x6), some (.int x7)], [.ref p33, .ref p30], _, _, _) _
                    refine pe_blk mm_211 1 (s' := (87, [some (.ref 31), some (.int x1), some (.int x2), some (.int x3), some (.int x4), some (.int x5), some (.int x6), some (.int x7)], [.int x4, .ref p33, .ref p30], _, _, _)) rfl ?_
                    obtain ⟨e1, rfl⟩ : ∃ e1, e = e1 + 1 := ⟨e - 1, by omega⟩
                    cases hc38 : F109 n p33 x4 M with
                    | none => rw [hc38] at h; cases h
                    | some w =>
                      obtain ⟨v36, M37⟩ := w
                      rw [hc38] at h
                      dsimp only at h
                      refine pe_virt (al := [.int x4]) (a := p33) (L0 := [some (.ref p33), some (.int x4)]) (r1 := (some (.int v36), 129, 17845, hp M37)) mm_211 rfl rfl rfl mm_109 (isD_0 f34 _) (by have := isD_lt f34; omega) (by decide) rfl (Nat.le_of_ble_eq_true rfl) (Nat.le_of_ble_eq_true rfl) rfl rfl (F109_ev sc n p33 x4 f34 _ e1 (by omega) _ _ hc38) ?_
                      show pm_ev _ _ _ _ _ (90, [some (.ref 31), some (.int x1), some (.int x2), some (.int x3), some (.int x4), some (.int x5), some (.int x6), some (.int x7)], [.int v36, .ref p30], _, _, _) _
                      refine pe_blk mm_211 1 (s' := (91, [some (.ref 31), some (.int x1), some (.int x2), some (.int x3), some (.int x4), some (.int x5), some (.int x6), some (.int x7)], [.ref 31, .int v36, .ref p30], _, _, _)) rfl ?_
                      refine pe_get mm_211 rfl rfl rfl (by decide) rfl ?_
                      skip
                      cases hc41 : F168 n p30 v36 (M37.1 31 3) M37 with
                      | none => rw [hc41] at h; cases h
                      | some w =>
                        obtain ⟨v39, M40⟩ := w
                        rw [hc41] at h
                        dsimp only at h
                        refine pe_virt (al := [.int (M37.1 31 3), .int v36]) (a := p30) (L0 := [some (.ref p30), some (.int v36), some (.int (M37.1 31 3))]) (r1 := (none, 129, 17845, hp M40)) mm_211 rfl rfl rfl mm_168 (isR_0 f31 _) (by have := isR_lt f31; omega) (by decide) rfl (Nat.le_of_ble_eq_true rfl) (Nat.le_of_ble_eq_true rfl) rfl rfl (F168_ev sc n p30 v36 (M37.1 31 3) f31 _ e1 (by omega) _ _ hc41) ?_
                        show pm_ev _ _ _ _ _ (97, [some (.ref 31), some (.int x1), some (.int x2), some (.int x3), some (.int x4), some (.int x5), some (.int x6), some (.int x7)], [], _, _, _) _
                        exact J211_97_ev sc n gg E hg (e1 + 1) he (L211_55 n gg k) hr55 x1 x2 x3 x4 x5 x7 _ _ _ _ h
                  · rw [if_neg f34] at h
                    cases h
              · rw [if_neg f31] at h
                cases h
def J211_50 (n : Nat) (gg : Int32 → Int32 → Int32 → Mem → Option (Int32 × Mem)) (x1 : Int32) (x2 : Int32) (x3 : Int32) (x4 : Int32) (x5 : Int32) (s0 : Int32) (M : Mem) : Option (Int32 × Mem) :=
  L211_55 n gg n x1 x2 x3 x4 x5 s0 0 M
set_option maxRecDepth 100000 in
set_option maxHeartbeats 4000000 in
theorem J211_50_ev (sc : Option (Nat × (Nat → Int32))) (n : Nat) (gg : Int32 → Int32 → Int32 → Mem → Option (Int32 × Mem)) (E : Nat) (hg : ∀ (a0 : Int32) (a1 : Int32) (a2 : Int32)  (M : Mem) (e : Nat), E ≤ e → ∀ (r : Int32) (M' : Mem), gg a0 a1 a2 M = some (r, M') → pm_ev pmT sc e 210 false (0, [some (.ref 31), some (.int a0), some (.int a1), some (.int a2), none, none], [], 129, 17845, hp M) (some (.int r), 129, 17845, hp M')) (e : Nat) (he : 3 + E ≤ e) : ∀ (x1 : Int32) (x2 : Int32) (x3 : Int32) (x4 : Int32) (x5 : Int32) (s0 : Int32) (u6 : Option Value) (u7 : Option Value) (M : Mem) (r : Int32) (M' : Mem), J211_50 n gg x1 x2 x3 x4 x5 s0 M = some (r, M') → pm_ev pmT sc e 211 false (50, [some (.ref 31), some (.int x1), some (.int x2), some (.int x3), some (.int x4), some (.int x5), u6, u7], [.int s0], 129, 17845, hp M) (some (.int r), 129, 17845, hp M') := by
  intro x1 x2 x3 x4 x5 s0 u6 u7 M r M' h
  unfold J211_50 at h
  refine pe_blk mm_211 3 (s' := (55, [some (.ref 31), some (.int x1), some (.int x2), some (.int x3), some (.int x4), some (.int x5), some (.int s0), some (.int 0)], [], _, _, _)) rfl ?_
  exact L211_55_ev sc n gg E hg e he n x1 x2 x3 x4 x5 s0 0 _ _ _ h
def J211_49 (n : Nat) (gg : Int32 → Int32 → Int32 → Mem → Option (Int32 × Mem)) (x1 : Int32) (x2 : Int32) (x3 : Int32) (x4 : Int32) (x5 : Int32) (M : Mem) : Option (Int32 × Mem) :=
  J211_50 n gg x1 x2 x3 x4 x5 0 M
set_option maxRecDepth 100000 in
set_option maxHeartbeats 4000000 in
theorem J211_49_ev (sc : Option (Nat × (Nat → Int32))) (n : Nat) (gg : Int32 → Int32 → Int32 → Mem → Option (Int32 × Mem)) (E : Nat) (hg : ∀ (a0 : Int32) (a1 : Int32) (a2 : Int32)  (M : Mem) (e : Nat), E ≤ e → ∀ (r : Int32) (M' : Mem), gg a0 a1 a2 M = some (r, M') → pm_ev pmT sc e 210 false (0, [some (.ref 31), some (.int a0), some (.int a1), some (.int a2), none, none], [], 129, 17845, hp M) (some (.int r), 129, 17845, hp M')) (e : Nat) (he : 3 + E ≤ e) : ∀ (x1 : Int32) (x2 : Int32) (x3 : Int32) (x4 : Int32) (x5 : Int32) (u6 : Option Value) (u7 : Option Value) (M : Mem) (r : Int32) (M' : Mem), J211_49 n gg x1 x2 x3 x4 x5 M = some (r, M') → pm_ev pmT sc e 211 false (49, [some (.ref 31), some (.int x1), some (.int x2), some (.int x3), some (.int x4), some (.int x5), u6, u7], [], 129, 17845, hp M) (some (.int r), 129, 17845, hp M') := by
  intro x1 x2 x3 x4 x5 u6 u7 M r M' h
  unfold J211_49 at h
  refine pe_blk mm_211 1 (s' := (50, [some (.ref 31), some (.int x1), some (.int x2), some (.int x3), some (.int x4), some (.int x5), u6, u7], [.int 0], _, _, _)) rfl ?_
  exact J211_50_ev sc n gg E hg e he x1 x2 x3 x4 x5 0 _ _ _ _ _ h
def J211_45 (n : Nat) (gg : Int32 → Int32 → Int32 → Mem → Option (Int32 × Mem)) (x1 : Int32) (x2 : Int32) (x3 : Int32) (x4 : Int32) (x5 : Int32) (M : Mem) : Option (Int32 × Mem) :=
  J211_50 n gg x1 x2 x3 x4 x5 1 M
set_option maxRecDepth 100000 in
set_option maxHeartbeats 4000000 in
theorem J211_45_ev (sc : Option (Nat × (Nat → Int32))) (n : Nat) (gg : Int32 → Int32 → Int32 → Mem → Option (Int32 × Mem)) (E : Nat) (hg : ∀ (a0 : Int32) (a1 : Int32) (a2 : Int32)  (M : Mem) (e : Nat), E ≤ e → ∀ (r : Int32) (M' : Mem), gg a0 a1 a2 M = some (r, M') → pm_ev pmT sc e 210 false (0, [some (.ref 31), some (.int a0), some (.int a1), some (.int a2), none, none], [], 129, 17845, hp M) (some (.int r), 129, 17845, hp M')) (e : Nat) (he : 3 + E ≤ e) : ∀ (x1 : Int32) (x2 : Int32) (x3 : Int32) (x4 : Int32) (x5 : Int32) (u6 : Option Value) (u7 : Option Value) (M : Mem) (r : Int32) (M' : Mem), J211_45 n gg x1 x2 x3 x4 x5 M = some (r, M') → pm_ev pmT sc e 211 false (45, [some (.ref 31), some (.int x1), some (.int x2), some (.int x3), some (.int x4), some (.int x5), u6, u7], [], 129, 17845, hp M) (some (.int r), 129, 17845, hp M') := by
  intro x1 x2 x3 x4 x5 u6 u7 M r M' h
  unfold J211_45 at h
  refine pe_blk mm_211 2 (s' := (50, [some (.ref 31), some (.int x1), some (.int x2), some (.int x3), some (.int x4), some (.int x5), u6, u7], [.int 1], _, _, _)) rfl ?_
  exact J211_50_ev sc n gg E hg e he x1 x2 x3 x4 x5 1 _ _ _ _ _ h
def J211_28 (n : Nat) (gg : Int32 → Int32 → Int32 → Mem → Option (Int32 × Mem)) (x1 : Int32) (x2 : Int32) (x3 : Int32) (x4 : Int32) (M : Mem) : Option (Int32 × Mem) :=
  match M.2.1 31 1 with | some p11 => (if isD p11 then (match F110 n p11 (x1 + 1) M with | some (v14, M15) => (if x3 = (-1) then (J211_49 n gg x1 x2 x3 x4 v14 M15) else (J211_45 n gg x1 x2 x3 x4 v14 M15)) | none => none) else none) | none => none
set_option maxRecDepth 100000 in
set_option maxHeartbeats 4000000 in
theorem J211_28_ev (sc : Option (Nat × (Nat → Int32))) (n : Nat) (gg : Int32 → Int32 → Int32 → Mem → Option (Int32 × Mem)) (E : Nat) (hg : ∀ (a0 : Int32) (a1 : Int32) (a2 : Int32)  (M : Mem) (e : Nat), E ≤ e → ∀ (r : Int32) (M' : Mem), gg a0 a1 a2 M = some (r, M') → pm_ev pmT sc e 210 false (0, [some (.ref 31), some (.int a0), some (.int a1), some (.int a2), none, none], [], 129, 17845, hp M) (some (.int r), 129, 17845, hp M')) (e : Nat) (he : 3 + E ≤ e) : ∀ (x1 : Int32) (x2 : Int32) (x3 : Int32) (x4 : Int32) (u5 : Option Value) (u6 : Option Value) (u7 : Option Value) (M : Mem) (r : Int32) (M' : Mem), J211_28 n gg x1 x2 x3 x4 M = some (r, M') → pm_ev pmT sc e 211 false (28, [some (.ref 31), some (.int x1), some (.int x2), some (.int x3), some (.int x4), u5, u6, u7], [], 129, 17845, hp M) (some (.int r), 129, 17845, hp M') := by
  intro x1 x2 x3 x4 u5 u6 u7 M r M' h
  unfold J211_28 at h
  refine pe_blk mm_211 1 (s' := (29, [some (.ref 31), some (.int x1), some (.int x2), some (.int x3), some (.int x4), u5, u6, u7], [.ref 31], _, _, _)) rfl ?_
  refine pe_get mm_211 rfl rfl rfl (by decide) rfl ?_
  show pm_ev _ _ _ _ _ (32, [some (.ref 31), some (.int x1), some (.int x2), some (.int x3), some (.int x4), u5, u6, u7], va_rf (M.2.1 31 1) :: [], _, _, _) _
  cases hq13 : M.2.1 31 1 with
  | none => rw [hq13] at h; cases h
  | some p11 =>
    rw [hq13] at h
    dsimp only at h
    by_cases f12 : isD p11
    · rw [if_pos f12] at h
      show pm_ev _ _ _ _ _ (32, [some (.ref 31), some (.int x1), some (.int x2), some (.int x3), some (.int x4), u5, u6, u7], [.ref p11], _, _, _) _
      refine pe_blk mm_211 3 (s' := (35, [some (.ref 31), some (.int x1), some (.int x2), some (.int x3), some (.int x4), u5, u6, u7], [.int (x1 + 1), .ref p11], _, _, _)) rfl ?_
      obtain ⟨e1, rfl⟩ : ∃ e1, e = e1 + 1 := ⟨e - 1, by omega⟩
      cases hc16 : F110 n p11 (x1 + 1) M with
      | none => rw [hc16] at h; cases h
      | some w =>
        obtain ⟨v14, M15⟩ := w
        rw [hc16] at h
        dsimp only at h
        refine pe_virt (al := [.int (x1 + 1)]) (a := p11) (L0 := [some (.ref p11), some (.int (x1 + 1))]) (r1 := (some (.int v14), 129, 17845, hp M15)) mm_211 rfl rfl rfl mm_110 (isD_0 f12 _) (by have := isD_lt f12; omega) (by decide) rfl (Nat.le_of_ble_eq_true rfl) (Nat.le_of_ble_eq_true rfl) rfl rfl (F110_ev sc n p11 (x1 + 1) f12 _ e1 (by omega) _ _ hc16) ?_
        show pm_ev _ _ _ _ _ (38, [some (.ref 31), some (.int x1), some (.int x2), some (.int x3), some (.int x4), u5, u6, u7], [.int v14], _, _, _) _
        refine pe_blk mm_211 3 (s' := (42, [some (.ref 31), some (.int x1), some (.int x2), some (.int x3), some (.int x4), some (.int v14), u6, u7], [.int (-1), .int x3], _, _, _)) rfl ?_
        by_cases q17 : x3 = (-1)
        · rw [if_pos q17] at h
          refine pe_blk mm_211 1 (s' := (if x3 = (-1) then 49 else 45, [some (.ref 31), some (.int x1), some (.int x2), some (.int x3), some (.int x4), some (.int v14), u6, u7], [], _, _, _)) rfl ?_
          rw [if_pos q17]
          exact J211_49_ev sc n gg E hg (e1 + 1) he x1 x2 x3 x4 v14 _ _ _ _ _ h
        · rw [if_neg q17] at h
          refine pe_blk mm_211 1 (s' := (if x3 = (-1) then 49 else 45, [some (.ref 31), some (.int x1), some (.int x2), some (.int x3), some (.int x4), some (.int v14), u6, u7], [], _, _, _)) rfl ?_
          rw [if_neg q17]
          exact J211_45_ev sc n gg E hg (e1 + 1) he x1 x2 x3 x4 v14 _ _ _ _ _ h
    · rw [if_neg f12] at h
      cases h
/-- ArmExpander$Writer.writeRepetition -/
def G211 (n : Nat) (gg : Int32 → Int32 → Int32 → Mem → Option (Int32 × Mem)) (a0 : Int32) (a1 : Int32) (M : Mem) : Option (Int32 × Mem) :=
  if a1 < 2 then (match F212 n a0 a1 M with | some (v2, M3) => (match M3.2.1 31 1 with | some p5 => (if isD p5 then (match F120 n p5 a0 M3 with | some (v8, M9) => (J211_28 n gg a0 a1 v2 v8 M9) | none => none) else none) | none => none) | none => none) else (some (0, M))
set_option maxRecDepth 100000 in
set_option maxHeartbeats 4000000 in
theorem G211_ev (sc : Option (Nat × (Nat → Int32))) (n : Nat) (gg : Int32 → Int32 → Int32 → Mem → Option (Int32 × Mem)) (a0 : Int32) (a1 : Int32) (E : Nat) (hg : ∀ (a0 : Int32) (a1 : Int32) (a2 : Int32)  (M : Mem) (e : Nat), E ≤ e → ∀ (r : Int32) (M' : Mem), gg a0 a1 a2 M = some (r, M') → pm_ev pmT sc e 210 false (0, [some (.ref 31), some (.int a0), some (.int a1), some (.int a2), none, none], [], 129, 17845, hp M) (some (.int r), 129, 17845, hp M')) (M : Mem) (e : Nat) (he : 3 + E ≤ e) (r : Int32) (M' : Mem) (h : G211 n gg a0 a1 M = some (r, M')) : pm_ev pmT sc e 211 false (0, [some (.ref 31), some (.int a0), some (.int a1), none, none, none, none, none], [], 129, 17845, hp M) (some (.int r), 129, 17845, hp M') := by
  unfold G211 at h
  refine pe_blk mm_211 2 (s' := (2, [some (.ref 31), some (.int a0), some (.int a1), none, none, none, none, none], [.ref 31, .int a1], _, _, _)) rfl ?_
  refine pe_get mm_211 rfl rfl rfl (by decide) rfl ?_
  refine pe_alen mm_211 rfl rfl (by decide) (by decide) ?_
  show pm_ev _ _ _ _ _ (6, [some (.ref 31), some (.int a0), some (.int a1), none, none, none, none, none], [.int 2, .int a1], _, _, _) _
  by_cases q1 : a1 < 2
  · rw [if_pos q1] at h
    refine pe_blk mm_211 1 (s' := (if a1 < 2 then 11 else 9, [some (.ref 31), some (.int a0), some (.int a1), none, none, none, none, none], [], _, _, _)) rfl ?_
    rw [if_pos q1]
    refine pe_blk mm_211 3 (s' := (14, [some (.ref 31), some (.int a0), some (.int a1), none, none, none, none, none], [.int a1, .int a0, .ref 31], _, _, _)) rfl ?_
    obtain ⟨e1, rfl⟩ : ∃ e1, e = e1 + 1 := ⟨e - 1, by omega⟩
    cases hc4 : F212 n a0 a1 M with
    | none => rw [hc4] at h; cases h
    | some w =>
      obtain ⟨v2, M3⟩ := w
      rw [hc4] at h
      dsimp only at h
      refine pe_virt (al := [.int a1, .int a0]) (a := 31) (L0 := [some (.ref 31), some (.int a0), some (.int a1), none, none, none, none, none]) (r1 := (some (.int v2), 129, 17845, hp M3)) mm_211 rfl rfl rfl mm_212 rfl (by decide) (by decide) rfl (Nat.le_of_ble_eq_true rfl) (Nat.le_of_ble_eq_true rfl) rfl rfl (F212_ev sc n a0 a1 _ e1 (by omega) _ _ hc4) ?_
      show pm_ev _ _ _ _ _ (17, [some (.ref 31), some (.int a0), some (.int a1), none, none, none, none, none], [.int v2], _, _, _) _
      refine pe_blk mm_211 2 (s' := (19, [some (.ref 31), some (.int a0), some (.int a1), some (.int v2), none, none, none, none], [.ref 31], _, _, _)) rfl ?_
      refine pe_get mm_211 rfl rfl rfl (by decide) rfl ?_
      show pm_ev _ _ _ _ _ (22, [some (.ref 31), some (.int a0), some (.int a1), some (.int v2), none, none, none, none], va_rf (M3.2.1 31 1) :: [], _, _, _) _
      cases hq7 : M3.2.1 31 1 with
      | none => rw [hq7] at h; cases h
      | some p5 =>
        rw [hq7] at h
        dsimp only at h
        by_cases f6 : isD p5
        · rw [if_pos f6] at h
          show pm_ev _ _ _ _ _ (22, [some (.ref 31), some (.int a0), some (.int a1), some (.int v2), none, none, none, none], [.ref p5], _, _, _) _
          refine pe_blk mm_211 1 (s' := (23, [some (.ref 31), some (.int a0), some (.int a1), some (.int v2), none, none, none, none], [.int a0, .ref p5], _, _, _)) rfl ?_
          skip
          cases hc10 : F120 n p5 a0 M3 with
          | none => rw [hc10] at h; cases h
          | some w =>
            obtain ⟨v8, M9⟩ := w
            rw [hc10] at h
            dsimp only at h
            refine pe_virt (al := [.int a0]) (a := p5) (L0 := [some (.ref p5), some (.int a0), none]) (r1 := (some (.int v8), 129, 17845, hp M9)) mm_211 rfl rfl rfl mm_120 (isD_0 f6 _) (by have := isD_lt f6; omega) (by decide) rfl (Nat.le_of_ble_eq_true rfl) (Nat.le_of_ble_eq_true rfl) rfl rfl (F120_ev sc n p5 a0 f6 _ e1 (by omega) _ _ hc10) ?_
            show pm_ev _ _ _ _ _ (26, [some (.ref 31), some (.int a0), some (.int a1), some (.int v2), none, none, none, none], [.int v8], _, _, _) _
            refine pe_blk mm_211 1 (s' := (28, [some (.ref 31), some (.int a0), some (.int a1), some (.int v2), some (.int v8), none, none, none], [], _, _, _)) rfl ?_
            exact J211_28_ev sc n gg E hg (e1 + 1) he a0 a1 v2 v8 _ _ _ _ _ _ h
        · rw [if_neg f6] at h
          cases h
  · rw [if_neg q1] at h
    refine pe_blk mm_211 1 (s' := (if a1 < 2 then 11 else 9, [some (.ref 31), some (.int a0), some (.int a1), none, none, none, none, none], [], _, _, _)) rfl ?_
    rw [if_neg q1]
    refine pe_blk mm_211 1 (s' := (10, [some (.ref 31), some (.int a0), some (.int a1), none, none, none, none, none], [.int 0], _, _, _)) rfl ?_
    cases h
    exact pe_ret mm_211 rfl rfl
def J210_130 (n : Nat) (gg : Int32 → Int32 → Int32 → Mem → Option (Int32 × Mem)) (M : Mem) : Option (Int32 × Mem) :=
  some (1, M)
set_option maxRecDepth 100000 in
set_option maxHeartbeats 4000000 in
theorem J210_130_ev (sc : Option (Nat × (Nat → Int32))) (n : Nat) (gg : Int32 → Int32 → Int32 → Mem → Option (Int32 × Mem)) (E : Nat) (hg : ∀ (a0 : Int32) (a1 : Int32) (a2 : Int32)  (M : Mem) (e : Nat), E ≤ e → ∀ (r : Int32) (M' : Mem), gg a0 a1 a2 M = some (r, M') → pm_ev pmT sc e 210 false (0, [some (.ref 31), some (.int a0), some (.int a1), some (.int a2), none, none], [], 129, 17845, hp M) (some (.int r), 129, 17845, hp M')) (e : Nat) (he : 4 + E ≤ e) : ∀ (u0 : Option Value) (u1 : Option Value) (u2 : Option Value) (u3 : Option Value) (u4 : Option Value) (u5 : Option Value) (M : Mem) (r : Int32) (M' : Mem), J210_130 n gg  M = some (r, M') → pm_ev pmT sc e 210 false (130, [u0, u1, u2, u3, u4, u5], [], 129, 17845, hp M) (some (.int r), 129, 17845, hp M') := by
  intro u0 u1 u2 u3 u4 u5 M r M' h
  unfold J210_130 at h
  refine pe_blk mm_210 1 (s' := (131, [u0, u1, u2, u3, u4, u5], [.int 1], _, _, _)) rfl ?_
  cases h
  exact pe_ret mm_210 rfl rfl
def J210_124 (n : Nat) (gg : Int32 → Int32 → Int32 → Mem → Option (Int32 × Mem)) (rec6 : Int32 → Int32 → Int32 → Int32 → Mem → Option (Int32 × Mem)) (x2 : Int32) (x3 : Int32) (x4 : Int32) (x5 : Int32) (M : Mem) : Option (Int32 × Mem) :=
  rec6 x2 x3 x4 (x5 + 1) M
set_option maxRecDepth 100000 in
set_option maxHeartbeats 4000000 in
theorem J210_124_ev (sc : Option (Nat × (Nat → Int32))) (n : Nat) (gg : Int32 → Int32 → Int32 → Mem → Option (Int32 × Mem)) (E : Nat) (hg : ∀ (a0 : Int32) (a1 : Int32) (a2 : Int32)  (M : Mem) (e : Nat), E ≤ e → ∀ (r : Int32) (M' : Mem), gg a0 a1 a2 M = some (r, M') → pm_ev pmT sc e 210 false (0, [some (.ref 31), some (.int a0), some (.int a1), some (.int a2), none, none], [], 129, 17845, hp M) (some (.int r), 129, 17845, hp M')) (e : Nat) (he : 4 + E ≤ e) (rec6 : Int32 → Int32 → Int32 → Int32 → Mem → Option (Int32 × Mem)) (hr6 : ∀ (x2 : Int32) (x3 : Int32) (x4 : Int32) (x5 : Int32) (u1 : Option Value) (M : Mem) (r : Int32) (M' : Mem), rec6 x2 x3 x4 x5 M = some (r, M') → pm_ev pmT sc e 210 false (6, [some (.ref 31), u1, some (.int x2), some (.int x3), some (.int x4), some (.int x5)], [], 129, 17845, hp M) (some (.int r), 129, 17845, hp M')) : ∀ (x2 : Int32) (x3 : Int32) (x4 : Int32) (x5 : Int32) (u1 : Option Value) (M : Mem) (r : Int32) (M' : Mem), J210_124 n gg rec6 x2 x3 x4 x5 M = some (r, M') → pm_ev pmT sc e 210 false (124, [some (.ref 31), u1, some (.int x2), some (.int x3), some (.int x4), some (.int x5)], [], 129, 17845, hp M) (some (.int r), 129, 17845, hp M') := by
  intro x2 x3 x4 x5 u1 M r M' h
  unfold J210_124 at h
  refine pe_blk mm_210 2 (s' := (6, [some (.ref 31), u1, some (.int x2), some (.int x3), some (.int x4), some (.int (x5 + 1))], [], _, _, _)) rfl ?_
  exact hr6 x2 x3 x4 (x5 + 1) _ _ _ _ h
def J210_121 (n : Nat) (gg : Int32 → Int32 → Int32 → Mem → Option (Int32 × Mem)) (rec6 : Int32 → Int32 → Int32 → Int32 → Mem → Option (Int32 × Mem)) (x2 : Int32) (x3 : Int32) (x4 : Int32) (x5 : Int32) (M : Mem) : Option (Int32 × Mem) :=
  J210_124 n gg rec6 x2 x3 (x4 + 1) x5 M
set_option maxRecDepth 100000 in
set_option maxHeartbeats 4000000 in
theorem J210_121_ev (sc : Option (Nat × (Nat → Int32))) (n : Nat) (gg : Int32 → Int32 → Int32 → Mem → Option (Int32 × Mem)) (E : Nat) (hg : ∀ (a0 : Int32) (a1 : Int32) (a2 : Int32)  (M : Mem) (e : Nat), E ≤ e → ∀ (r : Int32) (M' : Mem), gg a0 a1 a2 M = some (r, M') → pm_ev pmT sc e 210 false (0, [some (.ref 31), some (.int a0), some (.int a1), some (.int a2), none, none], [], 129, 17845, hp M) (some (.int r), 129, 17845, hp M')) (e : Nat) (he : 4 + E ≤ e) (rec6 : Int32 → Int32 → Int32 → Int32 → Mem → Option (Int32 × Mem)) (hr6 : ∀ (x2 : Int32) (x3 : Int32) (x4 : Int32) (x5 : Int32) (u1 : Option Value) (M : Mem) (r : Int32) (M' : Mem), rec6 x2 x3 x4 x5 M = some (r, M') → pm_ev pmT sc e 210 false (6, [some (.ref 31), u1, some (.int x2), some (.int x3), some (.int x4), some (.int x5)], [], 129, 17845, hp M) (some (.int r), 129, 17845, hp M')) : ∀ (x2 : Int32) (x3 : Int32) (x4 : Int32) (x5 : Int32) (u1 : Option Value) (M : Mem) (r : Int32) (M' : Mem), J210_121 n gg rec6 x2 x3 x4 x5 M = some (r, M') → pm_ev pmT sc e 210 false (121, [some (.ref 31), u1, some (.int x2), some (.int x3), some (.int x4), some (.int x5)], [], 129, 17845, hp M) (some (.int r), 129, 17845, hp M') := by
  intro x2 x3 x4 x5 u1 M r M' h
  unfold J210_121 at h
  refine pe_blk mm_210 1 (s' := (124, [some (.ref 31), u1, some (.int x2), some (.int x3), some (.int (x4 + 1)), some (.int x5)], [], _, _, _)) rfl ?_
  exact J210_124_ev sc n gg E hg e he rec6 hr6 x2 x3 (x4 + 1) x5 _ _ _ _ h
def J210_101 (n : Nat) (gg : Int32 → Int32 → Int32 → Mem → Option (Int32 × Mem)) (rec6 : Int32 → Int32 → Int32 → Int32 → Mem → Option (Int32 × Mem)) (x2 : Int32) (x3 : Int32) (x4 : Int32) (x5 : Int32) (M : Mem) : Option (Int32 × Mem) :=
  match M.2.1 31 6 with | some p17 => (if isR p17 then (match M.2.1 31 1 with | some p20 => (if isD p20 then (match F109 n p20 x4 M with | some (v23, M24) => (match F168 n p17 v23 (M24.1 31 3) M24 with | some (v26, M27) => (J210_121 n gg rec6 x2 x3 x4 x5 M27) | none => none) | none => none) else none) | none => none) else none) | none => none
set_option maxRecDepth 100000 in
set_option maxHeartbeats 4000000 in
theorem J210_101_ev (sc : Option (Nat × (Nat → Int32))) (n : Nat) (gg : Int32 → Int32 → Int32 → Mem → Option (Int32 × Mem)) (E : Nat) (hg : ∀ (a0 : Int32) (a1 : Int32) (a2 : Int32)  (M : Mem) (e : Nat), E ≤ e → ∀ (r : Int32) (M' : Mem), gg a0 a1 a2 M = some (r, M') → pm_ev pmT sc e 210 false (0, [some (.ref 31), some (.int a0), some (.int a1), some (.int a2), none, none], [], 129, 17845, hp M) (some (.int r), 129, 17845, hp M')) (e : Nat) (he : 4 + E ≤ e) (rec6 : Int32 → Int32 → Int32 → Int32 → Mem → Option (Int32 × Mem)) (hr6 : ∀ (x2 : Int32) (x3 : Int32) (x4 : Int32) (x5 : Int32) (u1 : Option Value) (M : Mem) (r : Int32) (M' : Mem), rec6 x2 x3 x4 x5 M = some (r, M') → pm_ev pmT sc e 210 false (6, [some (.ref 31), u1, some (.int x2), some (.int x3), some (.int x4), some (.int x5)], [], 129, 17845, hp M) (some (.int r), 129, 17845, hp M')) : ∀ (x2 : Int32) (x3 : Int32) (x4 : Int32) (x5 : Int32) (u1 : Option Value) (M : Mem) (r : Int32) (M' : Mem), J210_101 n gg rec6 x2 x3 x4 x5 M = some (r, M') → pm_ev pmT sc e 210 false (101, [some (.ref 31), u1, some (.int x2), some (.int x3), some (.int x4), some (.int x5)], [], 129, 17845, hp M) (some (.int r), 129, 17845, hp M') := by
  intro x2 x3 x4 x5 u1 M r M' h
  unfold J210_101 at h
  refine pe_blk mm_210 1 (s' := (102, [some (.ref 31), u1, some (.int x2), some (.int x3), some (.int x4), some (.int x5)], [.ref 31], _, _, _)) rfl ?_
  refine pe_get mm_210 rfl rfl rfl (by decide) rfl ?_
  show pm_ev _ _ _ _ _ (105, [some (.ref 31), u1, some (.int x2), some (.int x3), some (.int x4), some (.int x5)], va_rf (M.2.1 31 6) :: [], _, _, _) _
  cases hq19 : M.2.1 31 6 with
  | none => rw [hq19] at h; cases h
  | some p17 =>
    rw [hq19] at h
    dsimp only at h
    by_cases f18 : isR p17
    · rw [if_pos f18] at h
      show pm_ev _ _ _ _ _ (105, [some (.ref 31), u1, some (.int x2), some (.int x3), some (.int x4), some (.int x5)], [.ref p17], _, _, _) _
      refine pe_blk mm_210 1 (s' := (106, [some (.ref 31), u1, some (.int x2), some (.int x3), some (.int x4), some (.int x5)], [.ref 31, .ref p17], _, _, _)) rfl ?_
      refine pe_get mm_210 rfl rfl rfl (by decide) rfl ?_
      show pm_ev _ _ _ _ _ (109, [some (.ref 31), u1, some (.int x2), some (.int x3), some (.int x4), some (.int x5)], va_rf (M.2.1 31 1) :: [.ref p17], _, _, _) _
      cases hq22 : M.2.1 31 1 with
      | none => rw [hq22] at h; cases h
      | some p20 =>
        rw [hq22] at h
        dsimp only at h
        by_cases f21 : isD p20
        · rw [if_pos f21] at h
          show pm_ev _ _ _ _ _ (109, [some (.ref 31), u1, some (.int x2), some (.int x3), some (.int x4), some (.int x5)], [.ref p20, .ref p17], _, _, _) _
          refine pe_blk mm_210 1 (s' := (111, [some (.ref 31), u1, some (.int x2), some (.int x3), some (.int x4), some (.int x5)], [.int x4, .ref p20, .ref p17], _, _, _)) rfl ?_
          obtain ⟨e1, rfl⟩ : ∃ e1, e = e1 + 1 := ⟨e - 1, by omega⟩
          cases hc25 : F109 n p20 x4 M with
          | none => rw [hc25] at h; cases h
          | some w =>
            obtain ⟨v23, M24⟩ := w
            rw [hc25] at h
            dsimp only at h
            refine pe_virt (al := [.int x4]) (a := p20) (L0 := [some (.ref p20), some (.int x4)]) (r1 := (some (.int v23), 129, 17845, hp M24)) mm_210 rfl rfl rfl mm_109 (isD_0 f21 _) (by have := isD_lt f21; omega) (by decide) rfl (Nat.le_of_ble_eq_true rfl) (Nat.le_of_ble_eq_true rfl) rfl rfl (F109_ev sc n p20 x4 f21 _ e1 (by omega) _ _ hc25) ?_
            show pm_ev _ _ _ _ _ (114, [some (.ref 31), u1, some (.int x2), some (.int x3), some (.int x4), some (.int x5)], [.int v23, .ref p17], _, _, _) _
            refine pe_blk mm_210 1 (s' := (115, [some (.ref 31), u1, some (.int x2), some (.int x3), some (.int x4), some (.int x5)], [.ref 31, .int v23, .ref p17], _, _, _)) rfl ?_
            refine pe_get mm_210 rfl rfl rfl (by decide) rfl ?_
            skip
            cases hc28 : F168 n p17 v23 (M24.1 31 3) M24 with
            | none => rw [hc28] at h; cases h
            | some w =>
              obtain ⟨v26, M27⟩ := w
              rw [hc28] at h
              dsimp only at h
              refine pe_virt (al := [.int (M24.1 31 3), .int v23]) (a := p17) (L0 := [some (.ref p17), some (.int v23), some (.int (M24.1 31 3))]) (r1 := (none, 129, 17845, hp M27)) mm_210 rfl rfl rfl mm_168 (isR_0 f18 _) (by have := isR_lt f18; omega) (by decide) rfl (Nat.le_of_ble_eq_true rfl) (Nat.le_of_ble_eq_true rfl) rfl rfl (F168_ev sc n p17 v23 (M24.1 31 3) f18 _ e1 (by omega) _ _ hc28) ?_
              show pm_ev _ _ _ _ _ (121, [some (.ref 31), u1, some (.int x2), some (.int x3), some (.int x4), some (.int x5)], [], _, _, _) _
              exact J210_121_ev sc n gg E hg (e1 + 1) he rec6 hr6 x2 x3 x4 x5 _ _ _ _ h
        · rw [if_neg f21] at h
          cases h
    · rw [if_neg f18] at h
      cases h
def J210_95 (n : Nat) (gg : Int32 → Int32 → Int32 → Mem → Option (Int32 × Mem)) (rec6 : Int32 → Int32 → Int32 → Int32 → Mem → Option (Int32 × Mem)) (x2 : Int32) (x3 : Int32) (x4 : Int32) (x5 : Int32) (M : Mem) : Option (Int32 × Mem) :=
  J210_124 n gg rec6 x2 x3 (x4 + 2) x5 M
set_option maxRecDepth 100000 in
set_option maxHeartbeats 4000000 in
theorem J210_95_ev (sc : Option (Nat × (Nat → Int32))) (n : Nat) (gg : Int32 → Int32 → Int32 → Mem → Option (Int32 × Mem)) (E : Nat) (hg : ∀ (a0 : Int32) (a1 : Int32) (a2 : Int32)  (M : Mem) (e : Nat), E ≤ e → ∀ (r : Int32) (M' : Mem), gg a0 a1 a2 M = some (r, M') → pm_ev pmT sc e 210 false (0, [some (.ref 31), some (.int a0), some (.int a1), some (.int a2), none, none], [], 129, 17845, hp M) (some (.int r), 129, 17845, hp M')) (e : Nat) (he : 4 + E ≤ e) (rec6 : Int32 → Int32 → Int32 → Int32 → Mem → Option (Int32 × Mem)) (hr6 : ∀ (x2 : Int32) (x3 : Int32) (x4 : Int32) (x5 : Int32) (u1 : Option Value) (M : Mem) (r : Int32) (M' : Mem), rec6 x2 x3 x4 x5 M = some (r, M') → pm_ev pmT sc e 210 false (6, [some (.ref 31), u1, some (.int x2), some (.int x3), some (.int x4), some (.int x5)], [], 129, 17845, hp M) (some (.int r), 129, 17845, hp M')) : ∀ (x2 : Int32) (x3 : Int32) (x4 : Int32) (x5 : Int32) (u1 : Option Value) (M : Mem) (r : Int32) (M' : Mem), J210_95 n gg rec6 x2 x3 x4 x5 M = some (r, M') → pm_ev pmT sc e 210 false (95, [some (.ref 31), u1, some (.int x2), some (.int x3), some (.int x4), some (.int x5)], [], 129, 17845, hp M) (some (.int r), 129, 17845, hp M') := by
  intro x2 x3 x4 x5 u1 M r M' h
  unfold J210_95 at h
  refine pe_blk mm_210 2 (s' := (124, [some (.ref 31), u1, some (.int x2), some (.int x3), some (.int (x4 + 2)), some (.int x5)], [], _, _, _)) rfl ?_
  exact J210_124_ev sc n gg E hg e he rec6 hr6 x2 x3 (x4 + 2) x5 _ _ _ _ h
def J210_69 (n : Nat) (gg : Int32 → Int32 → Int32 → Mem → Option (Int32 × Mem)) (rec6 : Int32 → Int32 → Int32 → Int32 → Mem → Option (Int32 × Mem)) (x2 : Int32) (x3 : Int32) (x4 : Int32) (x5 : Int32) (M : Mem) : Option (Int32 × Mem) :=
  match M.2.1 31 1 with | some p29 => (if isD p29 then (match F109 n p29 (x4 + 1) M with | some (v32, M33) => (match F125 n p29 (M.1 31 2) v32 M33 with | some (v35, M36) => (match F213 n v35 M36 with | some (v38, M39) => (J210_95 n gg rec6 x2 x3 x4 x5 M39) | none => none) | none => none) | none => none) else none) | none => none
set_option maxRecDepth 100000 in
set_option maxHeartbeats 4000000 in
theorem J210_69_ev (sc : Option (Nat × (Nat → Int32))) (n : Nat) (gg : Int32 → Int32 → Int32 → Mem → Option (Int32 × Mem)) (E : Nat) (hg : ∀ (a0 : Int32) (a1 : Int32) (a2 : Int32)  (M : Mem) (e : Nat), E ≤ e → ∀ (r : Int32) (M' : Mem), gg a0 a1 a2 M = some (r, M') → pm_ev pmT sc e 210 false (0, [some (.ref 31), some (.int a0), some (.int a1), some (.int a2), none, none], [], 129, 17845, hp M) (some (.int r), 129, 17845, hp M')) (e : Nat) (he : 4 + E ≤ e) (rec6 : Int32 → Int32 → Int32 → Int32 → Mem → Option (Int32 × Mem)) (hr6 : ∀ (x2 : Int32) (x3 : Int32) (x4 : Int32) (x5 : Int32) (u1 : Option Value) (M : Mem) (r : Int32) (M' : Mem), rec6 x2 x3 x4 x5 M = some (r, M') → pm_ev pmT sc e 210 false (6, [some (.ref 31), u1, some (.int x2), some (.int x3), some (.int x4), some (.int x5)], [], 129, 17845, hp M) (some (.int r), 129, 17845, hp M')) : ∀ (x2 : Int32) (x3 : Int32) (x4 : Int32) (x5 : Int32) (u1 : Option Value) (M : Mem) (r : Int32) (M' : Mem), J210_69 n gg rec6 x2 x3 x4 x5 M = some (r, M') → pm_ev pmT sc e 210 false (69, [some (.ref 31), u1, some (.int x2), some (.int x3), some (.int x4), some (.int x5)], [], 129, 17845, hp M) (some (.int r), 129, 17845, hp M') := by
  intro x2 x3 x4 x5 u1 M r M' h
  unfold J210_69 at h
  refine pe_blk mm_210 2 (s' := (71, [some (.ref 31), u1, some (.int x2), some (.int x3), some (.int x4), some (.int x5)], [.ref 31, .ref 31], _, _, _)) rfl ?_
  refine pe_get mm_210 rfl rfl rfl (by decide) rfl ?_
  show pm_ev _ _ _ _ _ (74, [some (.ref 31), u1, some (.int x2), some (.int x3), some (.int x4), some (.int x5)], va_rf (M.2.1 31 1) :: [.ref 31], _, _, _) _
  cases hq31 : M.2.1 31 1 with
  | none => rw [hq31] at h; cases h
  | some p29 =>
    rw [hq31] at h
    dsimp only at h
    by_cases f30 : isD p29
    · rw [if_pos f30] at h
      show pm_ev _ _ _ _ _ (74, [some (.ref 31), u1, some (.int x2), some (.int x3), some (.int x4), some (.int x5)], [.ref p29, .ref 31], _, _, _) _
      refine pe_blk mm_210 1 (s' := (75, [some (.ref 31), u1, some (.int x2), some (.int x3), some (.int x4), some (.int x5)], [.ref 31, .ref p29, .ref 31], _, _, _)) rfl ?_
      refine pe_get mm_210 rfl rfl rfl (by decide) rfl ?_
      refine pe_blk mm_210 1 (s' := (79, [some (.ref 31), u1, some (.int x2), some (.int x3), some (.int x4), some (.int x5)], [.ref 31, .int (M.1 31 2), .ref p29, .ref 31], _, _, _)) rfl ?_
      refine pe_get mm_210 rfl rfl rfl (by decide) rfl ?_
      show pm_ev _ _ _ _ _ (82, [some (.ref 31), u1, some (.int x2), some (.int x3), some (.int x4), some (.int x5)], va_rf (M.2.1 31 1) :: [.int (M.1 31 2), .ref p29, .ref 31], _, _, _) _
      rw [hq31]
      show pm_ev _ _ _ _ _ (82, [some (.ref 31), u1, some (.int x2), some (.int x3), some (.int x4), some (.int x5)], [.ref p29, .int (M.1 31 2), .ref p29, .ref 31], _, _, _) _
      refine pe_blk mm_210 3 (s' := (86, [some (.ref 31), u1, some (.int x2), some (.int x3), some (.int x4), some (.int x5)], [.int (x4 + 1), .ref p29, .int (M.1 31 2), .ref p29, .ref 31], _, _, _)) rfl ?_
      obtain ⟨e1, rfl⟩ : ∃ e1, e = e1 + 1 := ⟨e - 1, by omega⟩
      cases hc34 : F109 n p29 (x4 + 1) M with
      | none => rw [hc34] at h; cases h
      | some w =>
        obtain ⟨v32, M33⟩ := w
        rw [hc34] at h
        dsimp only at h
        refine pe_virt (al := [.int (x4 + 1)]) (a := p29) (L0 := [some (.ref p29), some (.int (x4 + 1))]) (r1 := (some (.int v32), 129, 17845, hp M33)) mm_210 rfl rfl rfl mm_109 (isD_0 f30 _) (by have := isD_lt f30; omega) (by decide) rfl (Nat.le_of_ble_eq_true rfl) (Nat.le_of_ble_eq_true rfl) rfl rfl (F109_ev sc n p29 (x4 + 1) f30 _ e1 (by omega) _ _ hc34) ?_
        show pm_ev _ _ _ _ _ (89, [some (.ref 31), u1, some (.int x2), some (.int x3), some (.int x4), some (.int x5)], [.int v32, .int (M.1 31 2), .ref p29, .ref 31], _, _, _) _
        skip
        cases hc37 : F125 n p29 (M.1 31 2) v32 M33 with
        | none => rw [hc37] at h; cases h
        | some w =>
          obtain ⟨v35, M36⟩ := w
          rw [hc37] at h
          dsimp only at h
          refine pe_virt (al := [.int v32, .int (M.1 31 2)]) (a := p29) (L0 := [some (.ref p29), some (.int (M.1 31 2)), some (.int v32), none, none]) (r1 := (some (.int v35), 129, 17845, hp M36)) mm_210 rfl rfl rfl mm_125 (isD_0 f30 _) (by have := isD_lt f30; omega) (by decide) rfl (Nat.le_of_ble_eq_true rfl) (Nat.le_of_ble_eq_true rfl) rfl rfl (F125_ev sc n p29 (M.1 31 2) v32 f30 _ e1 (by omega) _ _ hc37) ?_
          show pm_ev _ _ _ _ _ (92, [some (.ref 31), u1, some (.int x2), some (.int x3), some (.int x4), some (.int x5)], [.int v35, .ref 31], _, _, _) _
          skip
          cases hc40 : F213 n v35 M36 with
          | none => rw [hc40] at h; cases h
          | some w =>
            obtain ⟨v38, M39⟩ := w
            rw [hc40] at h
            dsimp only at h
            refine pe_virt (al := [.int v35]) (a := 31) (L0 := [some (.ref 31), some (.int v35), none, none, none, none]) (r1 := (none, 129, 17845, hp M39)) mm_210 rfl rfl rfl mm_213 rfl (by decide) (by decide) rfl (Nat.le_of_ble_eq_true rfl) (Nat.le_of_ble_eq_true rfl) rfl rfl (F213_ev sc n v35 _ e1 (by omega) _ _ hc40) ?_
            show pm_ev _ _ _ _ _ (95, [some (.ref 31), u1, some (.int x2), some (.int x3), some (.int x4), some (.int x5)], [], _, _, _) _
            exact J210_95_ev sc n gg E hg (e1 + 1) he rec6 hr6 x2 x3 x4 x5 _ _ _ _ h
    · rw [if_neg f30] at h
      cases h
def J210_57 (n : Nat) (gg : Int32 → Int32 → Int32 → Mem → Option (Int32 × Mem)) (rec6 : Int32 → Int32 → Int32 → Int32 → Mem → Option (Int32 × Mem)) (x2 : Int32) (x3 : Int32) (x4 : Int32) (x5 : Int32) (M : Mem) : Option (Int32 × Mem) :=
  match M.2.1 31 1 with | some p10 => (if isD p10 then (match F115 n p10 x4 M with | some (v13, M14) => (if v13 = 0 then (J210_101 n gg rec6 x2 x3 x4 x5 M14) else (J210_69 n gg rec6 x2 x3 x4 x5 M14)) | none => none) else none) | none => none
set_option maxRecDepth 100000 in
set_option maxHeartbeats 4000000 in
theorem J210_57_ev (sc : Option (Nat × (Nat → Int32))) (n : Nat) (gg : Int32 → Int32 → Int32 → Mem → Option (Int32 × Mem)) (E : Nat) (hg : ∀ (a0 : Int32) (a1 : Int32) (a2 : Int32)  (M : Mem) (e : Nat), E ≤ e → ∀ (r : Int32) (M' : Mem), gg a0 a1 a2 M = some (r, M') → pm_ev pmT sc e 210 false (0, [some (.ref 31), some (.int a0), some (.int a1), some (.int a2), none, none], [], 129, 17845, hp M) (some (.int r), 129, 17845, hp M')) (e : Nat) (he : 4 + E ≤ e) (rec6 : Int32 → Int32 → Int32 → Int32 → Mem → Option (Int32 × Mem)) (hr6 : ∀ (x2 : Int32) (x3 : Int32) (x4 : Int32) (x5 : Int32) (u1 : Option Value) (M : Mem) (r : Int32) (M' : Mem), rec6 x2 x3 x4 x5 M = some (r, M') → pm_ev pmT sc e 210 false (6, [some (.ref 31), u1, some (.int x2), some (.int x3), some (.int x4), some (.int x5)], [], 129, 17845, hp M) (some (.int r), 129, 17845, hp M')) : ∀ (x2 : Int32) (x3 : Int32) (x4 : Int32) (x5 : Int32) (u1 : Option Value) (M : Mem) (r : Int32) (M' : Mem), J210_57 n gg rec6 x2 x3 x4 x5 M = some (r, M') → pm_ev pmT sc e 210 false (57, [some (.ref 31), u1, some (.int x2), some (.int x3), some (.int x4), some (.int x5)], [], 129, 17845, hp M) (some (.int r), 129, 17845, hp M') := by
  intro x2 x3 x4 x5 u1 M r M' h
  unfold J210_57 at h
  refine pe_blk mm_210 1 (s' := (58, [some (.ref 31), u1, some (.int x2), some (.int x3), some (.int x4), some (.int x5)], [.ref 31], _, _, _)) rfl ?_
  refine pe_get mm_210 rfl rfl rfl (by decide) rfl ?_
  show pm_ev _ _ _ _ _ (61, [some (.ref 31), u1, some (.int x2), some (.int x3), some (.int x4), some (.int x5)], va_rf (M.2.1 31 1) :: [], _, _, _) _
  cases hq12 : M.2.1 31 1 with
  | none => rw [hq12] at h; cases h
  | some p10 =>
    rw [hq12] at h
    dsimp only at h
    by_cases f11 : isD p10
    · rw [if_pos f11] at h
      show pm_ev _ _ _ _ _ (61, [some (.ref 31), u1, some (.int x2), some (.int x3), some (.int x4), some (.int x5)], [.ref p10], _, _, _) _
      refine pe_blk mm_210 1 (s' := (63, [some (.ref 31), u1, some (.int x2), some (.int x3), some (.int x4), some (.int x5)], [.int x4, .ref p10], _, _, _)) rfl ?_
      obtain ⟨e1, rfl⟩ : ∃ e1, e = e1 + 1 := ⟨e - 1, by omega⟩
      cases hc15 : F115 n p10 x4 M with
      | none => rw [hc15] at h; cases h
      | some w =>
        obtain ⟨v13, M14⟩ := w
        rw [hc15] at h
        dsimp only at h
        refine pe_virt (al := [.int x4]) (a := p10) (L0 := [some (.ref p10), some (.int x4)]) (r1 := (some (.int v13), 129, 17845, hp M14)) mm_210 rfl rfl rfl mm_115 (isD_0 f11 _) (by have := isD_lt f11; omega) (by decide) rfl (Nat.le_of_ble_eq_true rfl) (Nat.le_of_ble_eq_true rfl) rfl rfl (F115_ev sc n p10 x4 f11 _ e1 (by omega) _ _ hc15) ?_
        show pm_ev _ _ _ _ _ (66, [some (.ref 31), u1, some (.int x2), some (.int x3), some (.int x4), some (.int x5)], [.int v13], _, _, _) _
        by_cases q16 : v13 = 0
        · rw [if_pos q16] at h
          refine pe_blk mm_210 1 (s' := (if v13 = 0 then 101 else 69, [some (.ref 31), u1, some (.int x2), some (.int x3), some (.int x4), some (.int x5)], [], _, _, _)) rfl ?_
          rw [if_pos q16]
          exact J210_101_ev sc n gg E hg (e1 + 1) he rec6 hr6 x2 x3 x4 x5 _ _ _ _ h
        · rw [if_neg q16] at h
          refine pe_blk mm_210 1 (s' := (if v13 = 0 then 101 else 69, [some (.ref 31), u1, some (.int x2), some (.int x3), some (.int x4), some (.int x5)], [], _, _, _)) rfl ?_
          rw [if_neg q16]
          exact J210_69_ev sc n gg E hg (e1 + 1) he rec6 hr6 x2 x3 x4 x5 _ _ _ _ h
    · rw [if_neg f11] at h
      cases h
def J210_31 (n : Nat) (gg : Int32 → Int32 → Int32 → Mem → Option (Int32 × Mem)) (rec6 : Int32 → Int32 → Int32 → Int32 → Mem → Option (Int32 × Mem)) (x2 : Int32) (x3 : Int32) (x4 : Int32) (x5 : Int32) (M : Mem) : Option (Int32 × Mem) :=
  match G211 n gg x4 x3 M with | some (v41, M42) => (if v41 = 0 then (some (0, M42)) else (match M42.2.1 31 1 with | some p45 => (if isD p45 then (match F119 n p45 x4 M42 with | some (v48, M49) => (J210_124 n gg rec6 x2 x3 v48 x5 M49) | none => none) else none) | none => none)) | none => none
set_option maxRecDepth 100000 in
set_option maxHeartbeats 4000000 in
theorem J210_31_ev (sc : Option (Nat × (Nat → Int32))) (n : Nat) (gg : Int32 → Int32 → Int32 → Mem → Option (Int32 × Mem)) (E : Nat) (hg : ∀ (a0 : Int32) (a1 : Int32) (a2 : Int32)  (M : Mem) (e : Nat), E ≤ e → ∀ (r : Int32) (M' : Mem), gg a0 a1 a2 M = some (r, M') → pm_ev pmT sc e 210 false (0, [some (.ref 31), some (.int a0), some (.int a1), some (.int a2), none, none], [], 129, 17845, hp M) (some (.int r), 129, 17845, hp M')) (e : Nat) (he : 4 + E ≤ e) (rec6 : Int32 → Int32 → Int32 → Int32 → Mem → Option (Int32 × Mem)) (hr6 : ∀ (x2 : Int32) (x3 : Int32) (x4 : Int32) (x5 : Int32) (u1 : Option Value) (M : Mem) (r : Int32) (M' : Mem), rec6 x2 x3 x4 x5 M = some (r, M') → pm_ev pmT sc e 210 false (6, [some (.ref 31), u1, some (.int x2), some (.int x3), some (.int x4), some (.int x5)], [], 129, 17845, hp M) (some (.int r), 129, 17845, hp M')) : ∀ (x2 : Int32) (x3 : Int32) (x4 : Int32) (x5 : Int32) (u1 : Option Value) (M : Mem) (r : Int32) (M' : Mem), J210_31 n gg rec6 x2 x3 x4 x5 M = some (r, M') → pm_ev pmT sc e 210 false (31, [some (.ref 31), u1, some (.int x2), some (.int x3), some (.int x4), some (.int x5)], [], 129, 17845, hp M) (some (.int r), 129, 17845, hp M') := by
  intro x2 x3 x4 x5 u1 M r M' h
  unfold J210_31 at h
  refine pe_blk mm_210 3 (s' := (35, [some (.ref 31), u1, some (.int x2), some (.int x3), some (.int x4), some (.int x5)], [.int x3, .int x4, .ref 31], _, _, _)) rfl ?_
  obtain ⟨e1, rfl⟩ : ∃ e1, e = e1 + 1 := ⟨e - 1, by omega⟩
  cases hc43 : G211 n gg x4 x3 M with
  | none => rw [hc43] at h; cases h
  | some w =>
    obtain ⟨v41, M42⟩ := w
    rw [hc43] at h
    dsimp only at h
    refine pe_virt (al := [.int x3, .int x4]) (a := 31) (L0 := [some (.ref 31), some (.int x4), some (.int x3), none, none, none, none, none]) (r1 := (some (.int v41), 129, 17845, hp M42)) mm_210 rfl rfl rfl mm_211 rfl (by decide) (by decide) rfl (Nat.le_of_ble_eq_true rfl) (Nat.le_of_ble_eq_true rfl) rfl rfl (G211_ev sc n gg x4 x3 E hg _ e1 (by omega) _ _ hc43) ?_
    show pm_ev _ _ _ _ _ (38, [some (.ref 31), u1, some (.int x2), some (.int x3), some (.int x4), some (.int x5)], [.int v41], _, _, _) _
    by_cases q44 : v41 = 0
    · rw [if_pos q44] at h
      refine pe_blk mm_210 1 (s' := (if v41 = 0 then 41 else 43, [some (.ref 31), u1, some (.int x2), some (.int x3), some (.int x4), some (.int x5)], [], _, _, _)) rfl ?_
      rw [if_pos q44]
      refine pe_blk mm_210 1 (s' := (42, [some (.ref 31), u1, some (.int x2), some (.int x3), some (.int x4), some (.int x5)], [.int 0], _, _, _)) rfl ?_
      cases h
      exact pe_ret mm_210 rfl rfl
    · rw [if_neg q44] at h
      refine pe_blk mm_210 1 (s' := (if v41 = 0 then 41 else 43, [some (.ref 31), u1, some (.int x2), some (.int x3), some (.int x4), some (.int x5)], [], _, _, _)) rfl ?_
      rw [if_neg q44]
      refine pe_blk mm_210 1 (s' := (44, [some (.ref 31), u1, some (.int x2), some (.int x3), some (.int x4), some (.int x5)], [.ref 31], _, _, _)) rfl ?_
      refine pe_get mm_210 rfl rfl rfl (by decide) rfl ?_
      show pm_ev _ _ _ _ _ (47, [some (.ref 31), u1, some (.int x2), some (.int x3), some (.int x4), some (.int x5)], va_rf (M42.2.1 31 1) :: [], _, _, _) _
      cases hq47 : M42.2.1 31 1 with
      | none => rw [hq47] at h; cases h
      | some p45 =>
        rw [hq47] at h
        dsimp only at h
        by_cases f46 : isD p45
        · rw [if_pos f46] at h
          show pm_ev _ _ _ _ _ (47, [some (.ref 31), u1, some (.int x2), some (.int x3), some (.int x4), some (.int x5)], [.ref p45], _, _, _) _
          refine pe_blk mm_210 1 (s' := (49, [some (.ref 31), u1, some (.int x2), some (.int x3), some (.int x4), some (.int x5)], [.int x4, .ref p45], _, _, _)) rfl ?_
          skip
          cases hc50 : F119 n p45 x4 M42 with
          | none => rw [hc50] at h; cases h
          | some w =>
            obtain ⟨v48, M49⟩ := w
            rw [hc50] at h
            dsimp only at h
            refine pe_virt (al := [.int x4]) (a := p45) (L0 := [some (.ref p45), some (.int x4)]) (r1 := (some (.int v48), 129, 17845, hp M49)) mm_210 rfl rfl rfl mm_119 (isD_0 f46 _) (by have := isD_lt f46; omega) (by decide) rfl (Nat.le_of_ble_eq_true rfl) (Nat.le_of_ble_eq_true rfl) rfl rfl (F119_ev sc n p45 x4 f46 _ e1 (by omega) _ _ hc50) ?_
            show pm_ev _ _ _ _ _ (52, [some (.ref 31), u1, some (.int x2), some (.int x3), some (.int x4), some (.int x5)], [.int v48], _, _, _) _
            refine pe_blk mm_210 2 (s' := (124, [some (.ref 31), u1, some (.int x2), some (.int x3), some (.int v48), some (.int x5)], [], _, _, _)) rfl ?_
            exact J210_124_ev sc n gg E hg (e1 + 1) he rec6 hr6 x2 x3 v48 x5 _ _ _ _ h
        · rw [if_neg f46] at h
          cases h
def L210_6 (n : Nat) (gg : Int32 → Int32 → Int32 → Mem → Option (Int32 × Mem)) : Nat → Int32 → Int32 → Int32 → Int32 → Mem → Option (Int32 × Mem)
  | 0, _, _, _, _, _ => none
  | k + 1, x2, x3, x4, x5, M => if 120 ≤ x5 then (J210_130 n gg M) else (if x2 ≤ x4 then (J210_130 n gg M) else (match M.2.1 31 1 with | some p3 => (if isD p3 then (match F116 n p3 x4 M with | some (v6, M7) => (if v6 = 0 then (J210_57 n gg (L210_6 n gg k) x2 x3 x4 x5 M7) else (J210_31 n gg (L210_6 n gg k) x2 x3 x4 x5 M7)) | none => none) else none) | none => none))
set_option maxRecDepth 100000 in
set_option maxHeartbeats 4000000 in
theorem L210_6_ev (sc : Option (Nat × (Nat → Int32))) (n : Nat) (gg : Int32 → Int32 → Int32 → Mem → Option (Int32 × Mem)) (E : Nat) (hg : ∀ (a0 : Int32) (a1 : Int32) (a2 : Int32)  (M : Mem) (e : Nat), E ≤ e → ∀ (r : Int32) (M' : Mem), gg a0 a1 a2 M = some (r, M') → pm_ev pmT sc e 210 false (0, [some (.ref 31), some (.int a0), some (.int a1), some (.int a2), none, none], [], 129, 17845, hp M) (some (.int r), 129, 17845, hp M')) (e : Nat) (he : 4 + E ≤ e) : ∀ k : Nat, ∀ (x2 : Int32) (x3 : Int32) (x4 : Int32) (x5 : Int32) (u1 : Option Value) (M : Mem) (r : Int32) (M' : Mem), L210_6 n gg k x2 x3 x4 x5 M = some (r, M') → pm_ev pmT sc e 210 false (6, [some (.ref 31), u1, some (.int x2), some (.int x3), some (.int x4), some (.int x5)], [], 129, 17845, hp M) (some (.int r), 129, 17845, hp M') := by
  intro k
  induction k with
  | zero => intro x2 x3 x4 x5 u1 M r M' h; cases h
  | succ k hr6 =>
    intro x2 x3 x4 x5 u1 M r M' h
    rw [L210_6] at h
    refine pe_blk mm_210 2 (s' := (10, [some (.ref 31), u1, some (.int x2), some (.int x3), some (.int x4), some (.int x5)], [.int 120, .int x5], _, _, _)) rfl ?_
    by_cases q1 : 120 ≤ x5
    · rw [if_pos q1] at h
      refine pe_blk mm_210 1 (s' := (if 120 ≤ x5 then 130 else 13, [some (.ref 31), u1, some (.int x2), some (.int x3), some (.int x4), some (.int x5)], [], _, _, _)) rfl ?_
      rw [if_pos q1]
      exact J210_130_ev sc n gg E hg e he _ _ _ _ _ _ _ _ _ h
    · rw [if_neg q1] at h
      refine pe_blk mm_210 1 (s' := (if 120 ≤ x5 then 130 else 13, [some (.ref 31), u1, some (.int x2), some (.int x3), some (.int x4), some (.int x5)], [], _, _, _)) rfl ?_
      rw [if_neg q1]
      refine pe_blk mm_210 2 (s' := (16, [some (.ref 31), u1, some (.int x2), some (.int x3), some (.int x4), some (.int x5)], [.int x2, .int x4], _, _, _)) rfl ?_
      by_cases q2 : x2 ≤ x4
      · rw [if_pos q2] at h
        refine pe_blk mm_210 1 (s' := (if x2 ≤ x4 then 130 else 19, [some (.ref 31), u1, some (.int x2), some (.int x3), some (.int x4), some (.int x5)], [], _, _, _)) rfl ?_
        rw [if_pos q2]
        exact J210_130_ev sc n gg E hg e he _ _ _ _ _ _ _ _ _ h
      · rw [if_neg q2] at h
        refine pe_blk mm_210 1 (s' := (if x2 ≤ x4 then 130 else 19, [some (.ref 31), u1, some (.int x2), some (.int x3), some (.int x4), some (.int x5)], [], _, _, _)) rfl ?_
        rw [if_neg q2]
        refine pe_blk mm_210 1 (s' := (20, [some (.ref 31), u1, some (.int x2), some (.int x3), some (.int x4), some (.int x5)], [.ref 31], _, _, _)) rfl ?_
        refine pe_get mm_210 rfl rfl rfl (by decide) rfl ?_
        show pm_ev _ _ _ _ _ (23, [some (.ref 31), u1, some (.int x2), some (.int x3), some (.int x4), some (.int x5)], va_rf (M.2.1 31 1) :: [], _, _, _) _
        cases hq5 : M.2.1 31 1 with
        | none => rw [hq5] at h; cases h
        | some p3 =>
          rw [hq5] at h
          dsimp only at h
          by_cases f4 : isD p3
          · rw [if_pos f4] at h
            show pm_ev _ _ _ _ _ (23, [some (.ref 31), u1, some (.int x2), some (.int x3), some (.int x4), some (.int x5)], [.ref p3], _, _, _) _
            refine pe_blk mm_210 1 (s' := (25, [some (.ref 31), u1, some (.int x2), some (.int x3), some (.int x4), some (.int x5)], [.int x4, .ref p3], _, _, _)) rfl ?_
            obtain ⟨e1, rfl⟩ : ∃ e1, e = e1 + 1 := ⟨e - 1, by omega⟩
            cases hc8 : F116 n p3 x4 M with
            | none => rw [hc8] at h; cases h
            | some w =>
              obtain ⟨v6, M7⟩ := w
              rw [hc8] at h
              dsimp only at h
              refine pe_virt (al := [.int x4]) (a := p3) (L0 := [some (.ref p3), some (.int x4)]) (r1 := (some (.int v6), 129, 17845, hp M7)) mm_210 rfl rfl rfl mm_116 (isD_0 f4 _) (by have := isD_lt f4; omega) (by decide) rfl (Nat.le_of_ble_eq_true rfl) (Nat.le_of_ble_eq_true rfl) rfl rfl (F116_ev sc n p3 x4 f4 _ e1 (by omega) _ _ hc8) ?_
              show pm_ev _ _ _ _ _ (28, [some (.ref 31), u1, some (.int x2), some (.int x3), some (.int x4), some (.int x5)], [.int v6], _, _, _) _
              by_cases q9 : v6 = 0
              · rw [if_pos q9] at h
                refine pe_blk mm_210 1 (s' := (if v6 = 0 then 57 else 31, [some (.ref 31), u1, some (.int x2), some (.int x3), some (.int x4), some (.int x5)], [], _, _, _)) rfl ?_
                rw [if_pos q9]
                exact J210_57_ev sc n gg E hg (e1 + 1) he (L210_6 n gg k) hr6 x2 x3 x4 x5 _ _ _ _ h
              · rw [if_neg q9] at h
                refine pe_blk mm_210 1 (s' := (if v6 = 0 then 57 else 31, [some (.ref 31), u1, some (.int x2), some (.int x3), some (.int x4), some (.int x5)], [], _, _, _)) rfl ?_
                rw [if_neg q9]
                exact J210_31_ev sc n gg E hg (e1 + 1) he (L210_6 n gg k) hr6 x2 x3 x4 x5 _ _ _ _ h
          · rw [if_neg f4] at h
            cases h
/-- ArmExpander$Writer.writeParts -/
def G210 (n : Nat) (gg : Int32 → Int32 → Int32 → Mem → Option (Int32 × Mem)) (a0 : Int32) (a1 : Int32) (a2 : Int32) (M : Mem) : Option (Int32 × Mem) :=
  L210_6 n gg n a1 a2 a0 0 M
set_option maxRecDepth 100000 in
set_option maxHeartbeats 4000000 in
theorem G210_ev (sc : Option (Nat × (Nat → Int32))) (n : Nat) (gg : Int32 → Int32 → Int32 → Mem → Option (Int32 × Mem)) (a0 : Int32) (a1 : Int32) (a2 : Int32) (E : Nat) (hg : ∀ (a0 : Int32) (a1 : Int32) (a2 : Int32)  (M : Mem) (e : Nat), E ≤ e → ∀ (r : Int32) (M' : Mem), gg a0 a1 a2 M = some (r, M') → pm_ev pmT sc e 210 false (0, [some (.ref 31), some (.int a0), some (.int a1), some (.int a2), none, none], [], 129, 17845, hp M) (some (.int r), 129, 17845, hp M')) (M : Mem) (e : Nat) (he : 4 + E ≤ e) (r : Int32) (M' : Mem) (h : G210 n gg a0 a1 a2 M = some (r, M')) : pm_ev pmT sc e 210 false (0, [some (.ref 31), some (.int a0), some (.int a1), some (.int a2), none, none], [], 129, 17845, hp M) (some (.int r), 129, 17845, hp M') := by
  unfold G210 at h
  refine pe_blk mm_210 4 (s' := (6, [some (.ref 31), some (.int a0), some (.int a1), some (.int a2), some (.int a0), some (.int 0)], [], _, _, _)) rfl ?_
  exact L210_6_ev sc n gg E hg e he n a1 a2 a0 0 _ _ _ _ h
def K210 (n : Nat) : Nat → Int32 → Int32 → Int32 → Mem → Option (Int32 × Mem)
  | 0, _, _, _, _ => none
  | k + 1, a0, a1, a2, M => G210 n (K210 n k) a0 a1 a2 M
theorem K210_ev (sc : Option (Nat × (Nat → Int32))) (n : Nat) : ∀ (k : Nat) (a0 : Int32) (a1 : Int32) (a2 : Int32)  (M : Mem) (e : Nat), 4 * k ≤ e → ∀ (r : Int32) (M' : Mem), K210 n k a0 a1 a2 M = some (r, M') → pm_ev pmT sc e 210 false (0, [some (.ref 31), some (.int a0), some (.int a1), some (.int a2), none, none], [], 129, 17845, hp M) (some (.int r), 129, 17845, hp M') := by
  intro k
  induction k with
  | zero => intro a0 a1 a2  M e he r M' h; cases h
  | succ k ih => intro a0 a1 a2  M e he r M' h; exact G210_ev sc n (K210 n k) a0 a1 a2 (4 * k) ih  M e (by omega) r M' h
/-- ArmExpander$Writer.writeParts -/
def F210 (n : Nat) (a0 : Int32) (a1 : Int32) (a2 : Int32) (M : Mem) : Option (Int32 × Mem) := K210 n 4 a0 a1 a2 M
theorem F210_ev (sc : Option (Nat × (Nat → Int32))) (n : Nat) (a0 : Int32) (a1 : Int32) (a2 : Int32)  (M : Mem) (e : Nat) (he : 16 ≤ e) (r : Int32) (M' : Mem) (h : F210 n a0 a1 a2 M = some (r, M')) : pm_ev pmT sc e 210 false (0, [some (.ref 31), some (.int a0), some (.int a1), some (.int a2), none, none], [], 129, 17845, hp M) (some (.int r), 129, 17845, hp M') := K210_ev sc n 4 a0 a1 a2  M e he r M' h
def J209_15 (n : Nat) (g0 : Nat) (M : Mem) : Option (Int32 × Mem) :=
  mlet (m_fill 32 0 2 0 M) (fun M4 => match F113 n g0 (M4.1 31 2) M4 with | some (v5, M6) => (match F114 n g0 (M6.1 31 2) M6 with | some (v8, M9) => (match F210 n v5 v8 0 M9 with | some (v11, M12) => (if v11 = 0 ∨ v11 = 1 then some (v11, M12) else none) | none => none) | none => none) | none => none)
set_option maxRecDepth 100000 in
set_option maxHeartbeats 4000000 in
theorem J209_15_ev (sc : Option (Nat × (Nat → Int32))) (n : Nat) (g0 : Nat) (hg0 : isD g0) (e : Nat) (he : 17 ≤ e) : ∀ (u2 : Option Value) (u3 : Option Value) (M : Mem) (r : Int32) (M' : Mem), J209_15 n g0  M = some (r, M') → pm_ev pmT sc e 209 false (15, [some (.ref 31), some (.ref g0), u2, u3], [], 129, 17845, hp M) (some (.int r), 129, 17845, hp M') := by
  intro u2 u3 M r M' h
  unfold J209_15 at h
  refine pe_blk mm_209 1 (s' := (16, [some (.ref 31), some (.ref g0), u2, u3], [.ref 31], _, _, _)) rfl ?_
  refine pe_get mm_209 rfl rfl rfl (by decide) rfl ?_
  refine pe_blk mm_209 1 (s' := (20, [some (.ref 31), some (.ref g0), u2, u3], [.int 0, .ref 32], _, _, _)) rfl ?_
  obtain ⟨e1, rfl⟩ : ∃ e1, e = e1 + 1 := ⟨e - 1, by omega⟩
  refine pe_stat (al := [.int 0, .ref 32]) (L0 := [some (.ref 32), some (.int 0), none, none]) (r1 := (none, 129, 17845, hp (m_fill 32 0 2 0 M))) mm_209 rfl rfl rfl mm_223 rfl (Nat.le_of_ble_eq_true rfl) (Nat.le_of_ble_eq_true rfl) rfl rfl (fill_ev sc _ _ _ _ _ (by decide) (by decide) (fun _ => rfl)) ?_
  show pm_ev _ _ _ _ _ (23, [some (.ref 31), some (.ref g0), u2, u3], [], _, _, hp (m_fill 32 0 2 0 M)) _
  generalize m_fill 32 0 2 0 M = M4 at h ⊢
  rw [mlet] at h
  refine pe_blk mm_209 3 (s' := (26, [some (.ref 31), some (.ref g0), u2, u3], [.ref 31, .ref g0, .ref 31], _, _, _)) rfl ?_
  refine pe_get mm_209 rfl rfl rfl (by decide) rfl ?_
  skip
  cases hc7 : F113 n g0 (M4.1 31 2) M4 with
  | none => rw [hc7] at h; cases h
  | some w =>
    obtain ⟨v5, M6⟩ := w
    rw [hc7] at h
    dsimp only at h
    refine pe_virt (al := [.int (M4.1 31 2)]) (a := g0) (L0 := [some (.ref g0), some (.int (M4.1 31 2))]) (r1 := (some (.int v5), 129, 17845, hp M6)) mm_209 rfl rfl rfl mm_113 (isD_0 hg0 _) (by have := isD_lt hg0; omega) (by decide) rfl (Nat.le_of_ble_eq_true rfl) (Nat.le_of_ble_eq_true rfl) rfl rfl (F113_ev sc n g0 (M4.1 31 2) hg0 _ e1 (by omega) _ _ hc7) ?_
    show pm_ev _ _ _ _ _ (32, [some (.ref 31), some (.ref g0), u2, u3], [.int v5, .ref 31], _, _, _) _
    refine pe_blk mm_209 2 (s' := (34, [some (.ref 31), some (.ref g0), u2, u3], [.ref 31, .ref g0, .int v5, .ref 31], _, _, _)) rfl ?_
    refine pe_get mm_209 rfl rfl rfl (by decide) rfl ?_
    skip
    cases hc10 : F114 n g0 (M6.1 31 2) M6 with
    | none => rw [hc10] at h; cases h
    | some w =>
      obtain ⟨v8, M9⟩ := w
      rw [hc10] at h
      dsimp only at h
      refine pe_virt (al := [.int (M6.1 31 2)]) (a := g0) (L0 := [some (.ref g0), some (.int (M6.1 31 2))]) (r1 := (some (.int v8), 129, 17845, hp M9)) mm_209 rfl rfl rfl mm_114 (isD_0 hg0 _) (by have := isD_lt hg0; omega) (by decide) rfl (Nat.le_of_ble_eq_true rfl) (Nat.le_of_ble_eq_true rfl) rfl rfl (F114_ev sc n g0 (M6.1 31 2) hg0 _ e1 (by omega) _ _ hc10) ?_
      show pm_ev _ _ _ _ _ (40, [some (.ref 31), some (.ref g0), u2, u3], [.int v8, .int v5, .ref 31], _, _, _) _
      refine pe_blk mm_209 1 (s' := (41, [some (.ref 31), some (.ref g0), u2, u3], [.int 0, .int v8, .int v5, .ref 31], _, _, _)) rfl ?_
      skip
      cases hc13 : F210 n v5 v8 0 M9 with
      | none => rw [hc13] at h; cases h
      | some w =>
        obtain ⟨v11, M12⟩ := w
        rw [hc13] at h
        dsimp only at h
        refine pe_virt (al := [.int 0, .int v8, .int v5]) (a := 31) (L0 := [some (.ref 31), some (.int v5), some (.int v8), some (.int 0), none, none]) (r1 := (some (.int v11), 129, 17845, hp M12)) mm_209 rfl rfl rfl mm_210 rfl (by decide) (by decide) rfl (Nat.le_of_ble_eq_true rfl) (Nat.le_of_ble_eq_true rfl) rfl rfl (F210_ev sc n v5 v8 0 _ e1 (by omega) _ _ hc13) ?_
        show pm_ev _ _ _ _ _ (44, [some (.ref 31), some (.ref g0), u2, u3], [.int v11], _, _, _) _
        by_cases q14 : v11 = 0 ∨ v11 = 1
        · rw [if_pos q14] at h
          cases h
          exact pe_ret mm_209 rfl (if_pos q14)
        · rw [if_neg q14] at h
          cases h
/-- ArmExpander$Writer.write -/
def F209 (n : Nat) (g0 : Nat) (a1 : Int32) (a2 : Int32) (M : Mem) : Option (Int32 × Mem) :=
  mlet (m_r M 31 1 (some g0)) (fun M1 => mlet (m_i M1 31 2 a1) (fun M2 => mlet (m_i M2 31 3 a2) (fun M3 => J209_15 n g0 M3)))
set_option maxRecDepth 100000 in
set_option maxHeartbeats 4000000 in
theorem F209_ev (sc : Option (Nat × (Nat → Int32))) (n : Nat) (g0 : Nat) (a1 : Int32) (a2 : Int32) (hg0 : isD g0) (M : Mem) (e : Nat) (he : 17 ≤ e) (r : Int32) (M' : Mem) (h : F209 n g0 a1 a2 M = some (r, M')) : pm_ev pmT sc e 209 false (0, [some (.ref 31), some (.ref g0), some (.int a1), some (.int a2)], [], 129, 17845, hp M) (some (.int r), 129, 17845, hp M') := by
  unfold F209 at h
  refine pe_blk mm_209 2 (s' := (2, [some (.ref 31), some (.ref g0), some (.int a1), some (.int a2)], [.ref g0, .ref 31], _, _, _)) rfl ?_
  refine pe_putr mm_209 rfl rfl rfl (by decide) (Nat.le_of_ble_eq_true rfl) rfl rfl ?_
  show pm_ev _ _ _ _ _ (5, [some (.ref 31), some (.ref g0), some (.int a1), some (.int a2)], [], _, _, hp (m_r M 31 1 (some g0))) _
  generalize m_r M 31 1 (some g0) = M1 at h ⊢
  rw [mlet] at h
  refine pe_blk mm_209 2 (s' := (7, [some (.ref 31), some (.ref g0), some (.int a1), some (.int a2)], [.int a1, .ref 31], _, _, _)) rfl ?_
  refine pe_puti mm_209 rfl rfl rfl (by decide) (Nat.le_of_ble_eq_true rfl) rfl rfl ?_
  show pm_ev _ _ _ _ _ (10, [some (.ref 31), some (.ref g0), some (.int a1), some (.int a2)], [], _, _, hp (m_i M1 31 2 a1)) _
  generalize m_i M1 31 2 a1 = M2 at h ⊢
  rw [mlet] at h
  refine pe_blk mm_209 2 (s' := (12, [some (.ref 31), some (.ref g0), some (.int a1), some (.int a2)], [.int a2, .ref 31], _, _, _)) rfl ?_
  refine pe_puti mm_209 rfl rfl rfl (by decide) (Nat.le_of_ble_eq_true rfl) rfl rfl ?_
  show pm_ev _ _ _ _ _ (15, [some (.ref 31), some (.ref g0), some (.int a1), some (.int a2)], [], _, _, hp (m_i M2 31 3 a2)) _
  generalize m_i M2 31 3 a2 = M3 at h ⊢
  rw [mlet] at h
  exact J209_15_ev sc n g0 hg0 e he _ _ _ _ _ h
def J144_123 (n : Nat) (g0 : Nat) (M : Mem) : Option (Int32 × Mem) :=
  mlet (m_i M 12 6 ((M.1 12 6) + 1)) (fun M57 => match F146 n M57 with | some (v58, M59) => (some (0, M59)) | none => none)
set_option maxRecDepth 100000 in
set_option maxHeartbeats 4000000 in
theorem J144_123_ev (sc : Option (Nat × (Nat → Int32))) (n : Nat) (g0 : Nat) (hg0 : isD g0) (e : Nat) (he : 18 ≤ e) : ∀ (u1 : Option Value) (u2 : Option Value) (u3 : Option Value) (u4 : Option Value) (M : Mem) (r : Int32) (M' : Mem), J144_123 n g0  M = some (r, M') → pm_ev pmT sc e 144 false (123, [some (.ref 12), u1, u2, u3, u4], [], 129, 17845, hp M) (some (.int r), 129, 17845, hp M') := by
  intro u1 u2 u3 u4 M r M' h
  unfold J144_123 at h
  refine pe_blk mm_144 2 (s' := (125, [some (.ref 12), u1, u2, u3, u4], [.ref 12, .ref 12], _, _, _)) rfl ?_
  refine pe_get mm_144 rfl rfl rfl (by decide) rfl ?_
  refine pe_blk mm_144 2 (s' := (130, [some (.ref 12), u1, u2, u3, u4], [.int ((M.1 12 6) + 1), .ref 12], _, _, _)) rfl ?_
  refine pe_puti mm_144 rfl rfl rfl (by decide) (Nat.le_of_ble_eq_true rfl) rfl rfl ?_
  show pm_ev _ _ _ _ _ (133, [some (.ref 12), u1, u2, u3, u4], [], _, _, hp (m_i M 12 6 ((M.1 12 6) + 1))) _
  generalize m_i M 12 6 ((M.1 12 6) + 1) = M57 at h ⊢
  rw [mlet] at h
  refine pe_blk mm_144 1 (s' := (134, [some (.ref 12), u1, u2, u3, u4], [.ref 12], _, _, _)) rfl ?_
  obtain ⟨e1, rfl⟩ : ∃ e1, e = e1 + 1 := ⟨e - 1, by omega⟩
  cases hc60 : F146 n M57 with
  | none => rw [hc60] at h; cases h
  | some w =>
    obtain ⟨v58, M59⟩ := w
    rw [hc60] at h
    dsimp only at h
    refine pe_virt (al := []) (a := 12) (L0 := [some (.ref 12), none]) (r1 := (none, 129, 17845, hp M59)) mm_144 rfl rfl rfl mm_146 rfl (by decide) (by decide) rfl (Nat.le_of_ble_eq_true rfl) (Nat.le_of_ble_eq_true rfl) rfl rfl (F146_ev sc n _ e1 (by omega) _ _ hc60) ?_
    show pm_ev _ _ _ _ _ (137, [some (.ref 12), u1, u2, u3, u4], [], _, _, _) _
    refine pe_blk mm_144 1 (s' := (138, [some (.ref 12), u1, u2, u3, u4], [.int 0], _, _, _)) rfl ?_
    cases h
    exact pe_ret mm_144 rfl rfl
def J144_99 (n : Nat) (g0 : Nat) (x2 : Int32) (M : Mem) : Option (Int32 × Mem) :=
  match M.2.1 12 5 with | some p48 => (if isR p48 then (match F167 n p48 M with | some (v51, M52) => (if v51 = 0 then (if (M52.1 12 6) < 0 ∨ 10 ≤ (M52.1 12 6 : Int32).toNatClampNeg then none else (mlet (m_i M52 33 (M52.1 12 6 : Int32).toNatClampNeg x2) (fun M56 => J144_123 n g0 M56))) else (some ((-2005), M52))) | none => none) else none) | none => none
set_option maxRecDepth 100000 in
set_option maxHeartbeats 4000000 in
theorem J144_99_ev (sc : Option (Nat × (Nat → Int32))) (n : Nat) (g0 : Nat) (hg0 : isD g0) (e : Nat) (he : 18 ≤ e) : ∀ (x2 : Int32) (u1 : Option Value) (u3 : Option Value) (u4 : Option Value) (M : Mem) (r : Int32) (M' : Mem), J144_99 n g0 x2 M = some (r, M') → pm_ev pmT sc e 144 false (99, [some (.ref 12), u1, some (.int x2), u3, u4], [], 129, 17845, hp M) (some (.int r), 129, 17845, hp M') := by
  intro x2 u1 u3 u4 M r M' h
  unfold J144_99 at h
  refine pe_blk mm_144 1 (s' := (100, [some (.ref 12), u1, some (.int x2), u3, u4], [.ref 12], _, _, _)) rfl ?_
  refine pe_get mm_144 rfl rfl rfl (by decide) rfl ?_
  show pm_ev _ _ _ _ _ (103, [some (.ref 12), u1, some (.int x2), u3, u4], va_rf (M.2.1 12 5) :: [], _, _, _) _
  cases hq50 : M.2.1 12 5 with
  | none => rw [hq50] at h; cases h
  | some p48 =>
    rw [hq50] at h
    dsimp only at h
    by_cases f49 : isR p48
    · rw [if_pos f49] at h
      show pm_ev _ _ _ _ _ (103, [some (.ref 12), u1, some (.int x2), u3, u4], [.ref p48], _, _, _) _
      obtain ⟨e1, rfl⟩ : ∃ e1, e = e1 + 1 := ⟨e - 1, by omega⟩
      cases hc53 : F167 n p48 M with
      | none => rw [hc53] at h; cases h
      | some w =>
        obtain ⟨v51, M52⟩ := w
        rw [hc53] at h
        dsimp only at h
        refine pe_virt (al := []) (a := p48) (L0 := [some (.ref p48)]) (r1 := (some (.int v51), 129, 17845, hp M52)) mm_144 rfl rfl rfl mm_167 (isR_0 f49 _) (by have := isR_lt f49; omega) (by decide) rfl (Nat.le_of_ble_eq_true rfl) (Nat.le_of_ble_eq_true rfl) rfl rfl (F167_ev sc n p48 f49 _ e1 (by omega) _ _ hc53) ?_
        show pm_ev _ _ _ _ _ (106, [some (.ref 12), u1, some (.int x2), u3, u4], [.int v51], _, _, _) _
        by_cases q54 : v51 = 0
        · rw [if_pos q54] at h
          refine pe_blk mm_144 1 (s' := (if v51 = 0 then 113 else 109, [some (.ref 12), u1, some (.int x2), u3, u4], [], _, _, _)) rfl ?_
          rw [if_pos q54]
          refine pe_blk mm_144 1 (s' := (114, [some (.ref 12), u1, some (.int x2), u3, u4], [.ref 12], _, _, _)) rfl ?_
          refine pe_get mm_144 rfl rfl rfl (by decide) rfl ?_
          refine pe_blk mm_144 1 (s' := (118, [some (.ref 12), u1, some (.int x2), u3, u4], [.ref 12, .ref 33], _, _, _)) rfl ?_
          refine pe_get mm_144 rfl rfl rfl (by decide) rfl ?_
          refine pe_blk mm_144 1 (s' := (122, [some (.ref 12), u1, some (.int x2), u3, u4], [.int x2, .int (M52.1 12 6), .ref 33], _, _, _)) rfl ?_
          by_cases q55 : (M52.1 12 6) < 0 ∨ 10 ≤ (M52.1 12 6 : Int32).toNatClampNeg
          · rw [if_pos q55] at h
            cases h
          · rw [if_neg q55] at h
            refine pe_iasti mm_144 rfl rfl (by decide) q55 rfl ?_
            show pm_ev _ _ _ _ _ (123, [some (.ref 12), u1, some (.int x2), u3, u4], [], _, _, hp (m_i M52 33 (M52.1 12 6 : Int32).toNatClampNeg x2)) _
            generalize m_i M52 33 (M52.1 12 6 : Int32).toNatClampNeg x2 = M56 at h ⊢
            rw [mlet] at h
            exact J144_123_ev sc n g0 hg0 (e1 + 1) he _ _ _ _ _ _ _ h
        · rw [if_neg q54] at h
          refine pe_blk mm_144 1 (s' := (if v51 = 0 then 113 else 109, [some (.ref 12), u1, some (.int x2), u3, u4], [], _, _, _)) rfl ?_
          rw [if_neg q54]
          refine pe_blk mm_144 1 (s' := (112, [some (.ref 12), u1, some (.int x2), u3, u4], [.int (-2005)], _, _, _)) rfl ?_
          cases h
          exact pe_ret mm_144 rfl rfl
    · rw [if_neg f49] at h
      cases h
def J144_55 (n : Nat) (g0 : Nat) (x2 : Int32) (x4 : Int32) (M : Mem) : Option (Int32 × Mem) :=
  match F209 n g0 x2 ((M.1 12 6) + 1) M with | some (v32, M33) => (if v32 = 0 then (some ((-2003), M33)) else (match M33.2.1 12 5 with | some p36 => (if isR p36 then (match M33.2.1 12 4 with | some p39 => (if isR p39 then (match F166 n p39 M33 with | some (v42, M43) => (match F169 n p36 p39 (x4 + 1) v42 M43 with | some (v45, M46) => (J144_99 n g0 x2 M46) | none => none) | none => none) else none) | none => none) else none) | none => none)) | none => none
set_option maxRecDepth 100000 in
set_option maxHeartbeats 4000000 in
theorem J144_55_ev (sc : Option (Nat × (Nat → Int32))) (n : Nat) (g0 : Nat) (hg0 : isD g0) (e : Nat) (he : 18 ≤ e) : ∀ (x2 : Int32) (x4 : Int32) (u3 : Option Value) (M : Mem) (r : Int32) (M' : Mem), J144_55 n g0 x2 x4 M = some (r, M') → pm_ev pmT sc e 144 false (55, [some (.ref 12), some (.ref g0), some (.int x2), u3, some (.int x4)], [], 129, 17845, hp M) (some (.int r), 129, 17845, hp M') := by
  intro x2 x4 u3 M r M' h
  unfold J144_55 at h
  refine pe_blk mm_144 1 (s' := (56, [some (.ref 12), some (.ref g0), some (.int x2), u3, some (.int x4)], [.ref 12], _, _, _)) rfl ?_
  refine pe_get mm_144 rfl rfl rfl (by decide) rfl ?_
  refine pe_blk mm_144 3 (s' := (62, [some (.ref 12), some (.ref g0), some (.int x2), u3, some (.int x4)], [.ref 12, .int x2, .ref g0, .ref 31], _, _, _)) rfl ?_
  refine pe_get mm_144 rfl rfl rfl (by decide) rfl ?_
  refine pe_blk mm_144 2 (s' := (67, [some (.ref 12), some (.ref g0), some (.int x2), u3, some (.int x4)], [.int ((M.1 12 6) + 1), .int x2, .ref g0, .ref 31], _, _, _)) rfl ?_
  obtain ⟨e1, rfl⟩ : ∃ e1, e = e1 + 1 := ⟨e - 1, by omega⟩
  cases hc34 : F209 n g0 x2 ((M.1 12 6) + 1) M with
  | none => rw [hc34] at h; cases h
  | some w =>
    obtain ⟨v32, M33⟩ := w
    rw [hc34] at h
    dsimp only at h
    refine pe_virt (al := [.int ((M.1 12 6) + 1), .int x2, .ref g0]) (a := 31) (L0 := [some (.ref 31), some (.ref g0), some (.int x2), some (.int ((M.1 12 6) + 1))]) (r1 := (some (.int v32), 129, 17845, hp M33)) mm_144 rfl rfl rfl mm_209 rfl (by decide) (by decide) rfl (Nat.le_of_ble_eq_true rfl) (Nat.le_of_ble_eq_true rfl) rfl rfl (F209_ev sc n g0 x2 ((M.1 12 6) + 1) hg0 _ e1 (by omega) _ _ hc34) ?_
    show pm_ev _ _ _ _ _ (70, [some (.ref 12), some (.ref g0), some (.int x2), u3, some (.int x4)], [.int v32], _, _, _) _
    by_cases q35 : v32 = 0
    · rw [if_pos q35] at h
      refine pe_blk mm_144 1 (s' := (if v32 = 0 then 73 else 77, [some (.ref 12), some (.ref g0), some (.int x2), u3, some (.int x4)], [], _, _, _)) rfl ?_
      rw [if_pos q35]
      refine pe_blk mm_144 1 (s' := (76, [some (.ref 12), some (.ref g0), some (.int x2), u3, some (.int x4)], [.int (-2003)], _, _, _)) rfl ?_
      cases h
      exact pe_ret mm_144 rfl rfl
    · rw [if_neg q35] at h
      refine pe_blk mm_144 1 (s' := (if v32 = 0 then 73 else 77, [some (.ref 12), some (.ref g0), some (.int x2), u3, some (.int x4)], [], _, _, _)) rfl ?_
      rw [if_neg q35]
      refine pe_blk mm_144 1 (s' := (78, [some (.ref 12), some (.ref g0), some (.int x2), u3, some (.int x4)], [.ref 12], _, _, _)) rfl ?_
      refine pe_get mm_144 rfl rfl rfl (by decide) rfl ?_
      show pm_ev _ _ _ _ _ (81, [some (.ref 12), some (.ref g0), some (.int x2), u3, some (.int x4)], va_rf (M33.2.1 12 5) :: [], _, _, _) _
      cases hq38 : M33.2.1 12 5 with
      | none => rw [hq38] at h; cases h
      | some p36 =>
        rw [hq38] at h
        dsimp only at h
        by_cases f37 : isR p36
        · rw [if_pos f37] at h
          show pm_ev _ _ _ _ _ (81, [some (.ref 12), some (.ref g0), some (.int x2), u3, some (.int x4)], [.ref p36], _, _, _) _
          refine pe_blk mm_144 1 (s' := (82, [some (.ref 12), some (.ref g0), some (.int x2), u3, some (.int x4)], [.ref 12, .ref p36], _, _, _)) rfl ?_
          refine pe_get mm_144 rfl rfl rfl (by decide) rfl ?_
          show pm_ev _ _ _ _ _ (85, [some (.ref 12), some (.ref g0), some (.int x2), u3, some (.int x4)], va_rf (M33.2.1 12 4) :: [.ref p36], _, _, _) _
          cases hq41 : M33.2.1 12 4 with
          | none => rw [hq41] at h; cases h
          | some p39 =>
            rw [hq41] at h
            dsimp only at h
            by_cases f40 : isR p39
            · rw [if_pos f40] at h
              show pm_ev _ _ _ _ _ (85, [some (.ref 12), some (.ref g0), some (.int x2), u3, some (.int x4)], [.ref p39, .ref p36], _, _, _) _
              refine pe_blk mm_144 4 (s' := (90, [some (.ref 12), some (.ref g0), some (.int x2), u3, some (.int x4)], [.ref 12, .int (x4 + 1), .ref p39, .ref p36], _, _, _)) rfl ?_
              refine pe_get mm_144 rfl rfl rfl (by decide) rfl ?_
              show pm_ev _ _ _ _ _ (93, [some (.ref 12), some (.ref g0), some (.int x2), u3, some (.int x4)], va_rf (M33.2.1 12 4) :: [.int (x4 + 1), .ref p39, .ref p36], _, _, _) _
              rw [hq41]
              show pm_ev _ _ _ _ _ (93, [some (.ref 12), some (.ref g0), some (.int x2), u3, some (.int x4)], [.ref p39, .int (x4 + 1), .ref p39, .ref p36], _, _, _) _
              skip
              cases hc44 : F166 n p39 M33 with
              | none => rw [hc44] at h; cases h
              | some w =>
                obtain ⟨v42, M43⟩ := w
                rw [hc44] at h
                dsimp only at h
                refine pe_virt (al := []) (a := p39) (L0 := [some (.ref p39)]) (r1 := (some (.int v42), 129, 17845, hp M43)) mm_144 rfl rfl rfl mm_166 (isR_0 f40 _) (by have := isR_lt f40; omega) (by decide) rfl (Nat.le_of_ble_eq_true rfl) (Nat.le_of_ble_eq_true rfl) rfl rfl (F166_ev sc n p39 f40 _ e1 (by omega) _ _ hc44) ?_
                show pm_ev _ _ _ _ _ (96, [some (.ref 12), some (.ref g0), some (.int x2), u3, some (.int x4)], [.int v42, .int (x4 + 1), .ref p39, .ref p36], _, _, _) _
                skip
                cases hc47 : F169 n p36 p39 (x4 + 1) v42 M43 with
                | none => rw [hc47] at h; cases h
                | some w =>
                  obtain ⟨v45, M46⟩ := w
                  rw [hc47] at h
                  dsimp only at h
                  refine pe_virt (al := [.int v42, .int (x4 + 1), .ref p39]) (a := p36) (L0 := [some (.ref p36), some (.ref p39), some (.int (x4 + 1)), some (.int v42), none]) (r1 := (none, 129, 17845, hp M46)) mm_144 rfl rfl rfl mm_169 (isR_0 f37 _) (by have := isR_lt f37; omega) (by decide) rfl (Nat.le_of_ble_eq_true rfl) (Nat.le_of_ble_eq_true rfl) rfl rfl (F169_ev sc n p36 p39 (x4 + 1) v42 f37 f40 _ e1 (by omega) _ _ hc47) ?_
                  show pm_ev _ _ _ _ _ (99, [some (.ref 12), some (.ref g0), some (.int x2), u3, some (.int x4)], [], _, _, _) _
                  exact J144_99_ev sc n g0 hg0 (e1 + 1) he x2 _ _ _ _ _ _ h
            · rw [if_neg f40] at h
              cases h
        · rw [if_neg f37] at h
          cases h
def J144_33 (n : Nat) (g0 : Nat) (x2 : Int32) (x4 : Int32) (M : Mem) : Option (Int32 × Mem) :=
  match F148 n M with | some (v17, M18) => (match v17 with | some p20 => (if p20 = 17 then (match M18.2.1 12 4 with | some p23 => (if isR p23 then (match M18.2.1 12 5 with | some p26 => (if isR p26 then (match F208 n p23 p26 M18 with | some (v29, M30) => (J144_55 n g0 x2 x4 M30) | none => none) else none) | none => none) else none) | none => none) else none) | none => none) | none => none
set_option maxRecDepth 100000 in
set_option maxHeartbeats 4000000 in
theorem J144_33_ev (sc : Option (Nat × (Nat → Int32))) (n : Nat) (g0 : Nat) (hg0 : isD g0) (e : Nat) (he : 18 ≤ e) : ∀ (x2 : Int32) (x4 : Int32) (u3 : Option Value) (M : Mem) (r : Int32) (M' : Mem), J144_33 n g0 x2 x4 M = some (r, M') → pm_ev pmT sc e 144 false (33, [some (.ref 12), some (.ref g0), some (.int x2), u3, some (.int x4)], [], 129, 17845, hp M) (some (.int r), 129, 17845, hp M') := by
  intro x2 x4 u3 M r M' h
  unfold J144_33 at h
  refine pe_blk mm_144 1 (s' := (34, [some (.ref 12), some (.ref g0), some (.int x2), u3, some (.int x4)], [.ref 12], _, _, _)) rfl ?_
  refine pe_get mm_144 rfl rfl rfl (by decide) rfl ?_
  refine pe_blk mm_144 1 (s' := (38, [some (.ref 12), some (.ref g0), some (.int x2), u3, some (.int x4)], [.ref 12, .ref 31], _, _, _)) rfl ?_
  refine pe_get mm_144 rfl rfl rfl (by decide) rfl ?_
  obtain ⟨e1, rfl⟩ : ∃ e1, e = e1 + 1 := ⟨e - 1, by omega⟩
  cases hc19 : F148 n M with
  | none => rw [hc19] at h; cases h
  | some w =>
    obtain ⟨v17, M18⟩ := w
    rw [hc19] at h
    dsimp only at h
    refine pe_virt (al := []) (a := 16) (L0 := [some (.ref 16)]) (r1 := (some (va_rf v17), 129, 17845, hp M18)) mm_144 rfl rfl rfl mm_148 rfl (by decide) (by decide) rfl (Nat.le_of_ble_eq_true rfl) (Nat.le_of_ble_eq_true rfl) rfl rfl (F148_ev sc n _ e1 (by omega) _ _ hc19) ?_
    show pm_ev _ _ _ _ _ (44, [some (.ref 12), some (.ref g0), some (.int x2), u3, some (.int x4)], va_rf (v17) :: [.ref 31], _, _, _) _
    cases hq22 : v17 with
    | none => rw [hq22] at h; cases h
    | some p20 =>
      rw [hq22] at h
      dsimp only at h
      by_cases f21 : p20 = 17
      · rw [if_pos f21] at h
        subst f21
        show pm_ev _ _ _ _ _ (44, [some (.ref 12), some (.ref g0), some (.int x2), u3, some (.int x4)], [.ref 17, .ref 31], _, _, _) _
        refine pe_blk mm_144 1 (s' := (45, [some (.ref 12), some (.ref g0), some (.int x2), u3, some (.int x4)], [.ref 12, .ref 17, .ref 31], _, _, _)) rfl ?_
        refine pe_get mm_144 rfl rfl rfl (by decide) rfl ?_
        show pm_ev _ _ _ _ _ (48, [some (.ref 12), some (.ref g0), some (.int x2), u3, some (.int x4)], va_rf (M18.2.1 12 4) :: [.ref 17, .ref 31], _, _, _) _
        cases hq25 : M18.2.1 12 4 with
        | none => rw [hq25] at h; cases h
        | some p23 =>
          rw [hq25] at h
          dsimp only at h
          by_cases f24 : isR p23
          · rw [if_pos f24] at h
            show pm_ev _ _ _ _ _ (48, [some (.ref 12), some (.ref g0), some (.int x2), u3, some (.int x4)], [.ref p23, .ref 17, .ref 31], _, _, _) _
            refine pe_blk mm_144 1 (s' := (49, [some (.ref 12), some (.ref g0), some (.int x2), u3, some (.int x4)], [.ref 12, .ref p23, .ref 17, .ref 31], _, _, _)) rfl ?_
            refine pe_get mm_144 rfl rfl rfl (by decide) rfl ?_
            show pm_ev _ _ _ _ _ (52, [some (.ref 12), some (.ref g0), some (.int x2), u3, some (.int x4)], va_rf (M18.2.1 12 5) :: [.ref p23, .ref 17, .ref 31], _, _, _) _
            cases hq28 : M18.2.1 12 5 with
            | none => rw [hq28] at h; cases h
            | some p26 =>
              rw [hq28] at h
              dsimp only at h
              by_cases f27 : isR p26
              · rw [if_pos f27] at h
                show pm_ev _ _ _ _ _ (52, [some (.ref 12), some (.ref g0), some (.int x2), u3, some (.int x4)], [.ref p26, .ref p23, .ref 17, .ref 31], _, _, _) _
                skip
                cases hc31 : F208 n p23 p26 M18 with
                | none => rw [hc31] at h; cases h
                | some w =>
                  obtain ⟨v29, M30⟩ := w
                  rw [hc31] at h
                  dsimp only at h
                  refine pe_virt (al := [.ref p26, .ref p23, .ref 17]) (a := 31) (L0 := [some (.ref 31), some (.ref 17), some (.ref p23), some (.ref p26)]) (r1 := (none, 129, 17845, hp M30)) mm_144 rfl rfl rfl mm_208 rfl (by decide) (by decide) rfl (Nat.le_of_ble_eq_true rfl) (Nat.le_of_ble_eq_true rfl) rfl rfl (F208_ev sc n p23 p26 f24 f27 _ e1 (by omega) _ _ hc31) ?_
                  show pm_ev _ _ _ _ _ (55, [some (.ref 12), some (.ref g0), some (.int x2), u3, some (.int x4)], [], _, _, _) _
                  exact J144_55_ev sc n g0 hg0 (e1 + 1) he x2 x4 _ _ _ _ h
              · rw [if_neg f27] at h
                cases h
          · rw [if_neg f24] at h
            cases h
      · rw [if_neg f21] at h
        cases h
def J144_20 (n : Nat) (g0 : Nat) (x2 : Int32) (x3 : Int32) (x4 : Int32) (M : Mem) : Option (Int32 × Mem) :=
  match M.2.1 12 5 with | some p8 => (if isR p8 then (match M.2.1 12 4 with | some p11 => (if isR p11 then (match F169 n p8 p11 0 x3 M with | some (v14, M15) => (J144_33 n g0 x2 x4 M15) | none => none) else none) | none => none) else none) | none => none
set_option maxRecDepth 100000 in
set_option maxHeartbeats 4000000 in
theorem J144_20_ev (sc : Option (Nat × (Nat → Int32))) (n : Nat) (g0 : Nat) (hg0 : isD g0) (e : Nat) (he : 18 ≤ e) : ∀ (x2 : Int32) (x3 : Int32) (x4 : Int32) (M : Mem) (r : Int32) (M' : Mem), J144_20 n g0 x2 x3 x4 M = some (r, M') → pm_ev pmT sc e 144 false (20, [some (.ref 12), some (.ref g0), some (.int x2), some (.int x3), some (.int x4)], [], 129, 17845, hp M) (some (.int r), 129, 17845, hp M') := by
  intro x2 x3 x4  M r M' h
  unfold J144_20 at h
  refine pe_blk mm_144 1 (s' := (21, [some (.ref 12), some (.ref g0), some (.int x2), some (.int x3), some (.int x4)], [.ref 12], _, _, _)) rfl ?_
  refine pe_get mm_144 rfl rfl rfl (by decide) rfl ?_
  show pm_ev _ _ _ _ _ (24, [some (.ref 12), some (.ref g0), some (.int x2), some (.int x3), some (.int x4)], va_rf (M.2.1 12 5) :: [], _, _, _) _
  cases hq10 : M.2.1 12 5 with
  | none => rw [hq10] at h; cases h
  | some p8 =>
    rw [hq10] at h
    dsimp only at h
    by_cases f9 : isR p8
    · rw [if_pos f9] at h
      show pm_ev _ _ _ _ _ (24, [some (.ref 12), some (.ref g0), some (.int x2), some (.int x3), some (.int x4)], [.ref p8], _, _, _) _
      refine pe_blk mm_144 1 (s' := (25, [some (.ref 12), some (.ref g0), some (.int x2), some (.int x3), some (.int x4)], [.ref 12, .ref p8], _, _, _)) rfl ?_
      refine pe_get mm_144 rfl rfl rfl (by decide) rfl ?_
      show pm_ev _ _ _ _ _ (28, [some (.ref 12), some (.ref g0), some (.int x2), some (.int x3), some (.int x4)], va_rf (M.2.1 12 4) :: [.ref p8], _, _, _) _
      cases hq13 : M.2.1 12 4 with
      | none => rw [hq13] at h; cases h
      | some p11 =>
        rw [hq13] at h
        dsimp only at h
        by_cases f12 : isR p11
        · rw [if_pos f12] at h
          show pm_ev _ _ _ _ _ (28, [some (.ref 12), some (.ref g0), some (.int x2), some (.int x3), some (.int x4)], [.ref p11, .ref p8], _, _, _) _
          refine pe_blk mm_144 2 (s' := (30, [some (.ref 12), some (.ref g0), some (.int x2), some (.int x3), some (.int x4)], [.int x3, .int 0, .ref p11, .ref p8], _, _, _)) rfl ?_
          obtain ⟨e1, rfl⟩ : ∃ e1, e = e1 + 1 := ⟨e - 1, by omega⟩
          cases hc16 : F169 n p8 p11 0 x3 M with
          | none => rw [hc16] at h; cases h
          | some w =>
            obtain ⟨v14, M15⟩ := w
            rw [hc16] at h
            dsimp only at h
            refine pe_virt (al := [.int x3, .int 0, .ref p11]) (a := p8) (L0 := [some (.ref p8), some (.ref p11), some (.int 0), some (.int x3), none]) (r1 := (none, 129, 17845, hp M15)) mm_144 rfl rfl rfl mm_169 (isR_0 f9 _) (by have := isR_lt f9; omega) (by decide) rfl (Nat.le_of_ble_eq_true rfl) (Nat.le_of_ble_eq_true rfl) rfl rfl (F169_ev sc n p8 p11 0 x3 f9 f12 _ e1 (by omega) _ _ hc16) ?_
            show pm_ev _ _ _ _ _ (33, [some (.ref 12), some (.ref g0), some (.int x2), some (.int x3), some (.int x4)], [], _, _, _) _
            exact J144_33_ev sc n g0 hg0 (e1 + 1) he x2 x4 _ _ _ _ h
        · rw [if_neg f12] at h
          cases h
    · rw [if_neg f9] at h
      cases h
/-- ArmExpander$Expander.replace -/
def F144 (n : Nat) (g0 : Nat) (a1 : Int32) (a2 : Int32) (a3 : Int32) (M : Mem) : Option (Int32 × Mem) :=
  if (M.1 12 6) < 10 then (match M.2.1 12 5 with | some p2 => (if isR p2 then (match F165 n p2 M with | some (v5, M6) => (J144_20 n g0 a1 a2 a3 M6) | none => none) else none) | none => none) else (some ((-2004), M))
set_option maxRecDepth 100000 in
set_option maxHeartbeats 4000000 in
theorem F144_ev (sc : Option (Nat × (Nat → Int32))) (n : Nat) (g0 : Nat) (a1 : Int32) (a2 : Int32) (a3 : Int32) (hg0 : isD g0) (M : Mem) (e : Nat) (he : 18 ≤ e) (r : Int32) (M' : Mem) (h : F144 n g0 a1 a2 a3 M = some (r, M')) : pm_ev pmT sc e 144 false (0, [some (.ref 12), some (.ref g0), some (.int a1), some (.int a2), some (.int a3)], [], 129, 17845, hp M) (some (.int r), 129, 17845, hp M') := by
  unfold F144 at h
  refine pe_blk mm_144 1 (s' := (1, [some (.ref 12), some (.ref g0), some (.int a1), some (.int a2), some (.int a3)], [.ref 12], _, _, _)) rfl ?_
  refine pe_get mm_144 rfl rfl rfl (by decide) rfl ?_
  refine pe_blk mm_144 1 (s' := (6, [some (.ref 12), some (.ref g0), some (.int a1), some (.int a2), some (.int a3)], [.int 10, .int (M.1 12 6)], _, _, _)) rfl ?_
  by_cases q1 : (M.1 12 6) < 10
  · rw [if_pos q1] at h
    refine pe_blk mm_144 1 (s' := (if (M.1 12 6) < 10 then 13 else 9, [some (.ref 12), some (.ref g0), some (.int a1), some (.int a2), some (.int a3)], [], _, _, _)) rfl ?_
    rw [if_pos q1]
    refine pe_blk mm_144 1 (s' := (14, [some (.ref 12), some (.ref g0), some (.int a1), some (.int a2), some (.int a3)], [.ref 12], _, _, _)) rfl ?_
    refine pe_get mm_144 rfl rfl rfl (by decide) rfl ?_
    show pm_ev _ _ _ _ _ (17, [some (.ref 12), some (.ref g0), some (.int a1), some (.int a2), some (.int a3)], va_rf (M.2.1 12 5) :: [], _, _, _) _
    cases hq4 : M.2.1 12 5 with
    | none => rw [hq4] at h; cases h
    | some p2 =>
      rw [hq4] at h
      dsimp only at h
      by_cases f3 : isR p2
      · rw [if_pos f3] at h
        show pm_ev _ _ _ _ _ (17, [some (.ref 12), some (.ref g0), some (.int a1), some (.int a2), some (.int a3)], [.ref p2], _, _, _) _
        obtain ⟨e1, rfl⟩ : ∃ e1, e = e1 + 1 := ⟨e - 1, by omega⟩
        cases hc7 : F165 n p2 M with
        | none => rw [hc7] at h; cases h
        | some w =>
          obtain ⟨v5, M6⟩ := w
          rw [hc7] at h
          dsimp only at h
          refine pe_virt (al := []) (a := p2) (L0 := [some (.ref p2)]) (r1 := (none, 129, 17845, hp M6)) mm_144 rfl rfl rfl mm_165 (isR_0 f3 _) (by have := isR_lt f3; omega) (by decide) rfl (Nat.le_of_ble_eq_true rfl) (Nat.le_of_ble_eq_true rfl) rfl rfl (F165_ev sc n p2 f3 _ e1 (by omega) _ _ hc7) ?_
          show pm_ev _ _ _ _ _ (20, [some (.ref 12), some (.ref g0), some (.int a1), some (.int a2), some (.int a3)], [], _, _, _) _
          exact J144_20_ev sc n g0 hg0 (e1 + 1) he a1 a2 a3 _ _ _ h
      · rw [if_neg f3] at h
        cases h
  · rw [if_neg q1] at h
    refine pe_blk mm_144 1 (s' := (if (M.1 12 6) < 10 then 13 else 9, [some (.ref 12), some (.ref g0), some (.int a1), some (.int a2), some (.int a3)], [], _, _, _)) rfl ?_
    rw [if_neg q1]
    refine pe_blk mm_144 1 (s' := (12, [some (.ref 12), some (.ref g0), some (.int a1), some (.int a2), some (.int a3)], [.int (-2004)], _, _, _)) rfl ?_
    cases h
    exact pe_ret mm_144 rfl rfl
