/-! The methods as functions over Mem; written by program. -/
def J51_82 (n : Nat) (rec2 : Int32 → Int32 → Mem → Option (Unit × Mem)) (x1 : Int32) (x2 : Int32) (M : Mem) : Option (Unit × Mem) :=
  rec2 x1 (x2 + 1) M
set_option maxRecDepth 100000 in
set_option maxHeartbeats 4000000 in
theorem J51_82_ev (sc : Option (Nat × (Nat → Int32))) (n : Nat)  (e : Nat) (he : 1 ≤ e) (rec2 : Int32 → Int32 → Mem → Option (Unit × Mem)) (hr2 : ∀ (x1 : Int32) (x2 : Int32) (u3 : Option Value) (M : Mem) (r : Unit) (M' : Mem), rec2 x1 x2 M = some (r, M') → pm_ev pmT sc e 51 false (2, [some (.ref 83), some (.int x1), some (.int x2), u3], [], 129, 17845, hp M) (none, 129, 17845, hp M')) : ∀ (x1 : Int32) (x2 : Int32) (u3 : Option Value) (M : Mem) (r : Unit) (M' : Mem), J51_82 n rec2 x1 x2 M = some (r, M') → pm_ev pmT sc e 51 false (82, [some (.ref 83), some (.int x1), some (.int x2), u3], [], 129, 17845, hp M) (none, 129, 17845, hp M') := by
  intro x1 x2 u3 M r M' h
  unfold J51_82 at h
  refine pe_blk mm_51 2 (s' := (2, [some (.ref 83), some (.int x1), some (.int (x2 + 1)), u3], [], _, _, _)) rfl ?_
  exact hr2 x1 (x2 + 1) _ _ _ _ h
def J51_53 (n : Nat) (rec2 : Int32 → Int32 → Mem → Option (Unit × Mem)) (x1 : Int32) (x2 : Int32) (x3 : Int32) (s0 : Int64) (s1 : Int32) (M : Mem) : Option (Unit × Mem) :=
  if s1 < 0 ∨ 3220 ≤ (s1 : Int32).toNatClampNeg then none else (mlet (m_l M (s1 : Int32).toNatClampNeg s0) (fun M7 => if x3 < 0 ∨ 3220 ≤ (x3 : Int32).toNatClampNeg then none else (if x2 < 0 ∨ 128 ≤ (x2 : Int32).toNatClampNeg then none else (if x3 < 0 ∨ 3220 ≤ (x3 : Int32).toNatClampNeg then none else (mlet (m_l M7 (x3 : Int32).toNatClampNeg ((M7.2.2 (x3 : Int32).toNatClampNeg) ||| (((M7.1 110 (x2 : Int32).toNatClampNeg : Int32).toInt64) <<< ((9 * (x2 - x2 / 7 * 7) : Int32).toInt64 &&& 63)))) (fun M11 => J51_82 n rec2 x1 x2 M11))))))
set_option maxRecDepth 100000 in
set_option maxHeartbeats 4000000 in
theorem J51_53_ev (sc : Option (Nat × (Nat → Int32))) (n : Nat)  (e : Nat) (he : 1 ≤ e) (rec2 : Int32 → Int32 → Mem → Option (Unit × Mem)) (hr2 : ∀ (x1 : Int32) (x2 : Int32) (u3 : Option Value) (M : Mem) (r : Unit) (M' : Mem), rec2 x1 x2 M = some (r, M') → pm_ev pmT sc e 51 false (2, [some (.ref 83), some (.int x1), some (.int x2), u3], [], 129, 17845, hp M) (none, 129, 17845, hp M')) : ∀ (x1 : Int32) (x2 : Int32) (x3 : Int32) (s0 : Int64) (s1 : Int32) (M : Mem) (r : Unit) (M' : Mem), J51_53 n rec2 x1 x2 x3 s0 s1 M = some (r, M') → pm_ev pmT sc e 51 false (53, [some (.ref 83), some (.int x1), some (.int x2), some (.int x3)], [.long s0, .int s1, .ref 111], 129, 17845, hp M) (none, 129, 17845, hp M') := by
  intro x1 x2 x3 s0 s1  M r M' h
  unfold J51_53 at h
  by_cases q6 : s1 < 0 ∨ 3220 ≤ (s1 : Int32).toNatClampNeg
  · rw [if_pos q6] at h
    cases h
  · rw [if_neg q6] at h
    refine pe_lasti mm_51 rfl (by decide) q6 ?_
    show pm_ev _ _ _ _ _ (54, [some (.ref 83), some (.int x1), some (.int x2), some (.int x3)], [], _, _, hp (m_l M (s1 : Int32).toNatClampNeg s0)) _
    generalize m_l M (s1 : Int32).toNatClampNeg s0 = M7 at h ⊢
    rw [mlet] at h
    refine pe_blk mm_51 1 (s' := (55, [some (.ref 83), some (.int x1), some (.int x2), some (.int x3)], [.ref 83], _, _, _)) rfl ?_
    refine pe_get mm_51 rfl rfl rfl (by decide) rfl ?_
    refine pe_blk mm_51 2 (s' := (60, [some (.ref 83), some (.int x1), some (.int x2), some (.int x3)], [.ref 83, .int x3, .ref 111], _, _, _)) rfl ?_
    refine pe_get mm_51 rfl rfl rfl (by decide) rfl ?_
    refine pe_blk mm_51 1 (s' := (64, [some (.ref 83), some (.int x1), some (.int x2), some (.int x3)], [.int x3, .ref 111, .int x3, .ref 111], _, _, _)) rfl ?_
    by_cases q8 : x3 < 0 ∨ 3220 ≤ (x3 : Int32).toNatClampNeg
    · rw [if_pos q8] at h
      cases h
    · rw [if_neg q8] at h
      refine pe_lald (f := M7.2.2) mm_51 rfl rfl (by decide) q8 ?_
      refine pe_blk mm_51 1 (s' := (66, [some (.ref 83), some (.int x1), some (.int x2), some (.int x3)], [.ref 83, .long (M7.2.2 (x3 : Int32).toNatClampNeg), .int x3, .ref 111], _, _, _)) rfl ?_
      refine pe_get mm_51 rfl rfl rfl (by decide) rfl ?_
      refine pe_blk mm_51 1 (s' := (70, [some (.ref 83), some (.int x1), some (.int x2), some (.int x3)], [.int x2, .ref 110, .long (M7.2.2 (x3 : Int32).toNatClampNeg), .int x3, .ref 111], _, _, _)) rfl ?_
      by_cases q9 : x2 < 0 ∨ 128 ≤ (x2 : Int32).toNatClampNeg
      · rw [if_pos q9] at h
        cases h
      · rw [if_neg q9] at h
        refine pe_iald (f := M7.1 110) mm_51 rfl rfl (by decide) q9 ?_
        refine pe_blk mm_51 8 (s' := (81, [some (.ref 83), some (.int x1), some (.int x2), some (.int x3)], [.long ((M7.2.2 (x3 : Int32).toNatClampNeg) ||| (((M7.1 110 (x2 : Int32).toNatClampNeg : Int32).toInt64) <<< ((9 * (x2 - x2 / 7 * 7) : Int32).toInt64 &&& 63))), .int x3, .ref 111], _, _, _)) rfl ?_
        by_cases q10 : x3 < 0 ∨ 3220 ≤ (x3 : Int32).toNatClampNeg
        · rw [if_pos q10] at h
          cases h
        · rw [if_neg q10] at h
          refine pe_lasti mm_51 rfl (by decide) q10 ?_
          show pm_ev _ _ _ _ _ (82, [some (.ref 83), some (.int x1), some (.int x2), some (.int x3)], [], _, _, hp (m_l M7 (x3 : Int32).toNatClampNeg ((M7.2.2 (x3 : Int32).toNatClampNeg) ||| (((M7.1 110 (x2 : Int32).toNatClampNeg : Int32).toInt64) <<< ((9 * (x2 - x2 / 7 * 7) : Int32).toInt64 &&& 63))))) _
          generalize m_l M7 (x3 : Int32).toNatClampNeg ((M7.2.2 (x3 : Int32).toNatClampNeg) ||| (((M7.1 110 (x2 : Int32).toNatClampNeg : Int32).toInt64) <<< ((9 * (x2 - x2 / 7 * 7) : Int32).toInt64 &&& 63))) = M11 at h ⊢
          rw [mlet] at h
          exact J51_82_ev sc n e he rec2 hr2 x1 x2 _ _ _ _ h
def J51_31 (n : Nat) (rec2 : Int32 → Int32 → Mem → Option (Unit × Mem)) (x1 : Int32) (x2 : Int32) (x3 : Int32) (M : Mem) : Option (Unit × Mem) :=
  if (x2 - x2 / 7 * 7) = 0 then (J51_53 n rec2 x1 x2 x3 0 x3 M) else (if x3 < 0 ∨ 3220 ≤ (x3 : Int32).toNatClampNeg then none else (J51_53 n rec2 x1 x2 x3 (M.2.2 (x3 : Int32).toNatClampNeg) x3 M))
set_option maxRecDepth 100000 in
set_option maxHeartbeats 4000000 in
theorem J51_31_ev (sc : Option (Nat × (Nat → Int32))) (n : Nat)  (e : Nat) (he : 1 ≤ e) (rec2 : Int32 → Int32 → Mem → Option (Unit × Mem)) (hr2 : ∀ (x1 : Int32) (x2 : Int32) (u3 : Option Value) (M : Mem) (r : Unit) (M' : Mem), rec2 x1 x2 M = some (r, M') → pm_ev pmT sc e 51 false (2, [some (.ref 83), some (.int x1), some (.int x2), u3], [], 129, 17845, hp M) (none, 129, 17845, hp M')) : ∀ (x1 : Int32) (x2 : Int32) (x3 : Int32) (M : Mem) (r : Unit) (M' : Mem), J51_31 n rec2 x1 x2 x3 M = some (r, M') → pm_ev pmT sc e 51 false (31, [some (.ref 83), some (.int x1), some (.int x2), some (.int x3)], [], 129, 17845, hp M) (none, 129, 17845, hp M') := by
  intro x1 x2 x3  M r M' h
  unfold J51_31 at h
  refine pe_blk mm_51 1 (s' := (32, [some (.ref 83), some (.int x1), some (.int x2), some (.int x3)], [.ref 83], _, _, _)) rfl ?_
  refine pe_get mm_51 rfl rfl rfl (by decide) rfl ?_
  refine pe_blk mm_51 4 (s' := (40, [some (.ref 83), some (.int x1), some (.int x2), some (.int x3)], [.int (x2 - x2 / 7 * 7), .int x3, .ref 111], _, _, _)) rfl ?_
  by_cases q5 : (x2 - x2 / 7 * 7) = 0
  · rw [if_pos q5] at h
    refine pe_blk mm_51 1 (s' := (if (x2 - x2 / 7 * 7) = 0 then 43 else 47, [some (.ref 83), some (.int x1), some (.int x2), some (.int x3)], [.int x3, .ref 111], _, _, _)) rfl ?_
    rw [if_pos q5]
    refine pe_blk mm_51 2 (s' := (53, [some (.ref 83), some (.int x1), some (.int x2), some (.int x3)], [.long 0, .int x3, .ref 111], _, _, _)) rfl ?_
    exact J51_53_ev sc n e he rec2 hr2 x1 x2 x3 0 x3 _ _ _ h
  · rw [if_neg q5] at h
    refine pe_blk mm_51 1 (s' := (if (x2 - x2 / 7 * 7) = 0 then 43 else 47, [some (.ref 83), some (.int x1), some (.int x2), some (.int x3)], [.int x3, .ref 111], _, _, _)) rfl ?_
    rw [if_neg q5]
    refine pe_blk mm_51 1 (s' := (48, [some (.ref 83), some (.int x1), some (.int x2), some (.int x3)], [.ref 83, .int x3, .ref 111], _, _, _)) rfl ?_
    refine pe_get mm_51 rfl rfl rfl (by decide) rfl ?_
    refine pe_blk mm_51 1 (s' := (52, [some (.ref 83), some (.int x1), some (.int x2), some (.int x3)], [.int x3, .ref 111, .int x3, .ref 111], _, _, _)) rfl ?_
    by_cases q12 : x3 < 0 ∨ 3220 ≤ (x3 : Int32).toNatClampNeg
    · rw [if_pos q12] at h
      cases h
    · rw [if_neg q12] at h
      refine pe_lald (f := M.2.2) mm_51 rfl rfl (by decide) q12 ?_
      exact J51_53_ev sc n e he rec2 hr2 x1 x2 x3 (M.2.2 (x3 : Int32).toNatClampNeg) x3 _ _ _ h
def L51_2 (n : Nat) : Nat → Int32 → Int32 → Mem → Option (Unit × Mem)
  | 0, _, _, _ => none
  | k + 1, x1, x2, M => if 128 ≤ x2 then (some ((), M)) else (if x2 < 0 ∨ 128 ≤ (x2 : Int32).toNatClampNeg then none else (if x2 < 0 ∨ 128 ≤ (x2 : Int32).toNatClampNeg then none else (mlet (m_i M 108 (x2 : Int32).toNatClampNeg (M.1 109 (x2 : Int32).toNatClampNeg)) (fun M4 => J51_31 n (L51_2 n k) x1 x2 ((20 * x1) + (x2 / 7)) M4))))
set_option maxRecDepth 100000 in
set_option maxHeartbeats 4000000 in
theorem L51_2_ev (sc : Option (Nat × (Nat → Int32))) (n : Nat)  (e : Nat) (he : 1 ≤ e) : ∀ k : Nat, ∀ (x1 : Int32) (x2 : Int32) (u3 : Option Value) (M : Mem) (r : Unit) (M' : Mem), L51_2 n k x1 x2 M = some (r, M') → pm_ev pmT sc e 51 false (2, [some (.ref 83), some (.int x1), some (.int x2), u3], [], 129, 17845, hp M) (none, 129, 17845, hp M') := by
  intro k
  induction k with
  | zero => intro x1 x2 u3 M r M' h; cases h
  | succ k hr2 =>
    intro x1 x2 u3 M r M' h
    rw [L51_2] at h
    refine pe_blk mm_51 2 (s' := (6, [some (.ref 83), some (.int x1), some (.int x2), u3], [.int 128, .int x2], _, _, _)) rfl ?_
    by_cases q1 : 128 ≤ x2
    · rw [if_pos q1] at h
      refine pe_blk mm_51 1 (s' := (if 128 ≤ x2 then 88 else 9, [some (.ref 83), some (.int x1), some (.int x2), u3], [], _, _, _)) rfl ?_
      rw [if_pos q1]
      cases h
      exact pe_ret mm_51 rfl rfl
    · rw [if_neg q1] at h
      refine pe_blk mm_51 1 (s' := (if 128 ≤ x2 then 88 else 9, [some (.ref 83), some (.int x1), some (.int x2), u3], [], _, _, _)) rfl ?_
      rw [if_neg q1]
      refine pe_blk mm_51 9 (s' := (20, [some (.ref 83), some (.int x1), some (.int x2), some (.int ((20 * x1) + (x2 / 7)))], [.ref 83], _, _, _)) rfl ?_
      refine pe_get mm_51 rfl rfl rfl (by decide) rfl ?_
      refine pe_blk mm_51 2 (s' := (25, [some (.ref 83), some (.int x1), some (.int x2), some (.int ((20 * x1) + (x2 / 7)))], [.ref 83, .int x2, .ref 108], _, _, _)) rfl ?_
      refine pe_get mm_51 rfl rfl rfl (by decide) rfl ?_
      refine pe_blk mm_51 1 (s' := (29, [some (.ref 83), some (.int x1), some (.int x2), some (.int ((20 * x1) + (x2 / 7)))], [.int x2, .ref 109, .int x2, .ref 108], _, _, _)) rfl ?_
      by_cases q2 : x2 < 0 ∨ 128 ≤ (x2 : Int32).toNatClampNeg
      · rw [if_pos q2] at h
        cases h
      · rw [if_neg q2] at h
        refine pe_iald (f := M.1 109) mm_51 rfl rfl (by decide) q2 ?_
        by_cases q3 : x2 < 0 ∨ 128 ≤ (x2 : Int32).toNatClampNeg
        · rw [if_pos q3] at h
          cases h
        · rw [if_neg q3] at h
          refine pe_iasti mm_51 rfl rfl (by decide) q3 rfl ?_
          show pm_ev _ _ _ _ _ (31, [some (.ref 83), some (.int x1), some (.int x2), some (.int ((20 * x1) + (x2 / 7)))], [], _, _, hp (m_i M 108 (x2 : Int32).toNatClampNeg (M.1 109 (x2 : Int32).toNatClampNeg))) _
          generalize m_i M 108 (x2 : Int32).toNatClampNeg (M.1 109 (x2 : Int32).toNatClampNeg) = M4 at h ⊢
          rw [mlet] at h
          exact J51_31_ev sc n e he (L51_2 n k) hr2 x1 x2 ((20 * x1) + (x2 / 7)) _ _ _ h
/-- ArmExpanderModel.arrive -/
def F51 (n : Nat) (a0 : Int32) (M : Mem) : Option (Unit × Mem) :=
  L51_2 n n a0 0 M
set_option maxRecDepth 100000 in
set_option maxHeartbeats 4000000 in
theorem F51_ev (sc : Option (Nat × (Nat → Int32))) (n : Nat) (a0 : Int32)  (M : Mem) (e : Nat) (he : 1 ≤ e) (r : Unit) (M' : Mem) (h : F51 n a0 M = some (r, M')) : pm_ev pmT sc e 51 false (0, [some (.ref 83), some (.int a0), none, none], [], 129, 17845, hp M) (none, 129, 17845, hp M') := by
  unfold F51 at h
  refine pe_blk mm_51 2 (s' := (2, [some (.ref 83), some (.int a0), some (.int 0), none], [], _, _, _)) rfl ?_
  exact L51_2_ev sc n e he n a0 0 _ _ _ _ h
def J66_173 (n : Nat) (M : Mem) : Option (Int32 × Mem) :=
  some ((-2), M)
set_option maxRecDepth 100000 in
set_option maxHeartbeats 4000000 in
theorem J66_173_ev (sc : Option (Nat × (Nat → Int32))) (n : Nat)  (e : Nat) (he : 6 ≤ e) : ∀ (u0 : Option Value) (u1 : Option Value) (u2 : Option Value) (u3 : Option Value) (u4 : Option Value) (u5 : Option Value) (u6 : Option Value) (u7 : Option Value) (u8 : Option Value) (u9 : Option Value) (M : Mem) (r : Int32) (M' : Mem), J66_173 n  M = some (r, M') → pm_ev pmT sc e 66 false (173, [u0, u1, u2, u3, u4, u5, u6, u7, u8, u9], [], 129, 17845, hp M) (some (.int r), 129, 17845, hp M') := by
  intro u0 u1 u2 u3 u4 u5 u6 u7 u8 u9 M r M' h
  unfold J66_173 at h
  refine pe_blk mm_66 1 (s' := (175, [u0, u1, u2, u3, u4, u5, u6, u7, u8, u9], [.int (-2)], _, _, _)) rfl ?_
  cases h
  exact pe_ret mm_66 rfl rfl
def J66_375 (n : Nat) (x6 : Int32) (M : Mem) : Option (Int32 × Mem) :=
  some (x6, M)
set_option maxRecDepth 100000 in
set_option maxHeartbeats 4000000 in
theorem J66_375_ev (sc : Option (Nat × (Nat → Int32))) (n : Nat)  (e : Nat) (he : 6 ≤ e) : ∀ (x6 : Int32) (u0 : Option Value) (u1 : Option Value) (u2 : Option Value) (u3 : Option Value) (u4 : Option Value) (u5 : Option Value) (u7 : Option Value) (u8 : Option Value) (u9 : Option Value) (M : Mem) (r : Int32) (M' : Mem), J66_375 n x6 M = some (r, M') → pm_ev pmT sc e 66 false (375, [u0, u1, u2, u3, u4, u5, some (.int x6), u7, u8, u9], [], 129, 17845, hp M) (some (.int r), 129, 17845, hp M') := by
  intro x6 u0 u1 u2 u3 u4 u5 u7 u8 u9 M r M' h
  unfold J66_375 at h
  refine pe_blk mm_66 1 (s' := (377, [u0, u1, u2, u3, u4, u5, some (.int x6), u7, u8, u9], [.int x6], _, _, _)) rfl ?_
  cases h
  exact pe_ret mm_66 rfl rfl
def J66_357 (n : Nat) (x6 : Int32) (M : Mem) : Option (Int32 × Mem) :=
  mlet (m_i M 83 40 ((M.1 83 40) + 1)) (fun M20 => match F51 n (M20.1 83 40) M20 with | some (v21, M22) => (J66_375 n x6 M22) | none => none)
set_option maxRecDepth 100000 in
set_option maxHeartbeats 4000000 in
theorem J66_357_ev (sc : Option (Nat × (Nat → Int32))) (n : Nat)  (e : Nat) (he : 6 ≤ e) : ∀ (x6 : Int32) (u1 : Option Value) (u2 : Option Value) (u3 : Option Value) (u4 : Option Value) (u5 : Option Value) (u7 : Option Value) (u8 : Option Value) (u9 : Option Value) (M : Mem) (r : Int32) (M' : Mem), J66_357 n x6 M = some (r, M') → pm_ev pmT sc e 66 false (357, [some (.ref 83), u1, u2, u3, u4, u5, some (.int x6), u7, u8, u9], [], 129, 17845, hp M) (some (.int r), 129, 17845, hp M') := by
  intro x6 u1 u2 u3 u4 u5 u7 u8 u9 M r M' h
  unfold J66_357 at h
  refine pe_blk mm_66 2 (s' := (359, [some (.ref 83), u1, u2, u3, u4, u5, some (.int x6), u7, u8, u9], [.ref 83, .ref 83], _, _, _)) rfl ?_
  refine pe_get mm_66 rfl rfl rfl (by decide) rfl ?_
  refine pe_blk mm_66 2 (s' := (364, [some (.ref 83), u1, u2, u3, u4, u5, some (.int x6), u7, u8, u9], [.int ((M.1 83 40) + 1), .ref 83], _, _, _)) rfl ?_
  refine pe_puti mm_66 rfl rfl rfl (by decide) (Nat.le_of_ble_eq_true rfl) rfl rfl ?_
  show pm_ev _ _ _ _ _ (367, [some (.ref 83), u1, u2, u3, u4, u5, some (.int x6), u7, u8, u9], [], _, _, hp (m_i M 83 40 ((M.1 83 40) + 1))) _
  generalize m_i M 83 40 ((M.1 83 40) + 1) = M20 at h ⊢
  rw [mlet] at h
  refine pe_blk mm_66 2 (s' := (369, [some (.ref 83), u1, u2, u3, u4, u5, some (.int x6), u7, u8, u9], [.ref 83, .ref 83], _, _, _)) rfl ?_
  refine pe_get mm_66 rfl rfl rfl (by decide) rfl ?_
  obtain ⟨e1, rfl⟩ : ∃ e1, e = e1 + 1 := ⟨e - 1, by omega⟩
  cases hc23 : F51 n (M20.1 83 40) M20 with
  | none => rw [hc23] at h; cases h
  | some w =>
    obtain ⟨v21, M22⟩ := w
    rw [hc23] at h
    dsimp only at h
    refine pe_virt (al := [.int (M20.1 83 40)]) (a := 83) (L0 := [some (.ref 83), some (.int (M20.1 83 40)), none, none]) (r1 := (none, 129, 17845, hp M22)) mm_66 rfl rfl rfl mm_51 rfl (by decide) (by decide) rfl (Nat.le_of_ble_eq_true rfl) (Nat.le_of_ble_eq_true rfl) rfl rfl (F51_ev sc n (M20.1 83 40) _ e1 (by omega) _ _ hc23) ?_
    show pm_ev _ _ _ _ _ (375, [some (.ref 83), u1, u2, u3, u4, u5, some (.int x6), u7, u8, u9], [], _, _, _) _
    exact J66_375_ev sc n (e1 + 1) he x6 _ _ _ _ _ _ _ _ _ _ _ _ h
def J66_330 (n : Nat) (rec225 : Int32 → Int32 → Int32 → Int32 → Int32 → Mem → Option (Int32 × Mem)) (x1 : Int32) (x3 : Int32) (x5 : Int32) (x6 : Int32) (x7 : Int32) (M : Mem) : Option (Int32 × Mem) :=
  rec225 x1 x3 x5 x6 (x7 + 1) M
set_option maxRecDepth 100000 in
set_option maxHeartbeats 4000000 in
theorem J66_330_ev (sc : Option (Nat × (Nat → Int32))) (n : Nat)  (e : Nat) (he : 6 ≤ e) (rec225 : Int32 → Int32 → Int32 → Int32 → Int32 → Mem → Option (Int32 × Mem)) (hr225 : ∀ (x1 : Int32) (x3 : Int32) (x5 : Int32) (x6 : Int32) (x7 : Int32) (u2 : Option Value) (u4 : Option Value) (u8 : Option Value) (u9 : Option Value) (M : Mem) (r : Int32) (M' : Mem), rec225 x1 x3 x5 x6 x7 M = some (r, M') → pm_ev pmT sc e 66 false (225, [some (.ref 83), some (.int x1), u2, some (.int x3), u4, some (.int x5), some (.int x6), some (.int x7), u8, u9], [], 129, 17845, hp M) (some (.int r), 129, 17845, hp M')) : ∀ (x1 : Int32) (x3 : Int32) (x5 : Int32) (x6 : Int32) (x7 : Int32) (u2 : Option Value) (u4 : Option Value) (u8 : Option Value) (u9 : Option Value) (M : Mem) (r : Int32) (M' : Mem), J66_330 n rec225 x1 x3 x5 x6 x7 M = some (r, M') → pm_ev pmT sc e 66 false (330, [some (.ref 83), some (.int x1), u2, some (.int x3), u4, some (.int x5), some (.int x6), some (.int x7), u8, u9], [], 129, 17845, hp M) (some (.int r), 129, 17845, hp M') := by
  intro x1 x3 x5 x6 x7 u2 u4 u8 u9 M r M' h
  unfold J66_330 at h
  refine pe_blk mm_66 2 (s' := (225, [some (.ref 83), some (.int x1), u2, some (.int x3), u4, some (.int x5), some (.int x6), some (.int (x7 + 1)), u8, u9], [], _, _, _)) rfl ?_
  exact hr225 x1 x3 x5 x6 (x7 + 1) _ _ _ _ _ _ _ h
def J66_318 (n : Nat) (rec225 : Int32 → Int32 → Int32 → Int32 → Int32 → Mem → Option (Int32 × Mem)) (x1 : Int32) (x3 : Int32) (x5 : Int32) (x6 : Int32) (x7 : Int32) (s0 : Int32) (M : Mem) : Option (Int32 × Mem) :=
  if x7 < 0 ∨ 128 ≤ (x7 : Int32).toNatClampNeg then none else (match F49 n s0 (M.1 108 (x7 : Int32).toNatClampNeg) x7 M with | some (v31, M32) => (J66_330 n rec225 x1 x3 x5 x6 x7 M32) | none => none)
set_option maxRecDepth 100000 in
set_option maxHeartbeats 4000000 in
theorem J66_318_ev (sc : Option (Nat × (Nat → Int32))) (n : Nat)  (e : Nat) (he : 6 ≤ e) (rec225 : Int32 → Int32 → Int32 → Int32 → Int32 → Mem → Option (Int32 × Mem)) (hr225 : ∀ (x1 : Int32) (x3 : Int32) (x5 : Int32) (x6 : Int32) (x7 : Int32) (u2 : Option Value) (u4 : Option Value) (u8 : Option Value) (u9 : Option Value) (M : Mem) (r : Int32) (M' : Mem), rec225 x1 x3 x5 x6 x7 M = some (r, M') → pm_ev pmT sc e 66 false (225, [some (.ref 83), some (.int x1), u2, some (.int x3), u4, some (.int x5), some (.int x6), some (.int x7), u8, u9], [], 129, 17845, hp M) (some (.int r), 129, 17845, hp M')) : ∀ (x1 : Int32) (x3 : Int32) (x5 : Int32) (x6 : Int32) (x7 : Int32) (s0 : Int32) (u2 : Option Value) (u4 : Option Value) (u8 : Option Value) (u9 : Option Value) (M : Mem) (r : Int32) (M' : Mem), J66_318 n rec225 x1 x3 x5 x6 x7 s0 M = some (r, M') → pm_ev pmT sc e 66 false (318, [some (.ref 83), some (.int x1), u2, some (.int x3), u4, some (.int x5), some (.int x6), some (.int x7), u8, u9], [.int s0, .ref 83], 129, 17845, hp M) (some (.int r), 129, 17845, hp M') := by
  intro x1 x3 x5 x6 x7 s0 u2 u4 u8 u9 M r M' h
  unfold J66_318 at h
  refine pe_blk mm_66 1 (s' := (319, [some (.ref 83), some (.int x1), u2, some (.int x3), u4, some (.int x5), some (.int x6), some (.int x7), u8, u9], [.ref 83, .int s0, .ref 83], _, _, _)) rfl ?_
  refine pe_get mm_66 rfl rfl rfl (by decide) rfl ?_
  refine pe_blk mm_66 1 (s' := (324, [some (.ref 83), some (.int x1), u2, some (.int x3), u4, some (.int x5), some (.int x6), some (.int x7), u8, u9], [.int x7, .ref 108, .int s0, .ref 83], _, _, _)) rfl ?_
  by_cases q30 : x7 < 0 ∨ 128 ≤ (x7 : Int32).toNatClampNeg
  · rw [if_pos q30] at h
    cases h
  · rw [if_neg q30] at h
    refine pe_iald (f := M.1 108) mm_66 rfl rfl (by decide) q30 ?_
    refine pe_blk mm_66 1 (s' := (327, [some (.ref 83), some (.int x1), u2, some (.int x3), u4, some (.int x5), some (.int x6), some (.int x7), u8, u9], [.int x7, .int (M.1 108 (x7 : Int32).toNatClampNeg), .int s0, .ref 83], _, _, _)) rfl ?_
    obtain ⟨e1, rfl⟩ : ∃ e1, e = e1 + 1 := ⟨e - 1, by omega⟩
    cases hc33 : F49 n s0 (M.1 108 (x7 : Int32).toNatClampNeg) x7 M with
    | none => rw [hc33] at h; cases h
    | some w =>
      obtain ⟨v31, M32⟩ := w
      rw [hc33] at h
      dsimp only at h
      refine pe_virt (al := [.int x7, .int (M.1 108 (x7 : Int32).toNatClampNeg), .int s0]) (a := 83) (L0 := [some (.ref 83), some (.int s0), some (.int (M.1 108 (x7 : Int32).toNatClampNeg)), some (.int x7), none, none, none, none, none]) (r1 := (none, 129, 17845, hp M32)) mm_66 rfl rfl rfl mm_49 rfl (by decide) (by decide) rfl (Nat.le_of_ble_eq_true rfl) (Nat.le_of_ble_eq_true rfl) rfl rfl (F49_ev sc n s0 (M.1 108 (x7 : Int32).toNatClampNeg) x7 _ e1 (by omega) _ _ hc33) ?_
      show pm_ev _ _ _ _ _ (330, [some (.ref 83), some (.int x1), u2, some (.int x3), u4, some (.int x5), some (.int x6), some (.int x7), u8, u9], [], _, _, _) _
      exact J66_330_ev sc n (e1 + 1) he rec225 hr225 x1 x3 x5 x6 x7 _ _ _ _ _ _ _ h
def J66_283 (n : Nat) (rec225 : Int32 → Int32 → Int32 → Int32 → Int32 → Mem → Option (Int32 × Mem)) (x1 : Int32) (x3 : Int32) (x5 : Int32) (x6 : Int32) (x7 : Int32) (s0 : Int32) (M : Mem) : Option (Int32 × Mem) :=
  if s0 = 0 then (J66_330 n rec225 x1 x3 x5 x6 x7 M) else (if x7 < 0 ∨ 128 ≤ (x7 : Int32).toNatClampNeg then none else (if (M.1 90 (x7 : Int32).toNatClampNeg) = 5 then (if x7 < 0 ∨ 128 ≤ (x7 : Int32).toNatClampNeg then none else (J66_318 n rec225 x1 x3 x5 x6 x7 ((M.1 92 (x7 : Int32).toNatClampNeg) + 1) M)) else (J66_318 n rec225 x1 x3 x5 x6 x7 (x7 + 1) M)))
set_option maxRecDepth 100000 in
set_option maxHeartbeats 4000000 in
theorem J66_283_ev (sc : Option (Nat × (Nat → Int32))) (n : Nat)  (e : Nat) (he : 6 ≤ e) (rec225 : Int32 → Int32 → Int32 → Int32 → Int32 → Mem → Option (Int32 × Mem)) (hr225 : ∀ (x1 : Int32) (x3 : Int32) (x5 : Int32) (x6 : Int32) (x7 : Int32) (u2 : Option Value) (u4 : Option Value) (u8 : Option Value) (u9 : Option Value) (M : Mem) (r : Int32) (M' : Mem), rec225 x1 x3 x5 x6 x7 M = some (r, M') → pm_ev pmT sc e 66 false (225, [some (.ref 83), some (.int x1), u2, some (.int x3), u4, some (.int x5), some (.int x6), some (.int x7), u8, u9], [], 129, 17845, hp M) (some (.int r), 129, 17845, hp M')) : ∀ (x1 : Int32) (x3 : Int32) (x5 : Int32) (x6 : Int32) (x7 : Int32) (s0 : Int32) (u2 : Option Value) (u4 : Option Value) (u8 : Option Value) (u9 : Option Value) (M : Mem) (r : Int32) (M' : Mem), J66_283 n rec225 x1 x3 x5 x6 x7 s0 M = some (r, M') → pm_ev pmT sc e 66 false (283, [some (.ref 83), some (.int x1), u2, some (.int x3), u4, some (.int x5), some (.int x6), some (.int x7), u8, u9], [.int s0], 129, 17845, hp M) (some (.int r), 129, 17845, hp M') := by
  intro x1 x3 x5 x6 x7 s0 u2 u4 u8 u9 M r M' h
  unfold J66_283 at h
  refine pe_blk mm_66 2 (s' := (287, [some (.ref 83), some (.int x1), u2, some (.int x3), u4, some (.int x5), some (.int x6), some (.int x7), some (.int s0), u9], [.int s0], _, _, _)) rfl ?_
  by_cases q26 : s0 = 0
  · rw [if_pos q26] at h
    refine pe_blk mm_66 1 (s' := (if s0 = 0 then 330 else 290, [some (.ref 83), some (.int x1), u2, some (.int x3), u4, some (.int x5), some (.int x6), some (.int x7), some (.int s0), u9], [], _, _, _)) rfl ?_
    rw [if_pos q26]
    exact J66_330_ev sc n e he rec225 hr225 x1 x3 x5 x6 x7 _ _ _ _ _ _ _ h
  · rw [if_neg q26] at h
    refine pe_blk mm_66 1 (s' := (if s0 = 0 then 330 else 290, [some (.ref 83), some (.int x1), u2, some (.int x3), u4, some (.int x5), some (.int x6), some (.int x7), some (.int s0), u9], [], _, _, _)) rfl ?_
    rw [if_neg q26]
    refine pe_blk mm_66 2 (s' := (292, [some (.ref 83), some (.int x1), u2, some (.int x3), u4, some (.int x5), some (.int x6), some (.int x7), some (.int s0), u9], [.ref 83, .ref 83], _, _, _)) rfl ?_
    refine pe_get mm_66 rfl rfl rfl (by decide) rfl ?_
    refine pe_blk mm_66 1 (s' := (297, [some (.ref 83), some (.int x1), u2, some (.int x3), u4, some (.int x5), some (.int x6), some (.int x7), some (.int s0), u9], [.int x7, .ref 90, .ref 83], _, _, _)) rfl ?_
    by_cases q27 : x7 < 0 ∨ 128 ≤ (x7 : Int32).toNatClampNeg
    · rw [if_pos q27] at h
      cases h
    · rw [if_neg q27] at h
      refine pe_iald (f := M.1 90) mm_66 rfl rfl (by decide) q27 ?_
      refine pe_blk mm_66 1 (s' := (299, [some (.ref 83), some (.int x1), u2, some (.int x3), u4, some (.int x5), some (.int x6), some (.int x7), some (.int s0), u9], [.int 5, .int (M.1 90 (x7 : Int32).toNatClampNeg), .ref 83], _, _, _)) rfl ?_
      by_cases q28 : (M.1 90 (x7 : Int32).toNatClampNeg) = 5
      · rw [if_pos q28] at h
        refine pe_blk mm_66 1 (s' := (if (M.1 90 (x7 : Int32).toNatClampNeg) = 5 then 302 else 314, [some (.ref 83), some (.int x1), u2, some (.int x3), u4, some (.int x5), some (.int x6), some (.int x7), some (.int s0), u9], [.ref 83], _, _, _)) rfl ?_
        rw [if_pos q28]
        refine pe_blk mm_66 1 (s' := (303, [some (.ref 83), some (.int x1), u2, some (.int x3), u4, some (.int x5), some (.int x6), some (.int x7), some (.int s0), u9], [.ref 83, .ref 83], _, _, _)) rfl ?_
        refine pe_get mm_66 rfl rfl rfl (by decide) rfl ?_
        refine pe_blk mm_66 1 (s' := (308, [some (.ref 83), some (.int x1), u2, some (.int x3), u4, some (.int x5), some (.int x6), some (.int x7), some (.int s0), u9], [.int x7, .ref 92, .ref 83], _, _, _)) rfl ?_
        by_cases q29 : x7 < 0 ∨ 128 ≤ (x7 : Int32).toNatClampNeg
        · rw [if_pos q29] at h
          cases h
        · rw [if_neg q29] at h
          refine pe_iald (f := M.1 92) mm_66 rfl rfl (by decide) q29 ?_
          refine pe_blk mm_66 3 (s' := (318, [some (.ref 83), some (.int x1), u2, some (.int x3), u4, some (.int x5), some (.int x6), some (.int x7), some (.int s0), u9], [.int ((M.1 92 (x7 : Int32).toNatClampNeg) + 1), .ref 83], _, _, _)) rfl ?_
          exact J66_318_ev sc n e he rec225 hr225 x1 x3 x5 x6 x7 ((M.1 92 (x7 : Int32).toNatClampNeg) + 1) _ _ _ _ _ _ _ h
      · rw [if_neg q28] at h
        refine pe_blk mm_66 1 (s' := (if (M.1 90 (x7 : Int32).toNatClampNeg) = 5 then 302 else 314, [some (.ref 83), some (.int x1), u2, some (.int x3), u4, some (.int x5), some (.int x6), some (.int x7), some (.int s0), u9], [.ref 83], _, _, _)) rfl ?_
        rw [if_neg q28]
        refine pe_blk mm_66 3 (s' := (318, [some (.ref 83), some (.int x1), u2, some (.int x3), u4, some (.int x5), some (.int x6), some (.int x7), some (.int s0), u9], [.int (x7 + 1), .ref 83], _, _, _)) rfl ?_
        exact J66_318_ev sc n e he rec225 hr225 x1 x3 x5 x6 x7 (x7 + 1) _ _ _ _ _ _ _ h
def J66_282 (n : Nat) (rec225 : Int32 → Int32 → Int32 → Int32 → Int32 → Mem → Option (Int32 × Mem)) (x1 : Int32) (x3 : Int32) (x5 : Int32) (x6 : Int32) (x7 : Int32) (M : Mem) : Option (Int32 × Mem) :=
  J66_283 n rec225 x1 x3 x5 x6 x7 0 M
set_option maxRecDepth 100000 in
set_option maxHeartbeats 4000000 in
theorem J66_282_ev (sc : Option (Nat × (Nat → Int32))) (n : Nat)  (e : Nat) (he : 6 ≤ e) (rec225 : Int32 → Int32 → Int32 → Int32 → Int32 → Mem → Option (Int32 × Mem)) (hr225 : ∀ (x1 : Int32) (x3 : Int32) (x5 : Int32) (x6 : Int32) (x7 : Int32) (u2 : Option Value) (u4 : Option Value) (u8 : Option Value) (u9 : Option Value) (M : Mem) (r : Int32) (M' : Mem), rec225 x1 x3 x5 x6 x7 M = some (r, M') → pm_ev pmT sc e 66 false (225, [some (.ref 83), some (.int x1), u2, some (.int x3), u4, some (.int x5), some (.int x6), some (.int x7), u8, u9], [], 129, 17845, hp M) (some (.int r), 129, 17845, hp M')) : ∀ (x1 : Int32) (x3 : Int32) (x5 : Int32) (x6 : Int32) (x7 : Int32) (u2 : Option Value) (u4 : Option Value) (u8 : Option Value) (u9 : Option Value) (M : Mem) (r : Int32) (M' : Mem), J66_282 n rec225 x1 x3 x5 x6 x7 M = some (r, M') → pm_ev pmT sc e 66 false (282, [some (.ref 83), some (.int x1), u2, some (.int x3), u4, some (.int x5), some (.int x6), some (.int x7), u8, u9], [], 129, 17845, hp M) (some (.int r), 129, 17845, hp M') := by
  intro x1 x3 x5 x6 x7 u2 u4 u8 u9 M r M' h
  unfold J66_282 at h
  refine pe_blk mm_66 1 (s' := (283, [some (.ref 83), some (.int x1), u2, some (.int x3), u4, some (.int x5), some (.int x6), some (.int x7), u8, u9], [.int 0], _, _, _)) rfl ?_
  exact J66_283_ev sc n e he rec225 hr225 x1 x3 x5 x6 x7 0 _ _ _ _ _ _ _ h
def J66_278 (n : Nat) (rec225 : Int32 → Int32 → Int32 → Int32 → Int32 → Mem → Option (Int32 × Mem)) (x1 : Int32) (x3 : Int32) (x5 : Int32) (x6 : Int32) (x7 : Int32) (M : Mem) : Option (Int32 × Mem) :=
  J66_283 n rec225 x1 x3 x5 x6 x7 1 M
set_option maxRecDepth 100000 in
set_option maxHeartbeats 4000000 in
theorem J66_278_ev (sc : Option (Nat × (Nat → Int32))) (n : Nat)  (e : Nat) (he : 6 ≤ e) (rec225 : Int32 → Int32 → Int32 → Int32 → Int32 → Mem → Option (Int32 × Mem)) (hr225 : ∀ (x1 : Int32) (x3 : Int32) (x5 : Int32) (x6 : Int32) (x7 : Int32) (u2 : Option Value) (u4 : Option Value) (u8 : Option Value) (u9 : Option Value) (M : Mem) (r : Int32) (M' : Mem), rec225 x1 x3 x5 x6 x7 M = some (r, M') → pm_ev pmT sc e 66 false (225, [some (.ref 83), some (.int x1), u2, some (.int x3), u4, some (.int x5), some (.int x6), some (.int x7), u8, u9], [], 129, 17845, hp M) (some (.int r), 129, 17845, hp M')) : ∀ (x1 : Int32) (x3 : Int32) (x5 : Int32) (x6 : Int32) (x7 : Int32) (u2 : Option Value) (u4 : Option Value) (u8 : Option Value) (u9 : Option Value) (M : Mem) (r : Int32) (M' : Mem), J66_278 n rec225 x1 x3 x5 x6 x7 M = some (r, M') → pm_ev pmT sc e 66 false (278, [some (.ref 83), some (.int x1), u2, some (.int x3), u4, some (.int x5), some (.int x6), some (.int x7), u8, u9], [], 129, 17845, hp M) (some (.int r), 129, 17845, hp M') := by
  intro x1 x3 x5 x6 x7 u2 u4 u8 u9 M r M' h
  unfold J66_278 at h
  refine pe_blk mm_66 2 (s' := (283, [some (.ref 83), some (.int x1), u2, some (.int x3), u4, some (.int x5), some (.int x6), some (.int x7), u8, u9], [.int 1], _, _, _)) rfl ?_
  exact J66_283_ev sc n e he rec225 hr225 x1 x3 x5 x6 x7 1 _ _ _ _ _ _ _ h
def L66_225 (n : Nat) : Nat → Int32 → Int32 → Int32 → Int32 → Int32 → Mem → Option (Int32 × Mem)
  | 0, _, _, _, _, _, _ => none
  | k + 1, x1, x3, x5, x6, x7, M => if 128 ≤ x7 then (if (M.1 83 40) < 0 ∨ 161 ≤ (M.1 83 40 : Int32).toNatClampNeg then none else (mlet (m_i M 112 (M.1 83 40 : Int32).toNatClampNeg x1) (fun M17 => if (M17.1 83 40) < 0 ∨ 161 ≤ (M17.1 83 40 : Int32).toNatClampNeg then none else (mlet (m_i M17 113 (M17.1 83 40 : Int32).toNatClampNeg x6) (fun M19 => J66_357 n x6 M19))))) else (if x3 = 1 then (if x7 = x5 then (J66_283 n (L66_225 n k) x1 x3 x5 x6 x7 1 M) else (J66_283 n (L66_225 n k) x1 x3 x5 x6 x7 0 M)) else (if x7 < 0 ∨ 128 ≤ (x7 : Int32).toNatClampNeg then none else (if (M.1 108 (x7 : Int32).toNatClampNeg) ≤ 0 then (J66_282 n (L66_225 n k) x1 x3 x5 x6 x7 M) else (match F53 n x7 M with | some (v36, M37) => (if x1 < 0 ∨ 320 ≤ (x1 : Int32).toNatClampNeg then none else (if v36 = (M37.1 105 (x1 : Int32).toNatClampNeg) then (J66_278 n (L66_225 n k) x1 x3 x5 x6 x7 M37) else (J66_282 n (L66_225 n k) x1 x3 x5 x6 x7 M37))) | none => none))))
set_option maxRecDepth 100000 in
set_option maxHeartbeats 4000000 in
theorem L66_225_ev (sc : Option (Nat × (Nat → Int32))) (n : Nat)  (e : Nat) (he : 6 ≤ e) : ∀ k : Nat, ∀ (x1 : Int32) (x3 : Int32) (x5 : Int32) (x6 : Int32) (x7 : Int32) (u2 : Option Value) (u4 : Option Value) (u8 : Option Value) (u9 : Option Value) (M : Mem) (r : Int32) (M' : Mem), L66_225 n k x1 x3 x5 x6 x7 M = some (r, M') → pm_ev pmT sc e 66 false (225, [some (.ref 83), some (.int x1), u2, some (.int x3), u4, some (.int x5), some (.int x6), some (.int x7), u8, u9], [], 129, 17845, hp M) (some (.int r), 129, 17845, hp M') := by
  intro k
  induction k with
  | zero => intro x1 x3 x5 x6 x7 u2 u4 u8 u9 M r M' h; cases h
  | succ k hr225 =>
    intro x1 x3 x5 x6 x7 u2 u4 u8 u9 M r M' h
    rw [L66_225] at h
    refine pe_blk mm_66 2 (s' := (230, [some (.ref 83), some (.int x1), u2, some (.int x3), u4, some (.int x5), some (.int x6), some (.int x7), u8, u9], [.int 128, .int x7], _, _, _)) rfl ?_
    by_cases q15 : 128 ≤ x7
    · rw [if_pos q15] at h
      refine pe_blk mm_66 1 (s' := (if 128 ≤ x7 then 336 else 233, [some (.ref 83), some (.int x1), u2, some (.int x3), u4, some (.int x5), some (.int x6), some (.int x7), u8, u9], [], _, _, _)) rfl ?_
      rw [if_pos q15]
      refine pe_blk mm_66 1 (s' := (337, [some (.ref 83), some (.int x1), u2, some (.int x3), u4, some (.int x5), some (.int x6), some (.int x7), u8, u9], [.ref 83], _, _, _)) rfl ?_
      refine pe_get mm_66 rfl rfl rfl (by decide) rfl ?_
      refine pe_blk mm_66 1 (s' := (341, [some (.ref 83), some (.int x1), u2, some (.int x3), u4, some (.int x5), some (.int x6), some (.int x7), u8, u9], [.ref 83, .ref 112], _, _, _)) rfl ?_
      refine pe_get mm_66 rfl rfl rfl (by decide) rfl ?_
      refine pe_blk mm_66 1 (s' := (345, [some (.ref 83), some (.int x1), u2, some (.int x3), u4, some (.int x5), some (.int x6), some (.int x7), u8, u9], [.int x1, .int (M.1 83 40), .ref 112], _, _, _)) rfl ?_
      by_cases q16 : (M.1 83 40) < 0 ∨ 161 ≤ (M.1 83 40 : Int32).toNatClampNeg
      · rw [if_pos q16] at h
        cases h
      · rw [if_neg q16] at h
        refine pe_iasti mm_66 rfl rfl (by decide) q16 rfl ?_
        show pm_ev _ _ _ _ _ (346, [some (.ref 83), some (.int x1), u2, some (.int x3), u4, some (.int x5), some (.int x6), some (.int x7), u8, u9], [], _, _, hp (m_i M 112 (M.1 83 40 : Int32).toNatClampNeg x1)) _
        generalize m_i M 112 (M.1 83 40 : Int32).toNatClampNeg x1 = M17 at h ⊢
        rw [mlet] at h
        refine pe_blk mm_66 1 (s' := (347, [some (.ref 83), some (.int x1), u2, some (.int x3), u4, some (.int x5), some (.int x6), some (.int x7), u8, u9], [.ref 83], _, _, _)) rfl ?_
        refine pe_get mm_66 rfl rfl rfl (by decide) rfl ?_
        refine pe_blk mm_66 1 (s' := (351, [some (.ref 83), some (.int x1), u2, some (.int x3), u4, some (.int x5), some (.int x6), some (.int x7), u8, u9], [.ref 83, .ref 113], _, _, _)) rfl ?_
        refine pe_get mm_66 rfl rfl rfl (by decide) rfl ?_
        refine pe_blk mm_66 1 (s' := (356, [some (.ref 83), some (.int x1), u2, some (.int x3), u4, some (.int x5), some (.int x6), some (.int x7), u8, u9], [.int x6, .int (M17.1 83 40), .ref 113], _, _, _)) rfl ?_
        by_cases q18 : (M17.1 83 40) < 0 ∨ 161 ≤ (M17.1 83 40 : Int32).toNatClampNeg
        · rw [if_pos q18] at h
          cases h
        · rw [if_neg q18] at h
          refine pe_iasti mm_66 rfl rfl (by decide) q18 rfl ?_
          show pm_ev _ _ _ _ _ (357, [some (.ref 83), some (.int x1), u2, some (.int x3), u4, some (.int x5), some (.int x6), some (.int x7), u8, u9], [], _, _, hp (m_i M17 113 (M17.1 83 40 : Int32).toNatClampNeg x6)) _
          generalize m_i M17 113 (M17.1 83 40 : Int32).toNatClampNeg x6 = M19 at h ⊢
          rw [mlet] at h
          exact J66_357_ev sc n e he x6 _ _ _ _ _ _ _ _ _ _ _ h
    · rw [if_neg q15] at h
      refine pe_blk mm_66 1 (s' := (if 128 ≤ x7 then 336 else 233, [some (.ref 83), some (.int x1), u2, some (.int x3), u4, some (.int x5), some (.int x6), some (.int x7), u8, u9], [], _, _, _)) rfl ?_
      rw [if_neg q15]
      refine pe_blk mm_66 2 (s' := (235, [some (.ref 83), some (.int x1), u2, some (.int x3), u4, some (.int x5), some (.int x6), some (.int x7), u8, u9], [.int 1, .int x3], _, _, _)) rfl ?_
      by_cases q24 : x3 = 1
      · rw [if_pos q24] at h
        refine pe_blk mm_66 1 (s' := (if x3 = 1 then 238 else 253, [some (.ref 83), some (.int x1), u2, some (.int x3), u4, some (.int x5), some (.int x6), some (.int x7), u8, u9], [], _, _, _)) rfl ?_
        rw [if_pos q24]
        refine pe_blk mm_66 2 (s' := (242, [some (.ref 83), some (.int x1), u2, some (.int x3), u4, some (.int x5), some (.int x6), some (.int x7), u8, u9], [.int x5, .int x7], _, _, _)) rfl ?_
        by_cases q25 : x7 = x5
        · rw [if_pos q25] at h
          refine pe_blk mm_66 1 (s' := (if x7 = x5 then 245 else 249, [some (.ref 83), some (.int x1), u2, some (.int x3), u4, some (.int x5), some (.int x6), some (.int x7), u8, u9], [], _, _, _)) rfl ?_
          rw [if_pos q25]
          refine pe_blk mm_66 2 (s' := (283, [some (.ref 83), some (.int x1), u2, some (.int x3), u4, some (.int x5), some (.int x6), some (.int x7), u8, u9], [.int 1], _, _, _)) rfl ?_
          exact J66_283_ev sc n e he (L66_225 n k) hr225 x1 x3 x5 x6 x7 1 _ _ _ _ _ _ _ h
        · rw [if_neg q25] at h
          refine pe_blk mm_66 1 (s' := (if x7 = x5 then 245 else 249, [some (.ref 83), some (.int x1), u2, some (.int x3), u4, some (.int x5), some (.int x6), some (.int x7), u8, u9], [], _, _, _)) rfl ?_
          rw [if_neg q25]
          refine pe_blk mm_66 2 (s' := (283, [some (.ref 83), some (.int x1), u2, some (.int x3), u4, some (.int x5), some (.int x6), some (.int x7), u8, u9], [.int 0], _, _, _)) rfl ?_
          exact J66_283_ev sc n e he (L66_225 n k) hr225 x1 x3 x5 x6 x7 0 _ _ _ _ _ _ _ h
      · rw [if_neg q24] at h
        refine pe_blk mm_66 1 (s' := (if x3 = 1 then 238 else 253, [some (.ref 83), some (.int x1), u2, some (.int x3), u4, some (.int x5), some (.int x6), some (.int x7), u8, u9], [], _, _, _)) rfl ?_
        rw [if_neg q24]
        refine pe_blk mm_66 1 (s' := (254, [some (.ref 83), some (.int x1), u2, some (.int x3), u4, some (.int x5), some (.int x6), some (.int x7), u8, u9], [.ref 83], _, _, _)) rfl ?_
        refine pe_get mm_66 rfl rfl rfl (by decide) rfl ?_
        refine pe_blk mm_66 1 (s' := (259, [some (.ref 83), some (.int x1), u2, some (.int x3), u4, some (.int x5), some (.int x6), some (.int x7), u8, u9], [.int x7, .ref 108], _, _, _)) rfl ?_
        by_cases q34 : x7 < 0 ∨ 128 ≤ (x7 : Int32).toNatClampNeg
        · rw [if_pos q34] at h
          cases h
        · rw [if_neg q34] at h
          refine pe_iald (f := M.1 108) mm_66 rfl rfl (by decide) q34 ?_
          by_cases q35 : (M.1 108 (x7 : Int32).toNatClampNeg) ≤ 0
          · rw [if_pos q35] at h
            refine pe_blk mm_66 1 (s' := (if (M.1 108 (x7 : Int32).toNatClampNeg) ≤ 0 then 282 else 263, [some (.ref 83), some (.int x1), u2, some (.int x3), u4, some (.int x5), some (.int x6), some (.int x7), u8, u9], [], _, _, _)) rfl ?_
            rw [if_pos q35]
            exact J66_282_ev sc n e he (L66_225 n k) hr225 x1 x3 x5 x6 x7 _ _ _ _ _ _ _ h
          · rw [if_neg q35] at h
            refine pe_blk mm_66 1 (s' := (if (M.1 108 (x7 : Int32).toNatClampNeg) ≤ 0 then 282 else 263, [some (.ref 83), some (.int x1), u2, some (.int x3), u4, some (.int x5), some (.int x6), some (.int x7), u8, u9], [], _, _, _)) rfl ?_
            rw [if_neg q35]
            refine pe_blk mm_66 2 (s' := (266, [some (.ref 83), some (.int x1), u2, some (.int x3), u4, some (.int x5), some (.int x6), some (.int x7), u8, u9], [.int x7, .ref 83], _, _, _)) rfl ?_
            obtain ⟨e1, rfl⟩ : ∃ e1, e = e1 + 1 := ⟨e - 1, by omega⟩
            cases hc38 : F53 n x7 M with
            | none => rw [hc38] at h; cases h
            | some w =>
              obtain ⟨v36, M37⟩ := w
              rw [hc38] at h
              dsimp only at h
              refine pe_virt (al := [.int x7]) (a := 83) (L0 := [some (.ref 83), some (.int x7)]) (r1 := (some (.int v36), 129, 17845, hp M37)) mm_66 rfl rfl rfl mm_53 rfl (by decide) (by decide) rfl (Nat.le_of_ble_eq_true rfl) (Nat.le_of_ble_eq_true rfl) rfl rfl (F53_ev sc n x7 _ e1 (by omega) _ _ hc38) ?_
              show pm_ev _ _ _ _ _ (269, [some (.ref 83), some (.int x1), u2, some (.int x3), u4, some (.int x5), some (.int x6), some (.int x7), u8, u9], [.int v36], _, _, _) _
              refine pe_blk mm_66 1 (s' := (270, [some (.ref 83), some (.int x1), u2, some (.int x3), u4, some (.int x5), some (.int x6), some (.int x7), u8, u9], [.ref 83, .int v36], _, _, _)) rfl ?_
              refine pe_get mm_66 rfl rfl rfl (by decide) rfl ?_
              refine pe_blk mm_66 1 (s' := (274, [some (.ref 83), some (.int x1), u2, some (.int x3), u4, some (.int x5), some (.int x6), some (.int x7), u8, u9], [.int x1, .ref 105, .int v36], _, _, _)) rfl ?_
              by_cases q39 : x1 < 0 ∨ 320 ≤ (x1 : Int32).toNatClampNeg
              · rw [if_pos q39] at h
                cases h
              · rw [if_neg q39] at h
                refine pe_iald (f := M37.1 105) mm_66 rfl rfl (by decide) q39 ?_
                by_cases q40 : v36 = (M37.1 105 (x1 : Int32).toNatClampNeg)
                · rw [if_pos q40] at h
                  refine pe_blk mm_66 1 (s' := (if v36 = (M37.1 105 (x1 : Int32).toNatClampNeg) then 278 else 282, [some (.ref 83), some (.int x1), u2, some (.int x3), u4, some (.int x5), some (.int x6), some (.int x7), u8, u9], [], _, _, _)) rfl ?_
                  rw [if_pos q40]
                  exact J66_278_ev sc n (e1 + 1) he (L66_225 n k) hr225 x1 x3 x5 x6 x7 _ _ _ _ _ _ _ h
                · rw [if_neg q40] at h
                  refine pe_blk mm_66 1 (s' := (if v36 = (M37.1 105 (x1 : Int32).toNatClampNeg) then 278 else 282, [some (.ref 83), some (.int x1), u2, some (.int x3), u4, some (.int x5), some (.int x6), some (.int x7), u8, u9], [], _, _, _)) rfl ?_
                  rw [if_neg q40]
                  exact J66_282_ev sc n (e1 + 1) he (L66_225 n k) hr225 x1 x3 x5 x6 x7 _ _ _ _ _ _ _ h
def J66_209 (n : Nat) (x1 : Int32) (x3 : Int32) (x5 : Int32) (s0 : Int32) (M : Mem) : Option (Int32 × Mem) :=
  if 0 ≤ s0 then (match F50 n M with | some (v12, M13) => (L66_225 n n x1 x3 x5 s0 0 M13) | none => none) else (some ((-1), M))
set_option maxRecDepth 100000 in
set_option maxHeartbeats 4000000 in
theorem J66_209_ev (sc : Option (Nat × (Nat → Int32))) (n : Nat)  (e : Nat) (he : 6 ≤ e) : ∀ (x1 : Int32) (x3 : Int32) (x5 : Int32) (s0 : Int32) (u2 : Option Value) (u4 : Option Value) (u6 : Option Value) (u7 : Option Value) (u8 : Option Value) (u9 : Option Value) (M : Mem) (r : Int32) (M' : Mem), J66_209 n x1 x3 x5 s0 M = some (r, M') → pm_ev pmT sc e 66 false (209, [some (.ref 83), some (.int x1), u2, some (.int x3), u4, some (.int x5), u6, u7, u8, u9], [.int s0], 129, 17845, hp M) (some (.int r), 129, 17845, hp M') := by
  intro x1 x3 x5 s0 u2 u4 u6 u7 u8 u9 M r M' h
  unfold J66_209 at h
  refine pe_blk mm_66 2 (s' := (213, [some (.ref 83), some (.int x1), u2, some (.int x3), u4, some (.int x5), some (.int s0), u7, u8, u9], [.int s0], _, _, _)) rfl ?_
  by_cases q11 : 0 ≤ s0
  · rw [if_pos q11] at h
    refine pe_blk mm_66 1 (s' := (if 0 ≤ s0 then 218 else 216, [some (.ref 83), some (.int x1), u2, some (.int x3), u4, some (.int x5), some (.int s0), u7, u8, u9], [], _, _, _)) rfl ?_
    rw [if_pos q11]
    refine pe_blk mm_66 1 (s' := (219, [some (.ref 83), some (.int x1), u2, some (.int x3), u4, some (.int x5), some (.int s0), u7, u8, u9], [.ref 83], _, _, _)) rfl ?_
    obtain ⟨e1, rfl⟩ : ∃ e1, e = e1 + 1 := ⟨e - 1, by omega⟩
    cases hc14 : F50 n M with
    | none => rw [hc14] at h; cases h
    | some w =>
      obtain ⟨v12, M13⟩ := w
      rw [hc14] at h
      dsimp only at h
      refine pe_virt (al := []) (a := 83) (L0 := [some (.ref 83), none]) (r1 := (none, 129, 17845, hp M13)) mm_66 rfl rfl rfl mm_50 rfl (by decide) (by decide) rfl (Nat.le_of_ble_eq_true rfl) (Nat.le_of_ble_eq_true rfl) rfl rfl (F50_ev sc n _ e1 (by omega) _ _ hc14) ?_
      show pm_ev _ _ _ _ _ (222, [some (.ref 83), some (.int x1), u2, some (.int x3), u4, some (.int x5), some (.int s0), u7, u8, u9], [], _, _, _) _
      refine pe_blk mm_66 2 (s' := (225, [some (.ref 83), some (.int x1), u2, some (.int x3), u4, some (.int x5), some (.int s0), some (.int 0), u8, u9], [], _, _, _)) rfl ?_
      exact L66_225_ev sc n (e1 + 1) he n x1 x3 x5 s0 0 _ _ _ _ _ _ _ h
  · rw [if_neg q11] at h
    refine pe_blk mm_66 1 (s' := (if 0 ≤ s0 then 218 else 216, [some (.ref 83), some (.int x1), u2, some (.int x3), u4, some (.int x5), some (.int s0), u7, u8, u9], [], _, _, _)) rfl ?_
    rw [if_neg q11]
    refine pe_blk mm_66 1 (s' := (217, [some (.ref 83), some (.int x1), u2, some (.int x3), u4, some (.int x5), some (.int s0), u7, u8, u9], [.int (-1)], _, _, _)) rfl ?_
    cases h
    exact pe_ret mm_66 rfl rfl
def J66_176 (n : Nat) (x1 : Int32) (x2 : Int32) (x3 : Int32) (x4 : Int32) (x5 : Int32) (M : Mem) : Option (Int32 × Mem) :=
  if (x3 + x4) = 0 then (some ((-1), M)) else (if x3 = 1 then (if x5 < 0 ∨ 128 ≤ (x5 : Int32).toNatClampNeg then none else (match F65 n (M.1 94 (x5 : Int32).toNatClampNeg) x1 x2 M with | some (v8, M9) => (J66_209 n x1 x3 x5 v8 M9) | none => none)) else (J66_209 n x1 x3 x5 (x1 + 1) M))
set_option maxRecDepth 100000 in
set_option maxHeartbeats 4000000 in
theorem J66_176_ev (sc : Option (Nat × (Nat → Int32))) (n : Nat)  (e : Nat) (he : 6 ≤ e) : ∀ (x1 : Int32) (x2 : Int32) (x3 : Int32) (x4 : Int32) (x5 : Int32) (u6 : Option Value) (u7 : Option Value) (u8 : Option Value) (u9 : Option Value) (M : Mem) (r : Int32) (M' : Mem), J66_176 n x1 x2 x3 x4 x5 M = some (r, M') → pm_ev pmT sc e 66 false (176, [some (.ref 83), some (.int x1), some (.int x2), some (.int x3), some (.int x4), some (.int x5), u6, u7, u8, u9], [], 129, 17845, hp M) (some (.int r), 129, 17845, hp M') := by
  intro x1 x2 x3 x4 x5 u6 u7 u8 u9 M r M' h
  unfold J66_176 at h
  refine pe_blk mm_66 3 (s' := (180, [some (.ref 83), some (.int x1), some (.int x2), some (.int x3), some (.int x4), some (.int x5), u6, u7, u8, u9], [.int (x3 + x4)], _, _, _)) rfl ?_
  by_cases q5 : (x3 + x4) = 0
  · rw [if_pos q5] at h
    refine pe_blk mm_66 1 (s' := (if (x3 + x4) = 0 then 183 else 185, [some (.ref 83), some (.int x1), some (.int x2), some (.int x3), some (.int x4), some (.int x5), u6, u7, u8, u9], [], _, _, _)) rfl ?_
    rw [if_pos q5]
    refine pe_blk mm_66 1 (s' := (184, [some (.ref 83), some (.int x1), some (.int x2), some (.int x3), some (.int x4), some (.int x5), u6, u7, u8, u9], [.int (-1)], _, _, _)) rfl ?_
    cases h
    exact pe_ret mm_66 rfl rfl
  · rw [if_neg q5] at h
    refine pe_blk mm_66 1 (s' := (if (x3 + x4) = 0 then 183 else 185, [some (.ref 83), some (.int x1), some (.int x2), some (.int x3), some (.int x4), some (.int x5), u6, u7, u8, u9], [], _, _, _)) rfl ?_
    rw [if_neg q5]
    refine pe_blk mm_66 2 (s' := (187, [some (.ref 83), some (.int x1), some (.int x2), some (.int x3), some (.int x4), some (.int x5), u6, u7, u8, u9], [.int 1, .int x3], _, _, _)) rfl ?_
    by_cases q6 : x3 = 1
    · rw [if_pos q6] at h
      refine pe_blk mm_66 1 (s' := (if x3 = 1 then 190 else 206, [some (.ref 83), some (.int x1), some (.int x2), some (.int x3), some (.int x4), some (.int x5), u6, u7, u8, u9], [], _, _, _)) rfl ?_
      rw [if_pos q6]
      refine pe_blk mm_66 2 (s' := (192, [some (.ref 83), some (.int x1), some (.int x2), some (.int x3), some (.int x4), some (.int x5), u6, u7, u8, u9], [.ref 83, .ref 83], _, _, _)) rfl ?_
      refine pe_get mm_66 rfl rfl rfl (by decide) rfl ?_
      refine pe_blk mm_66 1 (s' := (197, [some (.ref 83), some (.int x1), some (.int x2), some (.int x3), some (.int x4), some (.int x5), u6, u7, u8, u9], [.int x5, .ref 94, .ref 83], _, _, _)) rfl ?_
      by_cases q7 : x5 < 0 ∨ 128 ≤ (x5 : Int32).toNatClampNeg
      · rw [if_pos q7] at h
        cases h
      · rw [if_neg q7] at h
        refine pe_iald (f := M.1 94) mm_66 rfl rfl (by decide) q7 ?_
        refine pe_blk mm_66 2 (s' := (200, [some (.ref 83), some (.int x1), some (.int x2), some (.int x3), some (.int x4), some (.int x5), u6, u7, u8, u9], [.int x2, .int x1, .int (M.1 94 (x5 : Int32).toNatClampNeg), .ref 83], _, _, _)) rfl ?_
        obtain ⟨e1, rfl⟩ : ∃ e1, e = e1 + 1 := ⟨e - 1, by omega⟩
        cases hc10 : F65 n (M.1 94 (x5 : Int32).toNatClampNeg) x1 x2 M with
        | none => rw [hc10] at h; cases h
        | some w =>
          obtain ⟨v8, M9⟩ := w
          rw [hc10] at h
          dsimp only at h
          refine pe_virt (al := [.int x2, .int x1, .int (M.1 94 (x5 : Int32).toNatClampNeg)]) (a := 83) (L0 := [some (.ref 83), some (.int (M.1 94 (x5 : Int32).toNatClampNeg)), some (.int x1), some (.int x2)]) (r1 := (some (.int v8), 129, 17845, hp M9)) mm_66 rfl rfl rfl mm_65 rfl (by decide) (by decide) rfl (Nat.le_of_ble_eq_true rfl) (Nat.le_of_ble_eq_true rfl) rfl rfl (F65_ev sc n (M.1 94 (x5 : Int32).toNatClampNeg) x1 x2 _ e1 (by omega) _ _ hc10) ?_
          show pm_ev _ _ _ _ _ (203, [some (.ref 83), some (.int x1), some (.int x2), some (.int x3), some (.int x4), some (.int x5), u6, u7, u8, u9], [.int v8], _, _, _) _
          refine pe_blk mm_66 1 (s' := (209, [some (.ref 83), some (.int x1), some (.int x2), some (.int x3), some (.int x4), some (.int x5), u6, u7, u8, u9], [.int v8], _, _, _)) rfl ?_
          exact J66_209_ev sc n (e1 + 1) he x1 x3 x5 v8 _ _ _ _ _ _ _ _ _ h
    · rw [if_neg q6] at h
      refine pe_blk mm_66 1 (s' := (if x3 = 1 then 190 else 206, [some (.ref 83), some (.int x1), some (.int x2), some (.int x3), some (.int x4), some (.int x5), u6, u7, u8, u9], [], _, _, _)) rfl ?_
      rw [if_neg q6]
      refine pe_blk mm_66 3 (s' := (209, [some (.ref 83), some (.int x1), some (.int x2), some (.int x3), some (.int x4), some (.int x5), u6, u7, u8, u9], [.int (x1 + 1)], _, _, _)) rfl ?_
      exact J66_209_ev sc n e he x1 x3 x5 (x1 + 1) _ _ _ _ _ _ _ _ _ h
def J66_150 (n : Nat) (rec11 : Int32 → Int32 → Int32 → Int32 → Int32 → Int32 → Mem → Option (Int32 × Mem)) (x1 : Int32) (x2 : Int32) (x3 : Int32) (x4 : Int32) (x6 : Int32) (s0 : Int32) (M : Mem) : Option (Int32 × Mem) :=
  rec11 x1 x2 x3 x4 s0 (x6 + 1) M
set_option maxRecDepth 100000 in
set_option maxHeartbeats 4000000 in
theorem J66_150_ev (sc : Option (Nat × (Nat → Int32))) (n : Nat)  (e : Nat) (he : 6 ≤ e) (rec11 : Int32 → Int32 → Int32 → Int32 → Int32 → Int32 → Mem → Option (Int32 × Mem)) (hr11 : ∀ (x1 : Int32) (x2 : Int32) (x3 : Int32) (x4 : Int32) (x5 : Int32) (x6 : Int32) (u7 : Option Value) (u8 : Option Value) (u9 : Option Value) (M : Mem) (r : Int32) (M' : Mem), rec11 x1 x2 x3 x4 x5 x6 M = some (r, M') → pm_ev pmT sc e 66 false (11, [some (.ref 83), some (.int x1), some (.int x2), some (.int x3), some (.int x4), some (.int x5), some (.int x6), u7, u8, u9], [], 129, 17845, hp M) (some (.int r), 129, 17845, hp M')) : ∀ (x1 : Int32) (x2 : Int32) (x3 : Int32) (x4 : Int32) (x6 : Int32) (s0 : Int32) (u5 : Option Value) (u7 : Option Value) (u8 : Option Value) (u9 : Option Value) (M : Mem) (r : Int32) (M' : Mem), J66_150 n rec11 x1 x2 x3 x4 x6 s0 M = some (r, M') → pm_ev pmT sc e 66 false (150, [some (.ref 83), some (.int x1), some (.int x2), some (.int x3), some (.int x4), u5, some (.int x6), u7, u8, u9], [.int s0], 129, 17845, hp M) (some (.int r), 129, 17845, hp M') := by
  intro x1 x2 x3 x4 x6 s0 u5 u7 u8 u9 M r M' h
  unfold J66_150 at h
  refine pe_blk mm_66 3 (s' := (11, [some (.ref 83), some (.int x1), some (.int x2), some (.int x3), some (.int x4), some (.int s0), some (.int (x6 + 1)), u7, u8, u9], [], _, _, _)) rfl ?_
  exact hr11 x1 x2 x3 x4 s0 (x6 + 1) _ _ _ _ _ _ h
def J66_136 (n : Nat) (rec11 : Int32 → Int32 → Int32 → Int32 → Int32 → Int32 → Mem → Option (Int32 × Mem)) (x1 : Int32) (x2 : Int32) (x3 : Int32) (x5 : Int32) (x6 : Int32) (x8 : Int32) (s0 : Int32) (M : Mem) : Option (Int32 × Mem) :=
  if x8 = 0 then (J66_150 n rec11 x1 x2 x3 s0 x6 x5 M) else (J66_150 n rec11 x1 x2 x3 s0 x6 x6 M)
set_option maxRecDepth 100000 in
set_option maxHeartbeats 4000000 in
theorem J66_136_ev (sc : Option (Nat × (Nat → Int32))) (n : Nat)  (e : Nat) (he : 6 ≤ e) (rec11 : Int32 → Int32 → Int32 → Int32 → Int32 → Int32 → Mem → Option (Int32 × Mem)) (hr11 : ∀ (x1 : Int32) (x2 : Int32) (x3 : Int32) (x4 : Int32) (x5 : Int32) (x6 : Int32) (u7 : Option Value) (u8 : Option Value) (u9 : Option Value) (M : Mem) (r : Int32) (M' : Mem), rec11 x1 x2 x3 x4 x5 x6 M = some (r, M') → pm_ev pmT sc e 66 false (11, [some (.ref 83), some (.int x1), some (.int x2), some (.int x3), some (.int x4), some (.int x5), some (.int x6), u7, u8, u9], [], 129, 17845, hp M) (some (.int r), 129, 17845, hp M')) : ∀ (x1 : Int32) (x2 : Int32) (x3 : Int32) (x5 : Int32) (x6 : Int32) (x8 : Int32) (s0 : Int32) (u4 : Option Value) (u7 : Option Value) (u9 : Option Value) (M : Mem) (r : Int32) (M' : Mem), J66_136 n rec11 x1 x2 x3 x5 x6 x8 s0 M = some (r, M') → pm_ev pmT sc e 66 false (136, [some (.ref 83), some (.int x1), some (.int x2), some (.int x3), u4, some (.int x5), some (.int x6), u7, some (.int x8), u9], [.int s0], 129, 17845, hp M) (some (.int r), 129, 17845, hp M') := by
  intro x1 x2 x3 x5 x6 x8 s0 u4 u7 u9 M r M' h
  unfold J66_136 at h
  refine pe_blk mm_66 2 (s' := (140, [some (.ref 83), some (.int x1), some (.int x2), some (.int x3), some (.int s0), some (.int x5), some (.int x6), u7, some (.int x8), u9], [.int x8], _, _, _)) rfl ?_
  by_cases q46 : x8 = 0
  · rw [if_pos q46] at h
    refine pe_blk mm_66 1 (s' := (if x8 = 0 then 148 else 143, [some (.ref 83), some (.int x1), some (.int x2), some (.int x3), some (.int s0), some (.int x5), some (.int x6), u7, some (.int x8), u9], [], _, _, _)) rfl ?_
    rw [if_pos q46]
    refine pe_blk mm_66 1 (s' := (150, [some (.ref 83), some (.int x1), some (.int x2), some (.int x3), some (.int s0), some (.int x5), some (.int x6), u7, some (.int x8), u9], [.int x5], _, _, _)) rfl ?_
    exact J66_150_ev sc n e he rec11 hr11 x1 x2 x3 s0 x6 x5 _ _ _ _ _ _ _ h
  · rw [if_neg q46] at h
    refine pe_blk mm_66 1 (s' := (if x8 = 0 then 148 else 143, [some (.ref 83), some (.int x1), some (.int x2), some (.int x3), some (.int s0), some (.int x5), some (.int x6), u7, some (.int x8), u9], [], _, _, _)) rfl ?_
    rw [if_neg q46]
    refine pe_blk mm_66 2 (s' := (150, [some (.ref 83), some (.int x1), some (.int x2), some (.int x3), some (.int s0), some (.int x5), some (.int x6), u7, some (.int x8), u9], [.int x6], _, _, _)) rfl ?_
    exact J66_150_ev sc n e he rec11 hr11 x1 x2 x3 s0 x6 x6 _ _ _ _ _ _ _ h
def J66_120 (n : Nat) (rec11 : Int32 → Int32 → Int32 → Int32 → Int32 → Int32 → Mem → Option (Int32 × Mem)) (x1 : Int32) (x2 : Int32) (x4 : Int32) (x5 : Int32) (x6 : Int32) (x7 : Int32) (x8 : Int32) (x9 : Int32) (s0 : Int32) (M : Mem) : Option (Int32 × Mem) :=
  if x9 = 0 then (J66_136 n rec11 x1 x2 s0 x5 x6 x8 x4 M) else (J66_136 n rec11 x1 x2 s0 x5 x6 x8 (x4 + x7) M)
set_option maxRecDepth 100000 in
set_option maxHeartbeats 4000000 in
theorem J66_120_ev (sc : Option (Nat × (Nat → Int32))) (n : Nat)  (e : Nat) (he : 6 ≤ e) (rec11 : Int32 → Int32 → Int32 → Int32 → Int32 → Int32 → Mem → Option (Int32 × Mem)) (hr11 : ∀ (x1 : Int32) (x2 : Int32) (x3 : Int32) (x4 : Int32) (x5 : Int32) (x6 : Int32) (u7 : Option Value) (u8 : Option Value) (u9 : Option Value) (M : Mem) (r : Int32) (M' : Mem), rec11 x1 x2 x3 x4 x5 x6 M = some (r, M') → pm_ev pmT sc e 66 false (11, [some (.ref 83), some (.int x1), some (.int x2), some (.int x3), some (.int x4), some (.int x5), some (.int x6), u7, u8, u9], [], 129, 17845, hp M) (some (.int r), 129, 17845, hp M')) : ∀ (x1 : Int32) (x2 : Int32) (x4 : Int32) (x5 : Int32) (x6 : Int32) (x7 : Int32) (x8 : Int32) (x9 : Int32) (s0 : Int32) (u3 : Option Value) (M : Mem) (r : Int32) (M' : Mem), J66_120 n rec11 x1 x2 x4 x5 x6 x7 x8 x9 s0 M = some (r, M') → pm_ev pmT sc e 66 false (120, [some (.ref 83), some (.int x1), some (.int x2), u3, some (.int x4), some (.int x5), some (.int x6), some (.int x7), some (.int x8), some (.int x9)], [.int s0], 129, 17845, hp M) (some (.int r), 129, 17845, hp M') := by
  intro x1 x2 x4 x5 x6 x7 x8 x9 s0 u3 M r M' h
  unfold J66_120 at h
  refine pe_blk mm_66 2 (s' := (123, [some (.ref 83), some (.int x1), some (.int x2), some (.int s0), some (.int x4), some (.int x5), some (.int x6), some (.int x7), some (.int x8), some (.int x9)], [.int x9], _, _, _)) rfl ?_
  by_cases q45 : x9 = 0
  · rw [if_pos q45] at h
    refine pe_blk mm_66 1 (s' := (if x9 = 0 then 134 else 126, [some (.ref 83), some (.int x1), some (.int x2), some (.int s0), some (.int x4), some (.int x5), some (.int x6), some (.int x7), some (.int x8), some (.int x9)], [], _, _, _)) rfl ?_
    rw [if_pos q45]
    refine pe_blk mm_66 1 (s' := (136, [some (.ref 83), some (.int x1), some (.int x2), some (.int s0), some (.int x4), some (.int x5), some (.int x6), some (.int x7), some (.int x8), some (.int x9)], [.int x4], _, _, _)) rfl ?_
    exact J66_136_ev sc n e he rec11 hr11 x1 x2 s0 x5 x6 x8 x4 _ _ _ _ _ _ h
  · rw [if_neg q45] at h
    refine pe_blk mm_66 1 (s' := (if x9 = 0 then 134 else 126, [some (.ref 83), some (.int x1), some (.int x2), some (.int s0), some (.int x4), some (.int x5), some (.int x6), some (.int x7), some (.int x8), some (.int x9)], [], _, _, _)) rfl ?_
    rw [if_neg q45]
    refine pe_blk mm_66 4 (s' := (136, [some (.ref 83), some (.int x1), some (.int x2), some (.int s0), some (.int x4), some (.int x5), some (.int x6), some (.int x7), some (.int x8), some (.int x9)], [.int (x4 + x7)], _, _, _)) rfl ?_
    exact J66_136_ev sc n e he rec11 hr11 x1 x2 s0 x5 x6 x8 (x4 + x7) _ _ _ _ _ _ h
def J66_105 (n : Nat) (rec11 : Int32 → Int32 → Int32 → Int32 → Int32 → Int32 → Mem → Option (Int32 × Mem)) (x1 : Int32) (x2 : Int32) (x3 : Int32) (x4 : Int32) (x5 : Int32) (x6 : Int32) (x7 : Int32) (x8 : Int32) (s0 : Int32) (M : Mem) : Option (Int32 × Mem) :=
  if x8 = 0 then (J66_120 n rec11 x1 x2 x4 x5 x6 x7 x8 s0 x3 M) else (J66_120 n rec11 x1 x2 x4 x5 x6 x7 x8 s0 (x3 + x7) M)
set_option maxRecDepth 100000 in
set_option maxHeartbeats 4000000 in
theorem J66_105_ev (sc : Option (Nat × (Nat → Int32))) (n : Nat)  (e : Nat) (he : 6 ≤ e) (rec11 : Int32 → Int32 → Int32 → Int32 → Int32 → Int32 → Mem → Option (Int32 × Mem)) (hr11 : ∀ (x1 : Int32) (x2 : Int32) (x3 : Int32) (x4 : Int32) (x5 : Int32) (x6 : Int32) (u7 : Option Value) (u8 : Option Value) (u9 : Option Value) (M : Mem) (r : Int32) (M' : Mem), rec11 x1 x2 x3 x4 x5 x6 M = some (r, M') → pm_ev pmT sc e 66 false (11, [some (.ref 83), some (.int x1), some (.int x2), some (.int x3), some (.int x4), some (.int x5), some (.int x6), u7, u8, u9], [], 129, 17845, hp M) (some (.int r), 129, 17845, hp M')) : ∀ (x1 : Int32) (x2 : Int32) (x3 : Int32) (x4 : Int32) (x5 : Int32) (x6 : Int32) (x7 : Int32) (x8 : Int32) (s0 : Int32) (u9 : Option Value) (M : Mem) (r : Int32) (M' : Mem), J66_105 n rec11 x1 x2 x3 x4 x5 x6 x7 x8 s0 M = some (r, M') → pm_ev pmT sc e 66 false (105, [some (.ref 83), some (.int x1), some (.int x2), some (.int x3), some (.int x4), some (.int x5), some (.int x6), some (.int x7), some (.int x8), u9], [.int s0], 129, 17845, hp M) (some (.int r), 129, 17845, hp M') := by
  intro x1 x2 x3 x4 x5 x6 x7 x8 s0 u9 M r M' h
  unfold J66_105 at h
  refine pe_blk mm_66 2 (s' := (109, [some (.ref 83), some (.int x1), some (.int x2), some (.int x3), some (.int x4), some (.int x5), some (.int x6), some (.int x7), some (.int x8), some (.int s0)], [.int x8], _, _, _)) rfl ?_
  by_cases q44 : x8 = 0
  · rw [if_pos q44] at h
    refine pe_blk mm_66 1 (s' := (if x8 = 0 then 119 else 112, [some (.ref 83), some (.int x1), some (.int x2), some (.int x3), some (.int x4), some (.int x5), some (.int x6), some (.int x7), some (.int x8), some (.int s0)], [], _, _, _)) rfl ?_
    rw [if_pos q44]
    refine pe_blk mm_66 1 (s' := (120, [some (.ref 83), some (.int x1), some (.int x2), some (.int x3), some (.int x4), some (.int x5), some (.int x6), some (.int x7), some (.int x8), some (.int s0)], [.int x3], _, _, _)) rfl ?_
    exact J66_120_ev sc n e he rec11 hr11 x1 x2 x4 x5 x6 x7 x8 s0 x3 _ _ _ _ h
  · rw [if_neg q44] at h
    refine pe_blk mm_66 1 (s' := (if x8 = 0 then 119 else 112, [some (.ref 83), some (.int x1), some (.int x2), some (.int x3), some (.int x4), some (.int x5), some (.int x6), some (.int x7), some (.int x8), some (.int s0)], [], _, _, _)) rfl ?_
    rw [if_neg q44]
    refine pe_blk mm_66 4 (s' := (120, [some (.ref 83), some (.int x1), some (.int x2), some (.int x3), some (.int x4), some (.int x5), some (.int x6), some (.int x7), some (.int x8), some (.int s0)], [.int (x3 + x7)], _, _, _)) rfl ?_
    exact J66_120_ev sc n e he rec11 hr11 x1 x2 x4 x5 x6 x7 x8 s0 (x3 + x7) _ _ _ _ h
def J66_104 (n : Nat) (rec11 : Int32 → Int32 → Int32 → Int32 → Int32 → Int32 → Mem → Option (Int32 × Mem)) (x1 : Int32) (x2 : Int32) (x3 : Int32) (x4 : Int32) (x5 : Int32) (x6 : Int32) (x7 : Int32) (x8 : Int32) (M : Mem) : Option (Int32 × Mem) :=
  J66_105 n rec11 x1 x2 x3 x4 x5 x6 x7 x8 0 M
set_option maxRecDepth 100000 in
set_option maxHeartbeats 4000000 in
theorem J66_104_ev (sc : Option (Nat × (Nat → Int32))) (n : Nat)  (e : Nat) (he : 6 ≤ e) (rec11 : Int32 → Int32 → Int32 → Int32 → Int32 → Int32 → Mem → Option (Int32 × Mem)) (hr11 : ∀ (x1 : Int32) (x2 : Int32) (x3 : Int32) (x4 : Int32) (x5 : Int32) (x6 : Int32) (u7 : Option Value) (u8 : Option Value) (u9 : Option Value) (M : Mem) (r : Int32) (M' : Mem), rec11 x1 x2 x3 x4 x5 x6 M = some (r, M') → pm_ev pmT sc e 66 false (11, [some (.ref 83), some (.int x1), some (.int x2), some (.int x3), some (.int x4), some (.int x5), some (.int x6), u7, u8, u9], [], 129, 17845, hp M) (some (.int r), 129, 17845, hp M')) : ∀ (x1 : Int32) (x2 : Int32) (x3 : Int32) (x4 : Int32) (x5 : Int32) (x6 : Int32) (x7 : Int32) (x8 : Int32) (u9 : Option Value) (M : Mem) (r : Int32) (M' : Mem), J66_104 n rec11 x1 x2 x3 x4 x5 x6 x7 x8 M = some (r, M') → pm_ev pmT sc e 66 false (104, [some (.ref 83), some (.int x1), some (.int x2), some (.int x3), some (.int x4), some (.int x5), some (.int x6), some (.int x7), some (.int x8), u9], [], 129, 17845, hp M) (some (.int r), 129, 17845, hp M') := by
  intro x1 x2 x3 x4 x5 x6 x7 x8 u9 M r M' h
  unfold J66_104 at h
  refine pe_blk mm_66 1 (s' := (105, [some (.ref 83), some (.int x1), some (.int x2), some (.int x3), some (.int x4), some (.int x5), some (.int x6), some (.int x7), some (.int x8), u9], [.int 0], _, _, _)) rfl ?_
  exact J66_105_ev sc n e he rec11 hr11 x1 x2 x3 x4 x5 x6 x7 x8 0 _ _ _ _ h
def J66_91 (n : Nat) (rec11 : Int32 → Int32 → Int32 → Int32 → Int32 → Int32 → Mem → Option (Int32 × Mem)) (x1 : Int32) (x2 : Int32) (x3 : Int32) (x4 : Int32) (x5 : Int32) (x6 : Int32) (x7 : Int32) (x8 : Int32) (M : Mem) : Option (Int32 × Mem) :=
  match F53 n x6 M with | some (v52, M53) => (if v52 = 0 then (J66_104 n rec11 x1 x2 x3 x4 x5 x6 x7 x8 M53) else (J66_105 n rec11 x1 x2 x3 x4 x5 x6 x7 x8 1 M53)) | none => none
set_option maxRecDepth 100000 in
set_option maxHeartbeats 4000000 in
theorem J66_91_ev (sc : Option (Nat × (Nat → Int32))) (n : Nat)  (e : Nat) (he : 6 ≤ e) (rec11 : Int32 → Int32 → Int32 → Int32 → Int32 → Int32 → Mem → Option (Int32 × Mem)) (hr11 : ∀ (x1 : Int32) (x2 : Int32) (x3 : Int32) (x4 : Int32) (x5 : Int32) (x6 : Int32) (u7 : Option Value) (u8 : Option Value) (u9 : Option Value) (M : Mem) (r : Int32) (M' : Mem), rec11 x1 x2 x3 x4 x5 x6 M = some (r, M') → pm_ev pmT sc e 66 false (11, [some (.ref 83), some (.int x1), some (.int x2), some (.int x3), some (.int x4), some (.int x5), some (.int x6), u7, u8, u9], [], 129, 17845, hp M) (some (.int r), 129, 17845, hp M')) : ∀ (x1 : Int32) (x2 : Int32) (x3 : Int32) (x4 : Int32) (x5 : Int32) (x6 : Int32) (x7 : Int32) (x8 : Int32) (u9 : Option Value) (M : Mem) (r : Int32) (M' : Mem), J66_91 n rec11 x1 x2 x3 x4 x5 x6 x7 x8 M = some (r, M') → pm_ev pmT sc e 66 false (91, [some (.ref 83), some (.int x1), some (.int x2), some (.int x3), some (.int x4), some (.int x5), some (.int x6), some (.int x7), some (.int x8), u9], [], 129, 17845, hp M) (some (.int r), 129, 17845, hp M') := by
  intro x1 x2 x3 x4 x5 x6 x7 x8 u9 M r M' h
  unfold J66_91 at h
  refine pe_blk mm_66 2 (s' := (94, [some (.ref 83), some (.int x1), some (.int x2), some (.int x3), some (.int x4), some (.int x5), some (.int x6), some (.int x7), some (.int x8), u9], [.int x6, .ref 83], _, _, _)) rfl ?_
  obtain ⟨e1, rfl⟩ : ∃ e1, e = e1 + 1 := ⟨e - 1, by omega⟩
  cases hc54 : F53 n x6 M with
  | none => rw [hc54] at h; cases h
  | some w =>
    obtain ⟨v52, M53⟩ := w
    rw [hc54] at h
    dsimp only at h
    refine pe_virt (al := [.int x6]) (a := 83) (L0 := [some (.ref 83), some (.int x6)]) (r1 := (some (.int v52), 129, 17845, hp M53)) mm_66 rfl rfl rfl mm_53 rfl (by decide) (by decide) rfl (Nat.le_of_ble_eq_true rfl) (Nat.le_of_ble_eq_true rfl) rfl rfl (F53_ev sc n x6 _ e1 (by omega) _ _ hc54) ?_
    show pm_ev _ _ _ _ _ (97, [some (.ref 83), some (.int x1), some (.int x2), some (.int x3), some (.int x4), some (.int x5), some (.int x6), some (.int x7), some (.int x8), u9], [.int v52], _, _, _) _
    by_cases q55 : v52 = 0
    · rw [if_pos q55] at h
      refine pe_blk mm_66 1 (s' := (if v52 = 0 then 104 else 100, [some (.ref 83), some (.int x1), some (.int x2), some (.int x3), some (.int x4), some (.int x5), some (.int x6), some (.int x7), some (.int x8), u9], [], _, _, _)) rfl ?_
      rw [if_pos q55]
      exact J66_104_ev sc n (e1 + 1) he rec11 hr11 x1 x2 x3 x4 x5 x6 x7 x8 _ _ _ _ h
    · rw [if_neg q55] at h
      refine pe_blk mm_66 1 (s' := (if v52 = 0 then 104 else 100, [some (.ref 83), some (.int x1), some (.int x2), some (.int x3), some (.int x4), some (.int x5), some (.int x6), some (.int x7), some (.int x8), u9], [], _, _, _)) rfl ?_
      rw [if_neg q55]
      refine pe_blk mm_66 2 (s' := (105, [some (.ref 83), some (.int x1), some (.int x2), some (.int x3), some (.int x4), some (.int x5), some (.int x6), some (.int x7), some (.int x8), u9], [.int 1], _, _, _)) rfl ?_
      exact J66_105_ev sc n (e1 + 1) he rec11 hr11 x1 x2 x3 x4 x5 x6 x7 x8 1 _ _ _ _ h
def J66_69 (n : Nat) (rec11 : Int32 → Int32 → Int32 → Int32 → Int32 → Int32 → Mem → Option (Int32 × Mem)) (x1 : Int32) (x2 : Int32) (x3 : Int32) (x4 : Int32) (x5 : Int32) (x6 : Int32) (x7 : Int32) (s0 : Int32) (M : Mem) : Option (Int32 × Mem) :=
  if x7 ≤ 0 then (J66_104 n rec11 x1 x2 x3 x4 x5 x6 x7 s0 M) else (match F53 n x6 M with | some (v47, M48) => (if x1 < 0 ∨ 320 ≤ (x1 : Int32).toNatClampNeg then none else (if v47 = (M48.1 105 (x1 : Int32).toNatClampNeg) then (J66_91 n rec11 x1 x2 x3 x4 x5 x6 x7 s0 M48) else (J66_104 n rec11 x1 x2 x3 x4 x5 x6 x7 s0 M48))) | none => none)
set_option maxRecDepth 100000 in
set_option maxHeartbeats 4000000 in
theorem J66_69_ev (sc : Option (Nat × (Nat → Int32))) (n : Nat)  (e : Nat) (he : 6 ≤ e) (rec11 : Int32 → Int32 → Int32 → Int32 → Int32 → Int32 → Mem → Option (Int32 × Mem)) (hr11 : ∀ (x1 : Int32) (x2 : Int32) (x3 : Int32) (x4 : Int32) (x5 : Int32) (x6 : Int32) (u7 : Option Value) (u8 : Option Value) (u9 : Option Value) (M : Mem) (r : Int32) (M' : Mem), rec11 x1 x2 x3 x4 x5 x6 M = some (r, M') → pm_ev pmT sc e 66 false (11, [some (.ref 83), some (.int x1), some (.int x2), some (.int x3), some (.int x4), some (.int x5), some (.int x6), u7, u8, u9], [], 129, 17845, hp M) (some (.int r), 129, 17845, hp M')) : ∀ (x1 : Int32) (x2 : Int32) (x3 : Int32) (x4 : Int32) (x5 : Int32) (x6 : Int32) (x7 : Int32) (s0 : Int32) (u8 : Option Value) (u9 : Option Value) (M : Mem) (r : Int32) (M' : Mem), J66_69 n rec11 x1 x2 x3 x4 x5 x6 x7 s0 M = some (r, M') → pm_ev pmT sc e 66 false (69, [some (.ref 83), some (.int x1), some (.int x2), some (.int x3), some (.int x4), some (.int x5), some (.int x6), some (.int x7), u8, u9], [.int s0], 129, 17845, hp M) (some (.int r), 129, 17845, hp M') := by
  intro x1 x2 x3 x4 x5 x6 x7 s0 u8 u9 M r M' h
  unfold J66_69 at h
  refine pe_blk mm_66 2 (s' := (73, [some (.ref 83), some (.int x1), some (.int x2), some (.int x3), some (.int x4), some (.int x5), some (.int x6), some (.int x7), some (.int s0), u9], [.int x7], _, _, _)) rfl ?_
  by_cases q43 : x7 ≤ 0
  · rw [if_pos q43] at h
    refine pe_blk mm_66 1 (s' := (if x7 ≤ 0 then 104 else 76, [some (.ref 83), some (.int x1), some (.int x2), some (.int x3), some (.int x4), some (.int x5), some (.int x6), some (.int x7), some (.int s0), u9], [], _, _, _)) rfl ?_
    rw [if_pos q43]
    exact J66_104_ev sc n e he rec11 hr11 x1 x2 x3 x4 x5 x6 x7 s0 _ _ _ _ h
  · rw [if_neg q43] at h
    refine pe_blk mm_66 1 (s' := (if x7 ≤ 0 then 104 else 76, [some (.ref 83), some (.int x1), some (.int x2), some (.int x3), some (.int x4), some (.int x5), some (.int x6), some (.int x7), some (.int s0), u9], [], _, _, _)) rfl ?_
    rw [if_neg q43]
    refine pe_blk mm_66 2 (s' := (79, [some (.ref 83), some (.int x1), some (.int x2), some (.int x3), some (.int x4), some (.int x5), some (.int x6), some (.int x7), some (.int s0), u9], [.int x6, .ref 83], _, _, _)) rfl ?_
    obtain ⟨e1, rfl⟩ : ∃ e1, e = e1 + 1 := ⟨e - 1, by omega⟩
    cases hc49 : F53 n x6 M with
    | none => rw [hc49] at h; cases h
    | some w =>
      obtain ⟨v47, M48⟩ := w
      rw [hc49] at h
      dsimp only at h
      refine pe_virt (al := [.int x6]) (a := 83) (L0 := [some (.ref 83), some (.int x6)]) (r1 := (some (.int v47), 129, 17845, hp M48)) mm_66 rfl rfl rfl mm_53 rfl (by decide) (by decide) rfl (Nat.le_of_ble_eq_true rfl) (Nat.le_of_ble_eq_true rfl) rfl rfl (F53_ev sc n x6 _ e1 (by omega) _ _ hc49) ?_
      show pm_ev _ _ _ _ _ (82, [some (.ref 83), some (.int x1), some (.int x2), some (.int x3), some (.int x4), some (.int x5), some (.int x6), some (.int x7), some (.int s0), u9], [.int v47], _, _, _) _
      refine pe_blk mm_66 1 (s' := (83, [some (.ref 83), some (.int x1), some (.int x2), some (.int x3), some (.int x4), some (.int x5), some (.int x6), some (.int x7), some (.int s0), u9], [.ref 83, .int v47], _, _, _)) rfl ?_
      refine pe_get mm_66 rfl rfl rfl (by decide) rfl ?_
      refine pe_blk mm_66 1 (s' := (87, [some (.ref 83), some (.int x1), some (.int x2), some (.int x3), some (.int x4), some (.int x5), some (.int x6), some (.int x7), some (.int s0), u9], [.int x1, .ref 105, .int v47], _, _, _)) rfl ?_
      by_cases q50 : x1 < 0 ∨ 320 ≤ (x1 : Int32).toNatClampNeg
      · rw [if_pos q50] at h
        cases h
      · rw [if_neg q50] at h
        refine pe_iald (f := M48.1 105) mm_66 rfl rfl (by decide) q50 ?_
        by_cases q51 : v47 = (M48.1 105 (x1 : Int32).toNatClampNeg)
        · rw [if_pos q51] at h
          refine pe_blk mm_66 1 (s' := (if v47 = (M48.1 105 (x1 : Int32).toNatClampNeg) then 91 else 104, [some (.ref 83), some (.int x1), some (.int x2), some (.int x3), some (.int x4), some (.int x5), some (.int x6), some (.int x7), some (.int s0), u9], [], _, _, _)) rfl ?_
          rw [if_pos q51]
          exact J66_91_ev sc n (e1 + 1) he rec11 hr11 x1 x2 x3 x4 x5 x6 x7 s0 _ _ _ _ h
        · rw [if_neg q51] at h
          refine pe_blk mm_66 1 (s' := (if v47 = (M48.1 105 (x1 : Int32).toNatClampNeg) then 91 else 104, [some (.ref 83), some (.int x1), some (.int x2), some (.int x3), some (.int x4), some (.int x5), some (.int x6), some (.int x7), some (.int s0), u9], [], _, _, _)) rfl ?_
          rw [if_neg q51]
          exact J66_104_ev sc n (e1 + 1) he rec11 hr11 x1 x2 x3 x4 x5 x6 x7 s0 _ _ _ _ h
def J66_68 (n : Nat) (rec11 : Int32 → Int32 → Int32 → Int32 → Int32 → Int32 → Mem → Option (Int32 × Mem)) (x1 : Int32) (x2 : Int32) (x3 : Int32) (x4 : Int32) (x5 : Int32) (x6 : Int32) (x7 : Int32) (M : Mem) : Option (Int32 × Mem) :=
  J66_69 n rec11 x1 x2 x3 x4 x5 x6 x7 0 M
set_option maxRecDepth 100000 in
set_option maxHeartbeats 4000000 in
theorem J66_68_ev (sc : Option (Nat × (Nat → Int32))) (n : Nat)  (e : Nat) (he : 6 ≤ e) (rec11 : Int32 → Int32 → Int32 → Int32 → Int32 → Int32 → Mem → Option (Int32 × Mem)) (hr11 : ∀ (x1 : Int32) (x2 : Int32) (x3 : Int32) (x4 : Int32) (x5 : Int32) (x6 : Int32) (u7 : Option Value) (u8 : Option Value) (u9 : Option Value) (M : Mem) (r : Int32) (M' : Mem), rec11 x1 x2 x3 x4 x5 x6 M = some (r, M') → pm_ev pmT sc e 66 false (11, [some (.ref 83), some (.int x1), some (.int x2), some (.int x3), some (.int x4), some (.int x5), some (.int x6), u7, u8, u9], [], 129, 17845, hp M) (some (.int r), 129, 17845, hp M')) : ∀ (x1 : Int32) (x2 : Int32) (x3 : Int32) (x4 : Int32) (x5 : Int32) (x6 : Int32) (x7 : Int32) (u8 : Option Value) (u9 : Option Value) (M : Mem) (r : Int32) (M' : Mem), J66_68 n rec11 x1 x2 x3 x4 x5 x6 x7 M = some (r, M') → pm_ev pmT sc e 66 false (68, [some (.ref 83), some (.int x1), some (.int x2), some (.int x3), some (.int x4), some (.int x5), some (.int x6), some (.int x7), u8, u9], [], 129, 17845, hp M) (some (.int r), 129, 17845, hp M') := by
  intro x1 x2 x3 x4 x5 x6 x7 u8 u9 M r M' h
  unfold J66_68 at h
  refine pe_blk mm_66 1 (s' := (69, [some (.ref 83), some (.int x1), some (.int x2), some (.int x3), some (.int x4), some (.int x5), some (.int x6), some (.int x7), u8, u9], [.int 0], _, _, _)) rfl ?_
  exact J66_69_ev sc n e he rec11 hr11 x1 x2 x3 x4 x5 x6 x7 0 _ _ _ _ _ h
def J66_64 (n : Nat) (rec11 : Int32 → Int32 → Int32 → Int32 → Int32 → Int32 → Mem → Option (Int32 × Mem)) (x1 : Int32) (x2 : Int32) (x3 : Int32) (x4 : Int32) (x5 : Int32) (x6 : Int32) (x7 : Int32) (M : Mem) : Option (Int32 × Mem) :=
  J66_69 n rec11 x1 x2 x3 x4 x5 x6 x7 1 M
set_option maxRecDepth 100000 in
set_option maxHeartbeats 4000000 in
theorem J66_64_ev (sc : Option (Nat × (Nat → Int32))) (n : Nat)  (e : Nat) (he : 6 ≤ e) (rec11 : Int32 → Int32 → Int32 → Int32 → Int32 → Int32 → Mem → Option (Int32 × Mem)) (hr11 : ∀ (x1 : Int32) (x2 : Int32) (x3 : Int32) (x4 : Int32) (x5 : Int32) (x6 : Int32) (u7 : Option Value) (u8 : Option Value) (u9 : Option Value) (M : Mem) (r : Int32) (M' : Mem), rec11 x1 x2 x3 x4 x5 x6 M = some (r, M') → pm_ev pmT sc e 66 false (11, [some (.ref 83), some (.int x1), some (.int x2), some (.int x3), some (.int x4), some (.int x5), some (.int x6), u7, u8, u9], [], 129, 17845, hp M) (some (.int r), 129, 17845, hp M')) : ∀ (x1 : Int32) (x2 : Int32) (x3 : Int32) (x4 : Int32) (x5 : Int32) (x6 : Int32) (x7 : Int32) (u8 : Option Value) (u9 : Option Value) (M : Mem) (r : Int32) (M' : Mem), J66_64 n rec11 x1 x2 x3 x4 x5 x6 x7 M = some (r, M') → pm_ev pmT sc e 66 false (64, [some (.ref 83), some (.int x1), some (.int x2), some (.int x3), some (.int x4), some (.int x5), some (.int x6), some (.int x7), u8, u9], [], 129, 17845, hp M) (some (.int r), 129, 17845, hp M') := by
  intro x1 x2 x3 x4 x5 x6 x7 u8 u9 M r M' h
  unfold J66_64 at h
  refine pe_blk mm_66 2 (s' := (69, [some (.ref 83), some (.int x1), some (.int x2), some (.int x3), some (.int x4), some (.int x5), some (.int x6), some (.int x7), u8, u9], [.int 1], _, _, _)) rfl ?_
  exact J66_69_ev sc n e he rec11 hr11 x1 x2 x3 x4 x5 x6 x7 1 _ _ _ _ _ h
def J66_44 (n : Nat) (rec11 : Int32 → Int32 → Int32 → Int32 → Int32 → Int32 → Mem → Option (Int32 × Mem)) (x1 : Int32) (x2 : Int32) (x3 : Int32) (x4 : Int32) (x5 : Int32) (x6 : Int32) (x7 : Int32) (M : Mem) : Option (Int32 × Mem) :=
  if x6 < 0 ∨ 128 ≤ (x6 : Int32).toNatClampNeg then none else (if x1 < 0 ∨ 320 ≤ (x1 : Int32).toNatClampNeg then none else (match F64 n (M.1 94 (x6 : Int32).toNatClampNeg) (M.1 105 (x1 : Int32).toNatClampNeg) M with | some (v60, M61) => (if v60 = 0 then (J66_68 n rec11 x1 x2 x3 x4 x5 x6 x7 M61) else (J66_64 n rec11 x1 x2 x3 x4 x5 x6 x7 M61)) | none => none))
set_option maxRecDepth 100000 in
set_option maxHeartbeats 4000000 in
theorem J66_44_ev (sc : Option (Nat × (Nat → Int32))) (n : Nat)  (e : Nat) (he : 6 ≤ e) (rec11 : Int32 → Int32 → Int32 → Int32 → Int32 → Int32 → Mem → Option (Int32 × Mem)) (hr11 : ∀ (x1 : Int32) (x2 : Int32) (x3 : Int32) (x4 : Int32) (x5 : Int32) (x6 : Int32) (u7 : Option Value) (u8 : Option Value) (u9 : Option Value) (M : Mem) (r : Int32) (M' : Mem), rec11 x1 x2 x3 x4 x5 x6 M = some (r, M') → pm_ev pmT sc e 66 false (11, [some (.ref 83), some (.int x1), some (.int x2), some (.int x3), some (.int x4), some (.int x5), some (.int x6), u7, u8, u9], [], 129, 17845, hp M) (some (.int r), 129, 17845, hp M')) : ∀ (x1 : Int32) (x2 : Int32) (x3 : Int32) (x4 : Int32) (x5 : Int32) (x6 : Int32) (x7 : Int32) (u8 : Option Value) (u9 : Option Value) (M : Mem) (r : Int32) (M' : Mem), J66_44 n rec11 x1 x2 x3 x4 x5 x6 x7 M = some (r, M') → pm_ev pmT sc e 66 false (44, [some (.ref 83), some (.int x1), some (.int x2), some (.int x3), some (.int x4), some (.int x5), some (.int x6), some (.int x7), u8, u9], [], 129, 17845, hp M) (some (.int r), 129, 17845, hp M') := by
  intro x1 x2 x3 x4 x5 x6 x7 u8 u9 M r M' h
  unfold J66_44 at h
  refine pe_blk mm_66 2 (s' := (46, [some (.ref 83), some (.int x1), some (.int x2), some (.int x3), some (.int x4), some (.int x5), some (.int x6), some (.int x7), u8, u9], [.ref 83, .ref 83], _, _, _)) rfl ?_
  refine pe_get mm_66 rfl rfl rfl (by decide) rfl ?_
  refine pe_blk mm_66 1 (s' := (51, [some (.ref 83), some (.int x1), some (.int x2), some (.int x3), some (.int x4), some (.int x5), some (.int x6), some (.int x7), u8, u9], [.int x6, .ref 94, .ref 83], _, _, _)) rfl ?_
  by_cases q58 : x6 < 0 ∨ 128 ≤ (x6 : Int32).toNatClampNeg
  · rw [if_pos q58] at h
    cases h
  · rw [if_neg q58] at h
    refine pe_iald (f := M.1 94) mm_66 rfl rfl (by decide) q58 ?_
    refine pe_blk mm_66 1 (s' := (53, [some (.ref 83), some (.int x1), some (.int x2), some (.int x3), some (.int x4), some (.int x5), some (.int x6), some (.int x7), u8, u9], [.ref 83, .int (M.1 94 (x6 : Int32).toNatClampNeg), .ref 83], _, _, _)) rfl ?_
    refine pe_get mm_66 rfl rfl rfl (by decide) rfl ?_
    refine pe_blk mm_66 1 (s' := (57, [some (.ref 83), some (.int x1), some (.int x2), some (.int x3), some (.int x4), some (.int x5), some (.int x6), some (.int x7), u8, u9], [.int x1, .ref 105, .int (M.1 94 (x6 : Int32).toNatClampNeg), .ref 83], _, _, _)) rfl ?_
    by_cases q59 : x1 < 0 ∨ 320 ≤ (x1 : Int32).toNatClampNeg
    · rw [if_pos q59] at h
      cases h
    · rw [if_neg q59] at h
      refine pe_iald (f := M.1 105) mm_66 rfl rfl (by decide) q59 ?_
      obtain ⟨e1, rfl⟩ : ∃ e1, e = e1 + 1 := ⟨e - 1, by omega⟩
      cases hc62 : F64 n (M.1 94 (x6 : Int32).toNatClampNeg) (M.1 105 (x1 : Int32).toNatClampNeg) M with
      | none => rw [hc62] at h; cases h
      | some w =>
        obtain ⟨v60, M61⟩ := w
        rw [hc62] at h
        dsimp only at h
        refine pe_virt (al := [.int (M.1 105 (x1 : Int32).toNatClampNeg), .int (M.1 94 (x6 : Int32).toNatClampNeg)]) (a := 83) (L0 := [some (.ref 83), some (.int (M.1 94 (x6 : Int32).toNatClampNeg)), some (.int (M.1 105 (x1 : Int32).toNatClampNeg))]) (r1 := (some (.int v60), 129, 17845, hp M61)) mm_66 rfl rfl rfl mm_64 rfl (by decide) (by decide) rfl (Nat.le_of_ble_eq_true rfl) (Nat.le_of_ble_eq_true rfl) rfl rfl (F64_ev sc n (M.1 94 (x6 : Int32).toNatClampNeg) (M.1 105 (x1 : Int32).toNatClampNeg) _ e1 (by omega) _ _ hc62) ?_
        show pm_ev _ _ _ _ _ (61, [some (.ref 83), some (.int x1), some (.int x2), some (.int x3), some (.int x4), some (.int x5), some (.int x6), some (.int x7), u8, u9], [.int v60], _, _, _) _
        by_cases q63 : v60 = 0
        · rw [if_pos q63] at h
          refine pe_blk mm_66 1 (s' := (if v60 = 0 then 68 else 64, [some (.ref 83), some (.int x1), some (.int x2), some (.int x3), some (.int x4), some (.int x5), some (.int x6), some (.int x7), u8, u9], [], _, _, _)) rfl ?_
          rw [if_pos q63]
          exact J66_68_ev sc n (e1 + 1) he rec11 hr11 x1 x2 x3 x4 x5 x6 x7 _ _ _ _ _ h
        · rw [if_neg q63] at h
          refine pe_blk mm_66 1 (s' := (if v60 = 0 then 68 else 64, [some (.ref 83), some (.int x1), some (.int x2), some (.int x3), some (.int x4), some (.int x5), some (.int x6), some (.int x7), u8, u9], [], _, _, _)) rfl ?_
          rw [if_neg q63]
          exact J66_64_ev sc n (e1 + 1) he rec11 hr11 x1 x2 x3 x4 x5 x6 x7 _ _ _ _ _ h
def L66_11 (n : Nat) : Nat → Int32 → Int32 → Int32 → Int32 → Int32 → Int32 → Mem → Option (Int32 × Mem)
  | 0, _, _, _, _, _, _, _ => none
  | k + 1, x1, x2, x3, x4, x5, x6, M => if 128 ≤ x6 then (if 1 < x3 then (J66_173 n M) else (if x3 = 1 then (if x4 ≤ 0 then (J66_176 n x1 x2 x3 x4 x5 M) else (J66_173 n M)) else (J66_176 n x1 x2 x3 x4 x5 M))) else (if x6 < 0 ∨ 128 ≤ (x6 : Int32).toNatClampNeg then none else (if (M.1 108 (x6 : Int32).toNatClampNeg) ≤ 0 then (J66_68 n (L66_11 n k) x1 x2 x3 x4 x5 x6 (M.1 108 (x6 : Int32).toNatClampNeg) M) else (if x6 < 0 ∨ 128 ≤ (x6 : Int32).toNatClampNeg then none else (if (M.1 90 (x6 : Int32).toNatClampNeg) = 3 then (J66_44 n (L66_11 n k) x1 x2 x3 x4 x5 x6 (M.1 108 (x6 : Int32).toNatClampNeg) M) else (J66_68 n (L66_11 n k) x1 x2 x3 x4 x5 x6 (M.1 108 (x6 : Int32).toNatClampNeg) M)))))
set_option maxRecDepth 100000 in
set_option maxHeartbeats 4000000 in
theorem L66_11_ev (sc : Option (Nat × (Nat → Int32))) (n : Nat)  (e : Nat) (he : 6 ≤ e) : ∀ k : Nat, ∀ (x1 : Int32) (x2 : Int32) (x3 : Int32) (x4 : Int32) (x5 : Int32) (x6 : Int32) (u7 : Option Value) (u8 : Option Value) (u9 : Option Value) (M : Mem) (r : Int32) (M' : Mem), L66_11 n k x1 x2 x3 x4 x5 x6 M = some (r, M') → pm_ev pmT sc e 66 false (11, [some (.ref 83), some (.int x1), some (.int x2), some (.int x3), some (.int x4), some (.int x5), some (.int x6), u7, u8, u9], [], 129, 17845, hp M) (some (.int r), 129, 17845, hp M') := by
  intro k
  induction k with
  | zero => intro x1 x2 x3 x4 x5 x6 u7 u8 u9 M r M' h; cases h
  | succ k hr11 =>
    intro x1 x2 x3 x4 x5 x6 u7 u8 u9 M r M' h
    rw [L66_11] at h
    refine pe_blk mm_66 2 (s' := (16, [some (.ref 83), some (.int x1), some (.int x2), some (.int x3), some (.int x4), some (.int x5), some (.int x6), u7, u8, u9], [.int 128, .int x6], _, _, _)) rfl ?_
    by_cases q1 : 128 ≤ x6
    · rw [if_pos q1] at h
      refine pe_blk mm_66 1 (s' := (if 128 ≤ x6 then 158 else 19, [some (.ref 83), some (.int x1), some (.int x2), some (.int x3), some (.int x4), some (.int x5), some (.int x6), u7, u8, u9], [], _, _, _)) rfl ?_
      rw [if_pos q1]
      refine pe_blk mm_66 2 (s' := (160, [some (.ref 83), some (.int x1), some (.int x2), some (.int x3), some (.int x4), some (.int x5), some (.int x6), u7, u8, u9], [.int 1, .int x3], _, _, _)) rfl ?_
      by_cases q2 : 1 < x3
      · rw [if_pos q2] at h
        refine pe_blk mm_66 1 (s' := (if 1 < x3 then 173 else 163, [some (.ref 83), some (.int x1), some (.int x2), some (.int x3), some (.int x4), some (.int x5), some (.int x6), u7, u8, u9], [], _, _, _)) rfl ?_
        rw [if_pos q2]
        exact J66_173_ev sc n e he _ _ _ _ _ _ _ _ _ _ _ _ _ h
      · rw [if_neg q2] at h
        refine pe_blk mm_66 1 (s' := (if 1 < x3 then 173 else 163, [some (.ref 83), some (.int x1), some (.int x2), some (.int x3), some (.int x4), some (.int x5), some (.int x6), u7, u8, u9], [], _, _, _)) rfl ?_
        rw [if_neg q2]
        refine pe_blk mm_66 2 (s' := (165, [some (.ref 83), some (.int x1), some (.int x2), some (.int x3), some (.int x4), some (.int x5), some (.int x6), u7, u8, u9], [.int 1, .int x3], _, _, _)) rfl ?_
        by_cases q3 : x3 = 1
        · rw [if_pos q3] at h
          refine pe_blk mm_66 1 (s' := (if x3 = 1 then 168 else 176, [some (.ref 83), some (.int x1), some (.int x2), some (.int x3), some (.int x4), some (.int x5), some (.int x6), u7, u8, u9], [], _, _, _)) rfl ?_
          rw [if_pos q3]
          refine pe_blk mm_66 1 (s' := (170, [some (.ref 83), some (.int x1), some (.int x2), some (.int x3), some (.int x4), some (.int x5), some (.int x6), u7, u8, u9], [.int x4], _, _, _)) rfl ?_
          by_cases q4 : x4 ≤ 0
          · rw [if_pos q4] at h
            refine pe_blk mm_66 1 (s' := (if x4 ≤ 0 then 176 else 173, [some (.ref 83), some (.int x1), some (.int x2), some (.int x3), some (.int x4), some (.int x5), some (.int x6), u7, u8, u9], [], _, _, _)) rfl ?_
            rw [if_pos q4]
            exact J66_176_ev sc n e he x1 x2 x3 x4 x5 _ _ _ _ _ _ _ h
          · rw [if_neg q4] at h
            refine pe_blk mm_66 1 (s' := (if x4 ≤ 0 then 176 else 173, [some (.ref 83), some (.int x1), some (.int x2), some (.int x3), some (.int x4), some (.int x5), some (.int x6), u7, u8, u9], [], _, _, _)) rfl ?_
            rw [if_neg q4]
            exact J66_173_ev sc n e he _ _ _ _ _ _ _ _ _ _ _ _ _ h
        · rw [if_neg q3] at h
          refine pe_blk mm_66 1 (s' := (if x3 = 1 then 168 else 176, [some (.ref 83), some (.int x1), some (.int x2), some (.int x3), some (.int x4), some (.int x5), some (.int x6), u7, u8, u9], [], _, _, _)) rfl ?_
          rw [if_neg q3]
          exact J66_176_ev sc n e he x1 x2 x3 x4 x5 _ _ _ _ _ _ _ h
    · rw [if_neg q1] at h
      refine pe_blk mm_66 1 (s' := (if 128 ≤ x6 then 158 else 19, [some (.ref 83), some (.int x1), some (.int x2), some (.int x3), some (.int x4), some (.int x5), some (.int x6), u7, u8, u9], [], _, _, _)) rfl ?_
      rw [if_neg q1]
      refine pe_blk mm_66 1 (s' := (20, [some (.ref 83), some (.int x1), some (.int x2), some (.int x3), some (.int x4), some (.int x5), some (.int x6), u7, u8, u9], [.ref 83], _, _, _)) rfl ?_
      refine pe_get mm_66 rfl rfl rfl (by decide) rfl ?_
      refine pe_blk mm_66 1 (s' := (25, [some (.ref 83), some (.int x1), some (.int x2), some (.int x3), some (.int x4), some (.int x5), some (.int x6), u7, u8, u9], [.int x6, .ref 108], _, _, _)) rfl ?_
      by_cases q41 : x6 < 0 ∨ 128 ≤ (x6 : Int32).toNatClampNeg
      · rw [if_pos q41] at h
        cases h
      · rw [if_neg q41] at h
        refine pe_iald (f := M.1 108) mm_66 rfl rfl (by decide) q41 ?_
        refine pe_blk mm_66 2 (s' := (30, [some (.ref 83), some (.int x1), some (.int x2), some (.int x3), some (.int x4), some (.int x5), some (.int x6), some (.int (M.1 108 (x6 : Int32).toNatClampNeg)), u8, u9], [.int (M.1 108 (x6 : Int32).toNatClampNeg)], _, _, _)) rfl ?_
        by_cases q42 : (M.1 108 (x6 : Int32).toNatClampNeg) ≤ 0
        · rw [if_pos q42] at h
          refine pe_blk mm_66 1 (s' := (if (M.1 108 (x6 : Int32).toNatClampNeg) ≤ 0 then 68 else 33, [some (.ref 83), some (.int x1), some (.int x2), some (.int x3), some (.int x4), some (.int x5), some (.int x6), some (.int (M.1 108 (x6 : Int32).toNatClampNeg)), u8, u9], [], _, _, _)) rfl ?_
          rw [if_pos q42]
          exact J66_68_ev sc n e he (L66_11 n k) hr11 x1 x2 x3 x4 x5 x6 (M.1 108 (x6 : Int32).toNatClampNeg) _ _ _ _ _ h
        · rw [if_neg q42] at h
          refine pe_blk mm_66 1 (s' := (if (M.1 108 (x6 : Int32).toNatClampNeg) ≤ 0 then 68 else 33, [some (.ref 83), some (.int x1), some (.int x2), some (.int x3), some (.int x4), some (.int x5), some (.int x6), some (.int (M.1 108 (x6 : Int32).toNatClampNeg)), u8, u9], [], _, _, _)) rfl ?_
          rw [if_neg q42]
          refine pe_blk mm_66 1 (s' := (34, [some (.ref 83), some (.int x1), some (.int x2), some (.int x3), some (.int x4), some (.int x5), some (.int x6), some (.int (M.1 108 (x6 : Int32).toNatClampNeg)), u8, u9], [.ref 83], _, _, _)) rfl ?_
          refine pe_get mm_66 rfl rfl rfl (by decide) rfl ?_
          refine pe_blk mm_66 1 (s' := (39, [some (.ref 83), some (.int x1), some (.int x2), some (.int x3), some (.int x4), some (.int x5), some (.int x6), some (.int (M.1 108 (x6 : Int32).toNatClampNeg)), u8, u9], [.int x6, .ref 90], _, _, _)) rfl ?_
          by_cases q56 : x6 < 0 ∨ 128 ≤ (x6 : Int32).toNatClampNeg
          · rw [if_pos q56] at h
            cases h
          · rw [if_neg q56] at h
            refine pe_iald (f := M.1 90) mm_66 rfl rfl (by decide) q56 ?_
            refine pe_blk mm_66 1 (s' := (41, [some (.ref 83), some (.int x1), some (.int x2), some (.int x3), some (.int x4), some (.int x5), some (.int x6), some (.int (M.1 108 (x6 : Int32).toNatClampNeg)), u8, u9], [.int 3, .int (M.1 90 (x6 : Int32).toNatClampNeg)], _, _, _)) rfl ?_
            by_cases q57 : (M.1 90 (x6 : Int32).toNatClampNeg) = 3
            · rw [if_pos q57] at h
              refine pe_blk mm_66 1 (s' := (if (M.1 90 (x6 : Int32).toNatClampNeg) = 3 then 44 else 68, [some (.ref 83), some (.int x1), some (.int x2), some (.int x3), some (.int x4), some (.int x5), some (.int x6), some (.int (M.1 108 (x6 : Int32).toNatClampNeg)), u8, u9], [], _, _, _)) rfl ?_
              rw [if_pos q57]
              exact J66_44_ev sc n e he (L66_11 n k) hr11 x1 x2 x3 x4 x5 x6 (M.1 108 (x6 : Int32).toNatClampNeg) _ _ _ _ _ h
            · rw [if_neg q57] at h
              refine pe_blk mm_66 1 (s' := (if (M.1 90 (x6 : Int32).toNatClampNeg) = 3 then 44 else 68, [some (.ref 83), some (.int x1), some (.int x2), some (.int x3), some (.int x4), some (.int x5), some (.int x6), some (.int (M.1 108 (x6 : Int32).toNatClampNeg)), u8, u9], [], _, _, _)) rfl ?_
              rw [if_neg q57]
              exact J66_68_ev sc n e he (L66_11 n k) hr11 x1 x2 x3 x4 x5 x6 (M.1 108 (x6 : Int32).toNatClampNeg) _ _ _ _ _ h
/-- ArmExpanderModel.step -/
def F66 (n : Nat) (a0 : Int32) (a1 : Int32) (M : Mem) : Option (Int32 × Mem) :=
  L66_11 n n a0 a1 0 0 (-1) 0 M
set_option maxRecDepth 100000 in
set_option maxHeartbeats 4000000 in
theorem F66_ev (sc : Option (Nat × (Nat → Int32))) (n : Nat) (a0 : Int32) (a1 : Int32)  (M : Mem) (e : Nat) (he : 6 ≤ e) (r : Int32) (M' : Mem) (h : F66 n a0 a1 M = some (r, M')) : pm_ev pmT sc e 66 false (0, [some (.ref 83), some (.int a0), some (.int a1), none, none, none, none, none, none, none], [], 129, 17845, hp M) (some (.int r), 129, 17845, hp M') := by
  unfold F66 at h
  refine pe_blk mm_66 8 (s' := (11, [some (.ref 83), some (.int a0), some (.int a1), some (.int 0), some (.int 0), some (.int (-1)), some (.int 0), none, none, none], [], _, _, _)) rfl ?_
  exact L66_11_ev sc n e he n a0 a1 0 0 (-1) 0 _ _ _ _ _ _ h
def J67_153 (n : Nat) (rec126 : Int32 → Mem → Option (Int32 × Mem)) (x6 : Int32) (M : Mem) : Option (Int32 × Mem) :=
  rec126 (x6 + (-1)) M
set_option maxRecDepth 100000 in
set_option maxHeartbeats 4000000 in
theorem J67_153_ev (sc : Option (Nat × (Nat → Int32))) (n : Nat)  (e : Nat) (he : 7 ≤ e) (rec126 : Int32 → Mem → Option (Int32 × Mem)) (hr126 : ∀ (x6 : Int32) (u1 : Option Value) (u2 : Option Value) (u3 : Option Value) (u4 : Option Value) (u5 : Option Value) (M : Mem) (r : Int32) (M' : Mem), rec126 x6 M = some (r, M') → pm_ev pmT sc e 67 false (126, [some (.ref 83), u1, u2, u3, u4, u5, some (.int x6)], [], 129, 17845, hp M) (some (.int r), 129, 17845, hp M')) : ∀ (x6 : Int32) (u1 : Option Value) (u2 : Option Value) (u3 : Option Value) (u4 : Option Value) (u5 : Option Value) (M : Mem) (r : Int32) (M' : Mem), J67_153 n rec126 x6 M = some (r, M') → pm_ev pmT sc e 67 false (153, [some (.ref 83), u1, u2, u3, u4, u5, some (.int x6)], [], 129, 17845, hp M) (some (.int r), 129, 17845, hp M') := by
  intro x6 u1 u2 u3 u4 u5 M r M' h
  unfold J67_153 at h
  refine pe_blk mm_67 2 (s' := (126, [some (.ref 83), u1, u2, u3, u4, u5, some (.int (x6 + (-1)))], [], _, _, _)) rfl ?_
  exact hr126 (x6 + (-1)) _ _ _ _ _ _ _ _ h
def L67_126 (n : Nat) : Nat → Int32 → Mem → Option (Int32 × Mem)
  | 0, _, _ => none
  | k + 1, x6, M => if x6 ≤ 0 then (some (1, M)) else (if x6 < 0 ∨ 162 ≤ (x6 : Int32).toNatClampNeg then none else (match F52 n x6 (M.1 116 (x6 : Int32).toNatClampNeg) M with | some (v21, M22) => (if (x6 - 1) < 0 ∨ 162 ≤ (x6 - 1 : Int32).toNatClampNeg then none else (mlet (m_i M22 116 (x6 - 1 : Int32).toNatClampNeg v21) (fun M25 => J67_153 n (L67_126 n k) x6 M25))) | none => none))
set_option maxRecDepth 100000 in
set_option maxHeartbeats 4000000 in
theorem L67_126_ev (sc : Option (Nat × (Nat → Int32))) (n : Nat)  (e : Nat) (he : 7 ≤ e) : ∀ k : Nat, ∀ (x6 : Int32) (u1 : Option Value) (u2 : Option Value) (u3 : Option Value) (u4 : Option Value) (u5 : Option Value) (M : Mem) (r : Int32) (M' : Mem), L67_126 n k x6 M = some (r, M') → pm_ev pmT sc e 67 false (126, [some (.ref 83), u1, u2, u3, u4, u5, some (.int x6)], [], 129, 17845, hp M) (some (.int r), 129, 17845, hp M') := by
  intro k
  induction k with
  | zero => intro x6 u1 u2 u3 u4 u5 M r M' h; cases h
  | succ k hr126 =>
    intro x6 u1 u2 u3 u4 u5 M r M' h
    rw [L67_126] at h
    refine pe_blk mm_67 1 (s' := (128, [some (.ref 83), u1, u2, u3, u4, u5, some (.int x6)], [.int x6], _, _, _)) rfl ?_
    by_cases q19 : x6 ≤ 0
    · rw [if_pos q19] at h
      refine pe_blk mm_67 1 (s' := (if x6 ≤ 0 then 159 else 131, [some (.ref 83), u1, u2, u3, u4, u5, some (.int x6)], [], _, _, _)) rfl ?_
      rw [if_pos q19]
      refine pe_blk mm_67 1 (s' := (160, [some (.ref 83), u1, u2, u3, u4, u5, some (.int x6)], [.int 1], _, _, _)) rfl ?_
      cases h
      exact pe_ret mm_67 rfl rfl
    · rw [if_neg q19] at h
      refine pe_blk mm_67 1 (s' := (if x6 ≤ 0 then 159 else 131, [some (.ref 83), u1, u2, u3, u4, u5, some (.int x6)], [], _, _, _)) rfl ?_
      rw [if_neg q19]
      refine pe_blk mm_67 1 (s' := (132, [some (.ref 83), u1, u2, u3, u4, u5, some (.int x6)], [.ref 83], _, _, _)) rfl ?_
      refine pe_get mm_67 rfl rfl rfl (by decide) rfl ?_
      refine pe_blk mm_67 6 (s' := (143, [some (.ref 83), u1, u2, u3, u4, u5, some (.int x6)], [.ref 83, .int x6, .ref 83, .int (x6 - 1), .ref 116], _, _, _)) rfl ?_
      refine pe_get mm_67 rfl rfl rfl (by decide) rfl ?_
      refine pe_blk mm_67 1 (s' := (148, [some (.ref 83), u1, u2, u3, u4, u5, some (.int x6)], [.int x6, .ref 116, .int x6, .ref 83, .int (x6 - 1), .ref 116], _, _, _)) rfl ?_
      by_cases q20 : x6 < 0 ∨ 162 ≤ (x6 : Int32).toNatClampNeg
      · rw [if_pos q20] at h
        cases h
      · rw [if_neg q20] at h
        refine pe_iald (f := M.1 116) mm_67 rfl rfl (by decide) q20 ?_
        obtain ⟨e1, rfl⟩ : ∃ e1, e = e1 + 1 := ⟨e - 1, by omega⟩
        cases hc23 : F52 n x6 (M.1 116 (x6 : Int32).toNatClampNeg) M with
        | none => rw [hc23] at h; cases h
        | some w =>
          obtain ⟨v21, M22⟩ := w
          rw [hc23] at h
          dsimp only at h
          refine pe_virt (al := [.int (M.1 116 (x6 : Int32).toNatClampNeg), .int x6]) (a := 83) (L0 := [some (.ref 83), some (.int x6), some (.int (M.1 116 (x6 : Int32).toNatClampNeg))]) (r1 := (some (.int v21), 129, 17845, hp M22)) mm_67 rfl rfl rfl mm_52 rfl (by decide) (by decide) rfl (Nat.le_of_ble_eq_true rfl) (Nat.le_of_ble_eq_true rfl) rfl rfl (F52_ev sc n x6 (M.1 116 (x6 : Int32).toNatClampNeg) _ e1 (by omega) _ _ hc23) ?_
          show pm_ev _ _ _ _ _ (152, [some (.ref 83), u1, u2, u3, u4, u5, some (.int x6)], [.int v21, .int (x6 - 1), .ref 116], _, _, _) _
          by_cases q24 : (x6 - 1) < 0 ∨ 162 ≤ (x6 - 1 : Int32).toNatClampNeg
          · rw [if_pos q24] at h
            cases h
          · rw [if_neg q24] at h
            refine pe_iasti mm_67 rfl rfl (by decide) q24 rfl ?_
            show pm_ev _ _ _ _ _ (153, [some (.ref 83), u1, u2, u3, u4, u5, some (.int x6)], [], _, _, hp (m_i M22 116 (x6 - 1 : Int32).toNatClampNeg v21)) _
            generalize m_i M22 116 (x6 - 1 : Int32).toNatClampNeg v21 = M25 at h ⊢
            rw [mlet] at h
            exact J67_153_ev sc n (e1 + 1) he (L67_126 n k) hr126 x6 _ _ _ _ _ _ _ _ h
def J67_109 (n : Nat) (x4 : Int32) (M : Mem) : Option (Int32 × Mem) :=
  if (M.1 83 40) < 0 ∨ 162 ≤ (M.1 83 40 : Int32).toNatClampNeg then none else (mlet (m_i M 116 (M.1 83 40 : Int32).toNatClampNeg x4) (fun M18 => L67_126 n n (M18.1 83 40) M18))
set_option maxRecDepth 100000 in
set_option maxHeartbeats 4000000 in
theorem J67_109_ev (sc : Option (Nat × (Nat → Int32))) (n : Nat)  (e : Nat) (he : 7 ≤ e) : ∀ (x4 : Int32) (u1 : Option Value) (u2 : Option Value) (u3 : Option Value) (u5 : Option Value) (u6 : Option Value) (M : Mem) (r : Int32) (M' : Mem), J67_109 n x4 M = some (r, M') → pm_ev pmT sc e 67 false (109, [some (.ref 83), u1, u2, u3, some (.int x4), u5, u6], [], 129, 17845, hp M) (some (.int r), 129, 17845, hp M') := by
  intro x4 u1 u2 u3 u5 u6 M r M' h
  unfold J67_109 at h
  refine pe_blk mm_67 1 (s' := (110, [some (.ref 83), u1, u2, u3, some (.int x4), u5, u6], [.ref 83], _, _, _)) rfl ?_
  refine pe_get mm_67 rfl rfl rfl (by decide) rfl ?_
  refine pe_blk mm_67 1 (s' := (114, [some (.ref 83), u1, u2, u3, some (.int x4), u5, u6], [.ref 83, .ref 116], _, _, _)) rfl ?_
  refine pe_get mm_67 rfl rfl rfl (by decide) rfl ?_
  refine pe_blk mm_67 1 (s' := (119, [some (.ref 83), u1, u2, u3, some (.int x4), u5, u6], [.int x4, .int (M.1 83 40), .ref 116], _, _, _)) rfl ?_
  by_cases q17 : (M.1 83 40) < 0 ∨ 162 ≤ (M.1 83 40 : Int32).toNatClampNeg
  · rw [if_pos q17] at h
    cases h
  · rw [if_neg q17] at h
    refine pe_iasti mm_67 rfl rfl (by decide) q17 rfl ?_
    show pm_ev _ _ _ _ _ (120, [some (.ref 83), u1, u2, u3, some (.int x4), u5, u6], [], _, _, hp (m_i M 116 (M.1 83 40 : Int32).toNatClampNeg x4)) _
    generalize m_i M 116 (M.1 83 40 : Int32).toNatClampNeg x4 = M18 at h ⊢
    rw [mlet] at h
    refine pe_blk mm_67 1 (s' := (121, [some (.ref 83), u1, u2, u3, some (.int x4), u5, u6], [.ref 83], _, _, _)) rfl ?_
    refine pe_get mm_67 rfl rfl rfl (by decide) rfl ?_
    refine pe_blk mm_67 1 (s' := (126, [some (.ref 83), u1, u2, u3, some (.int x4), u5, some (.int (M18.1 83 40))], [], _, _, _)) rfl ?_
    exact L67_126_ev sc n e he n (M18.1 83 40) _ _ _ _ _ _ _ _ h
def J67_108 (n : Nat) (s0 : Int32) (M : Mem) : Option (Int32 × Mem) :=
  some (s0, M)
set_option maxRecDepth 100000 in
set_option maxHeartbeats 4000000 in
theorem J67_108_ev (sc : Option (Nat × (Nat → Int32))) (n : Nat)  (e : Nat) (he : 7 ≤ e) : ∀ (s0 : Int32) (u0 : Option Value) (u1 : Option Value) (u2 : Option Value) (u3 : Option Value) (u4 : Option Value) (u5 : Option Value) (u6 : Option Value) (M : Mem) (r : Int32) (M' : Mem), J67_108 n s0 M = some (r, M') → pm_ev pmT sc e 67 false (108, [u0, u1, u2, u3, u4, u5, u6], [.int s0], 129, 17845, hp M) (some (.int r), 129, 17845, hp M') := by
  intro s0 u0 u1 u2 u3 u4 u5 u6 M r M' h
  unfold J67_108 at h
  cases h
  exact pe_ret mm_67 rfl rfl
def J67_97 (n : Nat) (x5 : Int32) (M : Mem) : Option (Int32 × Mem) :=
  if x5 ≤ 1 then (J67_108 n 0 M) else (J67_108 n (-1) M)
set_option maxRecDepth 100000 in
set_option maxHeartbeats 4000000 in
theorem J67_97_ev (sc : Option (Nat × (Nat → Int32))) (n : Nat)  (e : Nat) (he : 7 ≤ e) : ∀ (x5 : Int32) (u0 : Option Value) (u1 : Option Value) (u2 : Option Value) (u3 : Option Value) (u4 : Option Value) (u6 : Option Value) (M : Mem) (r : Int32) (M' : Mem), J67_97 n x5 M = some (r, M') → pm_ev pmT sc e 67 false (97, [u0, u1, u2, u3, u4, some (.int x5), u6], [], 129, 17845, hp M) (some (.int r), 129, 17845, hp M') := by
  intro x5 u0 u1 u2 u3 u4 u6 M r M' h
  unfold J67_97 at h
  refine pe_blk mm_67 2 (s' := (100, [u0, u1, u2, u3, u4, some (.int x5), u6], [.int 1, .int x5], _, _, _)) rfl ?_
  by_cases q26 : x5 ≤ 1
  · rw [if_pos q26] at h
    refine pe_blk mm_67 1 (s' := (if x5 ≤ 1 then 107 else 103, [u0, u1, u2, u3, u4, some (.int x5), u6], [], _, _, _)) rfl ?_
    rw [if_pos q26]
    refine pe_blk mm_67 1 (s' := (108, [u0, u1, u2, u3, u4, some (.int x5), u6], [.int 0], _, _, _)) rfl ?_
    exact J67_108_ev sc n e he 0 _ _ _ _ _ _ _ _ _ _ h
  · rw [if_neg q26] at h
    refine pe_blk mm_67 1 (s' := (if x5 ≤ 1 then 107 else 103, [u0, u1, u2, u3, u4, some (.int x5), u6], [], _, _, _)) rfl ?_
    rw [if_neg q26]
    refine pe_blk mm_67 2 (s' := (108, [u0, u1, u2, u3, u4, some (.int x5), u6], [.int (-1)], _, _, _)) rfl ?_
    exact J67_108_ev sc n e he (-1) _ _ _ _ _ _ _ _ _ _ h
def L67_61 (n : Nat) : Nat → Int32 → Mem → Option (Int32 × Mem)
  | 0, _, _ => none
  | k + 1, x4, M => if x4 < 0 ∨ 128 ≤ (x4 : Int32).toNatClampNeg then none else (if (M.1 90 (x4 : Int32).toNatClampNeg) = 6 then (if x4 < 0 ∨ 128 ≤ (x4 : Int32).toNatClampNeg then none else (if (M.1 108 (x4 : Int32).toNatClampNeg) = 1 then (J67_109 n x4 M) else (J67_97 n (M.1 108 (x4 : Int32).toNatClampNeg) M))) else ((L67_61 n k) (x4 + 1) M))
set_option maxRecDepth 100000 in
set_option maxHeartbeats 4000000 in
theorem L67_61_ev (sc : Option (Nat × (Nat → Int32))) (n : Nat)  (e : Nat) (he : 7 ≤ e) : ∀ k : Nat, ∀ (x4 : Int32) (u1 : Option Value) (u2 : Option Value) (u3 : Option Value) (u5 : Option Value) (u6 : Option Value) (M : Mem) (r : Int32) (M' : Mem), L67_61 n k x4 M = some (r, M') → pm_ev pmT sc e 67 false (61, [some (.ref 83), u1, u2, u3, some (.int x4), u5, u6], [], 129, 17845, hp M) (some (.int r), 129, 17845, hp M') := by
  intro k
  induction k with
  | zero => intro x4 u1 u2 u3 u5 u6 M r M' h; cases h
  | succ k hr61 =>
    intro x4 u1 u2 u3 u5 u6 M r M' h
    rw [L67_61] at h
    refine pe_blk mm_67 1 (s' := (62, [some (.ref 83), u1, u2, u3, some (.int x4), u5, u6], [.ref 83], _, _, _)) rfl ?_
    refine pe_get mm_67 rfl rfl rfl (by decide) rfl ?_
    refine pe_blk mm_67 1 (s' := (67, [some (.ref 83), u1, u2, u3, some (.int x4), u5, u6], [.int x4, .ref 90], _, _, _)) rfl ?_
    by_cases q13 : x4 < 0 ∨ 128 ≤ (x4 : Int32).toNatClampNeg
    · rw [if_pos q13] at h
      cases h
    · rw [if_neg q13] at h
      refine pe_iald (f := M.1 90) mm_67 rfl rfl (by decide) q13 ?_
      refine pe_blk mm_67 1 (s' := (70, [some (.ref 83), u1, u2, u3, some (.int x4), u5, u6], [.int 6, .int (M.1 90 (x4 : Int32).toNatClampNeg)], _, _, _)) rfl ?_
      by_cases q14 : (M.1 90 (x4 : Int32).toNatClampNeg) = 6
      · rw [if_pos q14] at h
        refine pe_blk mm_67 1 (s' := (if (M.1 90 (x4 : Int32).toNatClampNeg) = 6 then 82 else 73, [some (.ref 83), u1, u2, u3, some (.int x4), u5, u6], [], _, _, _)) rfl ?_
        rw [if_pos q14]
        refine pe_blk mm_67 1 (s' := (83, [some (.ref 83), u1, u2, u3, some (.int x4), u5, u6], [.ref 83], _, _, _)) rfl ?_
        refine pe_get mm_67 rfl rfl rfl (by decide) rfl ?_
        refine pe_blk mm_67 1 (s' := (88, [some (.ref 83), u1, u2, u3, some (.int x4), u5, u6], [.int x4, .ref 108], _, _, _)) rfl ?_
        by_cases q15 : x4 < 0 ∨ 128 ≤ (x4 : Int32).toNatClampNeg
        · rw [if_pos q15] at h
          cases h
        · rw [if_neg q15] at h
          refine pe_iald (f := M.1 108) mm_67 rfl rfl (by decide) q15 ?_
          refine pe_blk mm_67 3 (s' := (94, [some (.ref 83), u1, u2, u3, some (.int x4), some (.int (M.1 108 (x4 : Int32).toNatClampNeg)), u6], [.int 1, .int (M.1 108 (x4 : Int32).toNatClampNeg)], _, _, _)) rfl ?_
          by_cases q16 : (M.1 108 (x4 : Int32).toNatClampNeg) = 1
          · rw [if_pos q16] at h
            refine pe_blk mm_67 1 (s' := (if (M.1 108 (x4 : Int32).toNatClampNeg) = 1 then 109 else 97, [some (.ref 83), u1, u2, u3, some (.int x4), some (.int (M.1 108 (x4 : Int32).toNatClampNeg)), u6], [], _, _, _)) rfl ?_
            rw [if_pos q16]
            exact J67_109_ev sc n e he x4 _ _ _ _ _ _ _ _ h
          · rw [if_neg q16] at h
            refine pe_blk mm_67 1 (s' := (if (M.1 108 (x4 : Int32).toNatClampNeg) = 1 then 109 else 97, [some (.ref 83), u1, u2, u3, some (.int x4), some (.int (M.1 108 (x4 : Int32).toNatClampNeg)), u6], [], _, _, _)) rfl ?_
            rw [if_neg q16]
            exact J67_97_ev sc n e he (M.1 108 (x4 : Int32).toNatClampNeg) _ _ _ _ _ _ _ _ _ h
      · rw [if_neg q14] at h
        refine pe_blk mm_67 1 (s' := (if (M.1 90 (x4 : Int32).toNatClampNeg) = 6 then 82 else 73, [some (.ref 83), u1, u2, u3, some (.int x4), u5, u6], [], _, _, _)) rfl ?_
        rw [if_neg q14]
        refine pe_blk mm_67 5 (s' := (61, [some (.ref 83), u1, u2, u3, some (.int (x4 + 1)), u5, u6], [], _, _, _)) rfl ?_
        exact hr61 (x4 + 1) _ _ _ _ _ _ _ _ h
def J67_57 (n : Nat) (s0 : Int32) (M : Mem) : Option (Int32 × Mem) :=
  some (s0, M)
set_option maxRecDepth 100000 in
set_option maxHeartbeats 4000000 in
theorem J67_57_ev (sc : Option (Nat × (Nat → Int32))) (n : Nat)  (e : Nat) (he : 7 ≤ e) : ∀ (s0 : Int32) (u0 : Option Value) (u1 : Option Value) (u2 : Option Value) (u3 : Option Value) (u4 : Option Value) (u5 : Option Value) (u6 : Option Value) (M : Mem) (r : Int32) (M' : Mem), J67_57 n s0 M = some (r, M') → pm_ev pmT sc e 67 false (57, [u0, u1, u2, u3, u4, u5, u6], [.int s0], 129, 17845, hp M) (some (.int r), 129, 17845, hp M') := by
  intro s0 u0 u1 u2 u3 u4 u5 u6 M r M' h
  unfold J67_57 at h
  cases h
  exact pe_ret mm_67 rfl rfl
def J67_42 (n : Nat) (x3 : Int32) (M : Mem) : Option (Int32 × Mem) :=
  if 0 ≤ x3 then (L67_61 n n 0 M) else (if x3 = (-2) then (J67_57 n (-1) M) else (J67_57 n 0 M))
set_option maxRecDepth 100000 in
set_option maxHeartbeats 4000000 in
theorem J67_42_ev (sc : Option (Nat × (Nat → Int32))) (n : Nat)  (e : Nat) (he : 7 ≤ e) : ∀ (x3 : Int32) (u1 : Option Value) (u2 : Option Value) (u4 : Option Value) (u5 : Option Value) (u6 : Option Value) (M : Mem) (r : Int32) (M' : Mem), J67_42 n x3 M = some (r, M') → pm_ev pmT sc e 67 false (42, [some (.ref 83), u1, u2, some (.int x3), u4, u5, u6], [], 129, 17845, hp M) (some (.int r), 129, 17845, hp M') := by
  intro x3 u1 u2 u4 u5 u6 M r M' h
  unfold J67_42 at h
  refine pe_blk mm_67 1 (s' := (43, [some (.ref 83), u1, u2, some (.int x3), u4, u5, u6], [.int x3], _, _, _)) rfl ?_
  by_cases q12 : 0 ≤ x3
  · rw [if_pos q12] at h
    refine pe_blk mm_67 1 (s' := (if 0 ≤ x3 then 58 else 46, [some (.ref 83), u1, u2, some (.int x3), u4, u5, u6], [], _, _, _)) rfl ?_
    rw [if_pos q12]
    refine pe_blk mm_67 2 (s' := (61, [some (.ref 83), u1, u2, some (.int x3), some (.int 0), u5, u6], [], _, _, _)) rfl ?_
    exact L67_61_ev sc n e he n 0 _ _ _ _ _ _ _ _ h
  · rw [if_neg q12] at h
    refine pe_blk mm_67 1 (s' := (if 0 ≤ x3 then 58 else 46, [some (.ref 83), u1, u2, some (.int x3), u4, u5, u6], [], _, _, _)) rfl ?_
    rw [if_neg q12]
    refine pe_blk mm_67 2 (s' := (49, [some (.ref 83), u1, u2, some (.int x3), u4, u5, u6], [.int (-2), .int x3], _, _, _)) rfl ?_
    by_cases q27 : x3 = (-2)
    · rw [if_pos q27] at h
      refine pe_blk mm_67 1 (s' := (if x3 = (-2) then 52 else 56, [some (.ref 83), u1, u2, some (.int x3), u4, u5, u6], [], _, _, _)) rfl ?_
      rw [if_pos q27]
      refine pe_blk mm_67 2 (s' := (57, [some (.ref 83), u1, u2, some (.int x3), u4, u5, u6], [.int (-1)], _, _, _)) rfl ?_
      exact J67_57_ev sc n e he (-1) _ _ _ _ _ _ _ _ _ _ h
    · rw [if_neg q27] at h
      refine pe_blk mm_67 1 (s' := (if x3 = (-2) then 52 else 56, [some (.ref 83), u1, u2, some (.int x3), u4, u5, u6], [], _, _, _)) rfl ?_
      rw [if_neg q27]
      refine pe_blk mm_67 1 (s' := (57, [some (.ref 83), u1, u2, some (.int x3), u4, u5, u6], [.int 0], _, _, _)) rfl ?_
      exact J67_57_ev sc n e he 0 _ _ _ _ _ _ _ _ _ _ h
def L67_23 (n : Nat) : Nat → Int32 → Int32 → Mem → Option (Int32 × Mem)
  | 0, _, _, _ => none
  | k + 1, x2, x3, M => if x3 < 0 then (J67_42 n x3 M) else (if x2 ≤ x3 then (J67_42 n x3 M) else (match F66 n x3 x2 M with | some (v29, M30) => ((L67_23 n k) x2 v29 M30) | none => none))
set_option maxRecDepth 100000 in
set_option maxHeartbeats 4000000 in
theorem L67_23_ev (sc : Option (Nat × (Nat → Int32))) (n : Nat)  (e : Nat) (he : 7 ≤ e) : ∀ k : Nat, ∀ (x2 : Int32) (x3 : Int32) (u1 : Option Value) (u4 : Option Value) (u5 : Option Value) (u6 : Option Value) (M : Mem) (r : Int32) (M' : Mem), L67_23 n k x2 x3 M = some (r, M') → pm_ev pmT sc e 67 false (23, [some (.ref 83), u1, some (.int x2), some (.int x3), u4, u5, u6], [], 129, 17845, hp M) (some (.int r), 129, 17845, hp M') := by
  intro k
  induction k with
  | zero => intro x2 x3 u1 u4 u5 u6 M r M' h; cases h
  | succ k hr23 =>
    intro x2 x3 u1 u4 u5 u6 M r M' h
    rw [L67_23] at h
    refine pe_blk mm_67 1 (s' := (24, [some (.ref 83), u1, some (.int x2), some (.int x3), u4, u5, u6], [.int x3], _, _, _)) rfl ?_
    by_cases q11 : x3 < 0
    · rw [if_pos q11] at h
      refine pe_blk mm_67 1 (s' := (if x3 < 0 then 42 else 27, [some (.ref 83), u1, some (.int x2), some (.int x3), u4, u5, u6], [], _, _, _)) rfl ?_
      rw [if_pos q11]
      exact J67_42_ev sc n e he x3 _ _ _ _ _ _ _ _ h
    · rw [if_neg q11] at h
      refine pe_blk mm_67 1 (s' := (if x3 < 0 then 42 else 27, [some (.ref 83), u1, some (.int x2), some (.int x3), u4, u5, u6], [], _, _, _)) rfl ?_
      rw [if_neg q11]
      refine pe_blk mm_67 2 (s' := (29, [some (.ref 83), u1, some (.int x2), some (.int x3), u4, u5, u6], [.int x2, .int x3], _, _, _)) rfl ?_
      by_cases q28 : x2 ≤ x3
      · rw [if_pos q28] at h
        refine pe_blk mm_67 1 (s' := (if x2 ≤ x3 then 42 else 32, [some (.ref 83), u1, some (.int x2), some (.int x3), u4, u5, u6], [], _, _, _)) rfl ?_
        rw [if_pos q28]
        exact J67_42_ev sc n e he x3 _ _ _ _ _ _ _ _ h
      · rw [if_neg q28] at h
        refine pe_blk mm_67 1 (s' := (if x2 ≤ x3 then 42 else 32, [some (.ref 83), u1, some (.int x2), some (.int x3), u4, u5, u6], [], _, _, _)) rfl ?_
        rw [if_neg q28]
        refine pe_blk mm_67 3 (s' := (35, [some (.ref 83), u1, some (.int x2), some (.int x3), u4, u5, u6], [.int x2, .int x3, .ref 83], _, _, _)) rfl ?_
        obtain ⟨e1, rfl⟩ : ∃ e1, e = e1 + 1 := ⟨e - 1, by omega⟩
        cases hc31 : F66 n x3 x2 M with
        | none => rw [hc31] at h; cases h
        | some w =>
          obtain ⟨v29, M30⟩ := w
          rw [hc31] at h
          dsimp only at h
          refine pe_virt (al := [.int x2, .int x3]) (a := 83) (L0 := [some (.ref 83), some (.int x3), some (.int x2), none, none, none, none, none, none, none]) (r1 := (some (.int v29), 129, 17845, hp M30)) mm_67 rfl rfl rfl mm_66 rfl (by decide) (by decide) rfl (Nat.le_of_ble_eq_true rfl) (Nat.le_of_ble_eq_true rfl) rfl rfl (F66_ev sc n x3 x2 _ e1 (by omega) _ _ hc31) ?_
          show pm_ev _ _ _ _ _ (38, [some (.ref 83), u1, some (.int x2), some (.int x3), u4, u5, u6], [.int v29], _, _, _) _
          refine pe_blk mm_67 2 (s' := (23, [some (.ref 83), u1, some (.int x2), some (.int v29), u4, u5, u6], [], _, _, _)) rfl ?_
          exact hr23 x2 v29 _ _ _ _ _ _ _ h
def J67_18 (n : Nat) (x2 : Int32) (x3 : Int32) (M : Mem) : Option (Int32 × Mem) :=
  match F51 n 0 M with | some (v8, M9) => (L67_23 n n x2 x3 M9) | none => none
set_option maxRecDepth 100000 in
set_option maxHeartbeats 4000000 in
theorem J67_18_ev (sc : Option (Nat × (Nat → Int32))) (n : Nat)  (e : Nat) (he : 7 ≤ e) : ∀ (x2 : Int32) (x3 : Int32) (u1 : Option Value) (u4 : Option Value) (u5 : Option Value) (u6 : Option Value) (M : Mem) (r : Int32) (M' : Mem), J67_18 n x2 x3 M = some (r, M') → pm_ev pmT sc e 67 false (18, [some (.ref 83), u1, some (.int x2), some (.int x3), u4, u5, u6], [], 129, 17845, hp M) (some (.int r), 129, 17845, hp M') := by
  intro x2 x3 u1 u4 u5 u6 M r M' h
  unfold J67_18 at h
  refine pe_blk mm_67 2 (s' := (20, [some (.ref 83), u1, some (.int x2), some (.int x3), u4, u5, u6], [.int 0, .ref 83], _, _, _)) rfl ?_
  obtain ⟨e1, rfl⟩ : ∃ e1, e = e1 + 1 := ⟨e - 1, by omega⟩
  cases hc10 : F51 n 0 M with
  | none => rw [hc10] at h; cases h
  | some w =>
    obtain ⟨v8, M9⟩ := w
    rw [hc10] at h
    dsimp only at h
    refine pe_virt (al := [.int 0]) (a := 83) (L0 := [some (.ref 83), some (.int 0), none, none]) (r1 := (none, 129, 17845, hp M9)) mm_67 rfl rfl rfl mm_51 rfl (by decide) (by decide) rfl (Nat.le_of_ble_eq_true rfl) (Nat.le_of_ble_eq_true rfl) rfl rfl (F51_ev sc n 0 _ e1 (by omega) _ _ hc10) ?_
    show pm_ev _ _ _ _ _ (23, [some (.ref 83), u1, some (.int x2), some (.int x3), u4, u5, u6], [], _, _, _) _
    exact L67_23_ev sc n (e1 + 1) he n x2 x3 _ _ _ _ _ _ _ h
/-- ArmExpanderModel.match -/
def F67 (n : Nat) (a0 : Int32) (a1 : Int32) (M : Mem) : Option (Int32 × Mem) :=
  mlet (m_i M 83 40 0) (fun M1 => match F50 n M1 with | some (v2, M3) => (match F49 n 0 1 0 M3 with | some (v5, M6) => (J67_18 n a1 a0 M6) | none => none) | none => none)
set_option maxRecDepth 100000 in
set_option maxHeartbeats 4000000 in
theorem F67_ev (sc : Option (Nat × (Nat → Int32))) (n : Nat) (a0 : Int32) (a1 : Int32)  (M : Mem) (e : Nat) (he : 7 ≤ e) (r : Int32) (M' : Mem) (h : F67 n a0 a1 M = some (r, M')) : pm_ev pmT sc e 67 false (0, [some (.ref 83), some (.int a0), some (.int a1), none, none, none, none], [], 129, 17845, hp M) (some (.int r), 129, 17845, hp M') := by
  unfold F67 at h
  refine pe_blk mm_67 4 (s' := (4, [some (.ref 83), some (.int a0), some (.int a1), some (.int a0), none, none, none], [.int 0, .ref 83], _, _, _)) rfl ?_
  refine pe_puti mm_67 rfl rfl rfl (by decide) (Nat.le_of_ble_eq_true rfl) rfl rfl ?_
  show pm_ev _ _ _ _ _ (7, [some (.ref 83), some (.int a0), some (.int a1), some (.int a0), none, none, none], [], _, _, hp (m_i M 83 40 0)) _
  generalize m_i M 83 40 0 = M1 at h ⊢
  rw [mlet] at h
  refine pe_blk mm_67 1 (s' := (8, [some (.ref 83), some (.int a0), some (.int a1), some (.int a0), none, none, none], [.ref 83], _, _, _)) rfl ?_
  obtain ⟨e1, rfl⟩ : ∃ e1, e = e1 + 1 := ⟨e - 1, by omega⟩
  cases hc4 : F50 n M1 with
  | none => rw [hc4] at h; cases h
  | some w =>
    obtain ⟨v2, M3⟩ := w
    rw [hc4] at h
    dsimp only at h
    refine pe_virt (al := []) (a := 83) (L0 := [some (.ref 83), none]) (r1 := (none, 129, 17845, hp M3)) mm_67 rfl rfl rfl mm_50 rfl (by decide) (by decide) rfl (Nat.le_of_ble_eq_true rfl) (Nat.le_of_ble_eq_true rfl) rfl rfl (F50_ev sc n _ e1 (by omega) _ _ hc4) ?_
    show pm_ev _ _ _ _ _ (11, [some (.ref 83), some (.int a0), some (.int a1), some (.int a0), none, none, none], [], _, _, _) _
    refine pe_blk mm_67 4 (s' := (15, [some (.ref 83), some (.int a0), some (.int a1), some (.int a0), none, none, none], [.int 0, .int 1, .int 0, .ref 83], _, _, _)) rfl ?_
    skip
    cases hc7 : F49 n 0 1 0 M3 with
    | none => rw [hc7] at h; cases h
    | some w =>
      obtain ⟨v5, M6⟩ := w
      rw [hc7] at h
      dsimp only at h
      refine pe_virt (al := [.int 0, .int 1, .int 0]) (a := 83) (L0 := [some (.ref 83), some (.int 0), some (.int 1), some (.int 0), none, none, none, none, none]) (r1 := (none, 129, 17845, hp M6)) mm_67 rfl rfl rfl mm_49 rfl (by decide) (by decide) rfl (Nat.le_of_ble_eq_true rfl) (Nat.le_of_ble_eq_true rfl) rfl rfl (F49_ev sc n 0 1 0 _ e1 (by omega) _ _ hc7) ?_
      show pm_ev _ _ _ _ _ (18, [some (.ref 83), some (.int a0), some (.int a1), some (.int a0), none, none, none], [], _, _, _) _
      exact J67_18_ev sc n (e1 + 1) he a1 a0 _ _ _ _ _ _ _ h
