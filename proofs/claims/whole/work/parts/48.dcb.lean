/-! The methods as functions over Mem; written by program. -/
def J193_28 (n : Nat) (b : Nat) (x1 : Int32) (M : Mem) : Option (Unit × Mem) :=
  match F194 n b (x1 + 2) 0 M with | some (v8, M9) => (some ((), M9)) | none => none
set_option maxRecDepth 100000 in
set_option maxHeartbeats 4000000 in
theorem J193_28_ev (sc : Option (Nat × (Nat → Int32))) (n : Nat) (b : Nat) (hb : isT b) (e : Nat) (he : 37 ≤ e) : ∀ (x1 : Int32) (u2 : Option Value) (M : Mem) (r : Unit) (M' : Mem), J193_28 n b x1 M = some (r, M') → pm_ev pmT sc e 193 false (28, [some (.ref b), some (.int x1), u2], [], 129, 17845, hp M) (none, 129, 17845, hp M') := by
  intro x1 u2 M r M' h
  unfold J193_28 at h
  refine pe_blk mm_193 5 (s' := (33, [some (.ref b), some (.int x1), u2], [.int 0, .int (x1 + 2), .ref b], _, _, _)) rfl ?_
  obtain ⟨e1, rfl⟩ : ∃ e1, e = e1 + 1 := ⟨e - 1, by omega⟩
  cases hc10 : F194 n b (x1 + 2) 0 M with
  | none => rw [hc10] at h; cases h
  | some w =>
    obtain ⟨v8, M9⟩ := w
    rw [hc10] at h
    dsimp only at h
    refine pe_virt (al := [.int 0, .int (x1 + 2)]) (a := b) (L0 := [some (.ref b), some (.int (x1 + 2)), some (.int 0), none, none, none, none, none, none]) (r1 := (none, 129, 17845, hp M9)) mm_193 rfl rfl rfl mm_194 (isT_0 hb _) (by have := isT_lt hb; omega) (by decide) rfl (Nat.le_of_ble_eq_true rfl) (Nat.le_of_ble_eq_true rfl) rfl rfl (F194_ev sc n b (x1 + 2) 0 hb _ e1 (by omega) _ _ hc10) ?_
    show pm_ev _ _ _ _ _ (36, [some (.ref b), some (.int x1), u2], [], _, _, _) _
    cases h
    exact pe_ret mm_193 rfl rfl
def J193_13 (n : Nat) (b : Nat) (x1 : Int32) (x2 : Int32) (M : Mem) : Option (Unit × Mem) :=
  if 4 ≤ x2 then (J193_28 n b x1 M) else (if x2 < 0 ∨ 4 ≤ (x2 : Int32).toNatClampNeg then none else (if x2 < 0 ∨ 4 ≤ (x2 : Int32).toNatClampNeg then none else (mlet (m_i M (b + 3) (x2 : Int32).toNatClampNeg ((M.1 (b + 3) (x2 : Int32).toNatClampNeg) + 1)) (fun M14 => J193_28 n b x1 M14))))
set_option maxRecDepth 100000 in
set_option maxHeartbeats 4000000 in
theorem J193_13_ev (sc : Option (Nat × (Nat → Int32))) (n : Nat) (b : Nat) (hb : isT b) (e : Nat) (he : 37 ≤ e) : ∀ (x1 : Int32) (x2 : Int32) (M : Mem) (r : Unit) (M' : Mem), J193_13 n b x1 x2 M = some (r, M') → pm_ev pmT sc e 193 false (13, [some (.ref b), some (.int x1), some (.int x2)], [], 129, 17845, hp M) (none, 129, 17845, hp M') := by
  intro x1 x2  M r M' h
  unfold J193_13 at h
  refine pe_blk mm_193 2 (s' := (15, [some (.ref b), some (.int x1), some (.int x2)], [.int 4, .int x2], _, _, _)) rfl ?_
  by_cases q11 : 4 ≤ x2
  · rw [if_pos q11] at h
    refine pe_blk mm_193 1 (s' := (if 4 ≤ x2 then 28 else 18, [some (.ref b), some (.int x1), some (.int x2)], [], _, _, _)) rfl ?_
    rw [if_pos q11]
    exact J193_28_ev sc n b hb e he x1 _ _ _ _ h
  · rw [if_neg q11] at h
    refine pe_blk mm_193 1 (s' := (if 4 ≤ x2 then 28 else 18, [some (.ref b), some (.int x1), some (.int x2)], [], _, _, _)) rfl ?_
    rw [if_neg q11]
    refine pe_blk mm_193 1 (s' := (19, [some (.ref b), some (.int x1), some (.int x2)], [.ref b], _, _, _)) rfl ?_
    refine pe_get mm_193 rfl rfl (isT_0 hb _) (by have := isT_lt hb; omega) rfl ?_
    refine pe_blk mm_193 2 (s' := (24, [some (.ref b), some (.int x1), some (.int x2)], [.int x2, .ref (b + 3), .int x2, .ref (b + 3)], _, _, _)) rfl ?_
    by_cases q12 : x2 < 0 ∨ 4 ≤ (x2 : Int32).toNatClampNeg
    · rw [if_pos q12] at h
      cases h
    · rw [if_neg q12] at h
      refine pe_iald (f := M.1 (b + 3)) mm_193 rfl (isT_3 hb _) (by have := isT_lt hb; omega) q12 ?_
      refine pe_blk mm_193 2 (s' := (27, [some (.ref b), some (.int x1), some (.int x2)], [.int ((M.1 (b + 3) (x2 : Int32).toNatClampNeg) + 1), .int x2, .ref (b + 3)], _, _, _)) rfl ?_
      by_cases q13 : x2 < 0 ∨ 4 ≤ (x2 : Int32).toNatClampNeg
      · rw [if_pos q13] at h
        cases h
      · rw [if_neg q13] at h
        refine pe_iasti mm_193 rfl (isT_3 hb _) (by have := isT_lt hb; omega) q13 ((isT_3 hb _).trans (by simp [m_i])) ?_
        show pm_ev _ _ _ _ _ (28, [some (.ref b), some (.int x1), some (.int x2)], [], _, _, hp (m_i M (b + 3) (x2 : Int32).toNatClampNeg ((M.1 (b + 3) (x2 : Int32).toNatClampNeg) + 1))) _
        generalize m_i M (b + 3) (x2 : Int32).toNatClampNeg ((M.1 (b + 3) (x2 : Int32).toNatClampNeg) + 1) = M14 at h ⊢
        rw [mlet] at h
        exact J193_28_ev sc n b hb e he x1 _ _ _ _ h
/-- ArmExpander$Threads.beginRound -/
def F193 (n : Nat) (b : Nat) (a0 : Int32) (M : Mem) : Option (Unit × Mem) :=
  match M.2.1 b 4 with | some p1 => (if isD p1 then (match F123 n p1 a0 M with | some (v4, M5) => (if v4 < 0 then (J193_28 n b a0 M5) else (J193_13 n b a0 v4 M5)) | none => none) else none) | none => none
set_option maxRecDepth 100000 in
set_option maxHeartbeats 4000000 in
theorem F193_ev (sc : Option (Nat × (Nat → Int32))) (n : Nat) (b : Nat) (a0 : Int32) (hb : isT b) (M : Mem) (e : Nat) (he : 37 ≤ e) (r : Unit) (M' : Mem) (h : F193 n b a0 M = some (r, M')) : pm_ev pmT sc e 193 false (0, [some (.ref b), some (.int a0), none], [], 129, 17845, hp M) (none, 129, 17845, hp M') := by
  unfold F193 at h
  refine pe_blk mm_193 1 (s' := (1, [some (.ref b), some (.int a0), none], [.ref b], _, _, _)) rfl ?_
  refine pe_get mm_193 rfl rfl (isT_0 hb _) (by have := isT_lt hb; omega) rfl ?_
  show pm_ev _ _ _ _ _ (4, [some (.ref b), some (.int a0), none], va_rf (M.2.1 b 4) :: [], _, _, _) _
  cases hq3 : M.2.1 b 4 with
  | none => rw [hq3] at h; cases h
  | some p1 =>
    rw [hq3] at h
    dsimp only at h
    by_cases f2 : isD p1
    · rw [if_pos f2] at h
      show pm_ev _ _ _ _ _ (4, [some (.ref b), some (.int a0), none], [.ref p1], _, _, _) _
      refine pe_blk mm_193 1 (s' := (5, [some (.ref b), some (.int a0), none], [.int a0, .ref p1], _, _, _)) rfl ?_
      obtain ⟨e1, rfl⟩ : ∃ e1, e = e1 + 1 := ⟨e - 1, by omega⟩
      cases hc6 : F123 n p1 a0 M with
      | none => rw [hc6] at h; cases h
      | some w =>
        obtain ⟨v4, M5⟩ := w
        rw [hc6] at h
        dsimp only at h
        refine pe_virt (al := [.int a0]) (a := p1) (L0 := [some (.ref p1), some (.int a0)]) (r1 := (some (.int v4), 129, 17845, hp M5)) mm_193 rfl rfl rfl mm_123 (isD_0 f2 _) (by have := isD_lt f2; omega) (by decide) rfl (Nat.le_of_ble_eq_true rfl) (Nat.le_of_ble_eq_true rfl) rfl rfl (F123_ev sc n p1 a0 f2 _ e1 (by omega) _ _ hc6) ?_
        show pm_ev _ _ _ _ _ (8, [some (.ref b), some (.int a0), none], [.int v4], _, _, _) _
        refine pe_blk mm_193 2 (s' := (10, [some (.ref b), some (.int a0), some (.int v4)], [.int v4], _, _, _)) rfl ?_
        by_cases q7 : v4 < 0
        · rw [if_pos q7] at h
          refine pe_blk mm_193 1 (s' := (if v4 < 0 then 28 else 13, [some (.ref b), some (.int a0), some (.int v4)], [], _, _, _)) rfl ?_
          rw [if_pos q7]
          exact J193_28_ev sc n b hb (e1 + 1) he a0 _ _ _ _ h
        · rw [if_neg q7] at h
          refine pe_blk mm_193 1 (s' := (if v4 < 0 then 28 else 13, [some (.ref b), some (.int a0), some (.int v4)], [], _, _, _)) rfl ?_
          rw [if_neg q7]
          exact J193_13_ev sc n b hb (e1 + 1) he a0 v4 _ _ _ h
    · rw [if_neg f2] at h
      cases h
def J96_76 (n : Nat) (g0 : Nat) (rec26 : Int32 → Int32 → Mem → Option (Int32 × Mem)) (x3 : Int32) (x4 : Int32) (M : Mem) : Option (Int32 × Mem) :=
  rec26 x3 (x4 + 1) M
set_option maxRecDepth 100000 in
set_option maxHeartbeats 4000000 in
theorem J96_76_ev (sc : Option (Nat × (Nat → Int32))) (n : Nat) (g0 : Nat) (hg0 : isD g0) (e : Nat) (he : 38 ≤ e) (rec26 : Int32 → Int32 → Mem → Option (Int32 × Mem)) (hr26 : ∀ (x3 : Int32) (x4 : Int32) (u2 : Option Value) (u5 : Option Value) (M : Mem) (r : Int32) (M' : Mem), rec26 x3 x4 M = some (r, M') → pm_ev pmT sc e 96 false (26, [some (.ref 7), some (.ref g0), u2, some (.int x3), some (.int x4), u5], [], 129, 17845, hp M) (some (.int r), 129, 17845, hp M')) : ∀ (x3 : Int32) (x4 : Int32) (u2 : Option Value) (u5 : Option Value) (M : Mem) (r : Int32) (M' : Mem), J96_76 n g0 rec26 x3 x4 M = some (r, M') → pm_ev pmT sc e 96 false (76, [some (.ref 7), some (.ref g0), u2, some (.int x3), some (.int x4), u5], [], 129, 17845, hp M) (some (.int r), 129, 17845, hp M') := by
  intro x3 x4 u2 u5 M r M' h
  unfold J96_76 at h
  refine pe_blk mm_96 2 (s' := (26, [some (.ref 7), some (.ref g0), u2, some (.int x3), some (.int (x4 + 1)), u5], [], _, _, _)) rfl ?_
  exact hr26 x3 (x4 + 1) _ _ _ _ _ h
def J96_74 (n : Nat) (g0 : Nat) (M : Mem) : Option (Int32 × Mem) :=
  some (0, M)
set_option maxRecDepth 100000 in
set_option maxHeartbeats 4000000 in
theorem J96_74_ev (sc : Option (Nat × (Nat → Int32))) (n : Nat) (g0 : Nat) (hg0 : isD g0) (e : Nat) (he : 38 ≤ e) : ∀ (u0 : Option Value) (u1 : Option Value) (u2 : Option Value) (u3 : Option Value) (u4 : Option Value) (u5 : Option Value) (M : Mem) (r : Int32) (M' : Mem), J96_74 n g0  M = some (r, M') → pm_ev pmT sc e 96 false (74, [u0, u1, u2, u3, u4, u5], [], 129, 17845, hp M) (some (.int r), 129, 17845, hp M') := by
  intro u0 u1 u2 u3 u4 u5 M r M' h
  unfold J96_74 at h
  refine pe_blk mm_96 1 (s' := (75, [u0, u1, u2, u3, u4, u5], [.int 0], _, _, _)) rfl ?_
  cases h
  exact pe_ret mm_96 rfl rfl
def J96_52 (n : Nat) (g0 : Nat) (rec26 : Int32 → Int32 → Mem → Option (Int32 × Mem)) (x3 : Int32) (x4 : Int32) (x5 : Int32) (M : Mem) : Option (Int32 × Mem) :=
  if x5 = 44 then (J96_76 n g0 rec26 x3 x4 M) else (if x5 = 59 then (J96_76 n g0 rec26 x3 x4 M) else (match F14 n x5 M with | some (v20, M21) => (if v20 = 0 then (J96_74 n g0 M21) else (J96_76 n g0 rec26 x3 x4 M21)) | none => none))
set_option maxRecDepth 100000 in
set_option maxHeartbeats 4000000 in
theorem J96_52_ev (sc : Option (Nat × (Nat → Int32))) (n : Nat) (g0 : Nat) (hg0 : isD g0) (e : Nat) (he : 38 ≤ e) (rec26 : Int32 → Int32 → Mem → Option (Int32 × Mem)) (hr26 : ∀ (x3 : Int32) (x4 : Int32) (u2 : Option Value) (u5 : Option Value) (M : Mem) (r : Int32) (M' : Mem), rec26 x3 x4 M = some (r, M') → pm_ev pmT sc e 96 false (26, [some (.ref 7), some (.ref g0), u2, some (.int x3), some (.int x4), u5], [], 129, 17845, hp M) (some (.int r), 129, 17845, hp M')) : ∀ (x3 : Int32) (x4 : Int32) (x5 : Int32) (u2 : Option Value) (M : Mem) (r : Int32) (M' : Mem), J96_52 n g0 rec26 x3 x4 x5 M = some (r, M') → pm_ev pmT sc e 96 false (52, [some (.ref 7), some (.ref g0), u2, some (.int x3), some (.int x4), some (.int x5)], [], 129, 17845, hp M) (some (.int r), 129, 17845, hp M') := by
  intro x3 x4 x5 u2 M r M' h
  unfold J96_52 at h
  refine pe_blk mm_96 2 (s' := (56, [some (.ref 7), some (.ref g0), u2, some (.int x3), some (.int x4), some (.int x5)], [.int 44, .int x5], _, _, _)) rfl ?_
  by_cases q18 : x5 = 44
  · rw [if_pos q18] at h
    refine pe_blk mm_96 1 (s' := (if x5 = 44 then 76 else 59, [some (.ref 7), some (.ref g0), u2, some (.int x3), some (.int x4), some (.int x5)], [], _, _, _)) rfl ?_
    rw [if_pos q18]
    exact J96_76_ev sc n g0 hg0 e he rec26 hr26 x3 x4 _ _ _ _ _ h
  · rw [if_neg q18] at h
    refine pe_blk mm_96 1 (s' := (if x5 = 44 then 76 else 59, [some (.ref 7), some (.ref g0), u2, some (.int x3), some (.int x4), some (.int x5)], [], _, _, _)) rfl ?_
    rw [if_neg q18]
    refine pe_blk mm_96 2 (s' := (63, [some (.ref 7), some (.ref g0), u2, some (.int x3), some (.int x4), some (.int x5)], [.int 59, .int x5], _, _, _)) rfl ?_
    by_cases q19 : x5 = 59
    · rw [if_pos q19] at h
      refine pe_blk mm_96 1 (s' := (if x5 = 59 then 76 else 66, [some (.ref 7), some (.ref g0), u2, some (.int x3), some (.int x4), some (.int x5)], [], _, _, _)) rfl ?_
      rw [if_pos q19]
      exact J96_76_ev sc n g0 hg0 e he rec26 hr26 x3 x4 _ _ _ _ _ h
    · rw [if_neg q19] at h
      refine pe_blk mm_96 1 (s' := (if x5 = 59 then 76 else 66, [some (.ref 7), some (.ref g0), u2, some (.int x3), some (.int x4), some (.int x5)], [], _, _, _)) rfl ?_
      rw [if_neg q19]
      refine pe_blk mm_96 1 (s' := (68, [some (.ref 7), some (.ref g0), u2, some (.int x3), some (.int x4), some (.int x5)], [.int x5], _, _, _)) rfl ?_
      obtain ⟨e1, rfl⟩ : ∃ e1, e = e1 + 1 := ⟨e - 1, by omega⟩
      cases hc22 : F14 n x5 M with
      | none => rw [hc22] at h; cases h
      | some w =>
        obtain ⟨v20, M21⟩ := w
        rw [hc22] at h
        dsimp only at h
        refine pe_stat (al := [.int x5]) (L0 := [some (.int x5)]) (r1 := (some (.int v20), 129, 17845, hp M21)) mm_96 rfl rfl rfl mm_14 rfl (Nat.le_of_ble_eq_true rfl) (Nat.le_of_ble_eq_true rfl) rfl rfl (F14_ev sc n x5 _ e1 (by omega) _ _ hc22) ?_
        show pm_ev _ _ _ _ _ (71, [some (.ref 7), some (.ref g0), u2, some (.int x3), some (.int x4), some (.int x5)], [.int v20], _, _, _) _
        by_cases q23 : v20 = 0
        · rw [if_pos q23] at h
          refine pe_blk mm_96 1 (s' := (if v20 = 0 then 74 else 76, [some (.ref 7), some (.ref g0), u2, some (.int x3), some (.int x4), some (.int x5)], [], _, _, _)) rfl ?_
          rw [if_pos q23]
          exact J96_74_ev sc n g0 hg0 (e1 + 1) he _ _ _ _ _ _ _ _ _ h
        · rw [if_neg q23] at h
          refine pe_blk mm_96 1 (s' := (if v20 = 0 then 74 else 76, [some (.ref 7), some (.ref g0), u2, some (.int x3), some (.int x4), some (.int x5)], [], _, _, _)) rfl ?_
          rw [if_neg q23]
          exact J96_76_ev sc n g0 hg0 (e1 + 1) he rec26 hr26 x3 x4 _ _ _ _ _ h
def L96_26 (n : Nat) (g0 : Nat) : Nat → Int32 → Int32 → Mem → Option (Int32 × Mem)
  | 0, _, _, _ => none
  | k + 1, x3, x4, M => if x3 < x4 then (some (1, M)) else (match F109 n g0 x4 M with | some (v11, M12) => (match F188 n 8 x4 M12 with | some (v14, M15) => (if v14 ≤ 0 then (J96_76 n g0 (L96_26 n g0 k) x3 x4 M15) else (J96_52 n g0 (L96_26 n g0 k) x3 x4 v11 M15)) | none => none) | none => none)
set_option maxRecDepth 100000 in
set_option maxHeartbeats 4000000 in
theorem L96_26_ev (sc : Option (Nat × (Nat → Int32))) (n : Nat) (g0 : Nat) (hg0 : isD g0) (e : Nat) (he : 38 ≤ e) : ∀ k : Nat, ∀ (x3 : Int32) (x4 : Int32) (u2 : Option Value) (u5 : Option Value) (M : Mem) (r : Int32) (M' : Mem), L96_26 n g0 k x3 x4 M = some (r, M') → pm_ev pmT sc e 96 false (26, [some (.ref 7), some (.ref g0), u2, some (.int x3), some (.int x4), u5], [], 129, 17845, hp M) (some (.int r), 129, 17845, hp M') := by
  intro k
  induction k with
  | zero => intro x3 x4 u2 u5 M r M' h; cases h
  | succ k hr26 =>
    intro x3 x4 u2 u5 M r M' h
    rw [L96_26] at h
    refine pe_blk mm_96 2 (s' := (29, [some (.ref 7), some (.ref g0), u2, some (.int x3), some (.int x4), u5], [.int x3, .int x4], _, _, _)) rfl ?_
    by_cases q10 : x3 < x4
    · rw [if_pos q10] at h
      refine pe_blk mm_96 1 (s' := (if x3 < x4 then 82 else 32, [some (.ref 7), some (.ref g0), u2, some (.int x3), some (.int x4), u5], [], _, _, _)) rfl ?_
      rw [if_pos q10]
      refine pe_blk mm_96 1 (s' := (83, [some (.ref 7), some (.ref g0), u2, some (.int x3), some (.int x4), u5], [.int 1], _, _, _)) rfl ?_
      cases h
      exact pe_ret mm_96 rfl rfl
    · rw [if_neg q10] at h
      refine pe_blk mm_96 1 (s' := (if x3 < x4 then 82 else 32, [some (.ref 7), some (.ref g0), u2, some (.int x3), some (.int x4), u5], [], _, _, _)) rfl ?_
      rw [if_neg q10]
      refine pe_blk mm_96 2 (s' := (35, [some (.ref 7), some (.ref g0), u2, some (.int x3), some (.int x4), u5], [.int x4, .ref g0], _, _, _)) rfl ?_
      obtain ⟨e1, rfl⟩ : ∃ e1, e = e1 + 1 := ⟨e - 1, by omega⟩
      cases hc13 : F109 n g0 x4 M with
      | none => rw [hc13] at h; cases h
      | some w =>
        obtain ⟨v11, M12⟩ := w
        rw [hc13] at h
        dsimp only at h
        refine pe_virt (al := [.int x4]) (a := g0) (L0 := [some (.ref g0), some (.int x4)]) (r1 := (some (.int v11), 129, 17845, hp M12)) mm_96 rfl rfl rfl mm_109 (isD_0 hg0 _) (by have := isD_lt hg0; omega) (by decide) rfl (Nat.le_of_ble_eq_true rfl) (Nat.le_of_ble_eq_true rfl) rfl rfl (F109_ev sc n g0 x4 hg0 _ e1 (by omega) _ _ hc13) ?_
        show pm_ev _ _ _ _ _ (38, [some (.ref 7), some (.ref g0), u2, some (.int x3), some (.int x4), u5], [.int v11], _, _, _) _
        refine pe_blk mm_96 2 (s' := (41, [some (.ref 7), some (.ref g0), u2, some (.int x3), some (.int x4), some (.int v11)], [.ref 7], _, _, _)) rfl ?_
        refine pe_get mm_96 rfl rfl rfl (by decide) rfl ?_
        refine pe_blk mm_96 1 (s' := (46, [some (.ref 7), some (.ref g0), u2, some (.int x3), some (.int x4), some (.int v11)], [.int x4, .ref 8], _, _, _)) rfl ?_
        skip
        cases hc16 : F188 n 8 x4 M12 with
        | none => rw [hc16] at h; cases h
        | some w =>
          obtain ⟨v14, M15⟩ := w
          rw [hc16] at h
          dsimp only at h
          refine pe_virt (al := [.int x4]) (a := 8) (L0 := [some (.ref 8), some (.int x4)]) (r1 := (some (.int v14), 129, 17845, hp M15)) mm_96 rfl rfl rfl mm_188 rfl (by decide) (by decide) rfl (Nat.le_of_ble_eq_true rfl) (Nat.le_of_ble_eq_true rfl) rfl rfl (F188_ev sc n 8 x4 (by decide) _ e1 (by omega) _ _ hc16) ?_
          show pm_ev _ _ _ _ _ (49, [some (.ref 7), some (.ref g0), u2, some (.int x3), some (.int x4), some (.int v11)], [.int v14], _, _, _) _
          by_cases q17 : v14 ≤ 0
          · rw [if_pos q17] at h
            refine pe_blk mm_96 1 (s' := (if v14 ≤ 0 then 76 else 52, [some (.ref 7), some (.ref g0), u2, some (.int x3), some (.int x4), some (.int v11)], [], _, _, _)) rfl ?_
            rw [if_pos q17]
            exact J96_76_ev sc n g0 hg0 (e1 + 1) he (L96_26 n g0 k) hr26 x3 x4 _ _ _ _ _ h
          · rw [if_neg q17] at h
            refine pe_blk mm_96 1 (s' := (if v14 ≤ 0 then 76 else 52, [some (.ref 7), some (.ref g0), u2, some (.int x3), some (.int x4), some (.int v11)], [], _, _, _)) rfl ?_
            rw [if_neg q17]
            exact J96_52_ev sc n g0 hg0 (e1 + 1) he (L96_26 n g0 k) hr26 x3 x4 v11 _ _ _ _ h
def J96_15 (n : Nat) (g0 : Nat) (x2 : Int32) (x3 : Int32) (M : Mem) : Option (Int32 × Mem) :=
  match F192 n 8 x2 M with | some (v7, M8) => (L96_26 n g0 n x3 0 M8) | none => none
set_option maxRecDepth 100000 in
set_option maxHeartbeats 4000000 in
theorem J96_15_ev (sc : Option (Nat × (Nat → Int32))) (n : Nat) (g0 : Nat) (hg0 : isD g0) (e : Nat) (he : 38 ≤ e) : ∀ (x2 : Int32) (x3 : Int32) (u4 : Option Value) (u5 : Option Value) (M : Mem) (r : Int32) (M' : Mem), J96_15 n g0 x2 x3 M = some (r, M') → pm_ev pmT sc e 96 false (15, [some (.ref 7), some (.ref g0), some (.int x2), some (.int x3), u4, u5], [], 129, 17845, hp M) (some (.int r), 129, 17845, hp M') := by
  intro x2 x3 u4 u5 M r M' h
  unfold J96_15 at h
  refine pe_blk mm_96 1 (s' := (16, [some (.ref 7), some (.ref g0), some (.int x2), some (.int x3), u4, u5], [.ref 7], _, _, _)) rfl ?_
  refine pe_get mm_96 rfl rfl rfl (by decide) rfl ?_
  refine pe_blk mm_96 1 (s' := (20, [some (.ref 7), some (.ref g0), some (.int x2), some (.int x3), u4, u5], [.int x2, .ref 8], _, _, _)) rfl ?_
  obtain ⟨e1, rfl⟩ : ∃ e1, e = e1 + 1 := ⟨e - 1, by omega⟩
  cases hc9 : F192 n 8 x2 M with
  | none => rw [hc9] at h; cases h
  | some w =>
    obtain ⟨v7, M8⟩ := w
    rw [hc9] at h
    dsimp only at h
    refine pe_virt (al := [.int x2]) (a := 8) (L0 := [some (.ref 8), some (.int x2)]) (r1 := (none, 129, 17845, hp M8)) mm_96 rfl rfl rfl mm_192 rfl (by decide) (by decide) rfl (Nat.le_of_ble_eq_true rfl) (Nat.le_of_ble_eq_true rfl) rfl rfl (F192_ev sc n 8 x2 (by decide) _ e1 (by omega) _ _ hc9) ?_
    show pm_ev _ _ _ _ _ (23, [some (.ref 7), some (.ref g0), some (.int x2), some (.int x3), u4, u5], [], _, _, _) _
    refine pe_blk mm_96 2 (s' := (26, [some (.ref 7), some (.ref g0), some (.int x2), some (.int x3), some (.int 0), u5], [], _, _, _)) rfl ?_
    exact L96_26_ev sc n g0 hg0 (e1 + 1) he n x3 0 _ _ _ _ _ h
/-- ArmExpander$Checker.isKeptApart -/
def F96 (n : Nat) (g0 : Nat) (a1 : Int32) (a2 : Int32) (M : Mem) : Option (Int32 × Mem) :=
  match F187 n 8 g0 M with | some (v1, M2) => (match F190 n 8 M2 with | some (v4, M5) => (J96_15 n g0 a1 a2 M5) | none => none) | none => none
set_option maxRecDepth 100000 in
set_option maxHeartbeats 4000000 in
theorem F96_ev (sc : Option (Nat × (Nat → Int32))) (n : Nat) (g0 : Nat) (a1 : Int32) (a2 : Int32) (hg0 : isD g0) (M : Mem) (e : Nat) (he : 38 ≤ e) (r : Int32) (M' : Mem) (h : F96 n g0 a1 a2 M = some (r, M')) : pm_ev pmT sc e 96 false (0, [some (.ref 7), some (.ref g0), some (.int a1), some (.int a2), none, none], [], 129, 17845, hp M) (some (.int r), 129, 17845, hp M') := by
  unfold F96 at h
  refine pe_blk mm_96 1 (s' := (1, [some (.ref 7), some (.ref g0), some (.int a1), some (.int a2), none, none], [.ref 7], _, _, _)) rfl ?_
  refine pe_get mm_96 rfl rfl rfl (by decide) rfl ?_
  refine pe_blk mm_96 1 (s' := (5, [some (.ref 7), some (.ref g0), some (.int a1), some (.int a2), none, none], [.ref g0, .ref 8], _, _, _)) rfl ?_
  obtain ⟨e1, rfl⟩ : ∃ e1, e = e1 + 1 := ⟨e - 1, by omega⟩
  cases hc3 : F187 n 8 g0 M with
  | none => rw [hc3] at h; cases h
  | some w =>
    obtain ⟨v1, M2⟩ := w
    rw [hc3] at h
    dsimp only at h
    refine pe_virt (al := [.ref g0]) (a := 8) (L0 := [some (.ref 8), some (.ref g0)]) (r1 := (none, 129, 17845, hp M2)) mm_96 rfl rfl rfl mm_187 rfl (by decide) (by decide) rfl (Nat.le_of_ble_eq_true rfl) (Nat.le_of_ble_eq_true rfl) rfl rfl (F187_ev sc n 8 g0 (by decide) hg0 _ e1 (by omega) _ _ hc3) ?_
    show pm_ev _ _ _ _ _ (8, [some (.ref 7), some (.ref g0), some (.int a1), some (.int a2), none, none], [], _, _, _) _
    refine pe_blk mm_96 1 (s' := (9, [some (.ref 7), some (.ref g0), some (.int a1), some (.int a2), none, none], [.ref 7], _, _, _)) rfl ?_
    refine pe_get mm_96 rfl rfl rfl (by decide) rfl ?_
    skip
    cases hc6 : F190 n 8 M2 with
    | none => rw [hc6] at h; cases h
    | some w =>
      obtain ⟨v4, M5⟩ := w
      rw [hc6] at h
      dsimp only at h
      refine pe_virt (al := []) (a := 8) (L0 := [some (.ref 8)]) (r1 := (none, 129, 17845, hp M5)) mm_96 rfl rfl rfl mm_190 rfl (by decide) (by decide) rfl (Nat.le_of_ble_eq_true rfl) (Nat.le_of_ble_eq_true rfl) rfl rfl (F190_ev sc n 8 (by decide) _ e1 (by omega) _ _ hc6) ?_
      show pm_ev _ _ _ _ _ (15, [some (.ref 7), some (.ref g0), some (.int a1), some (.int a2), none, none], [], _, _, _) _
      exact J96_15_ev sc n g0 hg0 (e1 + 1) he a1 a2 _ _ _ _ _ h
def J154_69 (n : Nat) (x1 : Int32) (M : Mem) : Option (Unit × Mem) :=
  match M.2.1 16 2 with | some p29 => (if isT p29 then (match F192 n p29 (x1 + 4) M with | some (v32, M33) => (match F156 n M33 with | some (v35, M36) => (some ((), M36)) | none => none) | none => none) else none) | none => none
set_option maxRecDepth 100000 in
set_option maxHeartbeats 4000000 in
theorem J154_69_ev (sc : Option (Nat × (Nat → Int32))) (n : Nat)  (e : Nat) (he : 38 ≤ e) : ∀ (x1 : Int32) (u2 : Option Value) (u3 : Option Value) (u4 : Option Value) (u5 : Option Value) (M : Mem) (r : Unit) (M' : Mem), J154_69 n x1 M = some (r, M') → pm_ev pmT sc e 154 false (69, [some (.ref 16), some (.int x1), u2, u3, u4, u5], [], 129, 17845, hp M) (none, 129, 17845, hp M') := by
  intro x1 u2 u3 u4 u5 M r M' h
  unfold J154_69 at h
  refine pe_blk mm_154 1 (s' := (70, [some (.ref 16), some (.int x1), u2, u3, u4, u5], [.ref 16], _, _, _)) rfl ?_
  refine pe_get mm_154 rfl rfl rfl (by decide) rfl ?_
  show pm_ev _ _ _ _ _ (73, [some (.ref 16), some (.int x1), u2, u3, u4, u5], va_rf (M.2.1 16 2) :: [], _, _, _) _
  cases hq31 : M.2.1 16 2 with
  | none => rw [hq31] at h; cases h
  | some p29 =>
    rw [hq31] at h
    dsimp only at h
    by_cases f30 : isT p29
    · rw [if_pos f30] at h
      show pm_ev _ _ _ _ _ (73, [some (.ref 16), some (.int x1), u2, u3, u4, u5], [.ref p29], _, _, _) _
      refine pe_blk mm_154 3 (s' := (76, [some (.ref 16), some (.int x1), u2, u3, u4, u5], [.int (x1 + 4), .ref p29], _, _, _)) rfl ?_
      obtain ⟨e1, rfl⟩ : ∃ e1, e = e1 + 1 := ⟨e - 1, by omega⟩
      cases hc34 : F192 n p29 (x1 + 4) M with
      | none => rw [hc34] at h; cases h
      | some w =>
        obtain ⟨v32, M33⟩ := w
        rw [hc34] at h
        dsimp only at h
        refine pe_virt (al := [.int (x1 + 4)]) (a := p29) (L0 := [some (.ref p29), some (.int (x1 + 4))]) (r1 := (none, 129, 17845, hp M33)) mm_154 rfl rfl rfl mm_192 (isT_0 f30 _) (by have := isT_lt f30; omega) (by decide) rfl (Nat.le_of_ble_eq_true rfl) (Nat.le_of_ble_eq_true rfl) rfl rfl (F192_ev sc n p29 (x1 + 4) f30 _ e1 (by omega) _ _ hc34) ?_
        show pm_ev _ _ _ _ _ (79, [some (.ref 16), some (.int x1), u2, u3, u4, u5], [], _, _, _) _
        refine pe_blk mm_154 1 (s' := (80, [some (.ref 16), some (.int x1), u2, u3, u4, u5], [.ref 16], _, _, _)) rfl ?_
        skip
        cases hc37 : F156 n M33 with
        | none => rw [hc37] at h; cases h
        | some w =>
          obtain ⟨v35, M36⟩ := w
          rw [hc37] at h
          dsimp only at h
          refine pe_virt (al := []) (a := 16) (L0 := [some (.ref 16), none]) (r1 := (none, 129, 17845, hp M36)) mm_154 rfl rfl rfl mm_156 rfl (by decide) (by decide) rfl (Nat.le_of_ble_eq_true rfl) (Nat.le_of_ble_eq_true rfl) rfl rfl (F156_ev sc n _ e1 (by omega) _ _ hc37) ?_
          show pm_ev _ _ _ _ _ (83, [some (.ref 16), some (.int x1), u2, u3, u4, u5], [], _, _, _) _
          cases h
          exact pe_ret mm_154 rfl rfl
    · rw [if_neg f30] at h
      cases h
def J154_57 (n : Nat) (x1 : Int32) (M : Mem) : Option (Unit × Mem) :=
  match M.2.1 16 2 with | some p20 => (if isT p20 then (match M.2.1 16 1 with | some p23 => (if isT p23 then (match F191 n p20 p23 x1 M with | some (v26, M27) => (J154_69 n x1 M27) | none => none) else none) | none => none) else none) | none => none
set_option maxRecDepth 100000 in
set_option maxHeartbeats 4000000 in
theorem J154_57_ev (sc : Option (Nat × (Nat → Int32))) (n : Nat)  (e : Nat) (he : 38 ≤ e) : ∀ (x1 : Int32) (u2 : Option Value) (u3 : Option Value) (u4 : Option Value) (u5 : Option Value) (M : Mem) (r : Unit) (M' : Mem), J154_57 n x1 M = some (r, M') → pm_ev pmT sc e 154 false (57, [some (.ref 16), some (.int x1), u2, u3, u4, u5], [], 129, 17845, hp M) (none, 129, 17845, hp M') := by
  intro x1 u2 u3 u4 u5 M r M' h
  unfold J154_57 at h
  refine pe_blk mm_154 1 (s' := (58, [some (.ref 16), some (.int x1), u2, u3, u4, u5], [.ref 16], _, _, _)) rfl ?_
  refine pe_get mm_154 rfl rfl rfl (by decide) rfl ?_
  show pm_ev _ _ _ _ _ (61, [some (.ref 16), some (.int x1), u2, u3, u4, u5], va_rf (M.2.1 16 2) :: [], _, _, _) _
  cases hq22 : M.2.1 16 2 with
  | none => rw [hq22] at h; cases h
  | some p20 =>
    rw [hq22] at h
    dsimp only at h
    by_cases f21 : isT p20
    · rw [if_pos f21] at h
      show pm_ev _ _ _ _ _ (61, [some (.ref 16), some (.int x1), u2, u3, u4, u5], [.ref p20], _, _, _) _
      refine pe_blk mm_154 1 (s' := (62, [some (.ref 16), some (.int x1), u2, u3, u4, u5], [.ref 16, .ref p20], _, _, _)) rfl ?_
      refine pe_get mm_154 rfl rfl rfl (by decide) rfl ?_
      show pm_ev _ _ _ _ _ (65, [some (.ref 16), some (.int x1), u2, u3, u4, u5], va_rf (M.2.1 16 1) :: [.ref p20], _, _, _) _
      cases hq25 : M.2.1 16 1 with
      | none => rw [hq25] at h; cases h
      | some p23 =>
        rw [hq25] at h
        dsimp only at h
        by_cases f24 : isT p23
        · rw [if_pos f24] at h
          show pm_ev _ _ _ _ _ (65, [some (.ref 16), some (.int x1), u2, u3, u4, u5], [.ref p23, .ref p20], _, _, _) _
          refine pe_blk mm_154 1 (s' := (66, [some (.ref 16), some (.int x1), u2, u3, u4, u5], [.int x1, .ref p23, .ref p20], _, _, _)) rfl ?_
          obtain ⟨e1, rfl⟩ : ∃ e1, e = e1 + 1 := ⟨e - 1, by omega⟩
          cases hc28 : F191 n p20 p23 x1 M with
          | none => rw [hc28] at h; cases h
          | some w =>
            obtain ⟨v26, M27⟩ := w
            rw [hc28] at h
            dsimp only at h
            refine pe_virt (al := [.int x1, .ref p23]) (a := p20) (L0 := [some (.ref p20), some (.ref p23), some (.int x1), none]) (r1 := (none, 129, 17845, hp M27)) mm_154 rfl rfl rfl mm_191 (isT_0 f21 _) (by have := isT_lt f21; omega) (by decide) rfl (Nat.le_of_ble_eq_true rfl) (Nat.le_of_ble_eq_true rfl) rfl rfl (F191_ev sc n p20 p23 x1 f21 f24 _ e1 (by omega) _ _ hc28) ?_
            show pm_ev _ _ _ _ _ (69, [some (.ref 16), some (.int x1), u2, u3, u4, u5], [], _, _, _) _
            exact J154_69_ev sc n (e1 + 1) he x1 _ _ _ _ _ _ _ h
        · rw [if_neg f24] at h
          cases h
    · rw [if_neg f21] at h
      cases h
def J154_32 (n : Nat) (x1 : Int32) (x2 : Int32) (x3 : Int32) (s0 : Int32) (M : Mem) : Option (Unit × Mem) :=
  match F179 n x1 s0 x2 x3 M with | some (v8, M9) => (match M9.2.1 16 2 with | some p11 => (if isT p11 then (match M9.2.1 16 3 with | some p14 => (if isD p14 then (match F187 n p11 p14 M9 with | some (v17, M18) => (J154_57 n x1 M18) | none => none) else none) | none => none) else none) | none => none) | none => none
set_option maxRecDepth 100000 in
set_option maxHeartbeats 4000000 in
theorem J154_32_ev (sc : Option (Nat × (Nat → Int32))) (n : Nat)  (e : Nat) (he : 38 ≤ e) : ∀ (x1 : Int32) (x2 : Int32) (x3 : Int32) (s0 : Int32) (u4 : Option Value) (u5 : Option Value) (M : Mem) (r : Unit) (M' : Mem), J154_32 n x1 x2 x3 s0 M = some (r, M') → pm_ev pmT sc e 154 false (32, [some (.ref 16), some (.int x1), some (.int x2), some (.int x3), u4, u5], [.int s0], 129, 17845, hp M) (none, 129, 17845, hp M') := by
  intro x1 x2 x3 s0 u4 u5 M r M' h
  unfold J154_32 at h
  refine pe_blk mm_154 2 (s' := (35, [some (.ref 16), some (.int x1), some (.int x2), some (.int x3), u4, some (.int s0)], [.ref 16], _, _, _)) rfl ?_
  refine pe_get mm_154 rfl rfl rfl (by decide) rfl ?_
  refine pe_blk mm_154 4 (s' := (43, [some (.ref 16), some (.int x1), some (.int x2), some (.int x3), u4, some (.int s0)], [.int x3, .int x2, .int s0, .int x1, .ref 17], _, _, _)) rfl ?_
  obtain ⟨e1, rfl⟩ : ∃ e1, e = e1 + 1 := ⟨e - 1, by omega⟩
  cases hc10 : F179 n x1 s0 x2 x3 M with
  | none => rw [hc10] at h; cases h
  | some w =>
    obtain ⟨v8, M9⟩ := w
    rw [hc10] at h
    dsimp only at h
    refine pe_virt (al := [.int x3, .int x2, .int s0, .int x1]) (a := 17) (L0 := [some (.ref 17), some (.int x1), some (.int s0), some (.int x2), some (.int x3)]) (r1 := (none, 129, 17845, hp M9)) mm_154 rfl rfl rfl mm_179 rfl (by decide) (by decide) rfl (Nat.le_of_ble_eq_true rfl) (Nat.le_of_ble_eq_true rfl) rfl rfl (F179_ev sc n x1 s0 x2 x3 _ e1 (by omega) _ _ hc10) ?_
    show pm_ev _ _ _ _ _ (46, [some (.ref 16), some (.int x1), some (.int x2), some (.int x3), u4, some (.int s0)], [], _, _, _) _
    refine pe_blk mm_154 1 (s' := (47, [some (.ref 16), some (.int x1), some (.int x2), some (.int x3), u4, some (.int s0)], [.ref 16], _, _, _)) rfl ?_
    refine pe_get mm_154 rfl rfl rfl (by decide) rfl ?_
    show pm_ev _ _ _ _ _ (50, [some (.ref 16), some (.int x1), some (.int x2), some (.int x3), u4, some (.int s0)], va_rf (M9.2.1 16 2) :: [], _, _, _) _
    cases hq13 : M9.2.1 16 2 with
    | none => rw [hq13] at h; cases h
    | some p11 =>
      rw [hq13] at h
      dsimp only at h
      by_cases f12 : isT p11
      · rw [if_pos f12] at h
        show pm_ev _ _ _ _ _ (50, [some (.ref 16), some (.int x1), some (.int x2), some (.int x3), u4, some (.int s0)], [.ref p11], _, _, _) _
        refine pe_blk mm_154 1 (s' := (51, [some (.ref 16), some (.int x1), some (.int x2), some (.int x3), u4, some (.int s0)], [.ref 16, .ref p11], _, _, _)) rfl ?_
        refine pe_get mm_154 rfl rfl rfl (by decide) rfl ?_
        show pm_ev _ _ _ _ _ (54, [some (.ref 16), some (.int x1), some (.int x2), some (.int x3), u4, some (.int s0)], va_rf (M9.2.1 16 3) :: [.ref p11], _, _, _) _
        cases hq16 : M9.2.1 16 3 with
        | none => rw [hq16] at h; cases h
        | some p14 =>
          rw [hq16] at h
          dsimp only at h
          by_cases f15 : isD p14
          · rw [if_pos f15] at h
            show pm_ev _ _ _ _ _ (54, [some (.ref 16), some (.int x1), some (.int x2), some (.int x3), u4, some (.int s0)], [.ref p14, .ref p11], _, _, _) _
            skip
            cases hc19 : F187 n p11 p14 M9 with
            | none => rw [hc19] at h; cases h
            | some w =>
              obtain ⟨v17, M18⟩ := w
              rw [hc19] at h
              dsimp only at h
              refine pe_virt (al := [.ref p14]) (a := p11) (L0 := [some (.ref p11), some (.ref p14)]) (r1 := (none, 129, 17845, hp M18)) mm_154 rfl rfl rfl mm_187 (isT_0 f12 _) (by have := isT_lt f12; omega) (by decide) rfl (Nat.le_of_ble_eq_true rfl) (Nat.le_of_ble_eq_true rfl) rfl rfl (F187_ev sc n p11 p14 f12 f15 _ e1 (by omega) _ _ hc19) ?_
              show pm_ev _ _ _ _ _ (57, [some (.ref 16), some (.int x1), some (.int x2), some (.int x3), u4, some (.int s0)], [], _, _, _) _
              exact J154_57_ev sc n (e1 + 1) he x1 _ _ _ _ _ _ _ h
          · rw [if_neg f15] at h
            cases h
      · rw [if_neg f12] at h
        cases h
def J154_16 (n : Nat) (x1 : Int32) (x2 : Int32) (x3 : Int32) (M : Mem) : Option (Unit × Mem) :=
  J154_32 n x1 x2 x3 0 M
set_option maxRecDepth 100000 in
set_option maxHeartbeats 4000000 in
theorem J154_16_ev (sc : Option (Nat × (Nat → Int32))) (n : Nat)  (e : Nat) (he : 38 ≤ e) : ∀ (x1 : Int32) (x2 : Int32) (x3 : Int32) (u4 : Option Value) (u5 : Option Value) (M : Mem) (r : Unit) (M' : Mem), J154_16 n x1 x2 x3 M = some (r, M') → pm_ev pmT sc e 154 false (16, [some (.ref 16), some (.int x1), some (.int x2), some (.int x3), u4, u5], [], 129, 17845, hp M) (none, 129, 17845, hp M') := by
  intro x1 x2 x3 u4 u5 M r M' h
  unfold J154_16 at h
  refine pe_blk mm_154 2 (s' := (32, [some (.ref 16), some (.int x1), some (.int x2), some (.int x3), u4, u5], [.int 0], _, _, _)) rfl ?_
  exact J154_32_ev sc n e he x1 x2 x3 0 _ _ _ _ _ h
def J154_20 (n : Nat) (x1 : Int32) (x2 : Int32) (x3 : Int32) (x4 : Int32) (M : Mem) : Option (Unit × Mem) :=
  match M.2.1 16 1 with | some p38 => (if isT p38 then (match F189 n p38 x1 x4 M with | some (v41, M42) => (J154_32 n x1 x2 x3 (v41 - 1) M42) | none => none) else none) | none => none
set_option maxRecDepth 100000 in
set_option maxHeartbeats 4000000 in
theorem J154_20_ev (sc : Option (Nat × (Nat → Int32))) (n : Nat)  (e : Nat) (he : 38 ≤ e) : ∀ (x1 : Int32) (x2 : Int32) (x3 : Int32) (x4 : Int32) (u5 : Option Value) (M : Mem) (r : Unit) (M' : Mem), J154_20 n x1 x2 x3 x4 M = some (r, M') → pm_ev pmT sc e 154 false (20, [some (.ref 16), some (.int x1), some (.int x2), some (.int x3), some (.int x4), u5], [], 129, 17845, hp M) (none, 129, 17845, hp M') := by
  intro x1 x2 x3 x4 u5 M r M' h
  unfold J154_20 at h
  refine pe_blk mm_154 1 (s' := (21, [some (.ref 16), some (.int x1), some (.int x2), some (.int x3), some (.int x4), u5], [.ref 16], _, _, _)) rfl ?_
  refine pe_get mm_154 rfl rfl rfl (by decide) rfl ?_
  show pm_ev _ _ _ _ _ (24, [some (.ref 16), some (.int x1), some (.int x2), some (.int x3), some (.int x4), u5], va_rf (M.2.1 16 1) :: [], _, _, _) _
  cases hq40 : M.2.1 16 1 with
  | none => rw [hq40] at h; cases h
  | some p38 =>
    rw [hq40] at h
    dsimp only at h
    by_cases f39 : isT p38
    · rw [if_pos f39] at h
      show pm_ev _ _ _ _ _ (24, [some (.ref 16), some (.int x1), some (.int x2), some (.int x3), some (.int x4), u5], [.ref p38], _, _, _) _
      refine pe_blk mm_154 2 (s' := (27, [some (.ref 16), some (.int x1), some (.int x2), some (.int x3), some (.int x4), u5], [.int x4, .int x1, .ref p38], _, _, _)) rfl ?_
      obtain ⟨e1, rfl⟩ : ∃ e1, e = e1 + 1 := ⟨e - 1, by omega⟩
      cases hc43 : F189 n p38 x1 x4 M with
      | none => rw [hc43] at h; cases h
      | some w =>
        obtain ⟨v41, M42⟩ := w
        rw [hc43] at h
        dsimp only at h
        refine pe_virt (al := [.int x4, .int x1]) (a := p38) (L0 := [some (.ref p38), some (.int x1), some (.int x4)]) (r1 := (some (.int v41), 129, 17845, hp M42)) mm_154 rfl rfl rfl mm_189 (isT_0 f39 _) (by have := isT_lt f39; omega) (by decide) rfl (Nat.le_of_ble_eq_true rfl) (Nat.le_of_ble_eq_true rfl) rfl rfl (F189_ev sc n p38 x1 x4 f39 _ e1 (by omega) _ _ hc43) ?_
        show pm_ev _ _ _ _ _ (30, [some (.ref 16), some (.int x1), some (.int x2), some (.int x3), some (.int x4), u5], [.int v41], _, _, _) _
        refine pe_blk mm_154 2 (s' := (32, [some (.ref 16), some (.int x1), some (.int x2), some (.int x3), some (.int x4), u5], [.int (v41 - 1)], _, _, _)) rfl ?_
        exact J154_32_ev sc n (e1 + 1) he x1 x2 x3 (v41 - 1) _ _ _ _ _ h
    · rw [if_neg f39] at h
      cases h
/-- ArmExpander$Matcher.take -/
def F154 (n : Nat) (a0 : Int32) (a1 : Int32) (a2 : Int32) (M : Mem) : Option (Unit × Mem) :=
  match M.2.1 16 3 with | some p1 => (if isD p1 then (match F124 n p1 a0 M with | some (v4, M5) => (if v4 = (-1) then (J154_16 n a0 a1 a2 M5) else (J154_20 n a0 a1 a2 v4 M5)) | none => none) else none) | none => none
set_option maxRecDepth 100000 in
set_option maxHeartbeats 4000000 in
theorem F154_ev (sc : Option (Nat × (Nat → Int32))) (n : Nat) (a0 : Int32) (a1 : Int32) (a2 : Int32)  (M : Mem) (e : Nat) (he : 38 ≤ e) (r : Unit) (M' : Mem) (h : F154 n a0 a1 a2 M = some (r, M')) : pm_ev pmT sc e 154 false (0, [some (.ref 16), some (.int a0), some (.int a1), some (.int a2), none, none], [], 129, 17845, hp M) (none, 129, 17845, hp M') := by
  unfold F154 at h
  refine pe_blk mm_154 1 (s' := (1, [some (.ref 16), some (.int a0), some (.int a1), some (.int a2), none, none], [.ref 16], _, _, _)) rfl ?_
  refine pe_get mm_154 rfl rfl rfl (by decide) rfl ?_
  show pm_ev _ _ _ _ _ (4, [some (.ref 16), some (.int a0), some (.int a1), some (.int a2), none, none], va_rf (M.2.1 16 3) :: [], _, _, _) _
  cases hq3 : M.2.1 16 3 with
  | none => rw [hq3] at h; cases h
  | some p1 =>
    rw [hq3] at h
    dsimp only at h
    by_cases f2 : isD p1
    · rw [if_pos f2] at h
      show pm_ev _ _ _ _ _ (4, [some (.ref 16), some (.int a0), some (.int a1), some (.int a2), none, none], [.ref p1], _, _, _) _
      refine pe_blk mm_154 1 (s' := (5, [some (.ref 16), some (.int a0), some (.int a1), some (.int a2), none, none], [.int a0, .ref p1], _, _, _)) rfl ?_
      obtain ⟨e1, rfl⟩ : ∃ e1, e = e1 + 1 := ⟨e - 1, by omega⟩
      cases hc6 : F124 n p1 a0 M with
      | none => rw [hc6] at h; cases h
      | some w =>
        obtain ⟨v4, M5⟩ := w
        rw [hc6] at h
        dsimp only at h
        refine pe_virt (al := [.int a0]) (a := p1) (L0 := [some (.ref p1), some (.int a0), none]) (r1 := (some (.int v4), 129, 17845, hp M5)) mm_154 rfl rfl rfl mm_124 (isD_0 f2 _) (by have := isD_lt f2; omega) (by decide) rfl (Nat.le_of_ble_eq_true rfl) (Nat.le_of_ble_eq_true rfl) rfl rfl (F124_ev sc n p1 a0 f2 _ e1 (by omega) _ _ hc6) ?_
        show pm_ev _ _ _ _ _ (8, [some (.ref 16), some (.int a0), some (.int a1), some (.int a2), none, none], [.int v4], _, _, _) _
        refine pe_blk mm_154 3 (s' := (13, [some (.ref 16), some (.int a0), some (.int a1), some (.int a2), some (.int v4), none], [.int (-1), .int v4], _, _, _)) rfl ?_
        by_cases q7 : v4 = (-1)
        · rw [if_pos q7] at h
          refine pe_blk mm_154 1 (s' := (if v4 = (-1) then 16 else 20, [some (.ref 16), some (.int a0), some (.int a1), some (.int a2), some (.int v4), none], [], _, _, _)) rfl ?_
          rw [if_pos q7]
          exact J154_16_ev sc n (e1 + 1) he a0 a1 a2 _ _ _ _ _ h
        · rw [if_neg q7] at h
          refine pe_blk mm_154 1 (s' := (if v4 = (-1) then 16 else 20, [some (.ref 16), some (.int a0), some (.int a1), some (.int a2), some (.int v4), none], [], _, _, _)) rfl ?_
          rw [if_neg q7]
          exact J154_20_ev sc n (e1 + 1) he a0 a1 a2 v4 _ _ _ _ h
    · rw [if_neg f2] at h
      cases h
def J155_102 (n : Nat) (rec16 : Int32 → Int32 → Mem → Option (Unit × Mem)) (x1 : Int32) (x2 : Int32) (M : Mem) : Option (Unit × Mem) :=
  rec16 x1 (x2 + 1) M
set_option maxRecDepth 100000 in
set_option maxHeartbeats 4000000 in
theorem J155_102_ev (sc : Option (Nat × (Nat → Int32))) (n : Nat)  (e : Nat) (he : 38 ≤ e) (rec16 : Int32 → Int32 → Mem → Option (Unit × Mem)) (hr16 : ∀ (x1 : Int32) (x2 : Int32) (u3 : Option Value) (M : Mem) (r : Unit) (M' : Mem), rec16 x1 x2 M = some (r, M') → pm_ev pmT sc e 155 false (16, [some (.ref 16), some (.int x1), some (.int x2), u3], [], 129, 17845, hp M) (none, 129, 17845, hp M')) : ∀ (x1 : Int32) (x2 : Int32) (u3 : Option Value) (M : Mem) (r : Unit) (M' : Mem), J155_102 n rec16 x1 x2 M = some (r, M') → pm_ev pmT sc e 155 false (102, [some (.ref 16), some (.int x1), some (.int x2), u3], [], 129, 17845, hp M) (none, 129, 17845, hp M') := by
  intro x1 x2 u3 M r M' h
  unfold J155_102 at h
  refine pe_blk mm_155 2 (s' := (16, [some (.ref 16), some (.int x1), some (.int (x2 + 1)), u3], [], _, _, _)) rfl ?_
  exact hr16 x1 (x2 + 1) _ _ _ _ h
def J155_81 (n : Nat) (rec16 : Int32 → Int32 → Mem → Option (Unit × Mem)) (x1 : Int32) (x2 : Int32) (M : Mem) : Option (Unit × Mem) :=
  match M.2.1 16 2 with | some p45 => (if isT p45 then (match F192 n p45 (x2 + 1) M with | some (v48, M49) => (J155_102 n rec16 x1 x2 M49) | none => none) else none) | none => none
set_option maxRecDepth 100000 in
set_option maxHeartbeats 4000000 in
theorem J155_81_ev (sc : Option (Nat × (Nat → Int32))) (n : Nat)  (e : Nat) (he : 38 ≤ e) (rec16 : Int32 → Int32 → Mem → Option (Unit × Mem)) (hr16 : ∀ (x1 : Int32) (x2 : Int32) (u3 : Option Value) (M : Mem) (r : Unit) (M' : Mem), rec16 x1 x2 M = some (r, M') → pm_ev pmT sc e 155 false (16, [some (.ref 16), some (.int x1), some (.int x2), u3], [], 129, 17845, hp M) (none, 129, 17845, hp M')) : ∀ (x1 : Int32) (x2 : Int32) (u3 : Option Value) (M : Mem) (r : Unit) (M' : Mem), J155_81 n rec16 x1 x2 M = some (r, M') → pm_ev pmT sc e 155 false (81, [some (.ref 16), some (.int x1), some (.int x2), u3], [], 129, 17845, hp M) (none, 129, 17845, hp M') := by
  intro x1 x2 u3 M r M' h
  unfold J155_81 at h
  refine pe_blk mm_155 1 (s' := (82, [some (.ref 16), some (.int x1), some (.int x2), u3], [.ref 16], _, _, _)) rfl ?_
  refine pe_get mm_155 rfl rfl rfl (by decide) rfl ?_
  show pm_ev _ _ _ _ _ (85, [some (.ref 16), some (.int x1), some (.int x2), u3], va_rf (M.2.1 16 2) :: [], _, _, _) _
  cases hq47 : M.2.1 16 2 with
  | none => rw [hq47] at h; cases h
  | some p45 =>
    rw [hq47] at h
    dsimp only at h
    by_cases f46 : isT p45
    · rw [if_pos f46] at h
      show pm_ev _ _ _ _ _ (85, [some (.ref 16), some (.int x1), some (.int x2), u3], [.ref p45], _, _, _) _
      refine pe_blk mm_155 3 (s' := (88, [some (.ref 16), some (.int x1), some (.int x2), u3], [.int (x2 + 1), .ref p45], _, _, _)) rfl ?_
      obtain ⟨e1, rfl⟩ : ∃ e1, e = e1 + 1 := ⟨e - 1, by omega⟩
      cases hc50 : F192 n p45 (x2 + 1) M with
      | none => rw [hc50] at h; cases h
      | some w =>
        obtain ⟨v48, M49⟩ := w
        rw [hc50] at h
        dsimp only at h
        refine pe_virt (al := [.int (x2 + 1)]) (a := p45) (L0 := [some (.ref p45), some (.int (x2 + 1))]) (r1 := (none, 129, 17845, hp M49)) mm_155 rfl rfl rfl mm_192 (isT_0 f46 _) (by have := isT_lt f46; omega) (by decide) rfl (Nat.le_of_ble_eq_true rfl) (Nat.le_of_ble_eq_true rfl) rfl rfl (F192_ev sc n p45 (x2 + 1) f46 _ e1 (by omega) _ _ hc50) ?_
        show pm_ev _ _ _ _ _ (91, [some (.ref 16), some (.int x1), some (.int x2), u3], [], _, _, _) _
        refine pe_blk mm_155 1 (s' := (102, [some (.ref 16), some (.int x1), some (.int x2), u3], [], _, _, _)) rfl ?_
        exact J155_102_ev sc n (e1 + 1) he rec16 hr16 x1 x2 _ _ _ _ h
    · rw [if_neg f46] at h
      cases h
def J155_94 (n : Nat) (rec16 : Int32 → Int32 → Mem → Option (Unit × Mem)) (x1 : Int32) (x2 : Int32) (x3 : Int32) (M : Mem) : Option (Unit × Mem) :=
  match M.2.1 16 2 with | some p51 => (if isT p51 then (match F193 n p51 x3 M with | some (v54, M55) => (J155_102 n rec16 x1 x2 M55) | none => none) else none) | none => none
set_option maxRecDepth 100000 in
set_option maxHeartbeats 4000000 in
theorem J155_94_ev (sc : Option (Nat × (Nat → Int32))) (n : Nat)  (e : Nat) (he : 38 ≤ e) (rec16 : Int32 → Int32 → Mem → Option (Unit × Mem)) (hr16 : ∀ (x1 : Int32) (x2 : Int32) (u3 : Option Value) (M : Mem) (r : Unit) (M' : Mem), rec16 x1 x2 M = some (r, M') → pm_ev pmT sc e 155 false (16, [some (.ref 16), some (.int x1), some (.int x2), u3], [], 129, 17845, hp M) (none, 129, 17845, hp M')) : ∀ (x1 : Int32) (x2 : Int32) (x3 : Int32) (M : Mem) (r : Unit) (M' : Mem), J155_94 n rec16 x1 x2 x3 M = some (r, M') → pm_ev pmT sc e 155 false (94, [some (.ref 16), some (.int x1), some (.int x2), some (.int x3)], [], 129, 17845, hp M) (none, 129, 17845, hp M') := by
  intro x1 x2 x3  M r M' h
  unfold J155_94 at h
  refine pe_blk mm_155 1 (s' := (95, [some (.ref 16), some (.int x1), some (.int x2), some (.int x3)], [.ref 16], _, _, _)) rfl ?_
  refine pe_get mm_155 rfl rfl rfl (by decide) rfl ?_
  show pm_ev _ _ _ _ _ (98, [some (.ref 16), some (.int x1), some (.int x2), some (.int x3)], va_rf (M.2.1 16 2) :: [], _, _, _) _
  cases hq53 : M.2.1 16 2 with
  | none => rw [hq53] at h; cases h
  | some p51 =>
    rw [hq53] at h
    dsimp only at h
    by_cases f52 : isT p51
    · rw [if_pos f52] at h
      show pm_ev _ _ _ _ _ (98, [some (.ref 16), some (.int x1), some (.int x2), some (.int x3)], [.ref p51], _, _, _) _
      refine pe_blk mm_155 1 (s' := (99, [some (.ref 16), some (.int x1), some (.int x2), some (.int x3)], [.int x3, .ref p51], _, _, _)) rfl ?_
      obtain ⟨e1, rfl⟩ : ∃ e1, e = e1 + 1 := ⟨e - 1, by omega⟩
      cases hc56 : F193 n p51 x3 M with
      | none => rw [hc56] at h; cases h
      | some w =>
        obtain ⟨v54, M55⟩ := w
        rw [hc56] at h
        dsimp only at h
        refine pe_virt (al := [.int x3]) (a := p51) (L0 := [some (.ref p51), some (.int x3), none]) (r1 := (none, 129, 17845, hp M55)) mm_155 rfl rfl rfl mm_193 (isT_0 f52 _) (by have := isT_lt f52; omega) (by decide) rfl (Nat.le_of_ble_eq_true rfl) (Nat.le_of_ble_eq_true rfl) rfl rfl (F193_ev sc n p51 x3 f52 _ e1 (by omega) _ _ hc56) ?_
        show pm_ev _ _ _ _ _ (102, [some (.ref 16), some (.int x1), some (.int x2), some (.int x3)], [], _, _, _) _
        exact J155_102_ev sc n (e1 + 1) he rec16 hr16 x1 x2 _ _ _ _ h
    · rw [if_neg f52] at h
      cases h
def J155_65 (n : Nat) (rec16 : Int32 → Int32 → Mem → Option (Unit × Mem)) (x1 : Int32) (x2 : Int32) (M : Mem) : Option (Unit × Mem) :=
  match M.2.1 16 3 with | some p38 => (if isD p38 then (match F117 n p38 (x2 - 1) M with | some (v41, M42) => (if v41 = (-1) then (J155_81 n rec16 x1 x2 M42) else (J155_94 n rec16 x1 x2 v41 M42)) | none => none) else none) | none => none
set_option maxRecDepth 100000 in
set_option maxHeartbeats 4000000 in
theorem J155_65_ev (sc : Option (Nat × (Nat → Int32))) (n : Nat)  (e : Nat) (he : 38 ≤ e) (rec16 : Int32 → Int32 → Mem → Option (Unit × Mem)) (hr16 : ∀ (x1 : Int32) (x2 : Int32) (u3 : Option Value) (M : Mem) (r : Unit) (M' : Mem), rec16 x1 x2 M = some (r, M') → pm_ev pmT sc e 155 false (16, [some (.ref 16), some (.int x1), some (.int x2), u3], [], 129, 17845, hp M) (none, 129, 17845, hp M')) : ∀ (x1 : Int32) (x2 : Int32) (u3 : Option Value) (M : Mem) (r : Unit) (M' : Mem), J155_65 n rec16 x1 x2 M = some (r, M') → pm_ev pmT sc e 155 false (65, [some (.ref 16), some (.int x1), some (.int x2), u3], [], 129, 17845, hp M) (none, 129, 17845, hp M') := by
  intro x1 x2 u3 M r M' h
  unfold J155_65 at h
  refine pe_blk mm_155 1 (s' := (66, [some (.ref 16), some (.int x1), some (.int x2), u3], [.ref 16], _, _, _)) rfl ?_
  refine pe_get mm_155 rfl rfl rfl (by decide) rfl ?_
  show pm_ev _ _ _ _ _ (69, [some (.ref 16), some (.int x1), some (.int x2), u3], va_rf (M.2.1 16 3) :: [], _, _, _) _
  cases hq40 : M.2.1 16 3 with
  | none => rw [hq40] at h; cases h
  | some p38 =>
    rw [hq40] at h
    dsimp only at h
    by_cases f39 : isD p38
    · rw [if_pos f39] at h
      show pm_ev _ _ _ _ _ (69, [some (.ref 16), some (.int x1), some (.int x2), u3], [.ref p38], _, _, _) _
      refine pe_blk mm_155 3 (s' := (72, [some (.ref 16), some (.int x1), some (.int x2), u3], [.int (x2 - 1), .ref p38], _, _, _)) rfl ?_
      obtain ⟨e1, rfl⟩ : ∃ e1, e = e1 + 1 := ⟨e - 1, by omega⟩
      cases hc43 : F117 n p38 (x2 - 1) M with
      | none => rw [hc43] at h; cases h
      | some w =>
        obtain ⟨v41, M42⟩ := w
        rw [hc43] at h
        dsimp only at h
        refine pe_virt (al := [.int (x2 - 1)]) (a := p38) (L0 := [some (.ref p38), some (.int (x2 - 1)), none]) (r1 := (some (.int v41), 129, 17845, hp M42)) mm_155 rfl rfl rfl mm_117 (isD_0 f39 _) (by have := isD_lt f39; omega) (by decide) rfl (Nat.le_of_ble_eq_true rfl) (Nat.le_of_ble_eq_true rfl) rfl rfl (F117_ev sc n p38 (x2 - 1) f39 _ e1 (by omega) _ _ hc43) ?_
        show pm_ev _ _ _ _ _ (75, [some (.ref 16), some (.int x1), some (.int x2), u3], [.int v41], _, _, _) _
        refine pe_blk mm_155 3 (s' := (78, [some (.ref 16), some (.int x1), some (.int x2), some (.int v41)], [.int (-1), .int v41], _, _, _)) rfl ?_
        by_cases q44 : v41 = (-1)
        · rw [if_pos q44] at h
          refine pe_blk mm_155 1 (s' := (if v41 = (-1) then 81 else 94, [some (.ref 16), some (.int x1), some (.int x2), some (.int v41)], [], _, _, _)) rfl ?_
          rw [if_pos q44]
          exact J155_81_ev sc n (e1 + 1) he rec16 hr16 x1 x2 _ _ _ _ h
        · rw [if_neg q44] at h
          refine pe_blk mm_155 1 (s' := (if v41 = (-1) then 81 else 94, [some (.ref 16), some (.int x1), some (.int x2), some (.int v41)], [], _, _, _)) rfl ?_
          rw [if_neg q44]
          exact J155_94_ev sc n (e1 + 1) he rec16 hr16 x1 x2 v41 _ _ _ h
    · rw [if_neg f39] at h
      cases h
def J155_47 (n : Nat) (rec16 : Int32 → Int32 → Mem → Option (Unit × Mem)) (x1 : Int32) (x2 : Int32) (M : Mem) : Option (Unit × Mem) :=
  if x1 = 36 then (J155_102 n rec16 x1 x2 M) else (match M.2.1 16 2 with | some p29 => (if isT p29 then (match M.2.1 16 1 with | some p32 => (if isT p32 then (match F191 n p29 p32 x2 M with | some (v35, M36) => (J155_65 n rec16 x1 x2 M36) | none => none) else none) | none => none) else none) | none => none)
set_option maxRecDepth 100000 in
set_option maxHeartbeats 4000000 in
theorem J155_47_ev (sc : Option (Nat × (Nat → Int32))) (n : Nat)  (e : Nat) (he : 38 ≤ e) (rec16 : Int32 → Int32 → Mem → Option (Unit × Mem)) (hr16 : ∀ (x1 : Int32) (x2 : Int32) (u3 : Option Value) (M : Mem) (r : Unit) (M' : Mem), rec16 x1 x2 M = some (r, M') → pm_ev pmT sc e 155 false (16, [some (.ref 16), some (.int x1), some (.int x2), u3], [], 129, 17845, hp M) (none, 129, 17845, hp M')) : ∀ (x1 : Int32) (x2 : Int32) (u3 : Option Value) (M : Mem) (r : Unit) (M' : Mem), J155_47 n rec16 x1 x2 M = some (r, M') → pm_ev pmT sc e 155 false (47, [some (.ref 16), some (.int x1), some (.int x2), u3], [], 129, 17845, hp M) (none, 129, 17845, hp M') := by
  intro x1 x2 u3 M r M' h
  unfold J155_47 at h
  refine pe_blk mm_155 2 (s' := (50, [some (.ref 16), some (.int x1), some (.int x2), u3], [.int 36, .int x1], _, _, _)) rfl ?_
  by_cases q28 : x1 = 36
  · rw [if_pos q28] at h
    refine pe_blk mm_155 1 (s' := (if x1 = 36 then 102 else 53, [some (.ref 16), some (.int x1), some (.int x2), u3], [], _, _, _)) rfl ?_
    rw [if_pos q28]
    exact J155_102_ev sc n e he rec16 hr16 x1 x2 _ _ _ _ h
  · rw [if_neg q28] at h
    refine pe_blk mm_155 1 (s' := (if x1 = 36 then 102 else 53, [some (.ref 16), some (.int x1), some (.int x2), u3], [], _, _, _)) rfl ?_
    rw [if_neg q28]
    refine pe_blk mm_155 1 (s' := (54, [some (.ref 16), some (.int x1), some (.int x2), u3], [.ref 16], _, _, _)) rfl ?_
    refine pe_get mm_155 rfl rfl rfl (by decide) rfl ?_
    show pm_ev _ _ _ _ _ (57, [some (.ref 16), some (.int x1), some (.int x2), u3], va_rf (M.2.1 16 2) :: [], _, _, _) _
    cases hq31 : M.2.1 16 2 with
    | none => rw [hq31] at h; cases h
    | some p29 =>
      rw [hq31] at h
      dsimp only at h
      by_cases f30 : isT p29
      · rw [if_pos f30] at h
        show pm_ev _ _ _ _ _ (57, [some (.ref 16), some (.int x1), some (.int x2), u3], [.ref p29], _, _, _) _
        refine pe_blk mm_155 1 (s' := (58, [some (.ref 16), some (.int x1), some (.int x2), u3], [.ref 16, .ref p29], _, _, _)) rfl ?_
        refine pe_get mm_155 rfl rfl rfl (by decide) rfl ?_
        show pm_ev _ _ _ _ _ (61, [some (.ref 16), some (.int x1), some (.int x2), u3], va_rf (M.2.1 16 1) :: [.ref p29], _, _, _) _
        cases hq34 : M.2.1 16 1 with
        | none => rw [hq34] at h; cases h
        | some p32 =>
          rw [hq34] at h
          dsimp only at h
          by_cases f33 : isT p32
          · rw [if_pos f33] at h
            show pm_ev _ _ _ _ _ (61, [some (.ref 16), some (.int x1), some (.int x2), u3], [.ref p32, .ref p29], _, _, _) _
            refine pe_blk mm_155 1 (s' := (62, [some (.ref 16), some (.int x1), some (.int x2), u3], [.int x2, .ref p32, .ref p29], _, _, _)) rfl ?_
            obtain ⟨e1, rfl⟩ : ∃ e1, e = e1 + 1 := ⟨e - 1, by omega⟩
            cases hc37 : F191 n p29 p32 x2 M with
            | none => rw [hc37] at h; cases h
            | some w =>
              obtain ⟨v35, M36⟩ := w
              rw [hc37] at h
              dsimp only at h
              refine pe_virt (al := [.int x2, .ref p32]) (a := p29) (L0 := [some (.ref p29), some (.ref p32), some (.int x2), none]) (r1 := (none, 129, 17845, hp M36)) mm_155 rfl rfl rfl mm_191 (isT_0 f30 _) (by have := isT_lt f30; omega) (by decide) rfl (Nat.le_of_ble_eq_true rfl) (Nat.le_of_ble_eq_true rfl) rfl rfl (F191_ev sc n p29 p32 x2 f30 f33 _ e1 (by omega) _ _ hc37) ?_
              show pm_ev _ _ _ _ _ (65, [some (.ref 16), some (.int x1), some (.int x2), u3], [], _, _, _) _
              exact J155_65_ev sc n (e1 + 1) he rec16 hr16 x1 x2 _ _ _ _ h
          · rw [if_neg f33] at h
            cases h
      · rw [if_neg f30] at h
        cases h
def J155_35 (n : Nat) (rec16 : Int32 → Int32 → Mem → Option (Unit × Mem)) (x1 : Int32) (x2 : Int32) (M : Mem) : Option (Unit × Mem) :=
  match M.2.1 16 3 with | some p21 => (if isD p21 then (match F109 n p21 x2 M with | some (v24, M25) => (if v24 = x1 then (J155_47 n rec16 x1 x2 M25) else (J155_102 n rec16 x1 x2 M25)) | none => none) else none) | none => none
set_option maxRecDepth 100000 in
set_option maxHeartbeats 4000000 in
theorem J155_35_ev (sc : Option (Nat × (Nat → Int32))) (n : Nat)  (e : Nat) (he : 38 ≤ e) (rec16 : Int32 → Int32 → Mem → Option (Unit × Mem)) (hr16 : ∀ (x1 : Int32) (x2 : Int32) (u3 : Option Value) (M : Mem) (r : Unit) (M' : Mem), rec16 x1 x2 M = some (r, M') → pm_ev pmT sc e 155 false (16, [some (.ref 16), some (.int x1), some (.int x2), u3], [], 129, 17845, hp M) (none, 129, 17845, hp M')) : ∀ (x1 : Int32) (x2 : Int32) (u3 : Option Value) (M : Mem) (r : Unit) (M' : Mem), J155_35 n rec16 x1 x2 M = some (r, M') → pm_ev pmT sc e 155 false (35, [some (.ref 16), some (.int x1), some (.int x2), u3], [], 129, 17845, hp M) (none, 129, 17845, hp M') := by
  intro x1 x2 u3 M r M' h
  unfold J155_35 at h
  refine pe_blk mm_155 1 (s' := (36, [some (.ref 16), some (.int x1), some (.int x2), u3], [.ref 16], _, _, _)) rfl ?_
  refine pe_get mm_155 rfl rfl rfl (by decide) rfl ?_
  show pm_ev _ _ _ _ _ (39, [some (.ref 16), some (.int x1), some (.int x2), u3], va_rf (M.2.1 16 3) :: [], _, _, _) _
  cases hq23 : M.2.1 16 3 with
  | none => rw [hq23] at h; cases h
  | some p21 =>
    rw [hq23] at h
    dsimp only at h
    by_cases f22 : isD p21
    · rw [if_pos f22] at h
      show pm_ev _ _ _ _ _ (39, [some (.ref 16), some (.int x1), some (.int x2), u3], [.ref p21], _, _, _) _
      refine pe_blk mm_155 1 (s' := (40, [some (.ref 16), some (.int x1), some (.int x2), u3], [.int x2, .ref p21], _, _, _)) rfl ?_
      obtain ⟨e1, rfl⟩ : ∃ e1, e = e1 + 1 := ⟨e - 1, by omega⟩
      cases hc26 : F109 n p21 x2 M with
      | none => rw [hc26] at h; cases h
      | some w =>
        obtain ⟨v24, M25⟩ := w
        rw [hc26] at h
        dsimp only at h
        refine pe_virt (al := [.int x2]) (a := p21) (L0 := [some (.ref p21), some (.int x2)]) (r1 := (some (.int v24), 129, 17845, hp M25)) mm_155 rfl rfl rfl mm_109 (isD_0 f22 _) (by have := isD_lt f22; omega) (by decide) rfl (Nat.le_of_ble_eq_true rfl) (Nat.le_of_ble_eq_true rfl) rfl rfl (F109_ev sc n p21 x2 f22 _ e1 (by omega) _ _ hc26) ?_
        show pm_ev _ _ _ _ _ (43, [some (.ref 16), some (.int x1), some (.int x2), u3], [.int v24], _, _, _) _
        refine pe_blk mm_155 1 (s' := (44, [some (.ref 16), some (.int x1), some (.int x2), u3], [.int x1, .int v24], _, _, _)) rfl ?_
        by_cases q27 : v24 = x1
        · rw [if_pos q27] at h
          refine pe_blk mm_155 1 (s' := (if v24 = x1 then 47 else 102, [some (.ref 16), some (.int x1), some (.int x2), u3], [], _, _, _)) rfl ?_
          rw [if_pos q27]
          exact J155_47_ev sc n (e1 + 1) he rec16 hr16 x1 x2 _ _ _ _ h
        · rw [if_neg q27] at h
          refine pe_blk mm_155 1 (s' := (if v24 = x1 then 47 else 102, [some (.ref 16), some (.int x1), some (.int x2), u3], [], _, _, _)) rfl ?_
          rw [if_neg q27]
          exact J155_102_ev sc n (e1 + 1) he rec16 hr16 x1 x2 _ _ _ _ h
    · rw [if_neg f22] at h
      cases h
def L155_16 (n : Nat) : Nat → Int32 → Int32 → Mem → Option (Unit × Mem)
  | 0, _, _, _ => none
  | k + 1, x1, x2, M => if (M.1 16 5) ≤ x2 then (match F156 n M with | some (v11, M12) => (some ((), M12)) | none => none) else (match M.2.1 16 1 with | some p14 => (if isT p14 then (match F188 n p14 x2 M with | some (v17, M18) => (if v17 ≤ 0 then (J155_102 n (L155_16 n k) x1 x2 M18) else (J155_35 n (L155_16 n k) x1 x2 M18)) | none => none) else none) | none => none)
set_option maxRecDepth 100000 in
set_option maxHeartbeats 4000000 in
theorem L155_16_ev (sc : Option (Nat × (Nat → Int32))) (n : Nat)  (e : Nat) (he : 38 ≤ e) : ∀ k : Nat, ∀ (x1 : Int32) (x2 : Int32) (u3 : Option Value) (M : Mem) (r : Unit) (M' : Mem), L155_16 n k x1 x2 M = some (r, M') → pm_ev pmT sc e 155 false (16, [some (.ref 16), some (.int x1), some (.int x2), u3], [], 129, 17845, hp M) (none, 129, 17845, hp M') := by
  intro k
  induction k with
  | zero => intro x1 x2 u3 M r M' h; cases h
  | succ k hr16 =>
    intro x1 x2 u3 M r M' h
    rw [L155_16] at h
    refine pe_blk mm_155 2 (s' := (18, [some (.ref 16), some (.int x1), some (.int x2), u3], [.ref 16, .int x2], _, _, _)) rfl ?_
    refine pe_get mm_155 rfl rfl rfl (by decide) rfl ?_
    by_cases q10 : (M.1 16 5) ≤ x2
    · rw [if_pos q10] at h
      refine pe_blk mm_155 1 (s' := (if (M.1 16 5) ≤ x2 then 108 else 24, [some (.ref 16), some (.int x1), some (.int x2), u3], [], _, _, _)) rfl ?_
      rw [if_pos q10]
      refine pe_blk mm_155 1 (s' := (109, [some (.ref 16), some (.int x1), some (.int x2), u3], [.ref 16], _, _, _)) rfl ?_
      obtain ⟨e1, rfl⟩ : ∃ e1, e = e1 + 1 := ⟨e - 1, by omega⟩
      cases hc13 : F156 n M with
      | none => rw [hc13] at h; cases h
      | some w =>
        obtain ⟨v11, M12⟩ := w
        rw [hc13] at h
        dsimp only at h
        refine pe_virt (al := []) (a := 16) (L0 := [some (.ref 16), none]) (r1 := (none, 129, 17845, hp M12)) mm_155 rfl rfl rfl mm_156 rfl (by decide) (by decide) rfl (Nat.le_of_ble_eq_true rfl) (Nat.le_of_ble_eq_true rfl) rfl rfl (F156_ev sc n _ e1 (by omega) _ _ hc13) ?_
        show pm_ev _ _ _ _ _ (112, [some (.ref 16), some (.int x1), some (.int x2), u3], [], _, _, _) _
        cases h
        exact pe_ret mm_155 rfl rfl
    · rw [if_neg q10] at h
      refine pe_blk mm_155 1 (s' := (if (M.1 16 5) ≤ x2 then 108 else 24, [some (.ref 16), some (.int x1), some (.int x2), u3], [], _, _, _)) rfl ?_
      rw [if_neg q10]
      refine pe_blk mm_155 1 (s' := (25, [some (.ref 16), some (.int x1), some (.int x2), u3], [.ref 16], _, _, _)) rfl ?_
      refine pe_get mm_155 rfl rfl rfl (by decide) rfl ?_
      show pm_ev _ _ _ _ _ (28, [some (.ref 16), some (.int x1), some (.int x2), u3], va_rf (M.2.1 16 1) :: [], _, _, _) _
      cases hq16 : M.2.1 16 1 with
      | none => rw [hq16] at h; cases h
      | some p14 =>
        rw [hq16] at h
        dsimp only at h
        by_cases f15 : isT p14
        · rw [if_pos f15] at h
          show pm_ev _ _ _ _ _ (28, [some (.ref 16), some (.int x1), some (.int x2), u3], [.ref p14], _, _, _) _
          refine pe_blk mm_155 1 (s' := (29, [some (.ref 16), some (.int x1), some (.int x2), u3], [.int x2, .ref p14], _, _, _)) rfl ?_
          obtain ⟨e1, rfl⟩ : ∃ e1, e = e1 + 1 := ⟨e - 1, by omega⟩
          cases hc19 : F188 n p14 x2 M with
          | none => rw [hc19] at h; cases h
          | some w =>
            obtain ⟨v17, M18⟩ := w
            rw [hc19] at h
            dsimp only at h
            refine pe_virt (al := [.int x2]) (a := p14) (L0 := [some (.ref p14), some (.int x2)]) (r1 := (some (.int v17), 129, 17845, hp M18)) mm_155 rfl rfl rfl mm_188 (isT_0 f15 _) (by have := isT_lt f15; omega) (by decide) rfl (Nat.le_of_ble_eq_true rfl) (Nat.le_of_ble_eq_true rfl) rfl rfl (F188_ev sc n p14 x2 f15 _ e1 (by omega) _ _ hc19) ?_
            show pm_ev _ _ _ _ _ (32, [some (.ref 16), some (.int x1), some (.int x2), u3], [.int v17], _, _, _) _
            by_cases q20 : v17 ≤ 0
            · rw [if_pos q20] at h
              refine pe_blk mm_155 1 (s' := (if v17 ≤ 0 then 102 else 35, [some (.ref 16), some (.int x1), some (.int x2), u3], [], _, _, _)) rfl ?_
              rw [if_pos q20]
              exact J155_102_ev sc n (e1 + 1) he (L155_16 n k) hr16 x1 x2 _ _ _ _ h
            · rw [if_neg q20] at h
              refine pe_blk mm_155 1 (s' := (if v17 ≤ 0 then 102 else 35, [some (.ref 16), some (.int x1), some (.int x2), u3], [], _, _, _)) rfl ?_
              rw [if_neg q20]
              exact J155_35_ev sc n (e1 + 1) he (L155_16 n k) hr16 x1 x2 _ _ _ _ h
        · rw [if_neg f15] at h
          cases h
def J155_11 (n : Nat) (x1 : Int32) (M : Mem) : Option (Unit × Mem) :=
  L155_16 n n x1 (M.1 16 4) M
set_option maxRecDepth 100000 in
set_option maxHeartbeats 4000000 in
theorem J155_11_ev (sc : Option (Nat × (Nat → Int32))) (n : Nat)  (e : Nat) (he : 38 ≤ e) : ∀ (x1 : Int32) (u2 : Option Value) (u3 : Option Value) (M : Mem) (r : Unit) (M' : Mem), J155_11 n x1 M = some (r, M') → pm_ev pmT sc e 155 false (11, [some (.ref 16), some (.int x1), u2, u3], [], 129, 17845, hp M) (none, 129, 17845, hp M') := by
  intro x1 u2 u3 M r M' h
  unfold J155_11 at h
  refine pe_blk mm_155 1 (s' := (12, [some (.ref 16), some (.int x1), u2, u3], [.ref 16], _, _, _)) rfl ?_
  refine pe_get mm_155 rfl rfl rfl (by decide) rfl ?_
  refine pe_blk mm_155 1 (s' := (16, [some (.ref 16), some (.int x1), some (.int (M.1 16 4)), u3], [], _, _, _)) rfl ?_
  exact L155_16_ev sc n e he n x1 (M.1 16 4) _ _ _ _ h
/-- ArmExpander$Matcher.stepOver -/
def F155 (n : Nat) (a0 : Int32) (M : Mem) : Option (Unit × Mem) :=
  match M.2.1 16 2 with | some p1 => (if isT p1 then (match M.2.1 16 3 with | some p4 => (if isD p4 then (match F187 n p1 p4 M with | some (v7, M8) => (J155_11 n a0 M8) | none => none) else none) | none => none) else none) | none => none
set_option maxRecDepth 100000 in
set_option maxHeartbeats 4000000 in
theorem F155_ev (sc : Option (Nat × (Nat → Int32))) (n : Nat) (a0 : Int32)  (M : Mem) (e : Nat) (he : 38 ≤ e) (r : Unit) (M' : Mem) (h : F155 n a0 M = some (r, M')) : pm_ev pmT sc e 155 false (0, [some (.ref 16), some (.int a0), none, none], [], 129, 17845, hp M) (none, 129, 17845, hp M') := by
  unfold F155 at h
  refine pe_blk mm_155 1 (s' := (1, [some (.ref 16), some (.int a0), none, none], [.ref 16], _, _, _)) rfl ?_
  refine pe_get mm_155 rfl rfl rfl (by decide) rfl ?_
  show pm_ev _ _ _ _ _ (4, [some (.ref 16), some (.int a0), none, none], va_rf (M.2.1 16 2) :: [], _, _, _) _
  cases hq3 : M.2.1 16 2 with
  | none => rw [hq3] at h; cases h
  | some p1 =>
    rw [hq3] at h
    dsimp only at h
    by_cases f2 : isT p1
    · rw [if_pos f2] at h
      show pm_ev _ _ _ _ _ (4, [some (.ref 16), some (.int a0), none, none], [.ref p1], _, _, _) _
      refine pe_blk mm_155 1 (s' := (5, [some (.ref 16), some (.int a0), none, none], [.ref 16, .ref p1], _, _, _)) rfl ?_
      refine pe_get mm_155 rfl rfl rfl (by decide) rfl ?_
      show pm_ev _ _ _ _ _ (8, [some (.ref 16), some (.int a0), none, none], va_rf (M.2.1 16 3) :: [.ref p1], _, _, _) _
      cases hq6 : M.2.1 16 3 with
      | none => rw [hq6] at h; cases h
      | some p4 =>
        rw [hq6] at h
        dsimp only at h
        by_cases f5 : isD p4
        · rw [if_pos f5] at h
          show pm_ev _ _ _ _ _ (8, [some (.ref 16), some (.int a0), none, none], [.ref p4, .ref p1], _, _, _) _
          obtain ⟨e1, rfl⟩ : ∃ e1, e = e1 + 1 := ⟨e - 1, by omega⟩
          cases hc9 : F187 n p1 p4 M with
          | none => rw [hc9] at h; cases h
          | some w =>
            obtain ⟨v7, M8⟩ := w
            rw [hc9] at h
            dsimp only at h
            refine pe_virt (al := [.ref p4]) (a := p1) (L0 := [some (.ref p1), some (.ref p4)]) (r1 := (none, 129, 17845, hp M8)) mm_155 rfl rfl rfl mm_187 (isT_0 f2 _) (by have := isT_lt f2; omega) (by decide) rfl (Nat.le_of_ble_eq_true rfl) (Nat.le_of_ble_eq_true rfl) rfl rfl (F187_ev sc n p1 p4 f2 f5 _ e1 (by omega) _ _ hc9) ?_
            show pm_ev _ _ _ _ _ (11, [some (.ref 16), some (.int a0), none, none], [], _, _, _) _
            exact J155_11_ev sc n (e1 + 1) he a0 _ _ _ _ _ h
        · rw [if_neg f5] at h
          cases h
    · rw [if_neg f2] at h
      cases h
def J95_57 (n : Nat) (g0 : Nat) (rec13 : Int32 → Int32 → Mem → Option (Int32 × Mem)) (x3 : Int32) (x4 : Int32) (M : Mem) : Option (Int32 × Mem) :=
  rec13 x3 (x4 + 1) M
set_option maxRecDepth 100000 in
set_option maxHeartbeats 4000000 in
theorem J95_57_ev (sc : Option (Nat × (Nat → Int32))) (n : Nat) (g0 : Nat) (hg0 : isD g0) (e : Nat) (he : 39 ≤ e) (rec13 : Int32 → Int32 → Mem → Option (Int32 × Mem)) (hr13 : ∀ (x3 : Int32) (x4 : Int32) (u2 : Option Value) (M : Mem) (r : Int32) (M' : Mem), rec13 x3 x4 M = some (r, M') → pm_ev pmT sc e 95 false (13, [some (.ref 7), some (.ref g0), u2, some (.int x3), some (.int x4)], [], 129, 17845, hp M) (some (.int r), 129, 17845, hp M')) : ∀ (x3 : Int32) (x4 : Int32) (u2 : Option Value) (M : Mem) (r : Int32) (M' : Mem), J95_57 n g0 rec13 x3 x4 M = some (r, M') → pm_ev pmT sc e 95 false (57, [some (.ref 7), some (.ref g0), u2, some (.int x3), some (.int x4)], [], 129, 17845, hp M) (some (.int r), 129, 17845, hp M') := by
  intro x3 x4 u2 M r M' h
  unfold J95_57 at h
  refine pe_blk mm_95 2 (s' := (13, [some (.ref 7), some (.ref g0), u2, some (.int x3), some (.int (x4 + 1))], [], _, _, _)) rfl ?_
  exact hr13 x3 (x4 + 1) _ _ _ _ h
def J95_42 (n : Nat) (g0 : Nat) (rec13 : Int32 → Int32 → Mem → Option (Int32 × Mem)) (x3 : Int32) (x4 : Int32) (M : Mem) : Option (Int32 × Mem) :=
  match F96 n g0 (x4 + 4) x3 M with | some (v16, M17) => (if v16 = 0 then (some (1, M17)) else (J95_57 n g0 rec13 x3 x4 M17)) | none => none
set_option maxRecDepth 100000 in
set_option maxHeartbeats 4000000 in
theorem J95_42_ev (sc : Option (Nat × (Nat → Int32))) (n : Nat) (g0 : Nat) (hg0 : isD g0) (e : Nat) (he : 39 ≤ e) (rec13 : Int32 → Int32 → Mem → Option (Int32 × Mem)) (hr13 : ∀ (x3 : Int32) (x4 : Int32) (u2 : Option Value) (M : Mem) (r : Int32) (M' : Mem), rec13 x3 x4 M = some (r, M') → pm_ev pmT sc e 95 false (13, [some (.ref 7), some (.ref g0), u2, some (.int x3), some (.int x4)], [], 129, 17845, hp M) (some (.int r), 129, 17845, hp M')) : ∀ (x3 : Int32) (x4 : Int32) (u2 : Option Value) (M : Mem) (r : Int32) (M' : Mem), J95_42 n g0 rec13 x3 x4 M = some (r, M') → pm_ev pmT sc e 95 false (42, [some (.ref 7), some (.ref g0), u2, some (.int x3), some (.int x4)], [], 129, 17845, hp M) (some (.int r), 129, 17845, hp M') := by
  intro x3 x4 u2 M r M' h
  unfold J95_42 at h
  refine pe_blk mm_95 6 (s' := (49, [some (.ref 7), some (.ref g0), u2, some (.int x3), some (.int x4)], [.int x3, .int (x4 + 4), .ref g0, .ref 7], _, _, _)) rfl ?_
  obtain ⟨e1, rfl⟩ : ∃ e1, e = e1 + 1 := ⟨e - 1, by omega⟩
  cases hc18 : F96 n g0 (x4 + 4) x3 M with
  | none => rw [hc18] at h; cases h
  | some w =>
    obtain ⟨v16, M17⟩ := w
    rw [hc18] at h
    dsimp only at h
    refine pe_virt (al := [.int x3, .int (x4 + 4), .ref g0]) (a := 7) (L0 := [some (.ref 7), some (.ref g0), some (.int (x4 + 4)), some (.int x3), none, none]) (r1 := (some (.int v16), 129, 17845, hp M17)) mm_95 rfl rfl rfl mm_96 rfl (by decide) (by decide) rfl (Nat.le_of_ble_eq_true rfl) (Nat.le_of_ble_eq_true rfl) rfl rfl (F96_ev sc n g0 (x4 + 4) x3 hg0 _ e1 (by omega) _ _ hc18) ?_
    show pm_ev _ _ _ _ _ (52, [some (.ref 7), some (.ref g0), u2, some (.int x3), some (.int x4)], [.int v16], _, _, _) _
    by_cases q19 : v16 = 0
    · rw [if_pos q19] at h
      refine pe_blk mm_95 1 (s' := (if v16 = 0 then 55 else 57, [some (.ref 7), some (.ref g0), u2, some (.int x3), some (.int x4)], [], _, _, _)) rfl ?_
      rw [if_pos q19]
      refine pe_blk mm_95 1 (s' := (56, [some (.ref 7), some (.ref g0), u2, some (.int x3), some (.int x4)], [.int 1], _, _, _)) rfl ?_
      cases h
      exact pe_ret mm_95 rfl rfl
    · rw [if_neg q19] at h
      refine pe_blk mm_95 1 (s' := (if v16 = 0 then 55 else 57, [some (.ref 7), some (.ref g0), u2, some (.int x3), some (.int x4)], [], _, _, _)) rfl ?_
      rw [if_neg q19]
      exact J95_57_ev sc n g0 hg0 (e1 + 1) he rec13 hr13 x3 x4 _ _ _ _ h
def L95_13 (n : Nat) (g0 : Nat) : Nat → Int32 → Int32 → Mem → Option (Int32 × Mem)
  | 0, _, _, _ => none
  | k + 1, x3, x4, M => if x3 ≤ x4 then (some (0, M)) else (match F115 n g0 x4 M with | some (v8, M9) => (if v8 = 0 then (J95_57 n g0 (L95_13 n g0 k) x3 x4 M9) else (match F109 n g0 (x4 + 3) M9 with | some (v12, M13) => (if v12 = 1159 then (J95_42 n g0 (L95_13 n g0 k) x3 x4 M13) else (J95_57 n g0 (L95_13 n g0 k) x3 x4 M13)) | none => none)) | none => none)
set_option maxRecDepth 100000 in
set_option maxHeartbeats 4000000 in
theorem L95_13_ev (sc : Option (Nat × (Nat → Int32))) (n : Nat) (g0 : Nat) (hg0 : isD g0) (e : Nat) (he : 39 ≤ e) : ∀ k : Nat, ∀ (x3 : Int32) (x4 : Int32) (u2 : Option Value) (M : Mem) (r : Int32) (M' : Mem), L95_13 n g0 k x3 x4 M = some (r, M') → pm_ev pmT sc e 95 false (13, [some (.ref 7), some (.ref g0), u2, some (.int x3), some (.int x4)], [], 129, 17845, hp M) (some (.int r), 129, 17845, hp M') := by
  intro k
  induction k with
  | zero => intro x3 x4 u2 M r M' h; cases h
  | succ k hr13 =>
    intro x3 x4 u2 M r M' h
    rw [L95_13] at h
    refine pe_blk mm_95 2 (s' := (16, [some (.ref 7), some (.ref g0), u2, some (.int x3), some (.int x4)], [.int x3, .int x4], _, _, _)) rfl ?_
    by_cases q7 : x3 ≤ x4
    · rw [if_pos q7] at h
      refine pe_blk mm_95 1 (s' := (if x3 ≤ x4 then 63 else 19, [some (.ref 7), some (.ref g0), u2, some (.int x3), some (.int x4)], [], _, _, _)) rfl ?_
      rw [if_pos q7]
      refine pe_blk mm_95 1 (s' := (64, [some (.ref 7), some (.ref g0), u2, some (.int x3), some (.int x4)], [.int 0], _, _, _)) rfl ?_
      cases h
      exact pe_ret mm_95 rfl rfl
    · rw [if_neg q7] at h
      refine pe_blk mm_95 1 (s' := (if x3 ≤ x4 then 63 else 19, [some (.ref 7), some (.ref g0), u2, some (.int x3), some (.int x4)], [], _, _, _)) rfl ?_
      rw [if_neg q7]
      refine pe_blk mm_95 2 (s' := (22, [some (.ref 7), some (.ref g0), u2, some (.int x3), some (.int x4)], [.int x4, .ref g0], _, _, _)) rfl ?_
      obtain ⟨e1, rfl⟩ : ∃ e1, e = e1 + 1 := ⟨e - 1, by omega⟩
      cases hc10 : F115 n g0 x4 M with
      | none => rw [hc10] at h; cases h
      | some w =>
        obtain ⟨v8, M9⟩ := w
        rw [hc10] at h
        dsimp only at h
        refine pe_virt (al := [.int x4]) (a := g0) (L0 := [some (.ref g0), some (.int x4)]) (r1 := (some (.int v8), 129, 17845, hp M9)) mm_95 rfl rfl rfl mm_115 (isD_0 hg0 _) (by have := isD_lt hg0; omega) (by decide) rfl (Nat.le_of_ble_eq_true rfl) (Nat.le_of_ble_eq_true rfl) rfl rfl (F115_ev sc n g0 x4 hg0 _ e1 (by omega) _ _ hc10) ?_
        show pm_ev _ _ _ _ _ (25, [some (.ref 7), some (.ref g0), u2, some (.int x3), some (.int x4)], [.int v8], _, _, _) _
        by_cases q11 : v8 = 0
        · rw [if_pos q11] at h
          refine pe_blk mm_95 1 (s' := (if v8 = 0 then 57 else 28, [some (.ref 7), some (.ref g0), u2, some (.int x3), some (.int x4)], [], _, _, _)) rfl ?_
          rw [if_pos q11]
          exact J95_57_ev sc n g0 hg0 (e1 + 1) he (L95_13 n g0 k) hr13 x3 x4 _ _ _ _ h
        · rw [if_neg q11] at h
          refine pe_blk mm_95 1 (s' := (if v8 = 0 then 57 else 28, [some (.ref 7), some (.ref g0), u2, some (.int x3), some (.int x4)], [], _, _, _)) rfl ?_
          rw [if_neg q11]
          refine pe_blk mm_95 4 (s' := (33, [some (.ref 7), some (.ref g0), u2, some (.int x3), some (.int x4)], [.int (x4 + 3), .ref g0], _, _, _)) rfl ?_
          skip
          cases hc14 : F109 n g0 (x4 + 3) M9 with
          | none => rw [hc14] at h; cases h
          | some w =>
            obtain ⟨v12, M13⟩ := w
            rw [hc14] at h
            dsimp only at h
            refine pe_virt (al := [.int (x4 + 3)]) (a := g0) (L0 := [some (.ref g0), some (.int (x4 + 3))]) (r1 := (some (.int v12), 129, 17845, hp M13)) mm_95 rfl rfl rfl mm_109 (isD_0 hg0 _) (by have := isD_lt hg0; omega) (by decide) rfl (Nat.le_of_ble_eq_true rfl) (Nat.le_of_ble_eq_true rfl) rfl rfl (F109_ev sc n g0 (x4 + 3) hg0 _ e1 (by omega) _ _ hc14) ?_
            show pm_ev _ _ _ _ _ (36, [some (.ref 7), some (.ref g0), u2, some (.int x3), some (.int x4)], [.int v12], _, _, _) _
            refine pe_blk mm_95 1 (s' := (39, [some (.ref 7), some (.ref g0), u2, some (.int x3), some (.int x4)], [.int 1159, .int v12], _, _, _)) rfl ?_
            by_cases q15 : v12 = 1159
            · rw [if_pos q15] at h
              refine pe_blk mm_95 1 (s' := (if v12 = 1159 then 42 else 57, [some (.ref 7), some (.ref g0), u2, some (.int x3), some (.int x4)], [], _, _, _)) rfl ?_
              rw [if_pos q15]
              exact J95_42_ev sc n g0 hg0 (e1 + 1) he (L95_13 n g0 k) hr13 x3 x4 _ _ _ _ h
            · rw [if_neg q15] at h
              refine pe_blk mm_95 1 (s' := (if v12 = 1159 then 42 else 57, [some (.ref 7), some (.ref g0), u2, some (.int x3), some (.int x4)], [], _, _, _)) rfl ?_
              rw [if_neg q15]
              exact J95_57_ev sc n g0 hg0 (e1 + 1) he (L95_13 n g0 k) hr13 x3 x4 _ _ _ _ h
/-- ArmExpander$Checker.hasLooseExpression -/
def F95 (n : Nat) (g0 : Nat) (a1 : Int32) (M : Mem) : Option (Int32 × Mem) :=
  match F112 n g0 a1 M with | some (v1, M2) => (match F111 n g0 a1 M2 with | some (v4, M5) => (L95_13 n g0 n v1 v4 M5) | none => none) | none => none
set_option maxRecDepth 100000 in
set_option maxHeartbeats 4000000 in
theorem F95_ev (sc : Option (Nat × (Nat → Int32))) (n : Nat) (g0 : Nat) (a1 : Int32) (hg0 : isD g0) (M : Mem) (e : Nat) (he : 39 ≤ e) (r : Int32) (M' : Mem) (h : F95 n g0 a1 M = some (r, M')) : pm_ev pmT sc e 95 false (0, [some (.ref 7), some (.ref g0), some (.int a1), none, none], [], 129, 17845, hp M) (some (.int r), 129, 17845, hp M') := by
  unfold F95 at h
  refine pe_blk mm_95 2 (s' := (2, [some (.ref 7), some (.ref g0), some (.int a1), none, none], [.int a1, .ref g0], _, _, _)) rfl ?_
  obtain ⟨e1, rfl⟩ : ∃ e1, e = e1 + 1 := ⟨e - 1, by omega⟩
  cases hc3 : F112 n g0 a1 M with
  | none => rw [hc3] at h; cases h
  | some w =>
    obtain ⟨v1, M2⟩ := w
    rw [hc3] at h
    dsimp only at h
    refine pe_virt (al := [.int a1]) (a := g0) (L0 := [some (.ref g0), some (.int a1)]) (r1 := (some (.int v1), 129, 17845, hp M2)) mm_95 rfl rfl rfl mm_112 (isD_0 hg0 _) (by have := isD_lt hg0; omega) (by decide) rfl (Nat.le_of_ble_eq_true rfl) (Nat.le_of_ble_eq_true rfl) rfl rfl (F112_ev sc n g0 a1 hg0 _ e1 (by omega) _ _ hc3) ?_
    show pm_ev _ _ _ _ _ (5, [some (.ref 7), some (.ref g0), some (.int a1), none, none], [.int v1], _, _, _) _
    refine pe_blk mm_95 3 (s' := (8, [some (.ref 7), some (.ref g0), some (.int a1), some (.int v1), none], [.int a1, .ref g0], _, _, _)) rfl ?_
    skip
    cases hc6 : F111 n g0 a1 M2 with
    | none => rw [hc6] at h; cases h
    | some w =>
      obtain ⟨v4, M5⟩ := w
      rw [hc6] at h
      dsimp only at h
      refine pe_virt (al := [.int a1]) (a := g0) (L0 := [some (.ref g0), some (.int a1)]) (r1 := (some (.int v4), 129, 17845, hp M5)) mm_95 rfl rfl rfl mm_111 (isD_0 hg0 _) (by have := isD_lt hg0; omega) (by decide) rfl (Nat.le_of_ble_eq_true rfl) (Nat.le_of_ble_eq_true rfl) rfl rfl (F111_ev sc n g0 a1 hg0 _ e1 (by omega) _ _ hc6) ?_
      show pm_ev _ _ _ _ _ (11, [some (.ref 7), some (.ref g0), some (.int a1), some (.int v1), none], [.int v4], _, _, _) _
      refine pe_blk mm_95 1 (s' := (13, [some (.ref 7), some (.ref g0), some (.int a1), some (.int v1), some (.int v4)], [], _, _, _)) rfl ?_
      exact L95_13_ev sc n g0 hg0 (e1 + 1) he n v1 v4 _ _ _ _ h
def J91_60 (n : Nat) (g0 : Nat) (s0 : Int32) (M : Mem) : Option (Int32 × Mem) :=
  some (s0, M)
set_option maxRecDepth 100000 in
set_option maxHeartbeats 4000000 in
theorem J91_60_ev (sc : Option (Nat × (Nat → Int32))) (n : Nat) (g0 : Nat) (hg0 : isD g0) (e : Nat) (he : 40 ≤ e) : ∀ (s0 : Int32) (u0 : Option Value) (u1 : Option Value) (u2 : Option Value) (M : Mem) (r : Int32) (M' : Mem), J91_60 n g0 s0 M = some (r, M') → pm_ev pmT sc e 91 false (60, [u0, u1, u2], [.int s0], 129, 17845, hp M) (some (.int r), 129, 17845, hp M') := by
  intro s0 u0 u1 u2 M r M' h
  unfold J91_60 at h
  cases h
  exact pe_ret mm_91 rfl rfl
def J91_53 (n : Nat) (g0 : Nat) (M : Mem) : Option (Int32 × Mem) :=
  J91_60 n g0 (-1003) M
set_option maxRecDepth 100000 in
set_option maxHeartbeats 4000000 in
theorem J91_53_ev (sc : Option (Nat × (Nat → Int32))) (n : Nat) (g0 : Nat) (hg0 : isD g0) (e : Nat) (he : 40 ≤ e) : ∀ (u0 : Option Value) (u1 : Option Value) (u2 : Option Value) (M : Mem) (r : Int32) (M' : Mem), J91_53 n g0  M = some (r, M') → pm_ev pmT sc e 91 false (53, [u0, u1, u2], [], 129, 17845, hp M) (some (.int r), 129, 17845, hp M') := by
  intro u0 u1 u2 M r M' h
  unfold J91_53 at h
  refine pe_blk mm_91 2 (s' := (60, [u0, u1, u2], [.int (-1003)], _, _, _)) rfl ?_
  exact J91_60_ev sc n g0 hg0 e he (-1003) _ _ _ _ _ _ h
def J91_45 (n : Nat) (g0 : Nat) (x2 : Int32) (M : Mem) : Option (Int32 × Mem) :=
  match F98 n g0 x2 M with | some (v17, M18) => (if v17 = 0 then (J91_60 n g0 0 M18) else (J91_53 n g0 M18)) | none => none
set_option maxRecDepth 100000 in
set_option maxHeartbeats 4000000 in
theorem J91_45_ev (sc : Option (Nat × (Nat → Int32))) (n : Nat) (g0 : Nat) (hg0 : isD g0) (e : Nat) (he : 40 ≤ e) : ∀ (x2 : Int32) (u0 : Option Value) (M : Mem) (r : Int32) (M' : Mem), J91_45 n g0 x2 M = some (r, M') → pm_ev pmT sc e 91 false (45, [u0, some (.ref g0), some (.int x2)], [], 129, 17845, hp M) (some (.int r), 129, 17845, hp M') := by
  intro x2 u0 M r M' h
  unfold J91_45 at h
  refine pe_blk mm_91 2 (s' := (47, [u0, some (.ref g0), some (.int x2)], [.int x2, .ref g0], _, _, _)) rfl ?_
  obtain ⟨e1, rfl⟩ : ∃ e1, e = e1 + 1 := ⟨e - 1, by omega⟩
  cases hc19 : F98 n g0 x2 M with
  | none => rw [hc19] at h; cases h
  | some w =>
    obtain ⟨v17, M18⟩ := w
    rw [hc19] at h
    dsimp only at h
    refine pe_stat (al := [.int x2, .ref g0]) (L0 := [some (.ref g0), some (.int x2), none, none]) (r1 := (some (.int v17), 129, 17845, hp M18)) mm_91 rfl rfl rfl mm_98 rfl (Nat.le_of_ble_eq_true rfl) (Nat.le_of_ble_eq_true rfl) rfl rfl (F98_ev sc n g0 x2 hg0 _ e1 (by omega) _ _ hc19) ?_
    show pm_ev _ _ _ _ _ (50, [u0, some (.ref g0), some (.int x2)], [.int v17], _, _, _) _
    by_cases q20 : v17 = 0
    · rw [if_pos q20] at h
      refine pe_blk mm_91 1 (s' := (if v17 = 0 then 59 else 53, [u0, some (.ref g0), some (.int x2)], [], _, _, _)) rfl ?_
      rw [if_pos q20]
      refine pe_blk mm_91 1 (s' := (60, [u0, some (.ref g0), some (.int x2)], [.int 0], _, _, _)) rfl ?_
      exact J91_60_ev sc n g0 hg0 (e1 + 1) he 0 _ _ _ _ _ _ h
    · rw [if_neg q20] at h
      refine pe_blk mm_91 1 (s' := (if v17 = 0 then 59 else 53, [u0, some (.ref g0), some (.int x2)], [], _, _, _)) rfl ?_
      rw [if_neg q20]
      exact J91_53_ev sc n g0 hg0 (e1 + 1) he _ _ _ _ _ _ h
def J91_24 (n : Nat) (g0 : Nat) (x2 : Int32) (M : Mem) : Option (Int32 × Mem) :=
  match F95 n g0 x2 M with | some (v9, M10) => (if v9 = 0 then (match F97 n g0 x2 M10 with | some (v13, M14) => (if v13 = 0 then (J91_45 n g0 x2 M14) else (J91_53 n g0 M14)) | none => none) else (some ((-1002), M10))) | none => none
set_option maxRecDepth 100000 in
set_option maxHeartbeats 4000000 in
theorem J91_24_ev (sc : Option (Nat × (Nat → Int32))) (n : Nat) (g0 : Nat) (hg0 : isD g0) (e : Nat) (he : 40 ≤ e) : ∀ (x2 : Int32) (M : Mem) (r : Int32) (M' : Mem), J91_24 n g0 x2 M = some (r, M') → pm_ev pmT sc e 91 false (24, [some (.ref 7), some (.ref g0), some (.int x2)], [], 129, 17845, hp M) (some (.int r), 129, 17845, hp M') := by
  intro x2  M r M' h
  unfold J91_24 at h
  refine pe_blk mm_91 3 (s' := (27, [some (.ref 7), some (.ref g0), some (.int x2)], [.int x2, .ref g0, .ref 7], _, _, _)) rfl ?_
  obtain ⟨e1, rfl⟩ : ∃ e1, e = e1 + 1 := ⟨e - 1, by omega⟩
  cases hc11 : F95 n g0 x2 M with
  | none => rw [hc11] at h; cases h
  | some w =>
    obtain ⟨v9, M10⟩ := w
    rw [hc11] at h
    dsimp only at h
    refine pe_virt (al := [.int x2, .ref g0]) (a := 7) (L0 := [some (.ref 7), some (.ref g0), some (.int x2), none, none]) (r1 := (some (.int v9), 129, 17845, hp M10)) mm_91 rfl rfl rfl mm_95 rfl (by decide) (by decide) rfl (Nat.le_of_ble_eq_true rfl) (Nat.le_of_ble_eq_true rfl) rfl rfl (F95_ev sc n g0 x2 hg0 _ e1 (by omega) _ _ hc11) ?_
    show pm_ev _ _ _ _ _ (30, [some (.ref 7), some (.ref g0), some (.int x2)], [.int v9], _, _, _) _
    by_cases q12 : v9 = 0
    · rw [if_pos q12] at h
      refine pe_blk mm_91 1 (s' := (if v9 = 0 then 37 else 33, [some (.ref 7), some (.ref g0), some (.int x2)], [], _, _, _)) rfl ?_
      rw [if_pos q12]
      refine pe_blk mm_91 2 (s' := (39, [some (.ref 7), some (.ref g0), some (.int x2)], [.int x2, .ref g0], _, _, _)) rfl ?_
      skip
      cases hc15 : F97 n g0 x2 M10 with
      | none => rw [hc15] at h; cases h
      | some w =>
        obtain ⟨v13, M14⟩ := w
        rw [hc15] at h
        dsimp only at h
        refine pe_stat (al := [.int x2, .ref g0]) (L0 := [some (.ref g0), some (.int x2), none, none, none]) (r1 := (some (.int v13), 129, 17845, hp M14)) mm_91 rfl rfl rfl mm_97 rfl (Nat.le_of_ble_eq_true rfl) (Nat.le_of_ble_eq_true rfl) rfl rfl (F97_ev sc n g0 x2 hg0 _ e1 (by omega) _ _ hc15) ?_
        show pm_ev _ _ _ _ _ (42, [some (.ref 7), some (.ref g0), some (.int x2)], [.int v13], _, _, _) _
        by_cases q16 : v13 = 0
        · rw [if_pos q16] at h
          refine pe_blk mm_91 1 (s' := (if v13 = 0 then 45 else 53, [some (.ref 7), some (.ref g0), some (.int x2)], [], _, _, _)) rfl ?_
          rw [if_pos q16]
          exact J91_45_ev sc n g0 hg0 (e1 + 1) he x2 _ _ _ _ h
        · rw [if_neg q16] at h
          refine pe_blk mm_91 1 (s' := (if v13 = 0 then 45 else 53, [some (.ref 7), some (.ref g0), some (.int x2)], [], _, _, _)) rfl ?_
          rw [if_neg q16]
          exact J91_53_ev sc n g0 hg0 (e1 + 1) he _ _ _ _ _ _ h
    · rw [if_neg q12] at h
      refine pe_blk mm_91 1 (s' := (if v9 = 0 then 37 else 33, [some (.ref 7), some (.ref g0), some (.int x2)], [], _, _, _)) rfl ?_
      rw [if_neg q12]
      refine pe_blk mm_91 1 (s' := (36, [some (.ref 7), some (.ref g0), some (.int x2)], [.int (-1002)], _, _, _)) rfl ?_
      cases h
      exact pe_ret mm_91 rfl rfl
def J91_20 (n : Nat) (g0 : Nat) (M : Mem) : Option (Int32 × Mem) :=
  some ((-1001), M)
set_option maxRecDepth 100000 in
set_option maxHeartbeats 4000000 in
theorem J91_20_ev (sc : Option (Nat × (Nat → Int32))) (n : Nat) (g0 : Nat) (hg0 : isD g0) (e : Nat) (he : 40 ≤ e) : ∀ (u0 : Option Value) (u1 : Option Value) (u2 : Option Value) (M : Mem) (r : Int32) (M' : Mem), J91_20 n g0  M = some (r, M') → pm_ev pmT sc e 91 false (20, [u0, u1, u2], [], 129, 17845, hp M) (some (.int r), 129, 17845, hp M') := by
  intro u0 u1 u2 M r M' h
  unfold J91_20 at h
  refine pe_blk mm_91 1 (s' := (23, [u0, u1, u2], [.int (-1001)], _, _, _)) rfl ?_
  cases h
  exact pe_ret mm_91 rfl rfl
/-- ArmExpander$Checker.checkArm -/
def F91 (n : Nat) (g0 : Nat) (a1 : Int32) (M : Mem) : Option (Int32 × Mem) :=
  match F92 n g0 a1 M with | some (v1, M2) => (if v1 = 0 then (match F93 n g0 a1 M2 with | some (v5, M6) => (if v5 = 0 then (J91_24 n g0 a1 M6) else (J91_20 n g0 M6)) | none => none) else (some ((-1000), M2))) | none => none
set_option maxRecDepth 100000 in
set_option maxHeartbeats 4000000 in
theorem F91_ev (sc : Option (Nat × (Nat → Int32))) (n : Nat) (g0 : Nat) (a1 : Int32) (hg0 : isD g0) (M : Mem) (e : Nat) (he : 40 ≤ e) (r : Int32) (M' : Mem) (h : F91 n g0 a1 M = some (r, M')) : pm_ev pmT sc e 91 false (0, [some (.ref 7), some (.ref g0), some (.int a1)], [], 129, 17845, hp M) (some (.int r), 129, 17845, hp M') := by
  unfold F91 at h
  refine pe_blk mm_91 2 (s' := (2, [some (.ref 7), some (.ref g0), some (.int a1)], [.int a1, .ref g0], _, _, _)) rfl ?_
  obtain ⟨e1, rfl⟩ : ∃ e1, e = e1 + 1 := ⟨e - 1, by omega⟩
  cases hc3 : F92 n g0 a1 M with
  | none => rw [hc3] at h; cases h
  | some w =>
    obtain ⟨v1, M2⟩ := w
    rw [hc3] at h
    dsimp only at h
    refine pe_stat (al := [.int a1, .ref g0]) (L0 := [some (.ref g0), some (.int a1), none, none]) (r1 := (some (.int v1), 129, 17845, hp M2)) mm_91 rfl rfl rfl mm_92 rfl (Nat.le_of_ble_eq_true rfl) (Nat.le_of_ble_eq_true rfl) rfl rfl (F92_ev sc n g0 a1 hg0 _ e1 (by omega) _ _ hc3) ?_
    show pm_ev _ _ _ _ _ (5, [some (.ref 7), some (.ref g0), some (.int a1)], [.int v1], _, _, _) _
    by_cases q4 : v1 = 0
    · rw [if_pos q4] at h
      refine pe_blk mm_91 1 (s' := (if v1 = 0 then 12 else 8, [some (.ref 7), some (.ref g0), some (.int a1)], [], _, _, _)) rfl ?_
      rw [if_pos q4]
      refine pe_blk mm_91 2 (s' := (14, [some (.ref 7), some (.ref g0), some (.int a1)], [.int a1, .ref g0], _, _, _)) rfl ?_
      skip
      cases hc7 : F93 n g0 a1 M2 with
      | none => rw [hc7] at h; cases h
      | some w =>
        obtain ⟨v5, M6⟩ := w
        rw [hc7] at h
        dsimp only at h
        refine pe_stat (al := [.int a1, .ref g0]) (L0 := [some (.ref g0), some (.int a1), none, none]) (r1 := (some (.int v5), 129, 17845, hp M6)) mm_91 rfl rfl rfl mm_93 rfl (Nat.le_of_ble_eq_true rfl) (Nat.le_of_ble_eq_true rfl) rfl rfl (F93_ev sc n g0 a1 hg0 _ e1 (by omega) _ _ hc7) ?_
        show pm_ev _ _ _ _ _ (17, [some (.ref 7), some (.ref g0), some (.int a1)], [.int v5], _, _, _) _
        by_cases q8 : v5 = 0
        · rw [if_pos q8] at h
          refine pe_blk mm_91 1 (s' := (if v5 = 0 then 24 else 20, [some (.ref 7), some (.ref g0), some (.int a1)], [], _, _, _)) rfl ?_
          rw [if_pos q8]
          exact J91_24_ev sc n g0 hg0 (e1 + 1) he a1 _ _ _ h
        · rw [if_neg q8] at h
          refine pe_blk mm_91 1 (s' := (if v5 = 0 then 24 else 20, [some (.ref 7), some (.ref g0), some (.int a1)], [], _, _, _)) rfl ?_
          rw [if_neg q8]
          exact J91_20_ev sc n g0 hg0 (e1 + 1) he _ _ _ _ _ _ h
    · rw [if_neg q4] at h
      refine pe_blk mm_91 1 (s' := (if v1 = 0 then 12 else 8, [some (.ref 7), some (.ref g0), some (.int a1)], [], _, _, _)) rfl ?_
      rw [if_neg q4]
      refine pe_blk mm_91 1 (s' := (11, [some (.ref 7), some (.ref g0), some (.int a1)], [.int (-1000)], _, _, _)) rfl ?_
      cases h
      exact pe_ret mm_91 rfl rfl
def J90_29 (n : Nat) (g0 : Nat) (x2 : Int32) (M : Mem) : Option (Int32 × Mem) :=
  some (x2, M)
set_option maxRecDepth 100000 in
set_option maxHeartbeats 4000000 in
theorem J90_29_ev (sc : Option (Nat × (Nat → Int32))) (n : Nat) (g0 : Nat) (hg0 : isD g0) (e : Nat) (he : 41 ≤ e) : ∀ (x2 : Int32) (u0 : Option Value) (u1 : Option Value) (u3 : Option Value) (M : Mem) (r : Int32) (M' : Mem), J90_29 n g0 x2 M = some (r, M') → pm_ev pmT sc e 90 false (29, [u0, u1, some (.int x2), u3], [], 129, 17845, hp M) (some (.int r), 129, 17845, hp M') := by
  intro x2 u0 u1 u3 M r M' h
  unfold J90_29 at h
  refine pe_blk mm_90 1 (s' := (30, [u0, u1, some (.int x2), u3], [.int x2], _, _, _)) rfl ?_
  cases h
  exact pe_ret mm_90 rfl rfl
def J90_23 (n : Nat) (g0 : Nat) (rec4 : Int32 → Int32 → Mem → Option (Int32 × Mem)) (x2 : Int32) (x3 : Int32) (M : Mem) : Option (Int32 × Mem) :=
  rec4 x2 (x3 + 1) M
set_option maxRecDepth 100000 in
set_option maxHeartbeats 4000000 in
theorem J90_23_ev (sc : Option (Nat × (Nat → Int32))) (n : Nat) (g0 : Nat) (hg0 : isD g0) (e : Nat) (he : 41 ≤ e) (rec4 : Int32 → Int32 → Mem → Option (Int32 × Mem)) (hr4 : ∀ (x2 : Int32) (x3 : Int32) (M : Mem) (r : Int32) (M' : Mem), rec4 x2 x3 M = some (r, M') → pm_ev pmT sc e 90 false (4, [some (.ref 7), some (.ref g0), some (.int x2), some (.int x3)], [], 129, 17845, hp M) (some (.int r), 129, 17845, hp M')) : ∀ (x2 : Int32) (x3 : Int32) (M : Mem) (r : Int32) (M' : Mem), J90_23 n g0 rec4 x2 x3 M = some (r, M') → pm_ev pmT sc e 90 false (23, [some (.ref 7), some (.ref g0), some (.int x2), some (.int x3)], [], 129, 17845, hp M) (some (.int r), 129, 17845, hp M') := by
  intro x2 x3  M r M' h
  unfold J90_23 at h
  refine pe_blk mm_90 2 (s' := (4, [some (.ref 7), some (.ref g0), some (.int x2), some (.int (x3 + 1))], [], _, _, _)) rfl ?_
  exact hr4 x2 (x3 + 1) _ _ _ h
def L90_4 (n : Nat) (g0 : Nat) : Nat → Int32 → Int32 → Mem → Option (Int32 × Mem)
  | 0, _, _, _ => none
  | k + 1, x2, x3, M => match F108 n g0 M with | some (v1, M2) => (if v1 ≤ x3 then (J90_29 n g0 x2 M2) else (if x2 = 0 then (match F91 n g0 x3 M2 with | some (v6, M7) => (J90_23 n g0 (L90_4 n g0 k) v6 x3 M7) | none => none) else (J90_29 n g0 x2 M2))) | none => none
set_option maxRecDepth 100000 in
set_option maxHeartbeats 4000000 in
theorem L90_4_ev (sc : Option (Nat × (Nat → Int32))) (n : Nat) (g0 : Nat) (hg0 : isD g0) (e : Nat) (he : 41 ≤ e) : ∀ k : Nat, ∀ (x2 : Int32) (x3 : Int32) (M : Mem) (r : Int32) (M' : Mem), L90_4 n g0 k x2 x3 M = some (r, M') → pm_ev pmT sc e 90 false (4, [some (.ref 7), some (.ref g0), some (.int x2), some (.int x3)], [], 129, 17845, hp M) (some (.int r), 129, 17845, hp M') := by
  intro k
  induction k with
  | zero => intro x2 x3  M r M' h; cases h
  | succ k hr4 =>
    intro x2 x3  M r M' h
    rw [L90_4] at h
    refine pe_blk mm_90 2 (s' := (6, [some (.ref 7), some (.ref g0), some (.int x2), some (.int x3)], [.ref g0, .int x3], _, _, _)) rfl ?_
    obtain ⟨e1, rfl⟩ : ∃ e1, e = e1 + 1 := ⟨e - 1, by omega⟩
    cases hc3 : F108 n g0 M with
    | none => rw [hc3] at h; cases h
    | some w =>
      obtain ⟨v1, M2⟩ := w
      rw [hc3] at h
      dsimp only at h
      refine pe_virt (al := []) (a := g0) (L0 := [some (.ref g0)]) (r1 := (some (.int v1), 129, 17845, hp M2)) mm_90 rfl rfl rfl mm_108 (isD_0 hg0 _) (by have := isD_lt hg0; omega) (by decide) rfl (Nat.le_of_ble_eq_true rfl) (Nat.le_of_ble_eq_true rfl) rfl rfl (F108_ev sc n g0 hg0 _ e1 (by omega) _ _ hc3) ?_
      show pm_ev _ _ _ _ _ (9, [some (.ref 7), some (.ref g0), some (.int x2), some (.int x3)], [.int v1, .int x3], _, _, _) _
      by_cases q4 : v1 ≤ x3
      · rw [if_pos q4] at h
        refine pe_blk mm_90 1 (s' := (if v1 ≤ x3 then 29 else 12, [some (.ref 7), some (.ref g0), some (.int x2), some (.int x3)], [], _, _, _)) rfl ?_
        rw [if_pos q4]
        exact J90_29_ev sc n g0 hg0 (e1 + 1) he x2 _ _ _ _ _ _ h
      · rw [if_neg q4] at h
        refine pe_blk mm_90 1 (s' := (if v1 ≤ x3 then 29 else 12, [some (.ref 7), some (.ref g0), some (.int x2), some (.int x3)], [], _, _, _)) rfl ?_
        rw [if_neg q4]
        refine pe_blk mm_90 1 (s' := (13, [some (.ref 7), some (.ref g0), some (.int x2), some (.int x3)], [.int x2], _, _, _)) rfl ?_
        by_cases q5 : x2 = 0
        · rw [if_pos q5] at h
          refine pe_blk mm_90 1 (s' := (if x2 = 0 then 16 else 29, [some (.ref 7), some (.ref g0), some (.int x2), some (.int x3)], [], _, _, _)) rfl ?_
          rw [if_pos q5]
          refine pe_blk mm_90 3 (s' := (19, [some (.ref 7), some (.ref g0), some (.int x2), some (.int x3)], [.int x3, .ref g0, .ref 7], _, _, _)) rfl ?_
          skip
          cases hc8 : F91 n g0 x3 M2 with
          | none => rw [hc8] at h; cases h
          | some w =>
            obtain ⟨v6, M7⟩ := w
            rw [hc8] at h
            dsimp only at h
            refine pe_virt (al := [.int x3, .ref g0]) (a := 7) (L0 := [some (.ref 7), some (.ref g0), some (.int x3)]) (r1 := (some (.int v6), 129, 17845, hp M7)) mm_90 rfl rfl rfl mm_91 rfl (by decide) (by decide) rfl (Nat.le_of_ble_eq_true rfl) (Nat.le_of_ble_eq_true rfl) rfl rfl (F91_ev sc n g0 x3 hg0 _ e1 (by omega) _ _ hc8) ?_
            show pm_ev _ _ _ _ _ (22, [some (.ref 7), some (.ref g0), some (.int x2), some (.int x3)], [.int v6], _, _, _) _
            refine pe_blk mm_90 1 (s' := (23, [some (.ref 7), some (.ref g0), some (.int v6), some (.int x3)], [], _, _, _)) rfl ?_
            exact J90_23_ev sc n g0 hg0 (e1 + 1) he (L90_4 n g0 k) hr4 v6 x3 _ _ _ h
        · rw [if_neg q5] at h
          refine pe_blk mm_90 1 (s' := (if x2 = 0 then 16 else 29, [some (.ref 7), some (.ref g0), some (.int x2), some (.int x3)], [], _, _, _)) rfl ?_
          rw [if_neg q5]
          exact J90_29_ev sc n g0 hg0 (e1 + 1) he x2 _ _ _ _ _ _ h
/-- ArmExpander$Checker.check -/
def F90 (n : Nat) (g0 : Nat) (M : Mem) : Option (Int32 × Mem) :=
  L90_4 n g0 n 0 0 M
set_option maxRecDepth 100000 in
set_option maxHeartbeats 4000000 in
theorem F90_ev (sc : Option (Nat × (Nat → Int32))) (n : Nat) (g0 : Nat) (hg0 : isD g0) (M : Mem) (e : Nat) (he : 41 ≤ e) (r : Int32) (M' : Mem) (h : F90 n g0 M = some (r, M')) : pm_ev pmT sc e 90 false (0, [some (.ref 7), some (.ref g0), none, none], [], 129, 17845, hp M) (some (.int r), 129, 17845, hp M') := by
  unfold F90 at h
  refine pe_blk mm_90 4 (s' := (4, [some (.ref 7), some (.ref g0), some (.int 0), some (.int 0)], [], _, _, _)) rfl ?_
  exact L90_4_ev sc n g0 hg0 e he n 0 0 _ _ _ h
def J2_76 (n : Nat) (M : Mem) : Option (Int32 × Mem) :=
  some (M.1 0 5, M)
set_option maxRecDepth 100000 in
set_option maxHeartbeats 4000000 in
theorem J2_76_ev (sc : Option (Nat × (Nat → Int32))) (n : Nat)  (e : Nat) (he : 42 ≤ e) : ∀ (u1 : Option Value) (u2 : Option Value) (u3 : Option Value) (M : Mem) (r : Int32) (M' : Mem), J2_76 n  M = some (r, M') → pm_ev pmT sc e 2 false (76, [some (.ref 0), u1, u2, u3], [], 129, 17845, hp M) (some (.int r), 129, 17845, hp M') := by
  intro u1 u2 u3 M r M' h
  unfold J2_76 at h
  refine pe_blk mm_2 1 (s' := (77, [some (.ref 0), u1, u2, u3], [.ref 0], _, _, _)) rfl ?_
  refine pe_get mm_2 rfl rfl rfl (by decide) rfl ?_
  cases h
  exact pe_ret mm_2 rfl rfl
def J2_48 (n : Nat) (x3 : Int32) (M : Mem) : Option (Int32 × Mem) :=
  if x3 = 0 then (if (M.1 0 5) < 5 then (mlet (m_i M 0 5 ((M.1 0 5) + 1)) (fun M17 => J2_76 n M17)) else (some ((-1004), M))) else (some (x3, M))
set_option maxRecDepth 100000 in
set_option maxHeartbeats 4000000 in
theorem J2_48_ev (sc : Option (Nat × (Nat → Int32))) (n : Nat)  (e : Nat) (he : 42 ≤ e) : ∀ (x3 : Int32) (u1 : Option Value) (u2 : Option Value) (M : Mem) (r : Int32) (M' : Mem), J2_48 n x3 M = some (r, M') → pm_ev pmT sc e 2 false (48, [some (.ref 0), u1, u2, some (.int x3)], [], 129, 17845, hp M) (some (.int r), 129, 17845, hp M') := by
  intro x3 u1 u2 M r M' h
  unfold J2_48 at h
  refine pe_blk mm_2 1 (s' := (49, [some (.ref 0), u1, u2, some (.int x3)], [.int x3], _, _, _)) rfl ?_
  by_cases q15 : x3 = 0
  · rw [if_pos q15] at h
    refine pe_blk mm_2 1 (s' := (if x3 = 0 then 54 else 52, [some (.ref 0), u1, u2, some (.int x3)], [], _, _, _)) rfl ?_
    rw [if_pos q15]
    refine pe_blk mm_2 1 (s' := (55, [some (.ref 0), u1, u2, some (.int x3)], [.ref 0], _, _, _)) rfl ?_
    refine pe_get mm_2 rfl rfl rfl (by decide) rfl ?_
    refine pe_blk mm_2 1 (s' := (59, [some (.ref 0), u1, u2, some (.int x3)], [.int 5, .int (M.1 0 5)], _, _, _)) rfl ?_
    by_cases q16 : (M.1 0 5) < 5
    · rw [if_pos q16] at h
      refine pe_blk mm_2 1 (s' := (if (M.1 0 5) < 5 then 66 else 62, [some (.ref 0), u1, u2, some (.int x3)], [], _, _, _)) rfl ?_
      rw [if_pos q16]
      refine pe_blk mm_2 2 (s' := (68, [some (.ref 0), u1, u2, some (.int x3)], [.ref 0, .ref 0], _, _, _)) rfl ?_
      refine pe_get mm_2 rfl rfl rfl (by decide) rfl ?_
      refine pe_blk mm_2 2 (s' := (73, [some (.ref 0), u1, u2, some (.int x3)], [.int ((M.1 0 5) + 1), .ref 0], _, _, _)) rfl ?_
      refine pe_puti mm_2 rfl rfl rfl (by decide) (Nat.le_of_ble_eq_true rfl) rfl rfl ?_
      show pm_ev _ _ _ _ _ (76, [some (.ref 0), u1, u2, some (.int x3)], [], _, _, hp (m_i M 0 5 ((M.1 0 5) + 1))) _
      generalize m_i M 0 5 ((M.1 0 5) + 1) = M17 at h ⊢
      rw [mlet] at h
      exact J2_76_ev sc n e he _ _ _ _ _ _ h
    · rw [if_neg q16] at h
      refine pe_blk mm_2 1 (s' := (if (M.1 0 5) < 5 then 66 else 62, [some (.ref 0), u1, u2, some (.int x3)], [], _, _, _)) rfl ?_
      rw [if_neg q16]
      refine pe_blk mm_2 1 (s' := (65, [some (.ref 0), u1, u2, some (.int x3)], [.int (-1004)], _, _, _)) rfl ?_
      cases h
      exact pe_ret mm_2 rfl rfl
  · rw [if_neg q15] at h
    refine pe_blk mm_2 1 (s' := (if x3 = 0 then 54 else 52, [some (.ref 0), u1, u2, some (.int x3)], [], _, _, _)) rfl ?_
    rw [if_neg q15]
    refine pe_blk mm_2 1 (s' := (53, [some (.ref 0), u1, u2, some (.int x3)], [.int x3], _, _, _)) rfl ?_
    cases h
    exact pe_ret mm_2 rfl rfl
def J2_23 (n : Nat) (y1 : Nat) (x2 : Int32) (M : Mem) : Option (Int32 × Mem) :=
  match F198 n M with | some (v8, M9) => (if x2 = (-1) then (match F90 n y1 M9 with | some (v12, M13) => (J2_48 n v12 M13) | none => none) else (some ((-1) - x2, M9))) | none => none
set_option maxRecDepth 100000 in
set_option maxHeartbeats 4000000 in
theorem J2_23_ev (sc : Option (Nat × (Nat → Int32))) (n : Nat)  (e : Nat) (he : 42 ≤ e) : ∀ (y1 : Nat) (x2 : Int32) (u3 : Option Value) (hy1 : isD y1) (M : Mem) (r : Int32) (M' : Mem), J2_23 n y1 x2 M = some (r, M') → pm_ev pmT sc e 2 false (23, [some (.ref 0), some (.ref y1), some (.int x2), u3], [], 129, 17845, hp M) (some (.int r), 129, 17845, hp M') := by
  intro y1 x2 u3 hy1 M r M' h
  unfold J2_23 at h
  refine pe_blk mm_2 1 (s' := (24, [some (.ref 0), some (.ref y1), some (.int x2), u3], [.ref 0], _, _, _)) rfl ?_
  refine pe_get mm_2 rfl rfl rfl (by decide) rfl ?_
  obtain ⟨e1, rfl⟩ : ∃ e1, e = e1 + 1 := ⟨e - 1, by omega⟩
  cases hc10 : F198 n M with
  | none => rw [hc10] at h; cases h
  | some w =>
    obtain ⟨v8, M9⟩ := w
    rw [hc10] at h
    dsimp only at h
    refine pe_virt (al := []) (a := 1) (L0 := [some (.ref 1)]) (r1 := (none, 129, 17845, hp M9)) mm_2 rfl rfl rfl mm_198 rfl (by decide) (by decide) rfl (Nat.le_of_ble_eq_true rfl) (Nat.le_of_ble_eq_true rfl) rfl rfl (F198_ev sc n _ e1 (by omega) _ _ hc10) ?_
    show pm_ev _ _ _ _ _ (30, [some (.ref 0), some (.ref y1), some (.int x2), u3], [], _, _, _) _
    refine pe_blk mm_2 2 (s' := (32, [some (.ref 0), some (.ref y1), some (.int x2), u3], [.int (-1), .int x2], _, _, _)) rfl ?_
    by_cases q11 : x2 = (-1)
    · rw [if_pos q11] at h
      refine pe_blk mm_2 1 (s' := (if x2 = (-1) then 39 else 35, [some (.ref 0), some (.ref y1), some (.int x2), u3], [], _, _, _)) rfl ?_
      rw [if_pos q11]
      refine pe_blk mm_2 1 (s' := (40, [some (.ref 0), some (.ref y1), some (.int x2), u3], [.ref 0], _, _, _)) rfl ?_
      refine pe_get mm_2 rfl rfl rfl (by decide) rfl ?_
      refine pe_blk mm_2 1 (s' := (44, [some (.ref 0), some (.ref y1), some (.int x2), u3], [.ref y1, .ref 7], _, _, _)) rfl ?_
      skip
      cases hc14 : F90 n y1 M9 with
      | none => rw [hc14] at h; cases h
      | some w =>
        obtain ⟨v12, M13⟩ := w
        rw [hc14] at h
        dsimp only at h
        refine pe_virt (al := [.ref y1]) (a := 7) (L0 := [some (.ref 7), some (.ref y1), none, none]) (r1 := (some (.int v12), 129, 17845, hp M13)) mm_2 rfl rfl rfl mm_90 rfl (by decide) (by decide) rfl (Nat.le_of_ble_eq_true rfl) (Nat.le_of_ble_eq_true rfl) rfl rfl (F90_ev sc n y1 hy1 _ e1 (by omega) _ _ hc14) ?_
        show pm_ev _ _ _ _ _ (47, [some (.ref 0), some (.ref y1), some (.int x2), u3], [.int v12], _, _, _) _
        refine pe_blk mm_2 1 (s' := (48, [some (.ref 0), some (.ref y1), some (.int x2), some (.int v12)], [], _, _, _)) rfl ?_
        exact J2_48_ev sc n (e1 + 1) he v12 _ _ _ _ _ h
    · rw [if_neg q11] at h
      refine pe_blk mm_2 1 (s' := (if x2 = (-1) then 39 else 35, [some (.ref 0), some (.ref y1), some (.int x2), u3], [], _, _, _)) rfl ?_
      rw [if_neg q11]
      refine pe_blk mm_2 3 (s' := (38, [some (.ref 0), some (.ref y1), some (.int x2), u3], [.int ((-1) - x2)], _, _, _)) rfl ?_
      obtain ⟨rfl, rfl⟩ := Prod.mk.inj (Option.some.inj h)
      exact pe_ret mm_2 rfl rfl
/-- ArmExpander.define -/
def F2 (n : Nat) (M : Mem) : Option (Int32 × Mem) :=
  if (M.1 0 5) < 0 ∨ 6 ≤ (M.1 0 5 : Int32).toNatClampNeg then none else (match m_pl (M.1 0 5 : Int32).toNatClampNeg with | some p2 => (if isD p2 then (match F127 n p2 M with | some (v5, M6) => (J2_23 n p2 v5 M6) | none => none) else none) | none => none)
set_option maxRecDepth 100000 in
set_option maxHeartbeats 4000000 in
theorem F2_ev (sc : Option (Nat × (Nat → Int32))) (n : Nat)  (M : Mem) (e : Nat) (he : 42 ≤ e) (r : Int32) (M' : Mem) (h : F2 n M = some (r, M')) : pm_ev pmT sc e 2 false (0, [some (.ref 0), none, none, none], [], 129, 17845, hp M) (some (.int r), 129, 17845, hp M') := by
  unfold F2 at h
  refine pe_blk mm_2 1 (s' := (1, [some (.ref 0), none, none, none], [.ref 0], _, _, _)) rfl ?_
  refine pe_get mm_2 rfl rfl rfl (by decide) rfl ?_
  refine pe_blk mm_2 1 (s' := (5, [some (.ref 0), none, none, none], [.ref 0, .ref 40], _, _, _)) rfl ?_
  refine pe_get mm_2 rfl rfl rfl (by decide) rfl ?_
  by_cases q1 : (M.1 0 5) < 0 ∨ 6 ≤ (M.1 0 5 : Int32).toNatClampNeg
  · rw [if_pos q1] at h
    cases h
  · rw [if_neg q1] at h
    refine pe_pl mm_2 rfl q1 ?_
    show pm_ev _ _ _ _ _ (9, [some (.ref 0), none, none, none], va_rf (m_pl (M.1 0 5 : Int32).toNatClampNeg) :: [], _, _, _) _
    cases hq4 : m_pl (M.1 0 5 : Int32).toNatClampNeg with
    | none => rw [hq4] at h; cases h
    | some p2 =>
      rw [hq4] at h
      dsimp only at h
      by_cases f3 : isD p2
      · rw [if_pos f3] at h
        show pm_ev _ _ _ _ _ (9, [some (.ref 0), none, none, none], [.ref p2], _, _, _) _
        refine pe_blk mm_2 2 (s' := (11, [some (.ref 0), some (.ref p2), none, none], [.ref 0], _, _, _)) rfl ?_
        refine pe_get mm_2 rfl rfl rfl (by decide) rfl ?_
        refine pe_blk mm_2 1 (s' := (15, [some (.ref 0), some (.ref p2), none, none], [.ref 0, .ref 3], _, _, _)) rfl ?_
        refine pe_get mm_2 rfl rfl rfl (by decide) rfl ?_
        refine pe_blk mm_2 1 (s' := (19, [some (.ref 0), some (.ref p2), none, none], [.ref p2, .ref 1, .ref 3], _, _, _)) rfl ?_
        obtain ⟨e1, rfl⟩ : ∃ e1, e = e1 + 1 := ⟨e - 1, by omega⟩
        cases hc7 : F127 n p2 M with
        | none => rw [hc7] at h; cases h
        | some w =>
          obtain ⟨v5, M6⟩ := w
          rw [hc7] at h
          dsimp only at h
          refine pe_virt (al := [.ref p2, .ref 1]) (a := 3) (L0 := [some (.ref 3), some (.ref 1), some (.ref p2), none, none]) (r1 := (some (.int v5), 129, 17845, hp M6)) mm_2 rfl rfl rfl mm_127 rfl (by decide) (by decide) rfl (Nat.le_of_ble_eq_true rfl) (Nat.le_of_ble_eq_true rfl) rfl rfl (F127_ev sc n p2 f3 _ e1 (by omega) _ _ hc7) ?_
          show pm_ev _ _ _ _ _ (22, [some (.ref 0), some (.ref p2), none, none], [.int v5], _, _, _) _
          refine pe_blk mm_2 1 (s' := (23, [some (.ref 0), some (.ref p2), some (.int v5), none], [], _, _, _)) rfl ?_
          exact J2_23_ev sc n (e1 + 1) he p2 v5 _ f3 _ _ _ h
      · rw [if_neg f3] at h
        cases h
