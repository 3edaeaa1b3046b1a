/-! What each method may write; written by program. -/
set_option maxRecDepth 100000 in
theorem zJ55_34_kp (n : Nat) (zrec4 : Int → Int → Int → ZM → Option (Int × ZM)) (hrec4 : ∀ (c0 : Int) (c1 : Int) (c2 : Int) (c3 : ZM) (r : Int) (m' : ZM), zrec4 c0 c1 c2 c3 = some (r, m') → m' = c3) (x1 : Int) (x3 : Int) (s0 : Int) (M : ZM) (r : Int) (m' : ZM) (h : zJ55_34 n zrec4 x1 x3 s0 M = some (r, m')) : m' = M := by
  unfold zJ55_34 at h
  have g : M = M := rfl
  by_cases q1 : rg (x3 + 1)
  · rw [if_pos q1] at h
    exact (hrec4 x1 s0 (x3 + 1) M _ _ h).trans g
  · rw [if_neg q1] at h
    cases h
set_option maxRecDepth 100000 in
theorem zJ55_29_kp (n : Nat) (zrec4 : Int → Int → Int → ZM → Option (Int × ZM)) (hrec4 : ∀ (c0 : Int) (c1 : Int) (c2 : Int) (c3 : ZM) (r : Int) (m' : ZM), zrec4 c0 c1 c2 c3 = some (r, m') → m' = c3) (x1 : Int) (x3 : Int) (M : ZM) (r : Int) (m' : ZM) (h : zJ55_29 n zrec4 x1 x3 M = some (r, m')) : m' = M := by
  unfold zJ55_29 at h
  have g : M = M := rfl
  exact (zJ55_34_kp n zrec4 hrec4 x1 x3 1 M _ _ h).trans g
set_option maxRecDepth 100000 in
theorem zJ55_33_kp (n : Nat) (zrec4 : Int → Int → Int → ZM → Option (Int × ZM)) (hrec4 : ∀ (c0 : Int) (c1 : Int) (c2 : Int) (c3 : ZM) (r : Int) (m' : ZM), zrec4 c0 c1 c2 c3 = some (r, m') → m' = c3) (x1 : Int) (x3 : Int) (M : ZM) (r : Int) (m' : ZM) (h : zJ55_33 n zrec4 x1 x3 M = some (r, m')) : m' = M := by
  unfold zJ55_33 at h
  have g : M = M := rfl
  exact (zJ55_34_kp n zrec4 hrec4 x1 x3 0 M _ _ h).trans g
set_option maxRecDepth 100000 in
theorem zL55_4_kp (n : Nat) : ∀ (k : Nat) (x1 : Int) (x2 : Int) (x3 : Int) (M : ZM) (r : Int) (m' : ZM), zL55_4 n k x1 x2 x3 M = some (r, m') → m' = M := by
  intro k
  induction k with
  | zero => intro x1 x2 x3 M r m' h; cases h
  | succ k ih =>
    intro x1 x2 x3 M r m' h
    rw [zL55_4] at h
    have g : M = M := rfl
    by_cases q1 : x1 < 0 ∨ 128 ≤ x1
    · rw [if_pos q1] at h
      cases h
    · rw [if_neg q1] at h
      by_cases q2 : (M.1 99 (Int.toNat x1)) ≤ x3
      · rw [if_pos q2] at h
        by_cases q3 : x2 = 0 ∨ x2 = 1
        · rw [if_pos q3] at h
          exact (Prod.mk.inj (Option.some.inj h)).2.symm.trans g
        · rw [if_neg q3] at h
          cases h
      · rw [if_neg q2] at h
        by_cases q4 : x2 = 0
        · rw [if_pos q4] at h
          by_cases q5 : x3 < 0 ∨ 128 ≤ x3
          · rw [if_pos q5] at h
            cases h
          · rw [if_neg q5] at h
            by_cases q6 : (M.1 97 (Int.toNat x3)) = 7
            · rw [if_pos q6] at h
              exact (zJ55_29_kp n (zL55_4 n k) ih x1 x3 M _ _ h).trans g
            · rw [if_neg q6] at h
              exact (zJ55_33_kp n (zL55_4 n k) ih x1 x3 M _ _ h).trans g
        · rw [if_neg q4] at h
          exact (zJ55_29_kp n (zL55_4 n k) ih x1 x3 M _ _ h).trans g
set_option maxRecDepth 100000 in
theorem zF55_kp (n : Nat) (a0 : Int) (M : ZM) (r : Int) (m' : ZM) (h : zF55 n a0 M = some (r, m')) : m' = M := by
  unfold zF55 at h
  have g : M = M := rfl
  exact (zL55_4_kp n n a0 0 a0 M _ _ h).trans g
set_option maxRecDepth 100000 in
theorem zJ56_17_kp (n : Nat) (s0 : Int) (M : ZM) (r : Int) (m' : ZM) (h : zJ56_17 n s0 M = some (r, m')) : m' = M := by
  unfold zJ56_17 at h
  have g : M = M := rfl
  exact (Prod.mk.inj (Option.some.inj h)).2.symm.trans g
set_option maxRecDepth 100000 in
theorem zF56_kp (n : Nat) (a0 : Int) (a1 : Int) (M : ZM) (r : Int) (m' : ZM) (h : zF56 n a0 a1 M = some (r, m')) : m' = M := by
  unfold zF56 at h
  have g : M = M := rfl
  by_cases q1 : 0 ≤ a0
  · rw [if_pos q1] at h
    by_cases q2 : 0 ≤ a1
    · rw [if_pos q2] at h
      exact (zJ56_17_kp n 2 M _ _ h).trans g
    · rw [if_neg q2] at h
      exact (zJ56_17_kp n 1 M _ _ h).trans g
  · rw [if_neg q1] at h
    exact (zJ56_17_kp n 0 M _ _ h).trans g
set_option maxRecDepth 100000 in
theorem zJ57_128_kp (n : Nat) (zrec4 : Int → Int → ZM → Option (Int × ZM)) (hrec4 : ∀ (c0 : Int) (c1 : Int) (c2 : ZM) (r : Int) (m' : ZM), zrec4 c0 c1 c2 = some (r, m') → m' = c2) (x2 : Int) (s0 : Int) (M : ZM) (r : Int) (m' : ZM) (h : zJ57_128 n zrec4 x2 s0 M = some (r, m')) : m' = M := by
  unfold zJ57_128 at h
  have g : M = M := rfl
  by_cases q1 : rg (x2 + 1)
  · rw [if_pos q1] at h
    exact (hrec4 s0 (x2 + 1) M _ _ h).trans g
  · rw [if_neg q1] at h
    cases h
set_option maxRecDepth 100000 in
theorem zJ57_127_kp (n : Nat) (zrec4 : Int → Int → ZM → Option (Int × ZM)) (hrec4 : ∀ (c0 : Int) (c1 : Int) (c2 : ZM) (r : Int) (m' : ZM), zrec4 c0 c1 c2 = some (r, m') → m' = c2) (x2 : Int) (M : ZM) (r : Int) (m' : ZM) (h : zJ57_127 n zrec4 x2 M = some (r, m')) : m' = M := by
  unfold zJ57_127 at h
  have g : M = M := rfl
  exact (zJ57_128_kp n zrec4 hrec4 x2 0 M _ _ h).trans g
set_option maxRecDepth 100000 in
theorem zJ57_123_kp (n : Nat) (zrec4 : Int → Int → ZM → Option (Int × ZM)) (hrec4 : ∀ (c0 : Int) (c1 : Int) (c2 : ZM) (r : Int) (m' : ZM), zrec4 c0 c1 c2 = some (r, m') → m' = c2) (x2 : Int) (M : ZM) (r : Int) (m' : ZM) (h : zJ57_123 n zrec4 x2 M = some (r, m')) : m' = M := by
  unfold zJ57_123 at h
  have g : M = M := rfl
  exact (zJ57_128_kp n zrec4 hrec4 x2 1 M _ _ h).trans g
set_option maxRecDepth 100000 in
theorem zJ57_105_kp (n : Nat) (zrec4 : Int → Int → ZM → Option (Int × ZM)) (hrec4 : ∀ (c0 : Int) (c1 : Int) (c2 : ZM) (r : Int) (m' : ZM), zrec4 c0 c1 c2 = some (r, m') → m' = c2) (x2 : Int) (M : ZM) (r : Int) (m' : ZM) (h : zJ57_105 n zrec4 x2 M = some (r, m')) : m' = M := by
  unfold zJ57_105 at h
  have g : M = M := rfl
  by_cases q1 : x2 < 0 ∨ 128 ≤ x2
  · rw [if_pos q1] at h
    cases h
  · rw [if_neg q1] at h
    by_cases q2 : (M.1 97 (Int.toNat x2)) = 4
    · rw [if_pos q2] at h
      cases hc3 : zF55 n x2 M with
      | none => rw [hc3] at h; cases h
      | some w =>
        obtain ⟨v17, M18⟩ := w
        rw [hc3] at h
        dsimp only at h
        replace g := (zF55_kp n x2 M _ _ hc3).trans g
        by_cases q4 : v17 = 0
        · rw [if_pos q4] at h
          exact (zJ57_127_kp n zrec4 hrec4 x2 M18 _ _ h).trans g
        · rw [if_neg q4] at h
          exact (zJ57_123_kp n zrec4 hrec4 x2 M18 _ _ h).trans g
    · rw [if_neg q2] at h
      exact (zJ57_123_kp n zrec4 hrec4 x2 M _ _ h).trans g
set_option maxRecDepth 100000 in
theorem zJ57_83_kp (n : Nat) (zrec4 : Int → Int → ZM → Option (Int × ZM)) (hrec4 : ∀ (c0 : Int) (c1 : Int) (c2 : ZM) (r : Int) (m' : ZM), zrec4 c0 c1 c2 = some (r, m') → m' = c2) (x1 : Int) (x2 : Int) (s0 : Int) (M : ZM) (r : Int) (m' : ZM) (h : zJ57_83 n zrec4 x1 x2 s0 M = some (r, m')) : m' = M := by
  unfold zJ57_83 at h
  have g : M = M := rfl
  by_cases q1 : x1 = 0
  · rw [if_pos q1] at h
    exact (zJ57_127_kp n zrec4 hrec4 x2 M _ _ h).trans g
  · rw [if_neg q1] at h
    by_cases q2 : x2 < 0 ∨ 128 ≤ x2
    · rw [if_pos q2] at h
      cases h
    · rw [if_neg q2] at h
      by_cases q3 : (M.1 97 (Int.toNat x2)) = 7
      · rw [if_pos q3] at h
        by_cases q4 : s0 = 0
        · rw [if_pos q4] at h
          exact (zJ57_127_kp n zrec4 hrec4 x2 M _ _ h).trans g
        · rw [if_neg q4] at h
          exact (zJ57_105_kp n zrec4 hrec4 x2 M _ _ h).trans g
      · rw [if_neg q3] at h
        exact (zJ57_105_kp n zrec4 hrec4 x2 M _ _ h).trans g
set_option maxRecDepth 100000 in
theorem zJ57_82_kp (n : Nat) (zrec4 : Int → Int → ZM → Option (Int × ZM)) (hrec4 : ∀ (c0 : Int) (c1 : Int) (c2 : ZM) (r : Int) (m' : ZM), zrec4 c0 c1 c2 = some (r, m') → m' = c2) (x1 : Int) (x2 : Int) (M : ZM) (r : Int) (m' : ZM) (h : zJ57_82 n zrec4 x1 x2 M = some (r, m')) : m' = M := by
  unfold zJ57_82 at h
  have g : M = M := rfl
  exact (zJ57_83_kp n zrec4 hrec4 x1 x2 0 M _ _ h).trans g
set_option maxRecDepth 100000 in
theorem zJ57_78_kp (n : Nat) (zrec4 : Int → Int → ZM → Option (Int × ZM)) (hrec4 : ∀ (c0 : Int) (c1 : Int) (c2 : ZM) (r : Int) (m' : ZM), zrec4 c0 c1 c2 = some (r, m') → m' = c2) (x1 : Int) (x2 : Int) (M : ZM) (r : Int) (m' : ZM) (h : zJ57_78 n zrec4 x1 x2 M = some (r, m')) : m' = M := by
  unfold zJ57_78 at h
  have g : M = M := rfl
  exact (zJ57_83_kp n zrec4 hrec4 x1 x2 1 M _ _ h).trans g
set_option maxRecDepth 100000 in
theorem zJ57_40_kp (n : Nat) (zrec4 : Int → Int → ZM → Option (Int × ZM)) (hrec4 : ∀ (c0 : Int) (c1 : Int) (c2 : ZM) (r : Int) (m' : ZM), zrec4 c0 c1 c2 = some (r, m') → m' = c2) (x1 : Int) (x2 : Int) (s0 : Int) (M : ZM) (r : Int) (m' : ZM) (h : zJ57_40 n zrec4 x1 x2 s0 M = some (r, m')) : m' = M := by
  unfold zJ57_40 at h
  have g : M = M := rfl
  by_cases q1 : s0 < 0
  · rw [if_pos q1] at h
    exact (zJ57_82_kp n zrec4 hrec4 x1 x2 M _ _ h).trans g
  · rw [if_neg q1] at h
    by_cases q2 : s0 < 0 ∨ 128 ≤ s0
    · rw [if_pos q2] at h
      cases h
    · rw [if_neg q2] at h
      cases hc3 : zF56 n (M.1 95 (Int.toNat s0)) (M.1 96 (Int.toNat s0)) M with
      | none => rw [hc3] at h; cases h
      | some w =>
        obtain ⟨v23, M24⟩ := w
        rw [hc3] at h
        dsimp only at h
        replace g := (zF56_kp n (M.1 95 (Int.toNat s0)) (M.1 96 (Int.toNat s0)) M _ _ hc3).trans g
        by_cases q4 : x2 < 0 ∨ 128 ≤ x2
        · rw [if_pos q4] at h
          cases h
        · rw [if_neg q4] at h
          cases hc5 : zF56 n (M24.1 101 (Int.toNat x2)) (M24.1 102 (Int.toNat x2)) M24 with
          | none => rw [hc5] at h; cases h
          | some w =>
            obtain ⟨v28, M29⟩ := w
            rw [hc5] at h
            dsimp only at h
            replace g := (zF56_kp n (M24.1 101 (Int.toNat x2)) (M24.1 102 (Int.toNat x2)) M24 _ _ hc5).trans g
            by_cases q6 : v23 = v28
            · rw [if_pos q6] at h
              exact (zJ57_78_kp n zrec4 hrec4 x1 x2 M29 _ _ h).trans g
            · rw [if_neg q6] at h
              exact (zJ57_82_kp n zrec4 hrec4 x1 x2 M29 _ _ h).trans g
set_option maxRecDepth 100000 in
theorem zJ57_26_kp (n : Nat) (zrec4 : Int → Int → ZM → Option (Int × ZM)) (hrec4 : ∀ (c0 : Int) (c1 : Int) (c2 : ZM) (r : Int) (m' : ZM), zrec4 c0 c1 c2 = some (r, m') → m' = c2) (x1 : Int) (x2 : Int) (M : ZM) (r : Int) (m' : ZM) (h : zJ57_26 n zrec4 x1 x2 M = some (r, m')) : m' = M := by
  unfold zJ57_26 at h
  have g : M = M := rfl
  by_cases q1 : x2 < 0 ∨ 128 ≤ x2
  · rw [if_pos q1] at h
    cases h
  · rw [if_neg q1] at h
    cases hc2 : zF46 n (M.1 98 (Int.toNat x2)) M with
    | none => rw [hc2] at h; cases h
    | some w =>
      obtain ⟨v7, M8⟩ := w
      rw [hc2] at h
      dsimp only at h
      replace g := (zF46_kp n (M.1 98 (Int.toNat x2)) M _ _ hc2).trans g
      exact (zJ57_40_kp n zrec4 hrec4 x1 x2 v7 M8 _ _ h).trans g
set_option maxRecDepth 100000 in
theorem zJ57_39_kp (n : Nat) (zrec4 : Int → Int → ZM → Option (Int × ZM)) (hrec4 : ∀ (c0 : Int) (c1 : Int) (c2 : ZM) (r : Int) (m' : ZM), zrec4 c0 c1 c2 = some (r, m') → m' = c2) (x1 : Int) (x2 : Int) (M : ZM) (r : Int) (m' : ZM) (h : zJ57_39 n zrec4 x1 x2 M = some (r, m')) : m' = M := by
  unfold zJ57_39 at h
  have g : M = M := rfl
  exact (zJ57_40_kp n zrec4 hrec4 x1 x2 (-1) M _ _ h).trans g
set_option maxRecDepth 100000 in
theorem zL57_4_kp (n : Nat) : ∀ (k : Nat) (x1 : Int) (x2 : Int) (M : ZM) (r : Int) (m' : ZM), zL57_4 n k x1 x2 M = some (r, m') → m' = M := by
  intro k
  induction k with
  | zero => intro x1 x2 M r m' h; cases h
  | succ k ih =>
    intro x1 x2 M r m' h
    rw [zL57_4] at h
    have g : M = M := rfl
    by_cases q1 : x2 < 0 ∨ 128 ≤ x2
    · rw [if_pos q1] at h
      cases h
    · rw [if_neg q1] at h
      by_cases q2 : (M.1 97 (Int.toNat x2)) = 6
      · rw [if_pos q2] at h
        by_cases q3 : x1 = 0 ∨ x1 = 1
        · rw [if_pos q3] at h
          exact (Prod.mk.inj (Option.some.inj h)).2.symm.trans g
        · rw [if_neg q3] at h
          cases h
      · rw [if_neg q2] at h
        by_cases q4 : (M.1 97 (Int.toNat x2)) = 7
        · rw [if_pos q4] at h
          exact (zJ57_26_kp n (zL57_4 n k) ih x1 x2 M _ _ h).trans g
        · rw [if_neg q4] at h
          exact (zJ57_39_kp n (zL57_4 n k) ih x1 x2 M _ _ h).trans g
set_option maxRecDepth 100000 in
theorem zF57_kp (n : Nat) (M : ZM) (r : Int) (m' : ZM) (h : zF57 n M = some (r, m')) : m' = M := by
  unfold zF57 at h
  have g : M = M := rfl
  exact (zL57_4_kp n n 1 0 M _ _ h).trans g
set_option maxRecDepth 100000 in
theorem zF59_kp (n : Nat) (M : ZM) (r : Int) (m' : ZM) (h : zF59 n M = some (r, m')) : m' = M := by
  unfold zF59 at h
  have g : M = M := rfl
  exact (Prod.mk.inj (Option.some.inj h)).2.symm.trans g
set_option maxRecDepth 100000 in
theorem zJ60_24_kp (n : Nat) (s0 : Int) (M : ZM) (r : Int) (m' : ZM) (h : zJ60_24 n s0 M = some (r, m')) : m' = M := by
  unfold zJ60_24 at h
  have g : M = M := rfl
  exact (Prod.mk.inj (Option.some.inj h)).2.symm.trans g
set_option maxRecDepth 100000 in
theorem zF60_kp (n : Nat) (a0 : Int) (M : ZM) (r : Int) (m' : ZM) (h : zF60 n a0 M = some (r, m')) : m' = M := by
  unfold zF60 at h
  have g : M = M := rfl
  by_cases q1 : rg ((M.1 83 9) - 1)
  · rw [if_pos q1] at h
    cases hc2 : zF19 n a0 0 ((M.1 83 9) - 1) M with
    | none => rw [hc2] at h; cases h
    | some w =>
      obtain ⟨v1, M2⟩ := w
      rw [hc2] at h
      dsimp only at h
      replace g := (zF19_kp n a0 0 ((M.1 83 9) - 1) M _ _ hc2).trans g
      by_cases q3 : v1 = 0
      · rw [if_pos q3] at h
        exact (zJ60_24_kp n (-1) M2 _ _ h).trans g
      · rw [if_neg q3] at h
        by_cases q4 : a0 < 0 ∨ 6 ≤ a0
        · rw [if_pos q4] at h
          cases h
        · rw [if_neg q4] at h
          exact (zJ60_24_kp n (M2.1 89 (Int.toNat a0)) M2 _ _ h).trans g
  · rw [if_neg q1] at h
    cases h
set_option maxRecDepth 100000 in
theorem zJ61_49_kp (n : Nat) (zrec4 : Int → Int → ZM → Option (Int × ZM)) (hrec4 : ∀ (c0 : Int) (c1 : Int) (c2 : ZM) (r : Int) (m' : ZM), zrec4 c0 c1 c2 = some (r, m') → m' = c2) (x3 : Int) (s0 : Int) (M : ZM) (r : Int) (m' : ZM) (h : zJ61_49 n zrec4 x3 s0 M = some (r, m')) : m' = M := by
  unfold zJ61_49 at h
  have g : M = M := rfl
  exact (hrec4 s0 x3 M _ _ h).trans g
set_option maxRecDepth 100000 in
theorem zJ61_30_kp (n : Nat) (zrec4 : Int → Int → ZM → Option (Int × ZM)) (hrec4 : ∀ (c0 : Int) (c1 : Int) (c2 : ZM) (r : Int) (m' : ZM), zrec4 c0 c1 c2 = some (r, m') → m' = c2) (x2 : Int) (x3 : Int) (M : ZM) (r : Int) (m' : ZM) (h : zJ61_30 n zrec4 x2 x3 M = some (r, m')) : m' = M := by
  unfold zJ61_30 at h
  have g : M = M := rfl
  by_cases q1 : x3 < 0 ∨ 320 ≤ x3
  · rw [if_pos q1] at h
    cases h
  · rw [if_neg q1] at h
    cases hc2 : zF22 n (M.1 105 (Int.toNat x3)) M with
    | none => rw [hc2] at h; cases h
    | some w =>
      obtain ⟨v8, M9⟩ := w
      rw [hc2] at h
      dsimp only at h
      replace g := (zF22_kp n (M.1 105 (Int.toNat x3)) M _ _ hc2).trans g
      by_cases q3 : v8 = 0
      · rw [if_pos q3] at h
        exact (zJ61_49_kp n zrec4 hrec4 x3 x2 M9 _ _ h).trans g
      · rw [if_neg q3] at h
        by_cases q4 : rg (x2 - 1)
        · rw [if_pos q4] at h
          exact (zJ61_49_kp n zrec4 hrec4 x3 (x2 - 1) M9 _ _ h).trans g
        · rw [if_neg q4] at h
          cases h
set_option maxRecDepth 100000 in
theorem zJ61_24_kp (n : Nat) (zrec4 : Int → Int → ZM → Option (Int × ZM)) (hrec4 : ∀ (c0 : Int) (c1 : Int) (c2 : ZM) (r : Int) (m' : ZM), zrec4 c0 c1 c2 = some (r, m') → m' = c2) (x2 : Int) (x3 : Int) (M : ZM) (r : Int) (m' : ZM) (h : zJ61_24 n zrec4 x2 x3 M = some (r, m')) : m' = M := by
  unfold zJ61_24 at h
  have g : M = M := rfl
  by_cases q1 : rg (x2 + 1)
  · rw [if_pos q1] at h
    exact (zJ61_49_kp n zrec4 hrec4 x3 (x2 + 1) M _ _ h).trans g
  · rw [if_neg q1] at h
    cases h
set_option maxRecDepth 100000 in
theorem zL61_4_kp (n : Nat) : ∀ (k : Nat) (x2 : Int) (x3 : Int) (M : ZM) (r : Int) (m' : ZM), zL61_4 n k x2 x3 M = some (r, m') → m' = M := by
  intro k
  induction k with
  | zero => intro x2 x3 M r m' h; cases h
  | succ k ih =>
    intro x2 x3 M r m' h
    rw [zL61_4] at h
    have g : M = M := rfl
    by_cases q1 : x2 ≤ 0
    · rw [if_pos q1] at h
      exact (Prod.mk.inj (Option.some.inj h)).2.symm.trans g
    · rw [if_neg q1] at h
      by_cases q2 : rg (x3 + 1)
      · rw [if_pos q2] at h
        by_cases q3 : (x3 + 1) < 0 ∨ 320 ≤ (x3 + 1)
        · rw [if_pos q3] at h
          cases h
        · rw [if_neg q3] at h
          cases hc4 : zF21 n (M.1 105 (Int.toNat (x3 + 1))) M with
          | none => rw [hc4] at h; cases h
          | some w =>
            obtain ⟨v3, M4⟩ := w
            rw [hc4] at h
            dsimp only at h
            replace g := (zF21_kp n (M.1 105 (Int.toNat (x3 + 1))) M _ _ hc4).trans g
            by_cases q5 : v3 = 0
            · rw [if_pos q5] at h
              exact (zJ61_30_kp n (zL61_4 n k) ih x2 (x3 + 1) M4 _ _ h).trans g
            · rw [if_neg q5] at h
              exact (zJ61_24_kp n (zL61_4 n k) ih x2 (x3 + 1) M4 _ _ h).trans g
      · rw [if_neg q2] at h
        cases h
set_option maxRecDepth 100000 in
theorem zF61_kp (n : Nat) (a0 : Int) (M : ZM) (r : Int) (m' : ZM) (h : zF61 n a0 M = some (r, m')) : m' = M := by
  unfold zF61 at h
  have g : M = M := rfl
  exact (zL61_4_kp n n 1 a0 M _ _ h).trans g
set_option maxRecDepth 100000 in
theorem zJ62_202_kp (n : Nat) (s0 : Int) (M : ZM) (r : Int) (m' : ZM) (h : zJ62_202 n s0 M = some (r, m')) : m' = M := by
  unfold zJ62_202 at h
  have g : M = M := rfl
  exact (Prod.mk.inj (Option.some.inj h)).2.symm.trans g
set_option maxRecDepth 100000 in
theorem zJ62_190_kp (n : Nat) (x3 : Int) (x6 : Int) (M : ZM) (r : Int) (m' : ZM) (h : zJ62_190 n x3 x6 M = some (r, m')) : m' = M := by
  unfold zJ62_190 at h
  have g : M = M := rfl
  by_cases q1 : x6 = 0
  · rw [if_pos q1] at h
    exact (zJ62_202_kp n (-1) M _ _ h).trans g
  · rw [if_neg q1] at h
    by_cases q2 : rg (x3 + 1)
    · rw [if_pos q2] at h
      exact (zJ62_202_kp n (x3 + 1) M _ _ h).trans g
    · rw [if_neg q2] at h
      cases h
set_option maxRecDepth 100000 in
theorem zJ62_184_kp (n : Nat) (zrec54 : Int → Int → Int → Int → Int → ZM → Option (Int × ZM)) (hrec54 : ∀ (c0 : Int) (c1 : Int) (c2 : Int) (c3 : Int) (c4 : Int) (c5 : ZM) (r : Int) (m' : ZM), zrec54 c0 c1 c2 c3 c4 c5 = some (r, m') → m' = c5) (x3 : Int) (x4 : Int) (x5 : Int) (x6 : Int) (x7 : Int) (M : ZM) (r : Int) (m' : ZM) (h : zJ62_184 n zrec54 x3 x4 x5 x6 x7 M = some (r, m')) : m' = M := by
  unfold zJ62_184 at h
  have g : M = M := rfl
  by_cases q1 : rg (x7 + 1)
  · rw [if_pos q1] at h
    exact (hrec54 x3 x4 x5 x6 (x7 + 1) M _ _ h).trans g
  · rw [if_neg q1] at h
    cases h
set_option maxRecDepth 100000 in
theorem zJ62_122_kp (n : Nat) (zrec54 : Int → Int → Int → Int → Int → ZM → Option (Int × ZM)) (hrec54 : ∀ (c0 : Int) (c1 : Int) (c2 : Int) (c3 : Int) (c4 : Int) (c5 : ZM) (r : Int) (m' : ZM), zrec54 c0 c1 c2 c3 c4 c5 = some (r, m') → m' = c5) (x3 : Int) (x4 : Int) (x5 : Int) (x7 : Int) (s0 : Int) (M : ZM) (r : Int) (m' : ZM) (h : zJ62_122 n zrec54 x3 x4 x5 x7 s0 M = some (r, m')) : m' = M := by
  unfold zJ62_122 at h
  have g : M = M := rfl
  exact (zJ62_184_kp n zrec54 hrec54 x3 x4 x5 s0 x7 M _ _ h).trans g
set_option maxRecDepth 100000 in
theorem zJ62_121_kp (n : Nat) (zrec54 : Int → Int → Int → Int → Int → ZM → Option (Int × ZM)) (hrec54 : ∀ (c0 : Int) (c1 : Int) (c2 : Int) (c3 : Int) (c4 : Int) (c5 : ZM) (r : Int) (m' : ZM), zrec54 c0 c1 c2 c3 c4 c5 = some (r, m') → m' = c5) (x3 : Int) (x4 : Int) (x5 : Int) (x7 : Int) (M : ZM) (r : Int) (m' : ZM) (h : zJ62_121 n zrec54 x3 x4 x5 x7 M = some (r, m')) : m' = M := by
  unfold zJ62_121 at h
  have g : M = M := rfl
  exact (zJ62_122_kp n zrec54 hrec54 x3 x4 x5 x7 0 M _ _ h).trans g
set_option maxRecDepth 100000 in
theorem zJ62_150_kp (n : Nat) (zrec54 : Int → Int → Int → Int → Int → ZM → Option (Int × ZM)) (hrec54 : ∀ (c0 : Int) (c1 : Int) (c2 : Int) (c3 : Int) (c4 : Int) (c5 : ZM) (r : Int) (m' : ZM), zrec54 c0 c1 c2 c3 c4 c5 = some (r, m') → m' = c5) (x3 : Int) (x4 : Int) (x5 : Int) (x7 : Int) (s0 : Int) (M : ZM) (r : Int) (m' : ZM) (h : zJ62_150 n zrec54 x3 x4 x5 x7 s0 M = some (r, m')) : m' = M := by
  unfold zJ62_150 at h
  have g : M = M := rfl
  exact (zJ62_184_kp n zrec54 hrec54 x3 x4 x5 s0 x7 M _ _ h).trans g
set_option maxRecDepth 100000 in
theorem zJ62_179_kp (n : Nat) (zrec54 : Int → Int → Int → Int → Int → ZM → Option (Int × ZM)) (hrec54 : ∀ (c0 : Int) (c1 : Int) (c2 : Int) (c3 : Int) (c4 : Int) (c5 : ZM) (r : Int) (m' : ZM), zrec54 c0 c1 c2 c3 c4 c5 = some (r, m') → m' = c5) (x3 : Int) (x4 : Int) (x7 : Int) (s0 : Int) (M : ZM) (r : Int) (m' : ZM) (h : zJ62_179 n zrec54 x3 x4 x7 s0 M = some (r, m')) : m' = M := by
  unfold zJ62_179 at h
  have g : M = M := rfl
  exact (zJ62_184_kp n zrec54 hrec54 x3 x4 1 s0 x7 M _ _ h).trans g
set_option maxRecDepth 100000 in
theorem zJ62_174_kp (n : Nat) (zrec54 : Int → Int → Int → Int → Int → ZM → Option (Int × ZM)) (hrec54 : ∀ (c0 : Int) (c1 : Int) (c2 : Int) (c3 : Int) (c4 : Int) (c5 : ZM) (r : Int) (m' : ZM), zrec54 c0 c1 c2 c3 c4 c5 = some (r, m') → m' = c5) (x3 : Int) (x4 : Int) (x7 : Int) (M : ZM) (r : Int) (m' : ZM) (h : zJ62_174 n zrec54 x3 x4 x7 M = some (r, m')) : m' = M := by
  unfold zJ62_174 at h
  have g : M = M := rfl
  exact (zJ62_179_kp n zrec54 hrec54 x3 x4 x7 1 M _ _ h).trans g
set_option maxRecDepth 100000 in
theorem zJ62_178_kp (n : Nat) (zrec54 : Int → Int → Int → Int → Int → ZM → Option (Int × ZM)) (hrec54 : ∀ (c0 : Int) (c1 : Int) (c2 : Int) (c3 : Int) (c4 : Int) (c5 : ZM) (r : Int) (m' : ZM), zrec54 c0 c1 c2 c3 c4 c5 = some (r, m') → m' = c5) (x3 : Int) (x4 : Int) (x7 : Int) (M : ZM) (r : Int) (m' : ZM) (h : zJ62_178 n zrec54 x3 x4 x7 M = some (r, m')) : m' = M := by
  unfold zJ62_178 at h
  have g : M = M := rfl
  exact (zJ62_179_kp n zrec54 hrec54 x3 x4 x7 0 M _ _ h).trans g
set_option maxRecDepth 100000 in
theorem zJ62_92_kp (n : Nat) (zrec54 : Int → Int → Int → Int → Int → ZM → Option (Int × ZM)) (hrec54 : ∀ (c0 : Int) (c1 : Int) (c2 : Int) (c3 : Int) (c4 : Int) (c5 : ZM) (r : Int) (m' : ZM), zrec54 c0 c1 c2 c3 c4 c5 = some (r, m') → m' = c5) (x3 : Int) (x4 : Int) (x5 : Int) (x7 : Int) (x8 : Int) (M : ZM) (r : Int) (m' : ZM) (h : zJ62_92 n zrec54 x3 x4 x5 x7 x8 M = some (r, m')) : m' = M := by
  unfold zJ62_92 at h
  have g : M = M := rfl
  by_cases q1 : x8 = 40
  · rw [if_pos q1] at h
    by_cases q2 : x5 = 0
    · rw [if_pos q2] at h
      by_cases q3 : rg (x4 + 1)
      · rw [if_pos q3] at h
        exact (zJ62_121_kp n zrec54 hrec54 x3 (x4 + 1) x5 x7 M _ _ h).trans g
      · rw [if_neg q3] at h
        cases h
    · rw [if_neg q2] at h
      by_cases q4 : rg (x4 + 1)
      · rw [if_pos q4] at h
        by_cases q5 : 6 < (x4 + 1)
        · rw [if_pos q5] at h
          exact (zJ62_121_kp n zrec54 hrec54 x3 (x4 + 1) x5 x7 M _ _ h).trans g
        · rw [if_neg q5] at h
          exact (zJ62_122_kp n zrec54 hrec54 x3 (x4 + 1) x5 x7 1 M _ _ h).trans g
      · rw [if_neg q4] at h
        cases h
  · rw [if_neg q1] at h
    by_cases q6 : x8 = 41
    · rw [if_pos q6] at h
      by_cases q7 : x5 = 0
      · rw [if_pos q7] at h
        by_cases q8 : rg (x4 - 1)
        · rw [if_pos q8] at h
          exact (zJ62_150_kp n zrec54 hrec54 x3 (x4 - 1) x5 x7 1 M _ _ h).trans g
        · rw [if_neg q8] at h
          cases h
      · rw [if_neg q7] at h
        by_cases q9 : rg (x4 - 1)
        · rw [if_pos q9] at h
          exact (zJ62_150_kp n zrec54 hrec54 x3 (x4 - 1) x5 x7 0 M _ _ h).trans g
        · rw [if_neg q9] at h
          cases h
    · rw [if_neg q6] at h
      by_cases q10 : x5 = 0
      · rw [if_pos q10] at h
        by_cases q11 : x8 = 43
        · rw [if_pos q11] at h
          exact (zJ62_174_kp n zrec54 hrec54 x3 x4 x7 M _ _ h).trans g
        · rw [if_neg q11] at h
          by_cases q12 : x8 = 42
          · rw [if_pos q12] at h
            exact (zJ62_174_kp n zrec54 hrec54 x3 x4 x7 M _ _ h).trans g
          · rw [if_neg q12] at h
            exact (zJ62_178_kp n zrec54 hrec54 x3 x4 x7 M _ _ h).trans g
      · rw [if_neg q10] at h
        exact (zJ62_178_kp n zrec54 hrec54 x3 x4 x7 M _ _ h).trans g
set_option maxRecDepth 100000 in
theorem zJ62_82_kp (n : Nat) (zrec54 : Int → Int → Int → Int → Int → ZM → Option (Int × ZM)) (hrec54 : ∀ (c0 : Int) (c1 : Int) (c2 : Int) (c3 : Int) (c4 : Int) (c5 : ZM) (r : Int) (m' : ZM), zrec54 c0 c1 c2 c3 c4 c5 = some (r, m') → m' = c5) (x3 : Int) (x4 : Int) (x5 : Int) (x7 : Int) (M : ZM) (r : Int) (m' : ZM) (h : zJ62_82 n zrec54 x3 x4 x5 x7 M = some (r, m')) : m' = M := by
  unfold zJ62_82 at h
  have g : M = M := rfl
  exact (zJ62_184_kp n zrec54 hrec54 x3 x4 0 x5 x7 M _ _ h).trans g
set_option maxRecDepth 100000 in
theorem zL62_54_kp (n : Nat) : ∀ (k : Nat) (x3 : Int) (x4 : Int) (x5 : Int) (x6 : Int) (x7 : Int) (M : ZM) (r : Int) (m' : ZM), zL62_54 n k x3 x4 x5 x6 x7 M = some (r, m') → m' = M := by
  intro k
  induction k with
  | zero => intro x3 x4 x5 x6 x7 M r m' h; cases h
  | succ k ih =>
    intro x3 x4 x5 x6 x7 M r m' h
    rw [zL62_54] at h
    have g : M = M := rfl
    by_cases q1 : x3 < x7
    · rw [if_pos q1] at h
      exact (zJ62_190_kp n x3 x6 M _ _ h).trans g
    · rw [if_neg q1] at h
      by_cases q2 : x6 = 0
      · rw [if_pos q2] at h
        exact (zJ62_190_kp n x3 x6 M _ _ h).trans g
      · rw [if_neg q2] at h
        by_cases q3 : x7 < 0 ∨ 320 ≤ x7
        · rw [if_pos q3] at h
          cases h
        · rw [if_neg q3] at h
          by_cases q4 : (M.1 105 (Int.toNat x7)) < 300
          · rw [if_pos q4] at h
            exact (zJ62_92_kp n (zL62_54 n k) ih x3 x4 x5 x7 (M.1 105 (Int.toNat x7)) M _ _ h).trans g
          · rw [if_neg q4] at h
            exact (zJ62_82_kp n (zL62_54 n k) ih x3 x4 x5 x7 M _ _ h).trans g
set_option maxRecDepth 100000 in
theorem zJ62_36_kp (n : Nat) (x1 : Int) (M : ZM) (r : Int) (m' : ZM) (h : zJ62_36 n x1 M = some (r, m')) : m' = M := by
  unfold zJ62_36 at h
  have g : M = M := rfl
  cases hc1 : zF61 n x1 M with
  | none => rw [hc1] at h; cases h
  | some w =>
    obtain ⟨v6, M7⟩ := w
    rw [hc1] at h
    dsimp only at h
    replace g := (zF61_kp n x1 M _ _ hc1).trans g
    exact (zL62_54_kp n n v6 0 1 1 x1 M7 _ _ h).trans g
set_option maxRecDepth 100000 in
theorem zJ62_34_kp (n : Nat) (M : ZM) (r : Int) (m' : ZM) (h : zJ62_34 n M = some (r, m')) : m' = M := by
  unfold zJ62_34 at h
  have g : M = M := rfl
  exact (Prod.mk.inj (Option.some.inj h)).2.symm.trans g
set_option maxRecDepth 100000 in
theorem zF62_kp (n : Nat) (a0 : Int) (a1 : Int) (M : ZM) (r : Int) (m' : ZM) (h : zF62 n a0 a1 M = some (r, m')) : m' = M := by
  unfold zF62 at h
  have g : M = M := rfl
  by_cases q1 : a0 < a1
  · rw [if_pos q1] at h
    by_cases q2 : a0 < 0 ∨ 320 ≤ a0
    · rw [if_pos q2] at h
      cases h
    · rw [if_neg q2] at h
      by_cases q3 : (M.1 105 (Int.toNat a0)) < 300
      · rw [if_pos q3] at h
        by_cases q4 : (M.1 105 (Int.toNat a0)) = 40
        · rw [if_pos q4] at h
          exact (zJ62_36_kp n a0 M _ _ h).trans g
        · rw [if_neg q4] at h
          exact (zJ62_34_kp n M _ _ h).trans g
      · rw [if_neg q3] at h
        by_cases q5 : rg (a0 + 1)
        · rw [if_pos q5] at h
          exact (Prod.mk.inj (Option.some.inj h)).2.symm.trans g
        · rw [if_neg q5] at h
          cases h
  · rw [if_neg q1] at h
    exact (Prod.mk.inj (Option.some.inj h)).2.symm.trans g
set_option maxRecDepth 100000 in
theorem zJ63_87_kp (n : Nat) (zrec18 : Int → Int → Int → ZM → Option (Int × ZM)) (hrec18 : ∀ (c0 : Int) (c1 : Int) (c2 : Int) (c3 : ZM) (r : Int) (m' : ZM), zrec18 c0 c1 c2 c3 = some (r, m') → m' = c3) (x2 : Int) (x4 : Int) (s0 : Int) (M : ZM) (r : Int) (m' : ZM) (h : zJ63_87 n zrec18 x2 x4 s0 M = some (r, m')) : m' = M := by
  unfold zJ63_87 at h
  have g : M = M := rfl
  exact (hrec18 x2 s0 x4 M _ _ h).trans g
set_option maxRecDepth 100000 in
theorem zJ63_74_kp (n : Nat) (zrec18 : Int → Int → Int → ZM → Option (Int × ZM)) (hrec18 : ∀ (c0 : Int) (c1 : Int) (c2 : Int) (c3 : ZM) (r : Int) (m' : ZM), zrec18 c0 c1 c2 c3 = some (r, m') → m' = c3) (x2 : Int) (x3 : Int) (x5 : Int) (s0 : Int) (M : ZM) (r : Int) (m' : ZM) (h : zJ63_74 n zrec18 x2 x3 x5 s0 M = some (r, m')) : m' = M := by
  unfold zJ63_74 at h
  have g : M = M := rfl
  by_cases q1 : s0 = 0
  · rw [if_pos q1] at h
    exact (zJ63_87_kp n zrec18 hrec18 x2 s0 x3 M _ _ h).trans g
  · rw [if_neg q1] at h
    exact (zJ63_87_kp n zrec18 hrec18 x2 s0 x5 M _ _ h).trans g
set_option maxRecDepth 100000 in
theorem zJ63_62_kp (n : Nat) (zrec18 : Int → Int → Int → ZM → Option (Int × ZM)) (hrec18 : ∀ (c0 : Int) (c1 : Int) (c2 : Int) (c3 : ZM) (r : Int) (m' : ZM), zrec18 c0 c1 c2 c3 = some (r, m') → m' = c3) (x2 : Int) (x3 : Int) (s0 : Int) (M : ZM) (r : Int) (m' : ZM) (h : zJ63_62 n zrec18 x2 x3 s0 M = some (r, m')) : m' = M := by
  unfold zJ63_62 at h
  have g : M = M := rfl
  by_cases q1 : s0 < 0
  · rw [if_pos q1] at h
    exact (zJ63_74_kp n zrec18 hrec18 x2 x3 s0 0 M _ _ h).trans g
  · rw [if_neg q1] at h
    exact (zJ63_74_kp n zrec18 hrec18 x2 x3 s0 1 M _ _ h).trans g
set_option maxRecDepth 100000 in
theorem zJ63_61_kp (n : Nat) (zrec18 : Int → Int → Int → ZM → Option (Int × ZM)) (hrec18 : ∀ (c0 : Int) (c1 : Int) (c2 : Int) (c3 : ZM) (r : Int) (m' : ZM), zrec18 c0 c1 c2 c3 = some (r, m') → m' = c3) (x2 : Int) (x3 : Int) (M : ZM) (r : Int) (m' : ZM) (h : zJ63_61 n zrec18 x2 x3 M = some (r, m')) : m' = M := by
  unfold zJ63_61 at h
  have g : M = M := rfl
  exact (zJ63_62_kp n zrec18 hrec18 x2 x3 (-1) M _ _ h).trans g
set_option maxRecDepth 100000 in
theorem zJ63_50_kp (n : Nat) (zrec18 : Int → Int → Int → ZM → Option (Int × ZM)) (hrec18 : ∀ (c0 : Int) (c1 : Int) (c2 : Int) (c3 : ZM) (r : Int) (m' : ZM), zrec18 c0 c1 c2 c3 = some (r, m') → m' = c3) (x2 : Int) (x3 : Int) (M : ZM) (r : Int) (m' : ZM) (h : zJ63_50 n zrec18 x2 x3 M = some (r, m')) : m' = M := by
  unfold zJ63_50 at h
  have g : M = M := rfl
  by_cases q1 : rg (x3 + 1)
  · rw [if_pos q1] at h
    cases hc2 : zF62 n (x3 + 1) x2 M with
    | none => rw [hc2] at h; cases h
    | some w =>
      obtain ⟨v11, M12⟩ := w
      rw [hc2] at h
      dsimp only at h
      replace g := (zF62_kp n (x3 + 1) x2 M _ _ hc2).trans g
      exact (zJ63_62_kp n zrec18 hrec18 x2 x3 v11 M12 _ _ h).trans g
  · rw [if_neg q1] at h
    cases h
set_option maxRecDepth 100000 in
theorem zJ63_39_kp (n : Nat) (zrec18 : Int → Int → Int → ZM → Option (Int × ZM)) (hrec18 : ∀ (c0 : Int) (c1 : Int) (c2 : Int) (c3 : ZM) (r : Int) (m' : ZM), zrec18 c0 c1 c2 c3 = some (r, m') → m' = c3) (x2 : Int) (x3 : Int) (M : ZM) (r : Int) (m' : ZM) (h : zJ63_39 n zrec18 x2 x3 M = some (r, m')) : m' = M := by
  unfold zJ63_39 at h
  have g : M = M := rfl
  by_cases q1 : x3 < 0 ∨ 320 ≤ x3
  · rw [if_pos q1] at h
    cases h
  · rw [if_neg q1] at h
    by_cases q2 : (M.1 105 (Int.toNat x3)) = 42
    · rw [if_pos q2] at h
      exact (zJ63_50_kp n zrec18 hrec18 x2 x3 M _ _ h).trans g
    · rw [if_neg q2] at h
      exact (zJ63_61_kp n zrec18 hrec18 x2 x3 M _ _ h).trans g
set_option maxRecDepth 100000 in
theorem zL63_18_kp (n : Nat) : ∀ (k : Nat) (x2 : Int) (x3 : Int) (x4 : Int) (M : ZM) (r : Int) (m' : ZM), zL63_18 n k x2 x3 x4 M = some (r, m') → m' = M := by
  intro k
  induction k with
  | zero => intro x2 x3 x4 M r m' h; cases h
  | succ k ih =>
    intro x2 x3 x4 M r m' h
    rw [zL63_18] at h
    have g : M = M := rfl
    by_cases q1 : x4 = 0
    · rw [if_pos q1] at h
      exact (Prod.mk.inj (Option.some.inj h)).2.symm.trans g
    · rw [if_neg q1] at h
      by_cases q2 : x2 ≤ x3
      · rw [if_pos q2] at h
        exact (zJ63_61_kp n (zL63_18 n k) ih x2 x3 M _ _ h).trans g
      · rw [if_neg q2] at h
        by_cases q3 : x3 < 0 ∨ 320 ≤ x3
        · rw [if_pos q3] at h
          cases h
        · rw [if_neg q3] at h
          by_cases q4 : (M.1 105 (Int.toNat x3)) = 43
          · rw [if_pos q4] at h
            exact (zJ63_50_kp n (zL63_18 n k) ih x2 x3 M _ _ h).trans g
          · rw [if_neg q4] at h
            exact (zJ63_39_kp n (zL63_18 n k) ih x2 x3 M _ _ h).trans g
set_option maxRecDepth 100000 in
theorem zJ63_16_kp (n : Nat) (x2 : Int) (x3 : Int) (s0 : Int) (M : ZM) (r : Int) (m' : ZM) (h : zJ63_16 n x2 x3 s0 M = some (r, m')) : m' = M := by
  unfold zJ63_16 at h
  have g : M = M := rfl
  exact (zL63_18_kp n n x2 x3 s0 M _ _ h).trans g
set_option maxRecDepth 100000 in
theorem zF63_kp (n : Nat) (a0 : Int) (a1 : Int) (M : ZM) (r : Int) (m' : ZM) (h : zF63 n a0 a1 M = some (r, m')) : m' = M := by
  unfold zF63 at h
  have g : M = M := rfl
  cases hc1 : zF62 n a0 a1 M with
  | none => rw [hc1] at h; cases h
  | some w =>
    obtain ⟨v1, M2⟩ := w
    rw [hc1] at h
    dsimp only at h
    replace g := (zF62_kp n a0 a1 M _ _ hc1).trans g
    by_cases q2 : v1 < 0
    · rw [if_pos q2] at h
      exact (zJ63_16_kp n a1 v1 0 M2 _ _ h).trans g
    · rw [if_neg q2] at h
      exact (zJ63_16_kp n a1 v1 1 M2 _ _ h).trans g
set_option maxRecDepth 100000 in
theorem zJ64_17_kp (n : Nat) (s0 : Int) (M : ZM) (r : Int) (m' : ZM) (h : zJ64_17 n s0 M = some (r, m')) : m' = M := by
  unfold zJ64_17 at h
  have g : M = M := rfl
  by_cases q1 : s0 = 0 ∨ s0 = 1
  · rw [if_pos q1] at h
    exact (Prod.mk.inj (Option.some.inj h)).2.symm.trans g
  · rw [if_neg q1] at h
    cases h
set_option maxRecDepth 100000 in
theorem zJ64_42_kp (n : Nat) (s0 : Int) (M : ZM) (r : Int) (m' : ZM) (h : zJ64_42 n s0 M = some (r, m')) : m' = M := by
  unfold zJ64_42 at h
  have g : M = M := rfl
  by_cases q1 : s0 = 0 ∨ s0 = 1
  · rw [if_pos q1] at h
    exact (Prod.mk.inj (Option.some.inj h)).2.symm.trans g
  · rw [if_neg q1] at h
    cases h
set_option maxRecDepth 100000 in
theorem zJ64_41_kp (n : Nat) (M : ZM) (r : Int) (m' : ZM) (h : zJ64_41 n M = some (r, m')) : m' = M := by
  unfold zJ64_41 at h
  have g : M = M := rfl
  exact (zJ64_42_kp n 0 M _ _ h).trans g
set_option maxRecDepth 100000 in
theorem zJ64_81_kp (n : Nat) (s0 : Int) (M : ZM) (r : Int) (m' : ZM) (h : zJ64_81 n s0 M = some (r, m')) : m' = M := by
  unfold zJ64_81 at h
  have g : M = M := rfl
  by_cases q1 : s0 = 0 ∨ s0 = 1
  · rw [if_pos q1] at h
    exact (Prod.mk.inj (Option.some.inj h)).2.symm.trans g
  · rw [if_neg q1] at h
    cases h
set_option maxRecDepth 100000 in
theorem zJ64_55_kp (n : Nat) (M : ZM) (r : Int) (m' : ZM) (h : zJ64_55 n M = some (r, m')) : m' = M := by
  unfold zJ64_55 at h
  have g : M = M := rfl
  exact (zJ64_81_kp n 1 M _ _ h).trans g
set_option maxRecDepth 100000 in
theorem zJ64_59_kp (n : Nat) (M : ZM) (r : Int) (m' : ZM) (h : zJ64_59 n M = some (r, m')) : m' = M := by
  unfold zJ64_59 at h
  have g : M = M := rfl
  exact (zJ64_81_kp n 0 M _ _ h).trans g
set_option maxRecDepth 100000 in
theorem zJ64_76_kp (n : Nat) (M : ZM) (r : Int) (m' : ZM) (h : zJ64_76 n M = some (r, m')) : m' = M := by
  unfold zJ64_76 at h
  have g : M = M := rfl
  exact (zJ64_81_kp n 1 M _ _ h).trans g
set_option maxRecDepth 100000 in
theorem zJ64_80_kp (n : Nat) (M : ZM) (r : Int) (m' : ZM) (h : zJ64_80 n M = some (r, m')) : m' = M := by
  unfold zJ64_80 at h
  have g : M = M := rfl
  exact (zJ64_81_kp n 0 M _ _ h).trans g
set_option maxRecDepth 100000 in
theorem zF64_kp (n : Nat) (a0 : Int) (a1 : Int) (M : ZM) (r : Int) (m' : ZM) (h : zF64 n a0 a1 M = some (r, m')) : m' = M := by
  unfold zF64 at h
  have g : M = M := rfl
  by_cases q1 : a0 = 1
  · rw [if_pos q1] at h
    by_cases q2 : a1 < 1000
    · rw [if_pos q2] at h
      exact (zJ64_17_kp n 0 M _ _ h).trans g
    · rw [if_neg q2] at h
      exact (zJ64_17_kp n 1 M _ _ h).trans g
  · rw [if_neg q1] at h
    by_cases q3 : a0 = 2
    · rw [if_pos q3] at h
      by_cases q4 : a1 < 300
      · rw [if_pos q4] at h
        exact (zJ64_41_kp n M _ _ h).trans g
      · rw [if_neg q4] at h
        by_cases q5 : 1000 ≤ a1
        · rw [if_pos q5] at h
          exact (zJ64_41_kp n M _ _ h).trans g
        · rw [if_neg q5] at h
          exact (zJ64_42_kp n 1 M _ _ h).trans g
    · rw [if_neg q3] at h
      by_cases q6 : a0 = 3
      · rw [if_pos q6] at h
        cases hc7 : zF22 n a1 M with
        | none => rw [hc7] at h; cases h
        | some w =>
          obtain ⟨v9, M10⟩ := w
          rw [hc7] at h
          dsimp only at h
          replace g := (zF22_kp n a1 M _ _ hc7).trans g
          by_cases q8 : v9 = 0
          · rw [if_pos q8] at h
            exact (zJ64_55_kp n M10 _ _ h).trans g
          · rw [if_neg q8] at h
            exact (zJ64_59_kp n M10 _ _ h).trans g
      · rw [if_neg q6] at h
        by_cases q9 : 300 ≤ a1
        · rw [if_pos q9] at h
          exact (zJ64_76_kp n M _ _ h).trans g
        · rw [if_neg q9] at h
          by_cases q10 : a1 = 40
          · rw [if_pos q10] at h
            exact (zJ64_76_kp n M _ _ h).trans g
          · rw [if_neg q10] at h
            exact (zJ64_80_kp n M _ _ h).trans g
set_option maxRecDepth 100000 in
theorem zJ65_44_kp (n : Nat) (s0 : Int) (M : ZM) (r : Int) (m' : ZM) (h : zJ65_44 n s0 M = some (r, m')) : m' = M := by
  unfold zJ65_44 at h
  have g : M = M := rfl
  exact (Prod.mk.inj (Option.some.inj h)).2.symm.trans g
set_option maxRecDepth 100000 in
theorem zJ65_41_kp (n : Nat) (x2 : Int) (M : ZM) (r : Int) (m' : ZM) (h : zJ65_41 n x2 M = some (r, m')) : m' = M := by
  unfold zJ65_41 at h
  have g : M = M := rfl
  by_cases q1 : rg (x2 + 1)
  · rw [if_pos q1] at h
    exact (zJ65_44_kp n (x2 + 1) M _ _ h).trans g
  · rw [if_neg q1] at h
    cases h
set_option maxRecDepth 100000 in
theorem zJ65_31_kp (n : Nat) (x2 : Int) (M : ZM) (r : Int) (m' : ZM) (h : zJ65_31 n x2 M = some (r, m')) : m' = M := by
  unfold zJ65_31 at h
  have g : M = M := rfl
  cases hc1 : zF61 n x2 M with
  | none => rw [hc1] at h; cases h
  | some w =>
    obtain ⟨v11, M12⟩ := w
    rw [hc1] at h
    dsimp only at h
    replace g := (zF61_kp n x2 M _ _ hc1).trans g
    by_cases q2 : rg (v11 + 1)
    · rw [if_pos q2] at h
      exact (zJ65_44_kp n (v11 + 1) M12 _ _ h).trans g
    · rw [if_neg q2] at h
      cases h
set_option maxRecDepth 100000 in
theorem zF65_kp (n : Nat) (a0 : Int) (a1 : Int) (a2 : Int) (M : ZM) (r : Int) (m' : ZM) (h : zF65 n a0 a1 a2 M = some (r, m')) : m' = M := by
  unfold zF65 at h
  have g : M = M := rfl
  by_cases q1 : a0 = 4
  · rw [if_pos q1] at h
    cases hc2 : zF63 n a1 a2 M with
    | none => rw [hc2] at h; cases h
    | some w =>
      obtain ⟨v2, M3⟩ := w
      rw [hc2] at h
      dsimp only at h
      replace g := (zF63_kp n a1 a2 M _ _ hc2).trans g
      exact (zJ65_44_kp n v2 M3 _ _ h).trans g
  · rw [if_neg q1] at h
    by_cases q3 : a0 = 3
    · rw [if_pos q3] at h
      by_cases q4 : a1 < 0 ∨ 320 ≤ a1
      · rw [if_pos q4] at h
        cases h
      · rw [if_neg q4] at h
        cases hc5 : zF21 n (M.1 105 (Int.toNat a1)) M with
        | none => rw [hc5] at h; cases h
        | some w =>
          obtain ⟨v7, M8⟩ := w
          rw [hc5] at h
          dsimp only at h
          replace g := (zF21_kp n (M.1 105 (Int.toNat a1)) M _ _ hc5).trans g
          by_cases q6 : v7 = 0
          · rw [if_pos q6] at h
            exact (zJ65_41_kp n a1 M8 _ _ h).trans g
          · rw [if_neg q6] at h
            exact (zJ65_31_kp n a1 M8 _ _ h).trans g
    · rw [if_neg q3] at h
      exact (zJ65_41_kp n a1 M _ _ h).trans g
set_option maxRecDepth 100000 in
theorem zJ68_45_kp (n : Nat) (zrec8 : Int → Int → Int → Int → ZM → Option (Int × ZM)) (hrec8 : ∀ (c0 : Int) (c1 : Int) (c2 : Int) (c3 : Int) (c4 : ZM) (r : Int) (m' : ZM), zrec8 c0 c1 c2 c3 c4 = some (r, m') → m' = c4) (x1 : Int) (x2 : Int) (x4 : Int) (s0 : Int) (M : ZM) (r : Int) (m' : ZM) (h : zJ68_45 n zrec8 x1 x2 x4 s0 M = some (r, m')) : m' = M := by
  unfold zJ68_45 at h
  have g : M = M := rfl
  by_cases q1 : rg (x4 + 1)
  · rw [if_pos q1] at h
    exact (hrec8 x1 x2 s0 (x4 + 1) M _ _ h).trans g
  · rw [if_neg q1] at h
    cases h
set_option maxRecDepth 100000 in
theorem zJ68_39_kp (n : Nat) (zrec8 : Int → Int → Int → Int → ZM → Option (Int × ZM)) (hrec8 : ∀ (c0 : Int) (c1 : Int) (c2 : Int) (c3 : Int) (c4 : ZM) (r : Int) (m' : ZM), zrec8 c0 c1 c2 c3 c4 = some (r, m') → m' = c4) (x1 : Int) (x2 : Int) (x4 : Int) (M : ZM) (r : Int) (m' : ZM) (h : zJ68_39 n zrec8 x1 x2 x4 M = some (r, m')) : m' = M := by
  unfold zJ68_39 at h
  have g : M = M := rfl
  exact (zJ68_45_kp n zrec8 hrec8 x1 x2 x4 x4 M _ _ h).trans g
set_option maxRecDepth 100000 in
theorem zJ68_44_kp (n : Nat) (zrec8 : Int → Int → Int → Int → ZM → Option (Int × ZM)) (hrec8 : ∀ (c0 : Int) (c1 : Int) (c2 : Int) (c3 : Int) (c4 : ZM) (r : Int) (m' : ZM), zrec8 c0 c1 c2 c3 c4 = some (r, m') → m' = c4) (x1 : Int) (x2 : Int) (x3 : Int) (x4 : Int) (M : ZM) (r : Int) (m' : ZM) (h : zJ68_44 n zrec8 x1 x2 x3 x4 M = some (r, m')) : m' = M := by
  unfold zJ68_44 at h
  have g : M = M := rfl
  exact (zJ68_45_kp n zrec8 hrec8 x1 x2 x4 x3 M _ _ h).trans g
set_option maxRecDepth 100000 in
theorem zL68_8_kp (n : Nat) : ∀ (k : Nat) (x1 : Int) (x2 : Int) (x3 : Int) (x4 : Int) (M : ZM) (r : Int) (m' : ZM), zL68_8 n k x1 x2 x3 x4 M = some (r, m') → m' = M := by
  intro k
  induction k with
  | zero => intro x1 x2 x3 x4 M r m' h; cases h
  | succ k ih =>
    intro x1 x2 x3 x4 M r m' h
    rw [zL68_8] at h
    have g : M = M := rfl
    by_cases q1 : (M.1 83 52) ≤ x4
    · rw [if_pos q1] at h
      exact (Prod.mk.inj (Option.some.inj h)).2.symm.trans g
    · rw [if_neg q1] at h
      by_cases q2 : x4 < 0 ∨ 512 ≤ x4
      · rw [if_pos q2] at h
        cases h
      · rw [if_neg q2] at h
        by_cases q3 : (M.1 119 (Int.toNat x4)) = x1
        · rw [if_pos q3] at h
          by_cases q4 : (M.1 120 (Int.toNat x4)) = x2
          · rw [if_pos q4] at h
            exact (zJ68_39_kp n (zL68_8 n k) ih x1 x2 x4 M _ _ h).trans g
          · rw [if_neg q4] at h
            exact (zJ68_44_kp n (zL68_8 n k) ih x1 x2 x3 x4 M _ _ h).trans g
        · rw [if_neg q3] at h
          exact (zJ68_44_kp n (zL68_8 n k) ih x1 x2 x3 x4 M _ _ h).trans g
set_option maxRecDepth 100000 in
theorem zF68_kp (n : Nat) (a0 : Int) (a1 : Int) (M : ZM) (r : Int) (m' : ZM) (h : zF68 n a0 a1 M = some (r, m')) : m' = M := by
  unfold zF68 at h
  have g : M = M := rfl
  exact (zL68_8_kp n n a0 a1 (M.1 83 52) 0 M _ _ h).trans g
set_option maxRecDepth 100000 in
theorem zJ69_25_kp (n : Nat) (s0 : Int) (M : ZM) (r : Int) (m' : ZM) (h : zJ69_25 n s0 M = some (r, m')) : m' = M := by
  unfold zJ69_25 at h
  have g : M = M := rfl
  exact (Prod.mk.inj (Option.some.inj h)).2.symm.trans g
set_option maxRecDepth 100000 in
theorem zF69_kp (n : Nat) (a0 : Int) (a1 : Int) (M : ZM) (r : Int) (m' : ZM) (h : zF69 n a0 a1 M = some (r, m')) : m' = M := by
  unfold zF69 at h
  have g : M = M := rfl
  cases hc1 : zF68 n a0 a1 M with
  | none => rw [hc1] at h; cases h
  | some w =>
    obtain ⟨v1, M2⟩ := w
    rw [hc1] at h
    dsimp only at h
    replace g := (zF68_kp n a0 a1 M _ _ hc1).trans g
    by_cases q2 : (M2.1 83 52) ≤ v1
    · rw [if_pos q2] at h
      exact (zJ69_25_kp n 0 M2 _ _ h).trans g
    · rw [if_neg q2] at h
      by_cases q3 : v1 < 0 ∨ 512 ≤ v1
      · rw [if_pos q3] at h
        cases h
      · rw [if_neg q3] at h
        exact (zJ69_25_kp n (M2.1 121 (Int.toNat v1)) M2 _ _ h).trans g
def w70 : List (Nat × Nat) := [(118, 1000), (119, 1000), (120, 1000), (121, 1000), (83, 52)]
set_option maxRecDepth 100000 in
theorem zJ70_100_kp (n : Nat) (M : ZM) (r : Unit) (m' : ZM) (h : zJ70_100 n M = some (r, m')) : kp (wl w70) M m' := by
  unfold zJ70_100 at h
  have g := kp_refl (wl w70) M
  rw [← (Prod.mk.inj (Option.some.inj h)).2]
  exact g
set_option maxRecDepth 100000 in
theorem zJ70_86_kp (n : Nat) (x3 : Int) (M : ZM) (r : Unit) (m' : ZM) (h : zJ70_86 n x3 M = some (r, m')) : kp (wl w70) M m' := by
  unfold zJ70_86 at h
  have g := kp_refl (wl w70) M
  by_cases q1 : x3 < 0 ∨ 512 ≤ x3
  · rw [if_pos q1] at h
    cases h
  · rw [if_neg q1] at h
    by_cases q2 : rg ((M.1 121 (Int.toNat x3)) + 1)
    · rw [if_pos q2] at h
      replace g : kp (wl w70) M (z_i M 121 (Int.toNat x3) ((M.1 121 (Int.toNat x3)) + 1)) := kp_ia g (by simp [w70])
      rw [zlet] at h
      generalize z_i M 121 (Int.toNat x3) ((M.1 121 (Int.toNat x3)) + 1) = M18 at h g
      exact kp_tr g (zJ70_100_kp n M18 _ _ h)
    · rw [if_neg q2] at h
      cases h
set_option maxRecDepth 100000 in
theorem zJ70_76_kp (n : Nat) (x3 : Int) (M : ZM) (r : Unit) (m' : ZM) (h : zJ70_76 n x3 M = some (r, m')) : kp (wl w70) M m' := by
  unfold zJ70_76 at h
  have g := kp_refl (wl w70) M
  by_cases q1 : rg ((M.1 83 52) + 1)
  · rw [if_pos q1] at h
    replace g : kp (wl w70) M (z_i M 83 52 ((M.1 83 52) + 1)) := kp_i g (by simp [w70])
    rw [zlet] at h
    generalize z_i M 83 52 ((M.1 83 52) + 1) = M15 at h g
    exact kp_tr g (zJ70_86_kp n x3 M15 _ _ h)
  · rw [if_neg q1] at h
    cases h
set_option maxRecDepth 100000 in
theorem zJ70_62_kp (n : Nat) (x2 : Int) (x3 : Int) (M : ZM) (r : Unit) (m' : ZM) (h : zJ70_62 n x2 x3 M = some (r, m')) : kp (wl w70) M m' := by
  unfold zJ70_62 at h
  have g := kp_refl (wl w70) M
  by_cases q1 : x3 < 0 ∨ 512 ≤ x3
  · rw [if_pos q1] at h
    cases h
  · rw [if_neg q1] at h
    replace g : kp (wl w70) M (z_i M 120 (Int.toNat x3) x2) := kp_ia g (by simp [w70])
    rw [zlet] at h
    generalize z_i M 120 (Int.toNat x3) x2 = M12 at h g
    replace g : kp (wl w70) M (z_i M12 121 (Int.toNat x3) 0) := kp_ia g (by simp [w70])
    rw [zlet] at h
    generalize z_i M12 121 (Int.toNat x3) 0 = M14 at h g
    exact kp_tr g (zJ70_76_kp n x3 M14 _ _ h)
set_option maxRecDepth 100000 in
theorem zJ70_40_kp (n : Nat) (x1 : Int) (x2 : Int) (M : ZM) (r : Unit) (m' : ZM) (h : zJ70_40 n x1 x2 M = some (r, m')) : kp (wl w70) M m' := by
  unfold zJ70_40 at h
  have g := kp_refl (wl w70) M
  cases hc1 : zF68 n x1 x2 M with
  | none => rw [hc1] at h; cases h
  | some w =>
    obtain ⟨v5, M6⟩ := w
    rw [hc1] at h
    dsimp only at h
    replace g := kp_tr g (kp_eq _ (zF68_kp n x1 x2 M _ _ hc1))
    by_cases q2 : v5 = (M6.1 83 52)
    · rw [if_pos q2] at h
      by_cases q3 : v5 < 0 ∨ 512 ≤ v5
      · rw [if_pos q3] at h
        cases h
      · rw [if_neg q3] at h
        replace g : kp (wl w70) M (z_i M6 119 (Int.toNat v5) x1) := kp_ia g (by simp [w70])
        rw [zlet] at h
        generalize z_i M6 119 (Int.toNat v5) x1 = M10 at h g
        exact kp_tr g (zJ70_62_kp n x2 v5 M10 _ _ h)
    · rw [if_neg q2] at h
      exact kp_tr g (zJ70_86_kp n v5 M6 _ _ h)
set_option maxRecDepth 100000 in
theorem zF70_kp (n : Nat) (a0 : Int) (M : ZM) (r : Unit) (m' : ZM) (h : zF70 n a0 M = some (r, m')) : kp (wl w70) M m' := by
  unfold zF70 at h
  have g := kp_refl (wl w70) M
  by_cases q1 : a0 < 0 ∨ 128 ≤ a0
  · rw [if_pos q1] at h
    cases h
  · rw [if_neg q1] at h
    by_cases q2 : 0 ≤ (M.1 95 (Int.toNat a0))
    · rw [if_pos q2] at h
      by_cases q3 : (M.1 95 (Int.toNat a0)) < 0 ∨ 128 ≤ (M.1 95 (Int.toNat a0))
      · rw [if_pos q3] at h
        cases h
      · rw [if_neg q3] at h
        by_cases q4 : rg ((M.1 118 (Int.toNat (M.1 95 (Int.toNat a0)))) - 1)
        · rw [if_pos q4] at h
          exact kp_tr g (zJ70_40_kp n a0 ((M.1 118 (Int.toNat (M.1 95 (Int.toNat a0)))) - 1) M _ _ h)
        · rw [if_neg q4] at h
          cases h
    · rw [if_neg q2] at h
      by_cases q5 : rg ((M.1 118 (Int.toNat a0)) + 1)
      · rw [if_pos q5] at h
        replace g : kp (wl w70) M (z_i M 118 (Int.toNat a0) ((M.1 118 (Int.toNat a0)) + 1)) := kp_ia g (by simp [w70])
        rw [zlet] at h
        generalize z_i M 118 (Int.toNat a0) ((M.1 118 (Int.toNat a0)) + 1) = M21 at h g
        exact kp_tr g (zJ70_100_kp n M21 _ _ h)
      · rw [if_neg q5] at h
        cases h
def w71 : List (Nat × Nat) := [(114, 1000), (115, 1000), (117, 1000), (118, 1000), (119, 1000), (120, 1000), (121, 1000), (83, 52)]
set_option maxRecDepth 100000 in
theorem zJ71_360_kp (n : Nat) (zrec259 : Int → Int → ZM → Option (Unit × ZM)) (hrec259 : ∀ (c0 : Int) (c1 : Int) (c2 : ZM) (r : Unit) (m' : ZM), zrec259 c0 c1 c2 = some (r, m') → kp (wl w71) c2 m') (x6 : Int) (M : ZM) (r : Unit) (m' : ZM) (h : zJ71_360 n zrec259 x6 M = some (r, m')) : kp (wl w71) M m' := by
  unfold zJ71_360 at h
  have g := kp_refl (wl w71) M
  by_cases q1 : x6 < 0 ∨ 128 ≤ x6
  · rw [if_pos q1] at h
    cases h
  · rw [if_neg q1] at h
    by_cases q2 : rg (x6 + (-1))
    · rw [if_pos q2] at h
      exact kp_tr g (hrec259 (M.1 117 (Int.toNat x6)) (x6 + (-1)) M _ _ h)
    · rw [if_neg q2] at h
      cases h
set_option maxRecDepth 100000 in
theorem zJ71_344_kp (n : Nat) (zrec259 : Int → Int → ZM → Option (Unit × ZM)) (hrec259 : ∀ (c0 : Int) (c1 : Int) (c2 : ZM) (r : Unit) (m' : ZM), zrec259 c0 c1 c2 = some (r, m') → kp (wl w71) c2 m') (x5 : Int) (x6 : Int) (x8 : Int) (M : ZM) (r : Unit) (m' : ZM) (h : zJ71_344 n zrec259 x5 x6 x8 M = some (r, m')) : kp (wl w71) M m' := by
  unfold zJ71_344 at h
  have g := kp_refl (wl w71) M
  by_cases q1 : x8 = 0
  · rw [if_pos q1] at h
    exact kp_tr g (zJ71_360_kp n zrec259 hrec259 x6 M _ _ h)
  · rw [if_neg q1] at h
    by_cases q2 : x5 < 0 ∨ 128 ≤ x5
    · rw [if_pos q2] at h
      cases h
    · rw [if_neg q2] at h
      cases hc3 : zF70 n (M.1 92 (Int.toNat x5)) M with
      | none => rw [hc3] at h; cases h
      | some w =>
        obtain ⟨v19, M20⟩ := w
        rw [hc3] at h
        dsimp only at h
        replace g := kp_tr g (kp_sub (by simp [w70, w71]) (zF70_kp n (M.1 92 (Int.toNat x5)) M _ _ hc3))
        exact kp_tr g (zJ71_360_kp n zrec259 hrec259 x6 M20 _ _ h)
set_option maxRecDepth 100000 in
theorem zJ71_331_kp (n : Nat) (zrec259 : Int → Int → ZM → Option (Unit × ZM)) (hrec259 : ∀ (c0 : Int) (c1 : Int) (c2 : ZM) (r : Unit) (m' : ZM), zrec259 c0 c1 c2 = some (r, m') → kp (wl w71) c2 m') (x5 : Int) (x6 : Int) (x7 : Int) (s0 : Int) (M : ZM) (r : Unit) (m' : ZM) (h : zJ71_331 n zrec259 x5 x6 x7 s0 M = some (r, m')) : kp (wl w71) M m' := by
  unfold zJ71_331 at h
  have g := kp_refl (wl w71) M
  by_cases q1 : x7 = 0
  · rw [if_pos q1] at h
    exact kp_tr g (zJ71_344_kp n zrec259 hrec259 x5 x6 s0 M _ _ h)
  · rw [if_neg q1] at h
    cases hc2 : zF70 n x5 M with
    | none => rw [hc2] at h; cases h
    | some w =>
      obtain ⟨v22, M23⟩ := w
      rw [hc2] at h
      dsimp only at h
      replace g := kp_tr g (kp_sub (by simp [w70, w71]) (zF70_kp n x5 M _ _ hc2))
      exact kp_tr g (zJ71_344_kp n zrec259 hrec259 x5 x6 s0 M23 _ _ h)
set_option maxRecDepth 100000 in
theorem zJ71_326_kp (n : Nat) (zrec259 : Int → Int → ZM → Option (Unit × ZM)) (hrec259 : ∀ (c0 : Int) (c1 : Int) (c2 : ZM) (r : Unit) (m' : ZM), zrec259 c0 c1 c2 = some (r, m') → kp (wl w71) c2 m') (x5 : Int) (x6 : Int) (x7 : Int) (M : ZM) (r : Unit) (m' : ZM) (h : zJ71_326 n zrec259 x5 x6 x7 M = some (r, m')) : kp (wl w71) M m' := by
  unfold zJ71_326 at h
  have g := kp_refl (wl w71) M
  exact kp_tr g (zJ71_331_kp n zrec259 hrec259 x5 x6 x7 1 M _ _ h)
set_option maxRecDepth 100000 in
theorem zJ71_330_kp (n : Nat) (zrec259 : Int → Int → ZM → Option (Unit × ZM)) (hrec259 : ∀ (c0 : Int) (c1 : Int) (c2 : ZM) (r : Unit) (m' : ZM), zrec259 c0 c1 c2 = some (r, m') → kp (wl w71) c2 m') (x5 : Int) (x6 : Int) (x7 : Int) (M : ZM) (r : Unit) (m' : ZM) (h : zJ71_330 n zrec259 x5 x6 x7 M = some (r, m')) : kp (wl w71) M m' := by
  unfold zJ71_330 at h
  have g := kp_refl (wl w71) M
  exact kp_tr g (zJ71_331_kp n zrec259 hrec259 x5 x6 x7 0 M _ _ h)
set_option maxRecDepth 100000 in
theorem zJ71_294_kp (n : Nat) (zrec259 : Int → Int → ZM → Option (Unit × ZM)) (hrec259 : ∀ (c0 : Int) (c1 : Int) (c2 : ZM) (r : Unit) (m' : ZM), zrec259 c0 c1 c2 = some (r, m') → kp (wl w71) c2 m') (x5 : Int) (x6 : Int) (s0 : Int) (M : ZM) (r : Unit) (m' : ZM) (h : zJ71_294 n zrec259 x5 x6 s0 M = some (r, m')) : kp (wl w71) M m' := by
  unfold zJ71_294 at h
  have g := kp_refl (wl w71) M
  by_cases q1 : x5 < 0 ∨ 128 ≤ x5
  · rw [if_pos q1] at h
    cases h
  · rw [if_neg q1] at h
    by_cases q2 : (M.1 90 (Int.toNat x5)) = 5
    · rw [if_pos q2] at h
      by_cases q3 : x6 < 0 ∨ 128 ≤ x6
      · rw [if_pos q3] at h
        cases h
      · rw [if_neg q3] at h
        by_cases q4 : rg ((M.1 92 (Int.toNat x5)) + 1)
        · rw [if_pos q4] at h
          by_cases q5 : (M.1 117 (Int.toNat x6)) = ((M.1 92 (Int.toNat x5)) + 1)
          · rw [if_pos q5] at h
            exact kp_tr g (zJ71_326_kp n zrec259 hrec259 x5 x6 s0 M _ _ h)
          · rw [if_neg q5] at h
            exact kp_tr g (zJ71_330_kp n zrec259 hrec259 x5 x6 s0 M _ _ h)
        · rw [if_neg q4] at h
          cases h
    · rw [if_neg q2] at h
      exact kp_tr g (zJ71_330_kp n zrec259 hrec259 x5 x6 s0 M _ _ h)
set_option maxRecDepth 100000 in
theorem zJ71_289_kp (n : Nat) (zrec259 : Int → Int → ZM → Option (Unit × ZM)) (hrec259 : ∀ (c0 : Int) (c1 : Int) (c2 : ZM) (r : Unit) (m' : ZM), zrec259 c0 c1 c2 = some (r, m') → kp (wl w71) c2 m') (x5 : Int) (x6 : Int) (M : ZM) (r : Unit) (m' : ZM) (h : zJ71_289 n zrec259 x5 x6 M = some (r, m')) : kp (wl w71) M m' := by
  unfold zJ71_289 at h
  have g := kp_refl (wl w71) M
  exact kp_tr g (zJ71_294_kp n zrec259 hrec259 x5 x6 1 M _ _ h)
set_option maxRecDepth 100000 in
theorem zJ71_293_kp (n : Nat) (zrec259 : Int → Int → ZM → Option (Unit × ZM)) (hrec259 : ∀ (c0 : Int) (c1 : Int) (c2 : ZM) (r : Unit) (m' : ZM), zrec259 c0 c1 c2 = some (r, m') → kp (wl w71) c2 m') (x5 : Int) (x6 : Int) (M : ZM) (r : Unit) (m' : ZM) (h : zJ71_293 n zrec259 x5 x6 M = some (r, m')) : kp (wl w71) M m' := by
  unfold zJ71_293 at h
  have g := kp_refl (wl w71) M
  exact kp_tr g (zJ71_294_kp n zrec259 hrec259 x5 x6 0 M _ _ h)
set_option maxRecDepth 100000 in
theorem zL71_259_kp (n : Nat) : ∀ (k : Nat) (x5 : Int) (x6 : Int) (M : ZM) (r : Unit) (m' : ZM), zL71_259 n k x5 x6 M = some (r, m') → kp (wl w71) M m' := by
  intro k
  induction k with
  | zero => intro x5 x6 M r m' h; cases h
  | succ k ih =>
    intro x5 x6 M r m' h
    rw [zL71_259] at h
    have g := kp_refl (wl w71) M
    by_cases q1 : x6 < 0
    · rw [if_pos q1] at h
      rw [← (Prod.mk.inj (Option.some.inj h)).2]
      exact g
    · rw [if_neg q1] at h
      by_cases q2 : x5 < 0 ∨ 128 ≤ x5
      · rw [if_pos q2] at h
        cases h
      · rw [if_neg q2] at h
        by_cases q3 : (M.1 90 (Int.toNat x5)) = 4
        · rw [if_pos q3] at h
          by_cases q4 : x6 < 0 ∨ 128 ≤ x6
          · rw [if_pos q4] at h
            cases h
          · rw [if_neg q4] at h
            by_cases q5 : rg (x5 + 1)
            · rw [if_pos q5] at h
              by_cases q6 : (M.1 117 (Int.toNat x6)) = (x5 + 1)
              · rw [if_pos q6] at h
                exact kp_tr g (zJ71_289_kp n (zL71_259 n k) ih x5 x6 M _ _ h)
              · rw [if_neg q6] at h
                exact kp_tr g (zJ71_293_kp n (zL71_259 n k) ih x5 x6 M _ _ h)
            · rw [if_neg q5] at h
              cases h
        · rw [if_neg q3] at h
          exact kp_tr g (zJ71_293_kp n (zL71_259 n k) ih x5 x6 M _ _ h)
set_option maxRecDepth 100000 in
theorem zL71_217_kp (n : Nat) : ∀ (k : Nat) (x1 : Int) (x4 : Int) (x5 : Int) (M : ZM) (r : Unit) (m' : ZM), zL71_217 n k x1 x4 x5 M = some (r, m') → kp (wl w71) M m' := by
  intro k
  induction k with
  | zero => intro x1 x4 x5 M r m' h; cases h
  | succ k ih =>
    intro x1 x4 x5 M r m' h
    rw [zL71_217] at h
    have g := kp_refl (wl w71) M
    by_cases q1 : x5 = x1
    · rw [if_pos q1] at h
      by_cases q2 : rg (x4 - 1)
      · rw [if_pos q2] at h
        exact kp_tr g (zL71_259_kp n n x1 (x4 - 1) M _ _ h)
      · rw [if_neg q2] at h
        cases h
    · rw [if_neg q1] at h
      by_cases q3 : x4 < 0 ∨ 128 ≤ x4
      · rw [if_pos q3] at h
        cases h
      · rw [if_neg q3] at h
        replace g : kp (wl w71) M (z_i M 117 (Int.toNat x4) x5) := kp_ia g (by simp [w71])
        rw [zlet] at h
        generalize z_i M 117 (Int.toNat x4) x5 = M26 at h g
        by_cases q4 : x5 < 0 ∨ 128 ≤ x5
        · rw [if_pos q4] at h
          cases h
        · rw [if_neg q4] at h
          by_cases q5 : rg (x4 + 1)
          · rw [if_pos q5] at h
            exact kp_tr g (ih x1 (x4 + 1) (M26.1 115 (Int.toNat x5)) M26 _ _ h)
          · rw [if_neg q5] at h
            cases h
set_option maxRecDepth 100000 in
theorem zJ71_208_kp (n : Nat) (zrec31 : Int → Int → Int → ZM → Option (Unit × ZM)) (hrec31 : ∀ (c0 : Int) (c1 : Int) (c2 : Int) (c3 : ZM) (r : Unit) (m' : ZM), zrec31 c0 c1 c2 c3 = some (r, m') → kp (wl w71) c3 m') (x1 : Int) (x2 : Int) (x3 : Int) (M : ZM) (r : Unit) (m' : ZM) (h : zJ71_208 n zrec31 x1 x2 x3 M = some (r, m')) : kp (wl w71) M m' := by
  unfold zJ71_208 at h
  have g := kp_refl (wl w71) M
  exact kp_tr g (hrec31 x1 x2 x3 M _ _ h)
set_option maxRecDepth 100000 in
theorem zJ71_196_kp (n : Nat) (zrec31 : Int → Int → Int → ZM → Option (Unit × ZM)) (hrec31 : ∀ (c0 : Int) (c1 : Int) (c2 : Int) (c3 : ZM) (r : Unit) (m' : ZM), zrec31 c0 c1 c2 c3 = some (r, m') → kp (wl w71) c3 m') (x1 : Int) (x2 : Int) (x3 : Int) (x8 : Int) (M : ZM) (r : Unit) (m' : ZM) (h : zJ71_196 n zrec31 x1 x2 x3 x8 M = some (r, m')) : kp (wl w71) M m' := by
  unfold zJ71_196 at h
  have g := kp_refl (wl w71) M
  by_cases q1 : x3 < 0 ∨ 512 ≤ x3
  · rw [if_pos q1] at h
    cases h
  · rw [if_neg q1] at h
    replace g : kp (wl w71) M (z_i M 114 (Int.toNat x3) x8) := kp_ia g (by simp [w71])
    rw [zlet] at h
    generalize z_i M 114 (Int.toNat x3) x8 = M43 at h g
    by_cases q2 : rg (x3 + 1)
    · rw [if_pos q2] at h
      exact kp_tr g (zJ71_208_kp n zrec31 hrec31 x1 x2 (x3 + 1) M43 _ _ h)
    · rw [if_neg q2] at h
      cases h
set_option maxRecDepth 100000 in
theorem zJ71_172_kp (n : Nat) (zrec31 : Int → Int → Int → ZM → Option (Unit × ZM)) (hrec31 : ∀ (c0 : Int) (c1 : Int) (c2 : Int) (c3 : ZM) (r : Unit) (m' : ZM), zrec31 c0 c1 c2 c3 = some (r, m') → kp (wl w71) c3 m') (x1 : Int) (x2 : Int) (x3 : Int) (x4 : Int) (x8 : Int) (M : ZM) (r : Unit) (m' : ZM) (h : zJ71_172 n zrec31 x1 x2 x3 x4 x8 M = some (r, m')) : kp (wl w71) M m' := by
  unfold zJ71_172 at h
  have g := kp_refl (wl w71) M
  by_cases q1 : x8 < 0
  · rw [if_pos q1] at h
    exact kp_tr g (zJ71_208_kp n zrec31 hrec31 x1 x2 x3 M _ _ h)
  · rw [if_neg q1] at h
    by_cases q2 : x8 < 0 ∨ 128 ≤ x8
    · rw [if_pos q2] at h
      cases h
    · rw [if_neg q2] at h
      by_cases q3 : 0 ≤ (M.1 115 (Int.toNat x8))
      · rw [if_pos q3] at h
        exact kp_tr g (zJ71_208_kp n zrec31 hrec31 x1 x2 x3 M _ _ h)
      · rw [if_neg q3] at h
        replace g : kp (wl w71) M (z_i M 115 (Int.toNat x8) x4) := kp_ia g (by simp [w71])
        rw [zlet] at h
        generalize z_i M 115 (Int.toNat x8) x4 = M41 at h g
        exact kp_tr g (zJ71_196_kp n zrec31 hrec31 x1 x2 x3 x8 M41 _ _ h)
set_option maxRecDepth 100000 in
theorem zJ71_160_kp (n : Nat) (zrec31 : Int → Int → Int → ZM → Option (Unit × ZM)) (hrec31 : ∀ (c0 : Int) (c1 : Int) (c2 : Int) (c3 : ZM) (r : Unit) (m' : ZM), zrec31 c0 c1 c2 c3 = some (r, m') → kp (wl w71) c3 m') (x1 : Int) (x2 : Int) (x3 : Int) (x4 : Int) (x7 : Int) (x8 : Int) (M : ZM) (r : Unit) (m' : ZM) (h : zJ71_160 n zrec31 x1 x2 x3 x4 x7 x8 M = some (r, m')) : kp (wl w71) M m' := by
  unfold zJ71_160 at h
  have g := kp_refl (wl w71) M
  by_cases q1 : x3 < 0 ∨ 512 ≤ x3
  · rw [if_pos q1] at h
    cases h
  · rw [if_neg q1] at h
    replace g : kp (wl w71) M (z_i M 114 (Int.toNat x3) x7) := kp_ia g (by simp [w71])
    rw [zlet] at h
    generalize z_i M 114 (Int.toNat x3) x7 = M49 at h g
    by_cases q2 : rg (x3 + 1)
    · rw [if_pos q2] at h
      exact kp_tr g (zJ71_172_kp n zrec31 hrec31 x1 x2 (x3 + 1) x4 x8 M49 _ _ h)
    · rw [if_neg q2] at h
      cases h
set_option maxRecDepth 100000 in
theorem zJ71_134_kp (n : Nat) (zrec31 : Int → Int → Int → ZM → Option (Unit × ZM)) (hrec31 : ∀ (c0 : Int) (c1 : Int) (c2 : Int) (c3 : ZM) (r : Unit) (m' : ZM), zrec31 c0 c1 c2 c3 = some (r, m') → kp (wl w71) c3 m') (x1 : Int) (x2 : Int) (x3 : Int) (x4 : Int) (x7 : Int) (s0 : Int) (M : ZM) (r : Unit) (m' : ZM) (h : zJ71_134 n zrec31 x1 x2 x3 x4 x7 s0 M = some (r, m')) : kp (wl w71) M m' := by
  unfold zJ71_134 at h
  have g := kp_refl (wl w71) M
  by_cases q1 : x7 < 0
  · rw [if_pos q1] at h
    exact kp_tr g (zJ71_172_kp n zrec31 hrec31 x1 x2 x3 x4 s0 M _ _ h)
  · rw [if_neg q1] at h
    by_cases q2 : x7 < 0 ∨ 128 ≤ x7
    · rw [if_pos q2] at h
      cases h
    · rw [if_neg q2] at h
      by_cases q3 : 0 ≤ (M.1 115 (Int.toNat x7))
      · rw [if_pos q3] at h
        exact kp_tr g (zJ71_172_kp n zrec31 hrec31 x1 x2 x3 x4 s0 M _ _ h)
      · rw [if_neg q3] at h
        replace g : kp (wl w71) M (z_i M 115 (Int.toNat x7) x4) := kp_ia g (by simp [w71])
        rw [zlet] at h
        generalize z_i M 115 (Int.toNat x7) x4 = M47 at h g
        exact kp_tr g (zJ71_160_kp n zrec31 hrec31 x1 x2 x3 x4 x7 s0 M47 _ _ h)
set_option maxRecDepth 100000 in
theorem zJ71_133_kp (n : Nat) (zrec31 : Int → Int → Int → ZM → Option (Unit × ZM)) (hrec31 : ∀ (c0 : Int) (c1 : Int) (c2 : Int) (c3 : ZM) (r : Unit) (m' : ZM), zrec31 c0 c1 c2 c3 = some (r, m') → kp (wl w71) c3 m') (x1 : Int) (x2 : Int) (x3 : Int) (x4 : Int) (x7 : Int) (M : ZM) (r : Unit) (m' : ZM) (h : zJ71_133 n zrec31 x1 x2 x3 x4 x7 M = some (r, m')) : kp (wl w71) M m' := by
  unfold zJ71_133 at h
  have g := kp_refl (wl w71) M
  exact kp_tr g (zJ71_134_kp n zrec31 hrec31 x1 x2 x3 x4 x7 (-1) M _ _ h)
set_option maxRecDepth 100000 in
theorem zJ71_121_kp (n : Nat) (zrec31 : Int → Int → Int → ZM → Option (Unit × ZM)) (hrec31 : ∀ (c0 : Int) (c1 : Int) (c2 : Int) (c3 : ZM) (r : Unit) (m' : ZM), zrec31 c0 c1 c2 c3 = some (r, m') → kp (wl w71) c3 m') (x1 : Int) (x2 : Int) (x3 : Int) (x4 : Int) (x7 : Int) (M : ZM) (r : Unit) (m' : ZM) (h : zJ71_121 n zrec31 x1 x2 x3 x4 x7 M = some (r, m')) : kp (wl w71) M m' := by
  unfold zJ71_121 at h
  have g := kp_refl (wl w71) M
  by_cases q1 : x4 < 0 ∨ 128 ≤ x4
  · rw [if_pos q1] at h
    cases h
  · rw [if_neg q1] at h
    by_cases q2 : rg ((M.1 92 (Int.toNat x4)) + 1)
    · rw [if_pos q2] at h
      exact kp_tr g (zJ71_134_kp n zrec31 hrec31 x1 x2 x3 x4 x7 ((M.1 92 (Int.toNat x4)) + 1) M _ _ h)
    · rw [if_neg q2] at h
      cases h
set_option maxRecDepth 100000 in
theorem zJ71_99_kp (n : Nat) (zrec31 : Int → Int → Int → ZM → Option (Unit × ZM)) (hrec31 : ∀ (c0 : Int) (c1 : Int) (c2 : Int) (c3 : ZM) (r : Unit) (m' : ZM), zrec31 c0 c1 c2 c3 = some (r, m') → kp (wl w71) c3 m') (x1 : Int) (x2 : Int) (x3 : Int) (x4 : Int) (x5 : Int) (x6 : Int) (x7 : Int) (M : ZM) (r : Unit) (m' : ZM) (h : zJ71_99 n zrec31 x1 x2 x3 x4 x5 x6 x7 M = some (r, m')) : kp (wl w71) M m' := by
  unfold zJ71_99 at h
  have g := kp_refl (wl w71) M
  by_cases q1 : x5 = 5
  · rw [if_pos q1] at h
    by_cases q2 : x6 = 3
    · rw [if_pos q2] at h
      exact kp_tr g (zJ71_133_kp n zrec31 hrec31 x1 x2 x3 x4 x7 M _ _ h)
    · rw [if_neg q2] at h
      by_cases q3 : x4 < 0 ∨ 128 ≤ x4
      · rw [if_pos q3] at h
        cases h
      · rw [if_neg q3] at h
        by_cases q4 : (M.1 93 (Int.toNat x4)) = 0
        · rw [if_pos q4] at h
          exact kp_tr g (zJ71_121_kp n zrec31 hrec31 x1 x2 x3 x4 x7 M _ _ h)
        · rw [if_neg q4] at h
          exact kp_tr g (zJ71_133_kp n zrec31 hrec31 x1 x2 x3 x4 x7 M _ _ h)
  · rw [if_neg q1] at h
    exact kp_tr g (zJ71_133_kp n zrec31 hrec31 x1 x2 x3 x4 x7 M _ _ h)
set_option maxRecDepth 100000 in
theorem zJ71_85_kp (n : Nat) (zrec31 : Int → Int → Int → ZM → Option (Unit × ZM)) (hrec31 : ∀ (c0 : Int) (c1 : Int) (c2 : Int) (c3 : ZM) (r : Unit) (m' : ZM), zrec31 c0 c1 c2 c3 = some (r, m') → kp (wl w71) c3 m') (x1 : Int) (x2 : Int) (x3 : Int) (x4 : Int) (x5 : Int) (x6 : Int) (s0 : Int) (M : ZM) (r : Unit) (m' : ZM) (h : zJ71_85 n zrec31 x1 x2 x3 x4 x5 x6 s0 M = some (r, m')) : kp (wl w71) M m' := by
  unfold zJ71_85 at h
  have g := kp_refl (wl w71) M
  by_cases q1 : x5 = 4
  · rw [if_pos q1] at h
    by_cases q2 : x6 = 2
    · rw [if_pos q2] at h
      exact kp_tr g (zJ71_99_kp n zrec31 hrec31 x1 x2 x3 x4 x5 x6 s0 M _ _ h)
    · rw [if_neg q2] at h
      exact kp_tr g (zJ71_121_kp n zrec31 hrec31 x1 x2 x3 x4 s0 M _ _ h)
  · rw [if_neg q1] at h
    exact kp_tr g (zJ71_99_kp n zrec31 hrec31 x1 x2 x3 x4 x5 x6 s0 M _ _ h)
set_option maxRecDepth 100000 in
theorem zJ71_77_kp (n : Nat) (zrec31 : Int → Int → Int → ZM → Option (Unit × ZM)) (hrec31 : ∀ (c0 : Int) (c1 : Int) (c2 : Int) (c3 : ZM) (r : Unit) (m' : ZM), zrec31 c0 c1 c2 c3 = some (r, m') → kp (wl w71) c3 m') (x1 : Int) (x2 : Int) (x3 : Int) (x4 : Int) (x5 : Int) (x6 : Int) (M : ZM) (r : Unit) (m' : ZM) (h : zJ71_77 n zrec31 x1 x2 x3 x4 x5 x6 M = some (r, m')) : kp (wl w71) M m' := by
  unfold zJ71_77 at h
  have g := kp_refl (wl w71) M
  by_cases q1 : rg (x4 + 1)
  · rw [if_pos q1] at h
    exact kp_tr g (zJ71_85_kp n zrec31 hrec31 x1 x2 x3 x4 x5 x6 (x4 + 1) M _ _ h)
  · rw [if_neg q1] at h
    cases h
set_option maxRecDepth 100000 in
theorem zJ71_65_kp (n : Nat) (zrec31 : Int → Int → Int → ZM → Option (Unit × ZM)) (hrec31 : ∀ (c0 : Int) (c1 : Int) (c2 : Int) (c3 : ZM) (r : Unit) (m' : ZM), zrec31 c0 c1 c2 c3 = some (r, m') → kp (wl w71) c3 m') (x1 : Int) (x2 : Int) (x3 : Int) (x4 : Int) (x5 : Int) (x6 : Int) (M : ZM) (r : Unit) (m' : ZM) (h : zJ71_65 n zrec31 x1 x2 x3 x4 x5 x6 M = some (r, m')) : kp (wl w71) M m' := by
  unfold zJ71_65 at h
  have g := kp_refl (wl w71) M
  by_cases q1 : x5 = 4
  · rw [if_pos q1] at h
    exact kp_tr g (zJ71_77_kp n zrec31 hrec31 x1 x2 x3 x4 x5 x6 M _ _ h)
  · rw [if_neg q1] at h
    by_cases q2 : x5 = 5
    · rw [if_pos q2] at h
      exact kp_tr g (zJ71_77_kp n zrec31 hrec31 x1 x2 x3 x4 x5 x6 M _ _ h)
    · rw [if_neg q2] at h
      exact kp_tr g (zJ71_85_kp n zrec31 hrec31 x1 x2 x3 x4 x5 x6 (-1) M _ _ h)
set_option maxRecDepth 100000 in
theorem zL71_31_kp (n : Nat) : ∀ (k : Nat) (x1 : Int) (x2 : Int) (x3 : Int) (M : ZM) (r : Unit) (m' : ZM), zL71_31 n k x1 x2 x3 M = some (r, m') → kp (wl w71) M m' := by
  intro k
  induction k with
  | zero => intro x1 x2 x3 M r m' h; cases h
  | succ k ih =>
    intro x1 x2 x3 M r m' h
    rw [zL71_31] at h
    have g := kp_refl (wl w71) M
    by_cases q1 : x3 ≤ 0
    · rw [if_pos q1] at h
      exact kp_tr g (zL71_217_kp n n x1 0 x2 M _ _ h)
    · rw [if_neg q1] at h
      by_cases q2 : rg (x3 - 1)
      · rw [if_pos q2] at h
        by_cases q3 : (x3 - 1) < 0 ∨ 512 ≤ (x3 - 1)
        · rw [if_pos q3] at h
          cases h
        · rw [if_neg q3] at h
          by_cases q4 : (M.1 114 (Int.toNat (x3 - 1))) < 0 ∨ 128 ≤ (M.1 114 (Int.toNat (x3 - 1)))
          · rw [if_pos q4] at h
            cases h
          · rw [if_neg q4] at h
            exact kp_tr g (zJ71_65_kp n (zL71_31 n k) ih x1 x2 (x3 - 1) (M.1 114 (Int.toNat (x3 - 1))) (M.1 90 (Int.toNat (M.1 114 (Int.toNat (x3 - 1))))) (M.1 94 (Int.toNat (M.1 114 (Int.toNat (x3 - 1))))) M _ _ h)
      · rw [if_neg q2] at h
        cases h
set_option maxRecDepth 100000 in
theorem zL71_2_kp (n : Nat) : ∀ (k : Nat) (x1 : Int) (x2 : Int) (x3 : Int) (M : ZM) (r : Unit) (m' : ZM), zL71_2 n k x1 x2 x3 M = some (r, m') → kp (wl w71) M m' := by
  intro k
  induction k with
  | zero => intro x1 x2 x3 M r m' h; cases h
  | succ k ih =>
    intro x1 x2 x3 M r m' h
    rw [zL71_2] at h
    have g := kp_refl (wl w71) M
    by_cases q1 : 128 ≤ x3
    · rw [if_pos q1] at h
      replace g : kp (wl w71) M (z_i M 114 0 x1) := kp_ia g (by simp [w71])
      rw [zlet] at h
      generalize z_i M 114 0 x1 = M2 at h g
      exact kp_tr g (zL71_31_kp n n x1 x2 1 M2 _ _ h)
    · rw [if_neg q1] at h
      by_cases q2 : x3 < 0 ∨ 128 ≤ x3
      · rw [if_pos q2] at h
        cases h
      · rw [if_neg q2] at h
        replace g : kp (wl w71) M (z_i M 115 (Int.toNat x3) (-1)) := kp_ia g (by simp [w71])
        rw [zlet] at h
        generalize z_i M 115 (Int.toNat x3) (-1) = M55 at h g
        by_cases q3 : rg (x3 + 1)
        · rw [if_pos q3] at h
          exact kp_tr g (ih x1 x2 (x3 + 1) M55 _ _ h)
        · rw [if_neg q3] at h
          cases h
set_option maxRecDepth 100000 in
theorem zF71_kp (n : Nat) (a0 : Int) (a1 : Int) (M : ZM) (r : Unit) (m' : ZM) (h : zF71 n a0 a1 M = some (r, m')) : kp (wl w71) M m' := by
  unfold zF71 at h
  have g := kp_refl (wl w71) M
  exact kp_tr g (zL71_2_kp n n a0 a1 0 M _ _ h)
set_option maxRecDepth 100000 in
theorem zJ72_42_kp (n : Nat) (s0 : Int) (M : ZM) (r : Int) (m' : ZM) (h : zJ72_42 n s0 M = some (r, m')) : m' = M := by
  unfold zJ72_42 at h
  have g : M = M := rfl
  by_cases q1 : rg (s0 - 1)
  · rw [if_pos q1] at h
    exact (Prod.mk.inj (Option.some.inj h)).2.symm.trans g
  · rw [if_neg q1] at h
    cases h
set_option maxRecDepth 100000 in
theorem zF72_kp (n : Nat) (a0 : Int) (M : ZM) (r : Int) (m' : ZM) (h : zF72 n a0 M = some (r, m')) : m' = M := by
  unfold zF72 at h
  have g : M = M := rfl
  by_cases q1 : 0 ≤ a0
  · rw [if_pos q1] at h
    by_cases q2 : a0 < 0 ∨ 128 ≤ a0
    · rw [if_pos q2] at h
      cases h
    · rw [if_neg q2] at h
      by_cases q3 : 0 ≤ (M.1 95 (Int.toNat a0))
      · rw [if_pos q3] at h
        by_cases q4 : (M.1 95 (Int.toNat a0)) < 0 ∨ 128 ≤ (M.1 95 (Int.toNat a0))
        · rw [if_pos q4] at h
          cases h
        · rw [if_neg q4] at h
          by_cases q5 : rg ((M.1 118 (Int.toNat (M.1 95 (Int.toNat a0)))) - 1)
          · rw [if_pos q5] at h
            cases hc6 : zF69 n a0 ((M.1 118 (Int.toNat (M.1 95 (Int.toNat a0)))) - 1) M with
            | none => rw [hc6] at h; cases h
            | some w =>
              obtain ⟨v6, M7⟩ := w
              rw [hc6] at h
              dsimp only at h
              replace g := (zF69_kp n a0 ((M.1 118 (Int.toNat (M.1 95 (Int.toNat a0)))) - 1) M _ _ hc6).trans g
              exact (zJ72_42_kp n v6 M7 _ _ h).trans g
          · rw [if_neg q5] at h
            cases h
      · rw [if_neg q3] at h
        exact (zJ72_42_kp n (M.1 118 (Int.toNat a0)) M _ _ h).trans g
  · rw [if_neg q1] at h
    exact (Prod.mk.inj (Option.some.inj h)).2.symm.trans g
def w73 : List (Nat × Nat) := [(114, 1000), (115, 1000), (117, 1000), (118, 1000), (119, 1000), (120, 1000), (121, 1000), (122, 1000), (123, 1000), (124, 1000), (125, 1000), (126, 1000), (83, 52), (83, 56)]
set_option maxRecDepth 100000 in
theorem zJ73_206_kp (n : Nat) (zrec36 : Int → Int → ZM → Option (Unit × ZM)) (hrec36 : ∀ (c0 : Int) (c1 : Int) (c2 : ZM) (r : Unit) (m' : ZM), zrec36 c0 c1 c2 = some (r, m') → kp (wl w73) c2 m') (x2 : Int) (s0 : Int) (M : ZM) (r : Unit) (m' : ZM) (h : zJ73_206 n zrec36 x2 s0 M = some (r, m')) : kp (wl w73) M m' := by
  unfold zJ73_206 at h
  have g := kp_refl (wl w73) M
  by_cases q1 : rg (x2 + 1)
  · rw [if_pos q1] at h
    exact kp_tr g (hrec36 s0 (x2 + 1) M _ _ h)
  · rw [if_neg q1] at h
    cases h
set_option maxRecDepth 100000 in
theorem zJ73_187_kp (n : Nat) (zrec36 : Int → Int → ZM → Option (Unit × ZM)) (hrec36 : ∀ (c0 : Int) (c1 : Int) (c2 : ZM) (r : Unit) (m' : ZM), zrec36 c0 c1 c2 = some (r, m') → kp (wl w73) c2 m') (x2 : Int) (x3 : Int) (x4 : Int) (M : ZM) (r : Unit) (m' : ZM) (h : zJ73_187 n zrec36 x2 x3 x4 M = some (r, m')) : kp (wl w73) M m' := by
  unfold zJ73_187 at h
  have g := kp_refl (wl w73) M
  by_cases q1 : x4 = 0
  · rw [if_pos q1] at h
    by_cases q2 : rg (x3 + 1)
    · rw [if_pos q2] at h
      exact kp_tr g (zJ73_206_kp n zrec36 hrec36 x2 (x3 + 1) M _ _ h)
    · rw [if_neg q2] at h
      cases h
  · rw [if_neg q1] at h
    by_cases q3 : x3 < 0 ∨ 128 ≤ x3
    · rw [if_pos q3] at h
      cases h
    · rw [if_neg q3] at h
      by_cases q4 : rg ((M.1 92 (Int.toNat x3)) + 1)
      · rw [if_pos q4] at h
        exact kp_tr g (zJ73_206_kp n zrec36 hrec36 x2 ((M.1 92 (Int.toNat x3)) + 1) M _ _ h)
      · rw [if_neg q4] at h
        cases h
set_option maxRecDepth 100000 in
theorem zJ73_170_kp (n : Nat) (zrec36 : Int → Int → ZM → Option (Unit × ZM)) (hrec36 : ∀ (c0 : Int) (c1 : Int) (c2 : ZM) (r : Unit) (m' : ZM), zrec36 c0 c1 c2 = some (r, m') → kp (wl w73) c2 m') (x2 : Int) (x3 : Int) (s0 : Int) (M : ZM) (r : Unit) (m' : ZM) (h : zJ73_170 n zrec36 x2 x3 s0 M = some (r, m')) : kp (wl w73) M m' := by
  unfold zJ73_170 at h
  have g := kp_refl (wl w73) M
  by_cases q1 : s0 = 0
  · rw [if_pos q1] at h
    exact kp_tr g (zJ73_187_kp n zrec36 hrec36 x2 x3 s0 M _ _ h)
  · rw [if_neg q1] at h
    by_cases q2 : x3 < 0 ∨ 128 ≤ x3
    · rw [if_pos q2] at h
      cases h
    · rw [if_neg q2] at h
      cases hc3 : zF70 n (M.1 92 (Int.toNat x3)) M with
      | none => rw [hc3] at h; cases h
      | some w =>
        obtain ⟨v38, M39⟩ := w
        rw [hc3] at h
        dsimp only at h
        replace g := kp_tr g (kp_sub (by simp [w70, w73]) (zF70_kp n (M.1 92 (Int.toNat x3)) M _ _ hc3))
        exact kp_tr g (zJ73_187_kp n zrec36 hrec36 x2 x3 s0 M39 _ _ h)
set_option maxRecDepth 100000 in
theorem zJ73_155_kp (n : Nat) (zrec36 : Int → Int → ZM → Option (Unit × ZM)) (hrec36 : ∀ (c0 : Int) (c1 : Int) (c2 : ZM) (r : Unit) (m' : ZM), zrec36 c0 c1 c2 = some (r, m') → kp (wl w73) c2 m') (x2 : Int) (x3 : Int) (M : ZM) (r : Unit) (m' : ZM) (h : zJ73_155 n zrec36 x2 x3 M = some (r, m')) : kp (wl w73) M m' := by
  unfold zJ73_155 at h
  have g := kp_refl (wl w73) M
  by_cases q1 : x3 < 0 ∨ 128 ≤ x3
  · rw [if_pos q1] at h
    cases h
  · rw [if_neg q1] at h
    by_cases q2 : (M.1 90 (Int.toNat x3)) = 5
    · rw [if_pos q2] at h
      exact kp_tr g (zJ73_170_kp n zrec36 hrec36 x2 x3 1 M _ _ h)
    · rw [if_neg q2] at h
      exact kp_tr g (zJ73_170_kp n zrec36 hrec36 x2 x3 0 M _ _ h)
set_option maxRecDepth 100000 in
theorem zJ73_145_kp (n : Nat) (zrec36 : Int → Int → ZM → Option (Unit × ZM)) (hrec36 : ∀ (c0 : Int) (c1 : Int) (c2 : ZM) (r : Unit) (m' : ZM), zrec36 c0 c1 c2 = some (r, m') → kp (wl w73) c2 m') (x2 : Int) (x3 : Int) (M : ZM) (r : Unit) (m' : ZM) (h : zJ73_145 n zrec36 x2 x3 M = some (r, m')) : kp (wl w73) M m' := by
  unfold zJ73_145 at h
  have g := kp_refl (wl w73) M
  by_cases q1 : rg ((M.1 83 56) + 1)
  · rw [if_pos q1] at h
    replace g : kp (wl w73) M (z_i M 83 56 ((M.1 83 56) + 1)) := kp_i g (by simp [w73])
    rw [zlet] at h
    generalize z_i M 83 56 ((M.1 83 56) + 1) = M31 at h g
    exact kp_tr g (zJ73_155_kp n zrec36 hrec36 x2 x3 M31 _ _ h)
  · rw [if_neg q1] at h
    cases h
set_option maxRecDepth 100000 in
theorem zJ73_115_kp (n : Nat) (zrec36 : Int → Int → ZM → Option (Unit × ZM)) (hrec36 : ∀ (c0 : Int) (c1 : Int) (c2 : ZM) (r : Unit) (m' : ZM), zrec36 c0 c1 c2 = some (r, m') → kp (wl w73) c2 m') (x2 : Int) (x3 : Int) (M : ZM) (r : Unit) (m' : ZM) (h : zJ73_115 n zrec36 x2 x3 M = some (r, m')) : kp (wl w73) M m' := by
  unfold zJ73_115 at h
  have g := kp_refl (wl w73) M
  by_cases q1 : x2 < 0 ∨ 161 ≤ x2
  · rw [if_pos q1] at h
    cases h
  · rw [if_neg q1] at h
    by_cases q2 : (M.1 83 56) < 0 ∨ 160 ≤ (M.1 83 56)
    · rw [if_pos q2] at h
      cases h
    · rw [if_neg q2] at h
      replace g : kp (wl w73) M (z_i M 125 (Int.toNat (M.1 83 56)) (M.1 112 (Int.toNat x2))) := kp_ia g (by simp [w73])
      rw [zlet] at h
      generalize z_i M 125 (Int.toNat (M.1 83 56)) (M.1 112 (Int.toNat x2)) = M27 at h g
      by_cases q3 : (M27.1 83 56) < 0 ∨ 160 ≤ (M27.1 83 56)
      · rw [if_pos q3] at h
        cases h
      · rw [if_neg q3] at h
        replace g : kp (wl w73) M (z_i M27 126 (Int.toNat (M27.1 83 56)) (M27.1 113 (Int.toNat x2))) := kp_ia g (by simp [w73])
        rw [zlet] at h
        generalize z_i M27 126 (Int.toNat (M27.1 83 56)) (M27.1 113 (Int.toNat x2)) = M30 at h g
        exact kp_tr g (zJ73_145_kp n zrec36 hrec36 x2 x3 M30 _ _ h)
set_option maxRecDepth 100000 in
theorem zJ73_96_kp (n : Nat) (zrec36 : Int → Int → ZM → Option (Unit × ZM)) (hrec36 : ∀ (c0 : Int) (c1 : Int) (c2 : ZM) (r : Unit) (m' : ZM), zrec36 c0 c1 c2 = some (r, m') → kp (wl w73) c2 m') (x2 : Int) (x3 : Int) (M : ZM) (r : Unit) (m' : ZM) (h : zJ73_96 n zrec36 x2 x3 M = some (r, m')) : kp (wl w73) M m' := by
  unfold zJ73_96 at h
  have g := kp_refl (wl w73) M
  by_cases q1 : x3 < 0 ∨ 128 ≤ x3
  · rw [if_pos q1] at h
    cases h
  · rw [if_neg q1] at h
    cases hc2 : zF72 n (M.1 96 (Int.toNat x3)) M with
    | none => rw [hc2] at h; cases h
    | some w =>
      obtain ⟨v20, M21⟩ := w
      rw [hc2] at h
      dsimp only at h
      replace g := kp_tr g (kp_eq _ (zF72_kp n (M.1 96 (Int.toNat x3)) M _ _ hc2))
      by_cases q3 : (M.1 83 56) < 0 ∨ 160 ≤ (M.1 83 56)
      · rw [if_pos q3] at h
        cases h
      · rw [if_neg q3] at h
        replace g : kp (wl w73) M (z_i M21 124 (Int.toNat (M.1 83 56)) v20) := kp_ia g (by simp [w73])
        rw [zlet] at h
        generalize z_i M21 124 (Int.toNat (M.1 83 56)) v20 = M24 at h g
        exact kp_tr g (zJ73_115_kp n zrec36 hrec36 x2 x3 M24 _ _ h)
set_option maxRecDepth 100000 in
theorem zJ73_77_kp (n : Nat) (zrec36 : Int → Int → ZM → Option (Unit × ZM)) (hrec36 : ∀ (c0 : Int) (c1 : Int) (c2 : ZM) (r : Unit) (m' : ZM), zrec36 c0 c1 c2 = some (r, m') → kp (wl w73) c2 m') (x2 : Int) (x3 : Int) (M : ZM) (r : Unit) (m' : ZM) (h : zJ73_77 n zrec36 x2 x3 M = some (r, m')) : kp (wl w73) M m' := by
  unfold zJ73_77 at h
  have g := kp_refl (wl w73) M
  by_cases q1 : x3 < 0 ∨ 128 ≤ x3
  · rw [if_pos q1] at h
    cases h
  · rw [if_neg q1] at h
    cases hc2 : zF72 n (M.1 95 (Int.toNat x3)) M with
    | none => rw [hc2] at h; cases h
    | some w =>
      obtain ⟨v14, M15⟩ := w
      rw [hc2] at h
      dsimp only at h
      replace g := kp_tr g (kp_eq _ (zF72_kp n (M.1 95 (Int.toNat x3)) M _ _ hc2))
      by_cases q3 : (M.1 83 56) < 0 ∨ 160 ≤ (M.1 83 56)
      · rw [if_pos q3] at h
        cases h
      · rw [if_neg q3] at h
        replace g : kp (wl w73) M (z_i M15 123 (Int.toNat (M.1 83 56)) v14) := kp_ia g (by simp [w73])
        rw [zlet] at h
        generalize z_i M15 123 (Int.toNat (M.1 83 56)) v14 = M18 at h g
        exact kp_tr g (zJ73_96_kp n zrec36 hrec36 x2 x3 M18 _ _ h)
set_option maxRecDepth 100000 in
theorem zJ73_57_kp (n : Nat) (zrec36 : Int → Int → ZM → Option (Unit × ZM)) (hrec36 : ∀ (c0 : Int) (c1 : Int) (c2 : ZM) (r : Unit) (m' : ZM), zrec36 c0 c1 c2 = some (r, m') → kp (wl w73) c2 m') (x2 : Int) (x3 : Int) (M : ZM) (r : Unit) (m' : ZM) (h : zJ73_57 n zrec36 x2 x3 M = some (r, m')) : kp (wl w73) M m' := by
  unfold zJ73_57 at h
  have g := kp_refl (wl w73) M
  by_cases q1 : x3 < 0 ∨ 128 ≤ x3
  · rw [if_pos q1] at h
    cases h
  · rw [if_neg q1] at h
    by_cases q2 : (M.1 90 (Int.toNat x3)) = 3
    · rw [if_pos q2] at h
      by_cases q3 : (M.1 83 56) < 0 ∨ 160 ≤ (M.1 83 56)
      · rw [if_pos q3] at h
        cases h
      · rw [if_neg q3] at h
        replace g : kp (wl w73) M (z_i M 122 (Int.toNat (M.1 83 56)) x3) := kp_ia g (by simp [w73])
        rw [zlet] at h
        generalize z_i M 122 (Int.toNat (M.1 83 56)) x3 = M12 at h g
        exact kp_tr g (zJ73_77_kp n zrec36 hrec36 x2 x3 M12 _ _ h)
    · rw [if_neg q2] at h
      exact kp_tr g (zJ73_155_kp n zrec36 hrec36 x2 x3 M _ _ h)
set_option maxRecDepth 100000 in
theorem zL73_36_kp (n : Nat) : ∀ (k : Nat) (x1 : Int) (x2 : Int) (M : ZM) (r : Unit) (m' : ZM), zL73_36 n k x1 x2 M = some (r, m') → kp (wl w73) M m' := by
  intro k
  induction k with
  | zero => intro x1 x2 M r m' h; cases h
  | succ k ih =>
    intro x1 x2 M r m' h
    rw [zL73_36] at h
    have g := kp_refl (wl w73) M
    by_cases q1 : (M.1 83 40) < x2
    · rw [if_pos q1] at h
      rw [← (Prod.mk.inj (Option.some.inj h)).2]
      exact g
    · rw [if_neg q1] at h
      by_cases q2 : x2 < 0 ∨ 162 ≤ x2
      · rw [if_pos q2] at h
        cases h
      · rw [if_neg q2] at h
        cases hc3 : zF71 n x1 (M.1 116 (Int.toNat x2)) M with
        | none => rw [hc3] at h; cases h
        | some w =>
          obtain ⟨v6, M7⟩ := w
          rw [hc3] at h
          dsimp only at h
          replace g := kp_tr g (kp_sub (by simp [w71, w73]) (zF71_kp n x1 (M.1 116 (Int.toNat x2)) M _ _ hc3))
          exact kp_tr g (zJ73_57_kp n (zL73_36 n k) ih x2 (M.1 116 (Int.toNat x2)) M7 _ _ h)
set_option maxRecDepth 100000 in
theorem zL73_2_kp (n : Nat) : ∀ (k : Nat) (x1 : Int) (M : ZM) (r : Unit) (m' : ZM), zL73_2 n k x1 M = some (r, m') → kp (wl w73) M m' := by
  intro k
  induction k with
  | zero => intro x1 M r m' h; cases h
  | succ k ih =>
    intro x1 M r m' h
    rw [zL73_2] at h
    have g := kp_refl (wl w73) M
    by_cases q1 : 128 ≤ x1
    · rw [if_pos q1] at h
      replace g : kp (wl w73) M (z_i M 83 52 0) := kp_i g (by simp [w73])
      rw [zlet] at h
      generalize z_i M 83 52 0 = M2 at h g
      replace g : kp (wl w73) M (z_i M2 83 56 0) := kp_i g (by simp [w73])
      rw [zlet] at h
      generalize z_i M2 83 56 0 = M3 at h g
      exact kp_tr g (zL73_36_kp n n 0 0 M3 _ _ h)
    · rw [if_neg q1] at h
      by_cases q2 : x1 < 0 ∨ 128 ≤ x1
      · rw [if_pos q2] at h
        cases h
      · rw [if_neg q2] at h
        replace g : kp (wl w73) M (z_i M 118 (Int.toNat x1) 0) := kp_ia g (by simp [w73])
        rw [zlet] at h
        generalize z_i M 118 (Int.toNat x1) 0 = M42 at h g
        by_cases q3 : rg (x1 + 1)
        · rw [if_pos q3] at h
          exact kp_tr g (ih (x1 + 1) M42 _ _ h)
        · rw [if_neg q3] at h
          cases h
set_option maxRecDepth 100000 in
theorem zF73_kp (n : Nat) (M : ZM) (r : Unit) (m' : ZM) (h : zF73 n M = some (r, m')) : kp (wl w73) M m' := by
  unfold zF73 at h
  have g := kp_refl (wl w73) M
  exact kp_tr g (zL73_2_kp n n 0 M _ _ h)
def w74 : List (Nat × Nat) := [(127, 1000), (128, 1000), (83, 62)]
set_option maxRecDepth 100000 in
theorem zJ74_30_kp (n : Nat) (M : ZM) (r : Unit) (m' : ZM) (h : zJ74_30 n M = some (r, m')) : kp (wl w74) M m' := by
  unfold zJ74_30 at h
  have g := kp_refl (wl w74) M
  by_cases q1 : rg ((M.1 83 62) + 1)
  · rw [if_pos q1] at h
    replace g : kp (wl w74) M (z_i M 83 62 ((M.1 83 62) + 1)) := kp_i g (by simp [w74])
    rw [zlet] at h
    generalize z_i M 83 62 ((M.1 83 62) + 1) = M2 at h g
    rw [← (Prod.mk.inj (Option.some.inj h)).2]
    exact g
  · rw [if_neg q1] at h
    cases h
set_option maxRecDepth 100000 in
theorem zJ74_20_kp (n : Nat) (x2 : Int) (M : ZM) (r : Unit) (m' : ZM) (h : zJ74_20 n x2 M = some (r, m')) : kp (wl w74) M m' := by
  unfold zJ74_20 at h
  have g := kp_refl (wl w74) M
  by_cases q1 : (M.1 83 62) < 0 ∨ 160 ≤ (M.1 83 62)
  · rw [if_pos q1] at h
    cases h
  · rw [if_neg q1] at h
    replace g : kp (wl w74) M (z_i M 128 (Int.toNat (M.1 83 62)) x2) := kp_ia g (by simp [w74])
    rw [zlet] at h
    generalize z_i M 128 (Int.toNat (M.1 83 62)) x2 = M6 at h g
    exact kp_tr g (zJ74_30_kp n M6 _ _ h)
set_option maxRecDepth 100000 in
theorem zF74_kp (n : Nat) (a0 : Int) (a1 : Int) (M : ZM) (r : Unit) (m' : ZM) (h : zF74 n a0 a1 M = some (r, m')) : kp (wl w74) M m' := by
  unfold zF74 at h
  have g := kp_refl (wl w74) M
  by_cases q1 : 160 ≤ (M.1 83 62)
  · rw [if_pos q1] at h
    exact kp_tr g (zJ74_30_kp n M _ _ h)
  · rw [if_neg q1] at h
    by_cases q2 : (M.1 83 62) < 0 ∨ 160 ≤ (M.1 83 62)
    · rw [if_pos q2] at h
      cases h
    · rw [if_neg q2] at h
      replace g : kp (wl w74) M (z_i M 127 (Int.toNat (M.1 83 62)) a0) := kp_ia g (by simp [w74])
      rw [zlet] at h
      generalize z_i M 127 (Int.toNat (M.1 83 62)) a0 = M4 at h g
      exact kp_tr g (zJ74_20_kp n a1 M4 _ _ h)
def w75 : List (Nat × Nat) := [(127, 1000), (128, 1000), (83, 62)]
set_option maxRecDepth 100000 in
theorem zJ75_192_kp (n : Nat) (zrec3 : Int → Int → Int → Int → Int → ZM → Option (Unit × ZM)) (hrec3 : ∀ (c0 : Int) (c1 : Int) (c2 : Int) (c3 : Int) (c4 : Int) (c5 : ZM) (r : Unit) (m' : ZM), zrec3 c0 c1 c2 c3 c4 c5 = some (r, m') → kp (wl w75) c5 m') (x1 : Int) (x2 : Int) (x3 : Int) (x4 : Int) (x5 : Int) (M : ZM) (r : Unit) (m' : ZM) (h : zJ75_192 n zrec3 x1 x2 x3 x4 x5 M = some (r, m')) : kp (wl w75) M m' := by
  unfold zJ75_192 at h
  have g := kp_refl (wl w75) M
  by_cases q1 : rg (x5 + 1)
  · rw [if_pos q1] at h
    exact kp_tr g (hrec3 x1 x2 x3 x4 (x5 + 1) M _ _ h)
  · rw [if_neg q1] at h
    cases h
set_option maxRecDepth 100000 in
theorem zJ75_174_kp (n : Nat) (zrec3 : Int → Int → Int → Int → Int → ZM → Option (Unit × ZM)) (hrec3 : ∀ (c0 : Int) (c1 : Int) (c2 : Int) (c3 : Int) (c4 : Int) (c5 : ZM) (r : Unit) (m' : ZM), zrec3 c0 c1 c2 c3 c4 c5 = some (r, m') → kp (wl w75) c5 m') (x1 : Int) (x2 : Int) (x3 : Int) (x4 : Int) (x5 : Int) (x6 : Int) (x7 : Int) (M : ZM) (r : Unit) (m' : ZM) (h : zJ75_174 n zrec3 x1 x2 x3 x4 x5 x6 x7 M = some (r, m')) : kp (wl w75) M m' := by
  unfold zJ75_174 at h
  have g := kp_refl (wl w75) M
  by_cases q1 : x6 = 0
  · rw [if_pos q1] at h
    exact kp_tr g (zJ75_192_kp n zrec3 hrec3 x1 x2 x3 x4 x5 M _ _ h)
  · rw [if_neg q1] at h
    by_cases q2 : x7 = 0
    · rw [if_pos q2] at h
      exact kp_tr g (zJ75_192_kp n zrec3 hrec3 x1 x2 x3 x4 x5 M _ _ h)
    · rw [if_neg q2] at h
      cases hc3 : zF74 n 41 x4 M with
      | none => rw [hc3] at h; cases h
      | some w =>
        obtain ⟨v19, M20⟩ := w
        rw [hc3] at h
        dsimp only at h
        replace g := kp_tr g (kp_sub (by simp [w74, w75]) (zF74_kp n 41 x4 M _ _ hc3))
        exact kp_tr g (zJ75_192_kp n zrec3 hrec3 x1 x2 x3 x4 x5 M20 _ _ h)
set_option maxRecDepth 100000 in
theorem zJ75_168_kp (n : Nat) (zrec3 : Int → Int → Int → Int → Int → ZM → Option (Unit × ZM)) (hrec3 : ∀ (c0 : Int) (c1 : Int) (c2 : Int) (c3 : Int) (c4 : Int) (c5 : ZM) (r : Unit) (m' : ZM), zrec3 c0 c1 c2 c3 c4 c5 = some (r, m') → kp (wl w75) c5 m') (zrec133 : Int → Int → Int → Int → Int → Int → Int → Int → ZM → Option (Unit × ZM)) (hrec133 : ∀ (c0 : Int) (c1 : Int) (c2 : Int) (c3 : Int) (c4 : Int) (c5 : Int) (c6 : Int) (c7 : Int) (c8 : ZM) (r : Unit) (m' : ZM), zrec133 c0 c1 c2 c3 c4 c5 c6 c7 c8 = some (r, m') → kp (wl w75) c8 m') (x1 : Int) (x2 : Int) (x3 : Int) (x4 : Int) (x5 : Int) (x6 : Int) (x7 : Int) (x8 : Int) (M : ZM) (r : Unit) (m' : ZM) (h : zJ75_168 n zrec3 zrec133 x1 x2 x3 x4 x5 x6 x7 x8 M = some (r, m')) : kp (wl w75) M m' := by
  unfold zJ75_168 at h
  have g := kp_refl (wl w75) M
  by_cases q1 : rg (x8 + 1)
  · rw [if_pos q1] at h
    exact kp_tr g (hrec133 x1 x2 x3 x4 x5 x6 x7 (x8 + 1) M _ _ h)
  · rw [if_neg q1] at h
    cases h
set_option maxRecDepth 100000 in
theorem zL75_133_kp (n : Nat) (zrec3 : Int → Int → Int → Int → Int → ZM → Option (Unit × ZM)) (hrec3 : ∀ (c0 : Int) (c1 : Int) (c2 : Int) (c3 : Int) (c4 : Int) (c5 : ZM) (r : Unit) (m' : ZM), zrec3 c0 c1 c2 c3 c4 c5 = some (r, m') → kp (wl w75) c5 m') : ∀ (k : Nat) (x1 : Int) (x2 : Int) (x3 : Int) (x4 : Int) (x5 : Int) (x6 : Int) (x7 : Int) (x8 : Int) (M : ZM) (r : Unit) (m' : ZM), zL75_133 n zrec3 k x1 x2 x3 x4 x5 x6 x7 x8 M = some (r, m') → kp (wl w75) M m' := by
  intro k
  induction k with
  | zero => intro x1 x2 x3 x4 x5 x6 x7 x8 M r m' h; cases h
  | succ k ih =>
    intro x1 x2 x3 x4 x5 x6 x7 x8 M r m' h
    rw [zL75_133] at h
    have g := kp_refl (wl w75) M
    by_cases q1 : x5 < 0 ∨ 160 ≤ x5
    · rw [if_pos q1] at h
      cases h
    · rw [if_neg q1] at h
      by_cases q2 : (M.1 126 (Int.toNat x5)) ≤ x8
      · rw [if_pos q2] at h
        exact kp_tr g (zJ75_174_kp n zrec3 hrec3 x1 x2 x3 x4 x5 x6 x7 M _ _ h)
      · rw [if_neg q2] at h
        by_cases q3 : x6 = 0
        · rw [if_pos q3] at h
          exact kp_tr g (zJ75_174_kp n zrec3 hrec3 x1 x2 x3 x4 x5 x6 x7 M _ _ h)
        · rw [if_neg q3] at h
          by_cases q4 : x8 < 0 ∨ 320 ≤ x8
          · rw [if_pos q4] at h
            cases h
          · rw [if_neg q4] at h
            cases hc5 : zF74 n (M.1 105 (Int.toNat x8)) (M.1 106 (Int.toNat x8)) M with
            | none => rw [hc5] at h; cases h
            | some w =>
              obtain ⟨v25, M26⟩ := w
              rw [hc5] at h
              dsimp only at h
              replace g := kp_tr g (kp_sub (by simp [w74, w75]) (zF74_kp n (M.1 105 (Int.toNat x8)) (M.1 106 (Int.toNat x8)) M _ _ hc5))
              exact kp_tr g (zJ75_168_kp n zrec3 hrec3 (zL75_133 n zrec3 k) ih x1 x2 x3 x4 x5 x6 x7 x8 M26 _ _ h)
set_option maxRecDepth 100000 in
theorem zJ75_124_kp (n : Nat) (zrec3 : Int → Int → Int → Int → Int → ZM → Option (Unit × ZM)) (hrec3 : ∀ (c0 : Int) (c1 : Int) (c2 : Int) (c3 : Int) (c4 : Int) (c5 : ZM) (r : Unit) (m' : ZM), zrec3 c0 c1 c2 c3 c4 c5 = some (r, m') → kp (wl w75) c5 m') (x1 : Int) (x2 : Int) (x3 : Int) (x4 : Int) (x5 : Int) (x6 : Int) (x7 : Int) (M : ZM) (r : Unit) (m' : ZM) (h : zJ75_124 n zrec3 x1 x2 x3 x4 x5 x6 x7 M = some (r, m')) : kp (wl w75) M m' := by
  unfold zJ75_124 at h
  have g := kp_refl (wl w75) M
  by_cases q1 : x5 < 0 ∨ 160 ≤ x5
  · rw [if_pos q1] at h
    cases h
  · rw [if_neg q1] at h
    exact kp_tr g (zL75_133_kp n zrec3 hrec3 n x1 x2 x3 x4 x5 x6 x7 (M.1 125 (Int.toNat x5)) M _ _ h)
set_option maxRecDepth 100000 in
theorem zJ75_104_kp (n : Nat) (zrec3 : Int → Int → Int → Int → Int → ZM → Option (Unit × ZM)) (hrec3 : ∀ (c0 : Int) (c1 : Int) (c2 : Int) (c3 : Int) (c4 : Int) (c5 : ZM) (r : Unit) (m' : ZM), zrec3 c0 c1 c2 c3 c4 c5 = some (r, m') → kp (wl w75) c5 m') (x1 : Int) (x2 : Int) (x3 : Int) (x4 : Int) (x5 : Int) (x6 : Int) (s0 : Int) (M : ZM) (r : Unit) (m' : ZM) (h : zJ75_104 n zrec3 x1 x2 x3 x4 x5 x6 s0 M = some (r, m')) : kp (wl w75) M m' := by
  unfold zJ75_104 at h
  have g := kp_refl (wl w75) M
  by_cases q1 : x6 = 0
  · rw [if_pos q1] at h
    exact kp_tr g (zJ75_124_kp n zrec3 hrec3 x1 x2 x3 x4 x5 x6 s0 M _ _ h)
  · rw [if_neg q1] at h
    by_cases q2 : s0 = 0
    · rw [if_pos q2] at h
      exact kp_tr g (zJ75_124_kp n zrec3 hrec3 x1 x2 x3 x4 x5 x6 s0 M _ _ h)
    · rw [if_neg q2] at h
      cases hc3 : zF74 n 40 x4 M with
      | none => rw [hc3] at h; cases h
      | some w =>
        obtain ⟨v29, M30⟩ := w
        rw [hc3] at h
        dsimp only at h
        replace g := kp_tr g (kp_sub (by simp [w74, w75]) (zF74_kp n 40 x4 M _ _ hc3))
        exact kp_tr g (zJ75_124_kp n zrec3 hrec3 x1 x2 x3 x4 x5 x6 s0 M30 _ _ h)
set_option maxRecDepth 100000 in
theorem zJ75_103_kp (n : Nat) (zrec3 : Int → Int → Int → Int → Int → ZM → Option (Unit × ZM)) (hrec3 : ∀ (c0 : Int) (c1 : Int) (c2 : Int) (c3 : Int) (c4 : Int) (c5 : ZM) (r : Unit) (m' : ZM), zrec3 c0 c1 c2 c3 c4 c5 = some (r, m') → kp (wl w75) c5 m') (x1 : Int) (x2 : Int) (x3 : Int) (x4 : Int) (x5 : Int) (x6 : Int) (M : ZM) (r : Unit) (m' : ZM) (h : zJ75_103 n zrec3 x1 x2 x3 x4 x5 x6 M = some (r, m')) : kp (wl w75) M m' := by
  unfold zJ75_103 at h
  have g := kp_refl (wl w75) M
  exact kp_tr g (zJ75_104_kp n zrec3 hrec3 x1 x2 x3 x4 x5 x6 0 M _ _ h)
set_option maxRecDepth 100000 in
theorem zJ75_99_kp (n : Nat) (zrec3 : Int → Int → Int → Int → Int → ZM → Option (Unit × ZM)) (hrec3 : ∀ (c0 : Int) (c1 : Int) (c2 : Int) (c3 : Int) (c4 : Int) (c5 : ZM) (r : Unit) (m' : ZM), zrec3 c0 c1 c2 c3 c4 c5 = some (r, m') → kp (wl w75) c5 m') (x1 : Int) (x2 : Int) (x3 : Int) (x4 : Int) (x5 : Int) (x6 : Int) (M : ZM) (r : Unit) (m' : ZM) (h : zJ75_99 n zrec3 x1 x2 x3 x4 x5 x6 M = some (r, m')) : kp (wl w75) M m' := by
  unfold zJ75_99 at h
  have g := kp_refl (wl w75) M
  exact kp_tr g (zJ75_104_kp n zrec3 hrec3 x1 x2 x3 x4 x5 x6 1 M _ _ h)
set_option maxRecDepth 100000 in
theorem zJ75_68_kp (n : Nat) (zrec3 : Int → Int → Int → Int → Int → ZM → Option (Unit × ZM)) (hrec3 : ∀ (c0 : Int) (c1 : Int) (c2 : Int) (c3 : Int) (c4 : Int) (c5 : ZM) (r : Unit) (m' : ZM), zrec3 c0 c1 c2 c3 c4 c5 = some (r, m') → kp (wl w75) c5 m') (x1 : Int) (x2 : Int) (x3 : Int) (x4 : Int) (x5 : Int) (s0 : Int) (M : ZM) (r : Unit) (m' : ZM) (h : zJ75_68 n zrec3 x1 x2 x3 x4 x5 s0 M = some (r, m')) : kp (wl w75) M m' := by
  unfold zJ75_68 at h
  have g := kp_refl (wl w75) M
  by_cases q1 : x1 < 0 ∨ 128 ≤ x1
  · rw [if_pos q1] at h
    cases h
  · rw [if_neg q1] at h
    by_cases q2 : (M.1 94 (Int.toNat x1)) = 4
    · rw [if_pos q2] at h
      by_cases q3 : x5 < 0 ∨ 160 ≤ x5
      · rw [if_pos q3] at h
        cases h
      · rw [if_neg q3] at h
        by_cases q4 : rg ((M.1 126 (Int.toNat x5)) - (M.1 125 (Int.toNat x5)))
        · rw [if_pos q4] at h
          by_cases q5 : ((M.1 126 (Int.toNat x5)) - (M.1 125 (Int.toNat x5))) ≤ 1
          · rw [if_pos q5] at h
            exact kp_tr g (zJ75_103_kp n zrec3 hrec3 x1 x2 x3 x4 x5 s0 M _ _ h)
          · rw [if_neg q5] at h
            exact kp_tr g (zJ75_99_kp n zrec3 hrec3 x1 x2 x3 x4 x5 s0 M _ _ h)
        · rw [if_neg q4] at h
          cases h
    · rw [if_neg q2] at h
      exact kp_tr g (zJ75_103_kp n zrec3 hrec3 x1 x2 x3 x4 x5 s0 M _ _ h)
set_option maxRecDepth 100000 in
theorem zJ75_63_kp (n : Nat) (zrec3 : Int → Int → Int → Int → Int → ZM → Option (Unit × ZM)) (hrec3 : ∀ (c0 : Int) (c1 : Int) (c2 : Int) (c3 : Int) (c4 : Int) (c5 : ZM) (r : Unit) (m' : ZM), zrec3 c0 c1 c2 c3 c4 c5 = some (r, m') → kp (wl w75) c5 m') (x1 : Int) (x2 : Int) (x3 : Int) (x4 : Int) (x5 : Int) (M : ZM) (r : Unit) (m' : ZM) (h : zJ75_63 n zrec3 x1 x2 x3 x4 x5 M = some (r, m')) : kp (wl w75) M m' := by
  unfold zJ75_63 at h
  have g := kp_refl (wl w75) M
  exact kp_tr g (zJ75_68_kp n zrec3 hrec3 x1 x2 x3 x4 x5 1 M _ _ h)
set_option maxRecDepth 100000 in
theorem zJ75_67_kp (n : Nat) (zrec3 : Int → Int → Int → Int → Int → ZM → Option (Unit × ZM)) (hrec3 : ∀ (c0 : Int) (c1 : Int) (c2 : Int) (c3 : Int) (c4 : Int) (c5 : ZM) (r : Unit) (m' : ZM), zrec3 c0 c1 c2 c3 c4 c5 = some (r, m') → kp (wl w75) c5 m') (x1 : Int) (x2 : Int) (x3 : Int) (x4 : Int) (x5 : Int) (M : ZM) (r : Unit) (m' : ZM) (h : zJ75_67 n zrec3 x1 x2 x3 x4 x5 M = some (r, m')) : kp (wl w75) M m' := by
  unfold zJ75_67 at h
  have g := kp_refl (wl w75) M
  exact kp_tr g (zJ75_68_kp n zrec3 hrec3 x1 x2 x3 x4 x5 0 M _ _ h)
set_option maxRecDepth 100000 in
theorem zJ75_43_kp (n : Nat) (zrec3 : Int → Int → Int → Int → Int → ZM → Option (Unit × ZM)) (hrec3 : ∀ (c0 : Int) (c1 : Int) (c2 : Int) (c3 : Int) (c4 : Int) (c5 : ZM) (r : Unit) (m' : ZM), zrec3 c0 c1 c2 c3 c4 c5 = some (r, m') → kp (wl w75) c5 m') (x1 : Int) (x2 : Int) (x3 : Int) (x4 : Int) (x5 : Int) (M : ZM) (r : Unit) (m' : ZM) (h : zJ75_43 n zrec3 x1 x2 x3 x4 x5 M = some (r, m')) : kp (wl w75) M m' := by
  unfold zJ75_43 at h
  have g := kp_refl (wl w75) M
  by_cases q1 : x1 < 0 ∨ 128 ≤ x1
  · rw [if_pos q1] at h
    cases h
  · rw [if_neg q1] at h
    by_cases q2 : (M.1 96 (Int.toNat x1)) < 0
    · rw [if_pos q2] at h
      exact kp_tr g (zJ75_63_kp n zrec3 hrec3 x1 x2 x3 x4 x5 M _ _ h)
    · rw [if_neg q2] at h
      by_cases q3 : x5 < 0 ∨ 160 ≤ x5
      · rw [if_pos q3] at h
        cases h
      · rw [if_neg q3] at h
        by_cases q4 : (M.1 124 (Int.toNat x5)) = x3
        · rw [if_pos q4] at h
          exact kp_tr g (zJ75_63_kp n zrec3 hrec3 x1 x2 x3 x4 x5 M _ _ h)
        · rw [if_neg q4] at h
          exact kp_tr g (zJ75_67_kp n zrec3 hrec3 x1 x2 x3 x4 x5 M _ _ h)
set_option maxRecDepth 100000 in
theorem zJ75_32_kp (n : Nat) (zrec3 : Int → Int → Int → Int → Int → ZM → Option (Unit × ZM)) (hrec3 : ∀ (c0 : Int) (c1 : Int) (c2 : Int) (c3 : Int) (c4 : Int) (c5 : ZM) (r : Unit) (m' : ZM), zrec3 c0 c1 c2 c3 c4 c5 = some (r, m') → kp (wl w75) c5 m') (x1 : Int) (x2 : Int) (x3 : Int) (x4 : Int) (x5 : Int) (M : ZM) (r : Unit) (m' : ZM) (h : zJ75_32 n zrec3 x1 x2 x3 x4 x5 M = some (r, m')) : kp (wl w75) M m' := by
  unfold zJ75_32 at h
  have g := kp_refl (wl w75) M
  by_cases q1 : x5 < 0 ∨ 160 ≤ x5
  · rw [if_pos q1] at h
    cases h
  · rw [if_neg q1] at h
    by_cases q2 : (M.1 123 (Int.toNat x5)) = x2
    · rw [if_pos q2] at h
      exact kp_tr g (zJ75_43_kp n zrec3 hrec3 x1 x2 x3 x4 x5 M _ _ h)
    · rw [if_neg q2] at h
      exact kp_tr g (zJ75_67_kp n zrec3 hrec3 x1 x2 x3 x4 x5 M _ _ h)
set_option maxRecDepth 100000 in
theorem zL75_3_kp (n : Nat) : ∀ (k : Nat) (x1 : Int) (x2 : Int) (x3 : Int) (x4 : Int) (x5 : Int) (M : ZM) (r : Unit) (m' : ZM), zL75_3 n k x1 x2 x3 x4 x5 M = some (r, m') → kp (wl w75) M m' := by
  intro k
  induction k with
  | zero => intro x1 x2 x3 x4 x5 M r m' h; cases h
  | succ k ih =>
    intro x1 x2 x3 x4 x5 M r m' h
    rw [zL75_3] at h
    have g := kp_refl (wl w75) M
    by_cases q1 : (M.1 83 56) ≤ x5
    · rw [if_pos q1] at h
      rw [← (Prod.mk.inj (Option.some.inj h)).2]
      exact g
    · rw [if_neg q1] at h
      by_cases q2 : x5 < 0 ∨ 160 ≤ x5
      · rw [if_pos q2] at h
        cases h
      · rw [if_neg q2] at h
        by_cases q3 : (M.1 122 (Int.toNat x5)) = x1
        · rw [if_pos q3] at h
          by_cases q4 : x1 < 0 ∨ 128 ≤ x1
          · rw [if_pos q4] at h
            cases h
          · rw [if_neg q4] at h
            by_cases q5 : (M.1 95 (Int.toNat x1)) < 0
            · rw [if_pos q5] at h
              exact kp_tr g (zJ75_43_kp n (zL75_3 n k) ih x1 x2 x3 x4 x5 M _ _ h)
            · rw [if_neg q5] at h
              exact kp_tr g (zJ75_32_kp n (zL75_3 n k) ih x1 x2 x3 x4 x5 M _ _ h)
        · rw [if_neg q3] at h
          exact kp_tr g (zJ75_67_kp n (zL75_3 n k) ih x1 x2 x3 x4 x5 M _ _ h)
set_option maxRecDepth 100000 in
theorem zF75_kp (n : Nat) (a0 : Int) (a1 : Int) (a2 : Int) (a3 : Int) (M : ZM) (r : Unit) (m' : ZM) (h : zF75 n a0 a1 a2 a3 M = some (r, m')) : kp (wl w75) M m' := by
  unfold zF75 at h
  have g := kp_refl (wl w75) M
  exact kp_tr g (zL75_3_kp n n a0 a1 a2 a3 0 M _ _ h)
set_option maxRecDepth 100000 in
theorem zJ76_123_kp (n : Nat) (s0 : Int) (M : ZM) (r : Int) (m' : ZM) (h : zJ76_123 n s0 M = some (r, m')) : m' = M := by
  unfold zJ76_123 at h
  have g : M = M := rfl
  exact (Prod.mk.inj (Option.some.inj h)).2.symm.trans g
set_option maxRecDepth 100000 in
theorem zJ76_107_kp (n : Nat) (zrec8 : Int → Int → Int → Int → Int → ZM → Option (Int × ZM)) (hrec8 : ∀ (c0 : Int) (c1 : Int) (c2 : Int) (c3 : Int) (c4 : Int) (c5 : ZM) (r : Int) (m' : ZM), zrec8 c0 c1 c2 c3 c4 c5 = some (r, m') → m' = c5) (x1 : Int) (x2 : Int) (x3 : Int) (x4 : Int) (x5 : Int) (M : ZM) (r : Int) (m' : ZM) (h : zJ76_107 n zrec8 x1 x2 x3 x4 x5 M = some (r, m')) : m' = M := by
  unfold zJ76_107 at h
  have g : M = M := rfl
  by_cases q1 : rg (x5 + 1)
  · rw [if_pos q1] at h
    exact (hrec8 x1 x2 x3 x4 (x5 + 1) M _ _ h).trans g
  · rw [if_neg q1] at h
    cases h
set_option maxRecDepth 100000 in
theorem zJ76_102_kp (n : Nat) (zrec8 : Int → Int → Int → Int → Int → ZM → Option (Int × ZM)) (hrec8 : ∀ (c0 : Int) (c1 : Int) (c2 : Int) (c3 : Int) (c4 : Int) (c5 : ZM) (r : Int) (m' : ZM), zrec8 c0 c1 c2 c3 c4 c5 = some (r, m') → m' = c5) (x1 : Int) (x2 : Int) (x5 : Int) (x7 : Int) (s0 : Int) (M : ZM) (r : Int) (m' : ZM) (h : zJ76_102 n zrec8 x1 x2 x5 x7 s0 M = some (r, m')) : m' = M := by
  unfold zJ76_102 at h
  have g : M = M := rfl
  exact (zJ76_107_kp n zrec8 hrec8 x1 x2 x7 s0 x5 M _ _ h).trans g
set_option maxRecDepth 100000 in
theorem zJ76_101_kp (n : Nat) (zrec8 : Int → Int → Int → Int → Int → ZM → Option (Int × ZM)) (hrec8 : ∀ (c0 : Int) (c1 : Int) (c2 : Int) (c3 : Int) (c4 : Int) (c5 : ZM) (r : Int) (m' : ZM), zrec8 c0 c1 c2 c3 c4 c5 = some (r, m') → m' = c5) (x1 : Int) (x2 : Int) (x5 : Int) (x7 : Int) (M : ZM) (r : Int) (m' : ZM) (h : zJ76_101 n zrec8 x1 x2 x5 x7 M = some (r, m')) : m' = M := by
  unfold zJ76_101 at h
  have g : M = M := rfl
  exact (zJ76_102_kp n zrec8 hrec8 x1 x2 x5 x7 0 M _ _ h).trans g
set_option maxRecDepth 100000 in
theorem zJ76_97_kp (n : Nat) (zrec8 : Int → Int → Int → Int → Int → ZM → Option (Int × ZM)) (hrec8 : ∀ (c0 : Int) (c1 : Int) (c2 : Int) (c3 : Int) (c4 : Int) (c5 : ZM) (r : Int) (m' : ZM), zrec8 c0 c1 c2 c3 c4 c5 = some (r, m') → m' = c5) (x1 : Int) (x2 : Int) (x5 : Int) (x7 : Int) (M : ZM) (r : Int) (m' : ZM) (h : zJ76_97 n zrec8 x1 x2 x5 x7 M = some (r, m')) : m' = M := by
  unfold zJ76_97 at h
  have g : M = M := rfl
  exact (zJ76_102_kp n zrec8 hrec8 x1 x2 x5 x7 1 M _ _ h).trans g
set_option maxRecDepth 100000 in
theorem zJ76_80_kp (n : Nat) (zrec8 : Int → Int → Int → Int → Int → ZM → Option (Int × ZM)) (hrec8 : ∀ (c0 : Int) (c1 : Int) (c2 : Int) (c3 : Int) (c4 : Int) (c5 : ZM) (r : Int) (m' : ZM), zrec8 c0 c1 c2 c3 c4 c5 = some (r, m') → m' = c5) (x1 : Int) (x2 : Int) (x3 : Int) (x4 : Int) (x5 : Int) (s0 : Int) (M : ZM) (r : Int) (m' : ZM) (h : zJ76_80 n zrec8 x1 x2 x3 x4 x5 s0 M = some (r, m')) : m' = M := by
  unfold zJ76_80 at h
  have g : M = M := rfl
  by_cases q1 : x4 = 0
  · rw [if_pos q1] at h
    exact (zJ76_101_kp n zrec8 hrec8 x1 x2 x5 s0 M _ _ h).trans g
  · rw [if_neg q1] at h
    by_cases q2 : x3 < 0
    · rw [if_pos q2] at h
      exact (zJ76_97_kp n zrec8 hrec8 x1 x2 x5 s0 M _ _ h).trans g
    · rw [if_neg q2] at h
      by_cases q3 : x3 = s0
      · rw [if_pos q3] at h
        exact (zJ76_97_kp n zrec8 hrec8 x1 x2 x5 s0 M _ _ h).trans g
      · rw [if_neg q3] at h
        exact (zJ76_101_kp n zrec8 hrec8 x1 x2 x5 s0 M _ _ h).trans g
set_option maxRecDepth 100000 in
theorem zJ76_68_kp (n : Nat) (zrec8 : Int → Int → Int → Int → Int → ZM → Option (Int × ZM)) (hrec8 : ∀ (c0 : Int) (c1 : Int) (c2 : Int) (c3 : Int) (c4 : Int) (c5 : ZM) (r : Int) (m' : ZM), zrec8 c0 c1 c2 c3 c4 c5 = some (r, m') → m' = c5) (x1 : Int) (x2 : Int) (x3 : Int) (x4 : Int) (x5 : Int) (x6 : Int) (M : ZM) (r : Int) (m' : ZM) (h : zJ76_68 n zrec8 x1 x2 x3 x4 x5 x6 M = some (r, m')) : m' = M := by
  unfold zJ76_68 at h
  have g : M = M := rfl
  by_cases q1 : x6 < 0 ∨ 128 ≤ x6
  · rw [if_pos q1] at h
    cases h
  · rw [if_neg q1] at h
    cases hc2 : zF69 n (M.1 96 (Int.toNat x6)) x2 M with
    | none => rw [hc2] at h; cases h
    | some w =>
      obtain ⟨v13, M14⟩ := w
      rw [hc2] at h
      dsimp only at h
      replace g := (zF69_kp n (M.1 96 (Int.toNat x6)) x2 M _ _ hc2).trans g
      exact (zJ76_80_kp n zrec8 hrec8 x1 x2 x3 x4 x5 v13 M14 _ _ h).trans g
set_option maxRecDepth 100000 in
theorem zJ76_53_kp (n : Nat) (zrec8 : Int → Int → Int → Int → Int → ZM → Option (Int × ZM)) (hrec8 : ∀ (c0 : Int) (c1 : Int) (c2 : Int) (c3 : Int) (c4 : Int) (c5 : ZM) (r : Int) (m' : ZM), zrec8 c0 c1 c2 c3 c4 c5 = some (r, m') → m' = c5) (x1 : Int) (x2 : Int) (x3 : Int) (x4 : Int) (x5 : Int) (x6 : Int) (M : ZM) (r : Int) (m' : ZM) (h : zJ76_53 n zrec8 x1 x2 x3 x4 x5 x6 M = some (r, m')) : m' = M := by
  unfold zJ76_53 at h
  have g : M = M := rfl
  by_cases q1 : x6 < 0 ∨ 128 ≤ x6
  · rw [if_pos q1] at h
    cases h
  · rw [if_neg q1] at h
    by_cases q2 : (M.1 95 (Int.toNat x6)) < 0 ∨ 128 ≤ (M.1 95 (Int.toNat x6))
    · rw [if_pos q2] at h
      cases h
    · rw [if_neg q2] at h
      exact (zJ76_80_kp n zrec8 hrec8 x1 x2 x3 x4 x5 (M.1 118 (Int.toNat (M.1 95 (Int.toNat x6)))) M _ _ h).trans g
set_option maxRecDepth 100000 in
theorem zJ76_31_kp (n : Nat) (zrec8 : Int → Int → Int → Int → Int → ZM → Option (Int × ZM)) (hrec8 : ∀ (c0 : Int) (c1 : Int) (c2 : Int) (c3 : Int) (c4 : Int) (c5 : ZM) (r : Int) (m' : ZM), zrec8 c0 c1 c2 c3 c4 c5 = some (r, m') → m' = c5) (x1 : Int) (x2 : Int) (x3 : Int) (x4 : Int) (x5 : Int) (M : ZM) (r : Int) (m' : ZM) (h : zJ76_31 n zrec8 x1 x2 x3 x4 x5 M = some (r, m')) : m' = M := by
  unfold zJ76_31 at h
  have g : M = M := rfl
  by_cases q1 : x5 < 0 ∨ 128 ≤ x5
  · rw [if_pos q1] at h
    cases h
  · rw [if_neg q1] at h
    cases hc2 : zF46 n (M.1 98 (Int.toNat x5)) M with
    | none => rw [hc2] at h; cases h
    | some w =>
      obtain ⟨v7, M8⟩ := w
      rw [hc2] at h
      dsimp only at h
      replace g := (zF46_kp n (M.1 98 (Int.toNat x5)) M _ _ hc2).trans g
      by_cases q3 : x1 < 0 ∨ 128 ≤ x1
      · rw [if_pos q3] at h
        cases h
      · rw [if_neg q3] at h
        by_cases q4 : 0 ≤ (M8.1 101 (Int.toNat x1))
        · rw [if_pos q4] at h
          exact (zJ76_68_kp n zrec8 hrec8 x1 x2 x3 x4 x5 v7 M8 _ _ h).trans g
        · rw [if_neg q4] at h
          exact (zJ76_53_kp n zrec8 hrec8 x1 x2 x3 x4 x5 v7 M8 _ _ h).trans g
set_option maxRecDepth 100000 in
theorem zL76_8_kp (n : Nat) : ∀ (k : Nat) (x1 : Int) (x2 : Int) (x3 : Int) (x4 : Int) (x5 : Int) (M : ZM) (r : Int) (m' : ZM), zL76_8 n k x1 x2 x3 x4 x5 M = some (r, m') → m' = M := by
  intro k
  induction k with
  | zero => intro x1 x2 x3 x4 x5 M r m' h; cases h
  | succ k ih =>
    intro x1 x2 x3 x4 x5 M r m' h
    rw [zL76_8] at h
    have g : M = M := rfl
    by_cases q1 : x1 < 0 ∨ 128 ≤ x1
    · rw [if_pos q1] at h
      cases h
    · rw [if_neg q1] at h
      by_cases q2 : (M.1 99 (Int.toNat x1)) ≤ x5
      · rw [if_pos q2] at h
        by_cases q3 : x4 = 0
        · rw [if_pos q3] at h
          exact (zJ76_123_kp n (-1) M _ _ h).trans g
        · rw [if_neg q3] at h
          exact (zJ76_123_kp n x3 M _ _ h).trans g
      · rw [if_neg q2] at h
        by_cases q4 : x5 < 0 ∨ 128 ≤ x5
        · rw [if_pos q4] at h
          cases h
        · rw [if_neg q4] at h
          by_cases q5 : (M.1 97 (Int.toNat x5)) = 7
          · rw [if_pos q5] at h
            exact (zJ76_31_kp n (zL76_8 n k) ih x1 x2 x3 x4 x5 M _ _ h).trans g
          · rw [if_neg q5] at h
            exact (zJ76_107_kp n (zL76_8 n k) ih x1 x2 x3 x4 x5 M _ _ h).trans g
set_option maxRecDepth 100000 in
theorem zF76_kp (n : Nat) (a0 : Int) (a1 : Int) (M : ZM) (r : Int) (m' : ZM) (h : zF76 n a0 a1 M = some (r, m')) : m' = M := by
  unfold zF76 at h
  have g : M = M := rfl
  exact (zL76_8_kp n n a0 a1 (-1) 1 a0 M _ _ h).trans g
def w77 : List (Nat × Nat) := [(127, 1000), (128, 1000), (83, 62)]
set_option maxRecDepth 100000 in
theorem zJ77_328_kp (n : Nat) (zrec18 : Int → Int → Int → Int → Int → Int → ZM → Option (Int × ZM)) (hrec18 : ∀ (c0 : Int) (c1 : Int) (c2 : Int) (c3 : Int) (c4 : Int) (c5 : Int) (c6 : ZM) (r : Int) (m' : ZM), zrec18 c0 c1 c2 c3 c4 c5 c6 = some (r, m') → kp (wl w77) c6 m') (x1 : Int) (x2 : Int) (x3 : Int) (x4 : Int) (x5 : Int) (x9 : Int) (M : ZM) (r : Int) (m' : ZM) (h : zJ77_328 n zrec18 x1 x2 x3 x4 x5 x9 M = some (r, m')) : kp (wl w77) M m' := by
  unfold zJ77_328 at h
  have g := kp_refl (wl w77) M
  exact kp_tr g (hrec18 x1 x2 x3 x4 x5 x9 M _ _ h)
set_option maxRecDepth 100000 in
theorem zJ77_102_kp (n : Nat) (zrec18 : Int → Int → Int → Int → Int → Int → ZM → Option (Int × ZM)) (hrec18 : ∀ (c0 : Int) (c1 : Int) (c2 : Int) (c3 : Int) (c4 : Int) (c5 : Int) (c6 : ZM) (r : Int) (m' : ZM), zrec18 c0 c1 c2 c3 c4 c5 c6 = some (r, m') → kp (wl w77) c6 m') (x1 : Int) (x2 : Int) (x3 : Int) (x4 : Int) (x5 : Int) (x9 : Int) (x10 : Int) (M : ZM) (r : Int) (m' : ZM) (h : zJ77_102 n zrec18 x1 x2 x3 x4 x5 x9 x10 M = some (r, m')) : kp (wl w77) M m' := by
  unfold zJ77_102 at h
  have g := kp_refl (wl w77) M
  cases hc1 : zF75 n x10 x2 x4 x1 M with
  | none => rw [hc1] at h; cases h
  | some w =>
    obtain ⟨v17, M18⟩ := w
    rw [hc1] at h
    dsimp only at h
    replace g := kp_tr g (kp_sub (by simp [w75, w77]) (zF75_kp n x10 x2 x4 x1 M _ _ hc1))
    exact kp_tr g (zJ77_328_kp n zrec18 hrec18 x1 x2 x3 x4 x5 x9 M18 _ _ h)
set_option maxRecDepth 100000 in
theorem zJ77_209_kp (n : Nat) (zrec18 : Int → Int → Int → Int → Int → Int → ZM → Option (Int × ZM)) (hrec18 : ∀ (c0 : Int) (c1 : Int) (c2 : Int) (c3 : Int) (c4 : Int) (c5 : Int) (c6 : ZM) (r : Int) (m' : ZM), zrec18 c0 c1 c2 c3 c4 c5 c6 = some (r, m') → kp (wl w77) c6 m') (x1 : Int) (x3 : Int) (x4 : Int) (x5 : Int) (x9 : Int) (s0 : Int) (M : ZM) (r : Int) (m' : ZM) (h : zJ77_209 n zrec18 x1 x3 x4 x5 x9 s0 M = some (r, m')) : kp (wl w77) M m' := by
  unfold zJ77_209 at h
  have g := kp_refl (wl w77) M
  exact kp_tr g (zJ77_328_kp n zrec18 hrec18 x1 s0 x3 x4 x5 x9 M _ _ h)
set_option maxRecDepth 100000 in
theorem zJ77_198_kp (n : Nat) (zrec18 : Int → Int → Int → Int → Int → Int → ZM → Option (Int × ZM)) (hrec18 : ∀ (c0 : Int) (c1 : Int) (c2 : Int) (c3 : Int) (c4 : Int) (c5 : Int) (c6 : ZM) (r : Int) (m' : ZM), zrec18 c0 c1 c2 c3 c4 c5 c6 = some (r, m') → kp (wl w77) c6 m') (x1 : Int) (x2 : Int) (x4 : Int) (x5 : Int) (x8 : Int) (x9 : Int) (s0 : Int) (M : ZM) (r : Int) (m' : ZM) (h : zJ77_198 n zrec18 x1 x2 x4 x5 x8 x9 s0 M = some (r, m')) : kp (wl w77) M m' := by
  unfold zJ77_198 at h
  have g := kp_refl (wl w77) M
  by_cases q1 : x8 = 0
  · rw [if_pos q1] at h
    exact kp_tr g (zJ77_209_kp n zrec18 hrec18 x1 s0 x4 x5 x9 0 M _ _ h)
  · rw [if_neg q1] at h
    exact kp_tr g (zJ77_209_kp n zrec18 hrec18 x1 s0 x4 x5 x9 x2 M _ _ h)
set_option maxRecDepth 100000 in
theorem zJ77_185_kp (n : Nat) (zrec18 : Int → Int → Int → Int → Int → Int → ZM → Option (Int × ZM)) (hrec18 : ∀ (c0 : Int) (c1 : Int) (c2 : Int) (c3 : Int) (c4 : Int) (c5 : Int) (c6 : ZM) (r : Int) (m' : ZM), zrec18 c0 c1 c2 c3 c4 c5 c6 = some (r, m') → kp (wl w77) c6 m') (x1 : Int) (x2 : Int) (x3 : Int) (x5 : Int) (x8 : Int) (x9 : Int) (x10 : Int) (s0 : Int) (M : ZM) (r : Int) (m' : ZM) (h : zJ77_185 n zrec18 x1 x2 x3 x5 x8 x9 x10 s0 M = some (r, m')) : kp (wl w77) M m' := by
  unfold zJ77_185 at h
  have g := kp_refl (wl w77) M
  by_cases q1 : x8 = 0
  · rw [if_pos q1] at h
    exact kp_tr g (zJ77_198_kp n zrec18 hrec18 x1 x2 s0 x5 x8 x9 x10 M _ _ h)
  · rw [if_neg q1] at h
    exact kp_tr g (zJ77_198_kp n zrec18 hrec18 x1 x2 s0 x5 x8 x9 x3 M _ _ h)
set_option maxRecDepth 100000 in
theorem zJ77_172_kp (n : Nat) (zrec18 : Int → Int → Int → Int → Int → Int → ZM → Option (Int × ZM)) (hrec18 : ∀ (c0 : Int) (c1 : Int) (c2 : Int) (c3 : Int) (c4 : Int) (c5 : Int) (c6 : ZM) (r : Int) (m' : ZM), zrec18 c0 c1 c2 c3 c4 c5 c6 = some (r, m') → kp (wl w77) c6 m') (x1 : Int) (x2 : Int) (x3 : Int) (x4 : Int) (x8 : Int) (x9 : Int) (x10 : Int) (s0 : Int) (M : ZM) (r : Int) (m' : ZM) (h : zJ77_172 n zrec18 x1 x2 x3 x4 x8 x9 x10 s0 M = some (r, m')) : kp (wl w77) M m' := by
  unfold zJ77_172 at h
  have g := kp_refl (wl w77) M
  by_cases q1 : x8 = 0
  · rw [if_pos q1] at h
    exact kp_tr g (zJ77_185_kp n zrec18 hrec18 x1 x2 x3 s0 x8 x9 x10 x4 M _ _ h)
  · rw [if_neg q1] at h
    exact kp_tr g (zJ77_185_kp n zrec18 hrec18 x1 x2 x3 s0 x8 x9 x10 0 M _ _ h)
set_option maxRecDepth 100000 in
theorem zJ77_158_kp (n : Nat) (zrec18 : Int → Int → Int → Int → Int → Int → ZM → Option (Int × ZM)) (hrec18 : ∀ (c0 : Int) (c1 : Int) (c2 : Int) (c3 : Int) (c4 : Int) (c5 : Int) (c6 : ZM) (r : Int) (m' : ZM), zrec18 c0 c1 c2 c3 c4 c5 c6 = some (r, m') → kp (wl w77) c6 m') (x1 : Int) (x2 : Int) (x3 : Int) (x4 : Int) (x5 : Int) (x8 : Int) (x10 : Int) (s0 : Int) (M : ZM) (r : Int) (m' : ZM) (h : zJ77_158 n zrec18 x1 x2 x3 x4 x5 x8 x10 s0 M = some (r, m')) : kp (wl w77) M m' := by
  unfold zJ77_158 at h
  have g := kp_refl (wl w77) M
  by_cases q1 : x8 = 0
  · rw [if_pos q1] at h
    exact kp_tr g (zJ77_172_kp n zrec18 hrec18 x1 x2 x3 x4 x8 s0 x10 x5 M _ _ h)
  · rw [if_neg q1] at h
    exact kp_tr g (zJ77_172_kp n zrec18 hrec18 x1 x2 x3 x4 x8 s0 x10 x10 M _ _ h)
set_option maxRecDepth 100000 in
theorem zJ77_130_kp (n : Nat) (zrec18 : Int → Int → Int → Int → Int → Int → ZM → Option (Int × ZM)) (hrec18 : ∀ (c0 : Int) (c1 : Int) (c2 : Int) (c3 : Int) (c4 : Int) (c5 : Int) (c6 : ZM) (r : Int) (m' : ZM), zrec18 c0 c1 c2 c3 c4 c5 c6 = some (r, m') → kp (wl w77) c6 m') (x1 : Int) (x2 : Int) (x3 : Int) (x4 : Int) (x5 : Int) (x6 : Int) (x8 : Int) (x10 : Int) (M : ZM) (r : Int) (m' : ZM) (h : zJ77_130 n zrec18 x1 x2 x3 x4 x5 x6 x8 x10 M = some (r, m')) : kp (wl w77) M m' := by
  unfold zJ77_130 at h
  have g := kp_refl (wl w77) M
  by_cases q1 : 0 ≤ x10
  · rw [if_pos q1] at h
    by_cases q2 : x10 = 0
    · rw [if_pos q2] at h
      by_cases q3 : x6 < 0 ∨ 128 ≤ x6
      · rw [if_pos q3] at h
        cases h
      · rw [if_neg q3] at h
        by_cases q4 : rg ((M.1 99 (Int.toNat x6)) + 1)
        · rw [if_pos q4] at h
          exact kp_tr g (zJ77_158_kp n zrec18 hrec18 x1 x2 x3 x4 x5 x8 x10 ((M.1 99 (Int.toNat x6)) + 1) M _ _ h)
        · rw [if_neg q4] at h
          cases h
    · rw [if_neg q2] at h
      by_cases q5 : rg (x6 + 1)
      · rw [if_pos q5] at h
        exact kp_tr g (zJ77_158_kp n zrec18 hrec18 x1 x2 x3 x4 x5 x8 x10 (x6 + 1) M _ _ h)
      · rw [if_neg q5] at h
        cases h
  · rw [if_neg q1] at h
    rw [← (Prod.mk.inj (Option.some.inj h)).2]
    exact g
set_option maxRecDepth 100000 in
theorem zJ77_326_kp (n : Nat) (zrec18 : Int → Int → Int → Int → Int → Int → ZM → Option (Int × ZM)) (hrec18 : ∀ (c0 : Int) (c1 : Int) (c2 : Int) (c3 : Int) (c4 : Int) (c5 : Int) (c6 : ZM) (r : Int) (m' : ZM), zrec18 c0 c1 c2 c3 c4 c5 c6 = some (r, m') → kp (wl w77) c6 m') (x1 : Int) (x2 : Int) (x3 : Int) (x4 : Int) (x5 : Int) (s0 : Int) (M : ZM) (r : Int) (m' : ZM) (h : zJ77_326 n zrec18 x1 x2 x3 x4 x5 s0 M = some (r, m')) : kp (wl w77) M m' := by
  unfold zJ77_326 at h
  have g := kp_refl (wl w77) M
  exact kp_tr g (zJ77_328_kp n zrec18 hrec18 x1 x2 x3 x4 x5 s0 M _ _ h)
set_option maxRecDepth 100000 in
theorem zJ77_304_kp (n : Nat) (zrec18 : Int → Int → Int → Int → Int → Int → ZM → Option (Int × ZM)) (hrec18 : ∀ (c0 : Int) (c1 : Int) (c2 : Int) (c3 : Int) (c4 : Int) (c5 : Int) (c6 : ZM) (r : Int) (m' : ZM), zrec18 c0 c1 c2 c3 c4 c5 c6 = some (r, m') → kp (wl w77) c6 m') (x1 : Int) (x3 : Int) (x4 : Int) (x5 : Int) (x6 : Int) (x10 : Int) (s0 : Int) (M : ZM) (r : Int) (m' : ZM) (h : zJ77_304 n zrec18 x1 x3 x4 x5 x6 x10 s0 M = some (r, m')) : kp (wl w77) M m' := by
  unfold zJ77_304 at h
  have g := kp_refl (wl w77) M
  by_cases q1 : x10 = 0
  · rw [if_pos q1] at h
    by_cases q2 : rg (x6 + 1)
    · rw [if_pos q2] at h
      exact kp_tr g (zJ77_326_kp n zrec18 hrec18 x1 s0 x3 x4 x5 (x6 + 1) M _ _ h)
    · rw [if_neg q2] at h
      cases h
  · rw [if_neg q1] at h
    by_cases q3 : x6 < 0 ∨ 128 ≤ x6
    · rw [if_pos q3] at h
      cases h
    · rw [if_neg q3] at h
      by_cases q4 : rg ((M.1 99 (Int.toNat x6)) + 1)
      · rw [if_pos q4] at h
        exact kp_tr g (zJ77_326_kp n zrec18 hrec18 x1 s0 x3 x4 x5 ((M.1 99 (Int.toNat x6)) + 1) M _ _ h)
      · rw [if_neg q4] at h
        cases h
set_option maxRecDepth 100000 in
theorem zJ77_290_kp (n : Nat) (zrec18 : Int → Int → Int → Int → Int → Int → ZM → Option (Int × ZM)) (hrec18 : ∀ (c0 : Int) (c1 : Int) (c2 : Int) (c3 : Int) (c4 : Int) (c5 : Int) (c6 : ZM) (r : Int) (m' : ZM), zrec18 c0 c1 c2 c3 c4 c5 c6 = some (r, m') → kp (wl w77) c6 m') (x1 : Int) (x2 : Int) (x3 : Int) (x5 : Int) (x6 : Int) (x8 : Int) (x10 : Int) (s0 : Int) (M : ZM) (r : Int) (m' : ZM) (h : zJ77_290 n zrec18 x1 x2 x3 x5 x6 x8 x10 s0 M = some (r, m')) : kp (wl w77) M m' := by
  unfold zJ77_290 at h
  have g := kp_refl (wl w77) M
  by_cases q1 : x8 = 0
  · rw [if_pos q1] at h
    by_cases q2 : rg (x2 + 1)
    · rw [if_pos q2] at h
      exact kp_tr g (zJ77_304_kp n zrec18 hrec18 x1 x3 s0 x5 x6 x10 (x2 + 1) M _ _ h)
    · rw [if_neg q2] at h
      cases h
  · rw [if_neg q1] at h
    exact kp_tr g (zJ77_304_kp n zrec18 hrec18 x1 x3 s0 x5 x6 x10 x2 M _ _ h)
set_option maxRecDepth 100000 in
theorem zJ77_276_kp (n : Nat) (zrec18 : Int → Int → Int → Int → Int → Int → ZM → Option (Int × ZM)) (hrec18 : ∀ (c0 : Int) (c1 : Int) (c2 : Int) (c3 : Int) (c4 : Int) (c5 : Int) (c6 : ZM) (r : Int) (m' : ZM), zrec18 c0 c1 c2 c3 c4 c5 c6 = some (r, m') → kp (wl w77) c6 m') (x1 : Int) (x2 : Int) (x3 : Int) (x4 : Int) (x5 : Int) (x6 : Int) (x8 : Int) (x10 : Int) (M : ZM) (r : Int) (m' : ZM) (h : zJ77_276 n zrec18 x1 x2 x3 x4 x5 x6 x8 x10 M = some (r, m')) : kp (wl w77) M m' := by
  unfold zJ77_276 at h
  have g := kp_refl (wl w77) M
  by_cases q1 : x8 = 0
  · rw [if_pos q1] at h
    exact kp_tr g (zJ77_290_kp n zrec18 hrec18 x1 x2 x3 x5 x6 x8 x10 x4 M _ _ h)
  · rw [if_neg q1] at h
    by_cases q2 : rg (x4 + 1)
    · rw [if_pos q2] at h
      exact kp_tr g (zJ77_290_kp n zrec18 hrec18 x1 x2 x3 x5 x6 x8 x10 (x4 + 1) M _ _ h)
    · rw [if_neg q2] at h
      cases h
set_option maxRecDepth 100000 in
theorem zJ77_247_kp (n : Nat) (zrec18 : Int → Int → Int → Int → Int → Int → ZM → Option (Int × ZM)) (hrec18 : ∀ (c0 : Int) (c1 : Int) (c2 : Int) (c3 : Int) (c4 : Int) (c5 : Int) (c6 : ZM) (r : Int) (m' : ZM), zrec18 c0 c1 c2 c3 c4 c5 c6 = some (r, m') → kp (wl w77) c6 m') (x1 : Int) (x2 : Int) (x3 : Int) (x4 : Int) (x5 : Int) (x6 : Int) (x8 : Int) (s0 : Int) (M : ZM) (r : Int) (m' : ZM) (h : zJ77_247 n zrec18 x1 x2 x3 x4 x5 x6 x8 s0 M = some (r, m')) : kp (wl w77) M m' := by
  unfold zJ77_247 at h
  have g := kp_refl (wl w77) M
  by_cases q1 : s0 = 0
  · rw [if_pos q1] at h
    exact kp_tr g (zJ77_276_kp n zrec18 hrec18 x1 x2 x3 x4 x5 x6 x8 s0 M _ _ h)
  · rw [if_neg q1] at h
    by_cases q2 : x6 < 0 ∨ 128 ≤ x6
    · rw [if_pos q2] at h
      cases h
    · rw [if_neg q2] at h
      by_cases q3 : (M.1 100 (Int.toNat x6)) = 0
      · rw [if_pos q3] at h
        exact kp_tr g (zJ77_276_kp n zrec18 hrec18 x1 x2 x3 x4 x5 x6 x8 s0 M _ _ h)
      · rw [if_neg q3] at h
        cases hc4 : zF74 n (M.1 100 (Int.toNat x6)) x1 M with
        | none => rw [hc4] at h; cases h
        | some w =>
          obtain ⟨v41, M42⟩ := w
          rw [hc4] at h
          dsimp only at h
          replace g := kp_tr g (kp_sub (by simp [w74, w77]) (zF74_kp n (M.1 100 (Int.toNat x6)) x1 M _ _ hc4))
          exact kp_tr g (zJ77_276_kp n zrec18 hrec18 x1 x2 x3 x4 x5 x6 x8 s0 M42 _ _ h)
set_option maxRecDepth 100000 in
theorem zJ77_246_kp (n : Nat) (zrec18 : Int → Int → Int → Int → Int → Int → ZM → Option (Int × ZM)) (hrec18 : ∀ (c0 : Int) (c1 : Int) (c2 : Int) (c3 : Int) (c4 : Int) (c5 : Int) (c6 : ZM) (r : Int) (m' : ZM), zrec18 c0 c1 c2 c3 c4 c5 c6 = some (r, m') → kp (wl w77) c6 m') (x1 : Int) (x2 : Int) (x3 : Int) (x4 : Int) (x5 : Int) (x6 : Int) (x8 : Int) (M : ZM) (r : Int) (m' : ZM) (h : zJ77_246 n zrec18 x1 x2 x3 x4 x5 x6 x8 M = some (r, m')) : kp (wl w77) M m' := by
  unfold zJ77_246 at h
  have g := kp_refl (wl w77) M
  exact kp_tr g (zJ77_247_kp n zrec18 hrec18 x1 x2 x3 x4 x5 x6 x8 0 M _ _ h)
set_option maxRecDepth 100000 in
theorem zJ77_242_kp (n : Nat) (zrec18 : Int → Int → Int → Int → Int → Int → ZM → Option (Int × ZM)) (hrec18 : ∀ (c0 : Int) (c1 : Int) (c2 : Int) (c3 : Int) (c4 : Int) (c5 : Int) (c6 : ZM) (r : Int) (m' : ZM), zrec18 c0 c1 c2 c3 c4 c5 c6 = some (r, m') → kp (wl w77) c6 m') (x1 : Int) (x2 : Int) (x3 : Int) (x4 : Int) (x5 : Int) (x6 : Int) (x8 : Int) (M : ZM) (r : Int) (m' : ZM) (h : zJ77_242 n zrec18 x1 x2 x3 x4 x5 x6 x8 M = some (r, m')) : kp (wl w77) M m' := by
  unfold zJ77_242 at h
  have g := kp_refl (wl w77) M
  exact kp_tr g (zJ77_247_kp n zrec18 hrec18 x1 x2 x3 x4 x5 x6 x8 1 M _ _ h)
set_option maxRecDepth 100000 in
theorem zJ77_231_kp (n : Nat) (zrec18 : Int → Int → Int → Int → Int → Int → ZM → Option (Int × ZM)) (hrec18 : ∀ (c0 : Int) (c1 : Int) (c2 : Int) (c3 : Int) (c4 : Int) (c5 : Int) (c6 : ZM) (r : Int) (m' : ZM), zrec18 c0 c1 c2 c3 c4 c5 c6 = some (r, m') → kp (wl w77) c6 m') (x1 : Int) (x2 : Int) (x3 : Int) (x4 : Int) (x5 : Int) (x6 : Int) (x8 : Int) (M : ZM) (r : Int) (m' : ZM) (h : zJ77_231 n zrec18 x1 x2 x3 x4 x5 x6 x8 M = some (r, m')) : kp (wl w77) M m' := by
  unfold zJ77_231 at h
  have g := kp_refl (wl w77) M
  exact kp_tr g (zJ77_247_kp n zrec18 hrec18 x1 x2 x3 x4 x5 x6 x8 0 M _ _ h)
set_option maxRecDepth 100000 in
theorem zJ77_227_kp (n : Nat) (zrec18 : Int → Int → Int → Int → Int → Int → ZM → Option (Int × ZM)) (hrec18 : ∀ (c0 : Int) (c1 : Int) (c2 : Int) (c3 : Int) (c4 : Int) (c5 : Int) (c6 : ZM) (r : Int) (m' : ZM), zrec18 c0 c1 c2 c3 c4 c5 c6 = some (r, m') → kp (wl w77) c6 m') (x1 : Int) (x2 : Int) (x3 : Int) (x4 : Int) (x5 : Int) (x6 : Int) (x8 : Int) (M : ZM) (r : Int) (m' : ZM) (h : zJ77_227 n zrec18 x1 x2 x3 x4 x5 x6 x8 M = some (r, m')) : kp (wl w77) M m' := by
  unfold zJ77_227 at h
  have g := kp_refl (wl w77) M
  exact kp_tr g (zJ77_247_kp n zrec18 hrec18 x1 x2 x3 x4 x5 x6 x8 1 M _ _ h)
set_option maxRecDepth 100000 in
theorem zJ77_54_kp (n : Nat) (zrec18 : Int → Int → Int → Int → Int → Int → ZM → Option (Int × ZM)) (hrec18 : ∀ (c0 : Int) (c1 : Int) (c2 : Int) (c3 : Int) (c4 : Int) (c5 : Int) (c6 : ZM) (r : Int) (m' : ZM), zrec18 c0 c1 c2 c3 c4 c5 c6 = some (r, m') → kp (wl w77) c6 m') (x1 : Int) (x2 : Int) (x3 : Int) (x4 : Int) (x5 : Int) (x6 : Int) (x7 : Int) (s0 : Int) (M : ZM) (r : Int) (m' : ZM) (h : zJ77_54 n zrec18 x1 x2 x3 x4 x5 x6 x7 s0 M = some (r, m')) : kp (wl w77) M m' := by
  unfold zJ77_54 at h
  have g := kp_refl (wl w77) M
  by_cases q1 : x7 = 0
  · rw [if_pos q1] at h
    by_cases q2 : x6 < 0 ∨ 128 ≤ x6
    · rw [if_pos q2] at h
      cases h
    · rw [if_neg q2] at h
      cases hc3 : zF74 n (M.1 98 (Int.toNat x6)) x1 M with
      | none => rw [hc3] at h; cases h
      | some w =>
        obtain ⟨v9, M10⟩ := w
        rw [hc3] at h
        dsimp only at h
        replace g := kp_tr g (kp_sub (by simp [w74, w77]) (zF74_kp n (M.1 98 (Int.toNat x6)) x1 M _ _ hc3))
        by_cases q4 : rg (x6 + 1)
        · rw [if_pos q4] at h
          exact kp_tr g (zJ77_328_kp n zrec18 hrec18 x1 x2 x3 x4 x5 (x6 + 1) M10 _ _ h)
        · rw [if_neg q4] at h
          cases h
  · rw [if_neg q1] at h
    by_cases q5 : x7 = 7
    · rw [if_pos q5] at h
      by_cases q6 : x6 < 0 ∨ 128 ≤ x6
      · rw [if_pos q6] at h
        cases h
      · rw [if_neg q6] at h
        cases hc7 : zF46 n (M.1 98 (Int.toNat x6)) M with
        | none => rw [hc7] at h; cases h
        | some w =>
          obtain ⟨v14, M15⟩ := w
          rw [hc7] at h
          dsimp only at h
          replace g := kp_tr g (kp_eq _ (zF46_kp n (M.1 98 (Int.toNat x6)) M _ _ hc7))
          by_cases q8 : rg (x6 + 1)
          · rw [if_pos q8] at h
            exact kp_tr g (zJ77_102_kp n zrec18 hrec18 x1 x2 x3 x4 x5 (x6 + 1) v14 M15 _ _ h)
          · rw [if_neg q8] at h
            cases h
    · rw [if_neg q5] at h
      by_cases q9 : x7 = 4
      · rw [if_pos q9] at h
        cases hc10 : zF76 n x6 x2 M with
        | none => rw [hc10] at h; cases h
        | some w =>
          obtain ⟨v21, M22⟩ := w
          rw [hc10] at h
          dsimp only at h
          replace g := kp_tr g (kp_eq _ (zF76_kp n x6 x2 M _ _ hc10))
          exact kp_tr g (zJ77_130_kp n zrec18 hrec18 x1 x2 x3 x4 x5 x6 s0 v21 M22 _ _ h)
      · rw [if_neg q9] at h
        by_cases q11 : s0 = 0
        · rw [if_pos q11] at h
          by_cases q12 : rg (x2 + 1)
          · rw [if_pos q12] at h
            by_cases q13 : x3 ≤ (x2 + 1)
            · rw [if_pos q13] at h
              exact kp_tr g (zJ77_246_kp n zrec18 hrec18 x1 x2 x3 x4 x5 x6 s0 M _ _ h)
            · rw [if_neg q13] at h
              exact kp_tr g (zJ77_242_kp n zrec18 hrec18 x1 x2 x3 x4 x5 x6 s0 M _ _ h)
          · rw [if_neg q12] at h
            cases h
        · rw [if_neg q11] at h
          by_cases q14 : rg (x4 + 1)
          · rw [if_pos q14] at h
            by_cases q15 : x5 ≤ (x4 + 1)
            · rw [if_pos q15] at h
              exact kp_tr g (zJ77_231_kp n zrec18 hrec18 x1 x2 x3 x4 x5 x6 s0 M _ _ h)
            · rw [if_neg q15] at h
              exact kp_tr g (zJ77_227_kp n zrec18 hrec18 x1 x2 x3 x4 x5 x6 s0 M _ _ h)
          · rw [if_neg q14] at h
            cases h
set_option maxRecDepth 100000 in
theorem zJ77_53_kp (n : Nat) (zrec18 : Int → Int → Int → Int → Int → Int → ZM → Option (Int × ZM)) (hrec18 : ∀ (c0 : Int) (c1 : Int) (c2 : Int) (c3 : Int) (c4 : Int) (c5 : Int) (c6 : ZM) (r : Int) (m' : ZM), zrec18 c0 c1 c2 c3 c4 c5 c6 = some (r, m') → kp (wl w77) c6 m') (x1 : Int) (x2 : Int) (x3 : Int) (x4 : Int) (x5 : Int) (x6 : Int) (x7 : Int) (M : ZM) (r : Int) (m' : ZM) (h : zJ77_53 n zrec18 x1 x2 x3 x4 x5 x6 x7 M = some (r, m')) : kp (wl w77) M m' := by
  unfold zJ77_53 at h
  have g := kp_refl (wl w77) M
  exact kp_tr g (zJ77_54_kp n zrec18 hrec18 x1 x2 x3 x4 x5 x6 x7 0 M _ _ h)
set_option maxRecDepth 100000 in
theorem zJ77_49_kp (n : Nat) (zrec18 : Int → Int → Int → Int → Int → Int → ZM → Option (Int × ZM)) (hrec18 : ∀ (c0 : Int) (c1 : Int) (c2 : Int) (c3 : Int) (c4 : Int) (c5 : Int) (c6 : ZM) (r : Int) (m' : ZM), zrec18 c0 c1 c2 c3 c4 c5 c6 = some (r, m') → kp (wl w77) c6 m') (x1 : Int) (x2 : Int) (x3 : Int) (x4 : Int) (x5 : Int) (x6 : Int) (x7 : Int) (M : ZM) (r : Int) (m' : ZM) (h : zJ77_49 n zrec18 x1 x2 x3 x4 x5 x6 x7 M = some (r, m')) : kp (wl w77) M m' := by
  unfold zJ77_49 at h
  have g := kp_refl (wl w77) M
  exact kp_tr g (zJ77_54_kp n zrec18 hrec18 x1 x2 x3 x4 x5 x6 x7 1 M _ _ h)
set_option maxRecDepth 100000 in
theorem zL77_18_kp (n : Nat) : ∀ (k : Nat) (x1 : Int) (x2 : Int) (x3 : Int) (x4 : Int) (x5 : Int) (x6 : Int) (M : ZM) (r : Int) (m' : ZM), zL77_18 n k x1 x2 x3 x4 x5 x6 M = some (r, m') → kp (wl w77) M m' := by
  intro k
  induction k with
  | zero => intro x1 x2 x3 x4 x5 x6 M r m' h; cases h
  | succ k ih =>
    intro x1 x2 x3 x4 x5 x6 M r m' h
    rw [zL77_18] at h
    have g := kp_refl (wl w77) M
    by_cases q1 : x6 < 0 ∨ 128 ≤ x6
    · rw [if_pos q1] at h
      cases h
    · rw [if_neg q1] at h
      by_cases q2 : (M.1 97 (Int.toNat x6)) = 6
      · rw [if_pos q2] at h
        rw [← (Prod.mk.inj (Option.some.inj h)).2]
        exact g
      · rw [if_neg q2] at h
        by_cases q3 : (M.1 101 (Int.toNat x6)) < 0
        · rw [if_pos q3] at h
          exact kp_tr g (zJ77_53_kp n (zL77_18 n k) ih x1 x2 x3 x4 x5 x6 (M.1 97 (Int.toNat x6)) M _ _ h)
        · rw [if_neg q3] at h
          exact kp_tr g (zJ77_49_kp n (zL77_18 n k) ih x1 x2 x3 x4 x5 x6 (M.1 97 (Int.toNat x6)) M _ _ h)
set_option maxRecDepth 100000 in
theorem zF77_kp (n : Nat) (a0 : Int) (M : ZM) (r : Int) (m' : ZM) (h : zF77 n a0 M = some (r, m')) : kp (wl w77) M m' := by
  unfold zF77 at h
  have g := kp_refl (wl w77) M
  replace g : kp (wl w77) M (z_i M 83 62 0) := kp_i g (by simp [w77])
  rw [zlet] at h
  generalize z_i M 83 62 0 = M1 at h g
  exact kp_tr g (zL77_18_kp n n a0 0 0 0 0 0 M1 _ _ h)
def w78 : List (Nat × Nat) := [(103, 1000), (105, 1000), (106, 1000), (83, 4), (83, 5), (83, 6), (83, 7), (83, 8), (83, 34)]
set_option maxRecDepth 100000 in
theorem zJ78_181_kp (n : Nat) (s0 : Int) (M : ZM) (r : Int) (m' : ZM) (h : zJ78_181 n s0 M = some (r, m')) : kp (wl w78) M m' := by
  unfold zJ78_181 at h
  have g := kp_refl (wl w78) M
  by_cases q1 : s0 = 0 ∨ s0 = 1
  · rw [if_pos q1] at h
    rw [← (Prod.mk.inj (Option.some.inj h)).2]
    exact g
  · rw [if_neg q1] at h
    cases h
set_option maxRecDepth 100000 in
theorem zJ78_176_kp (n : Nat) (M : ZM) (r : Int) (m' : ZM) (h : zJ78_176 n M = some (r, m')) : kp (wl w78) M m' := by
  unfold zJ78_176 at h
  have g := kp_refl (wl w78) M
  exact kp_tr g (zJ78_181_kp n 1 M _ _ h)
set_option maxRecDepth 100000 in
theorem zJ78_180_kp (n : Nat) (M : ZM) (r : Int) (m' : ZM) (h : zJ78_180 n M = some (r, m')) : kp (wl w78) M m' := by
  unfold zJ78_180 at h
  have g := kp_refl (wl w78) M
  exact kp_tr g (zJ78_181_kp n 0 M _ _ h)
set_option maxRecDepth 100000 in
theorem zJ78_37_kp (n : Nat) (M : ZM) (r : Int) (m' : ZM) (h : zJ78_37 n M = some (r, m')) : kp (wl w78) M m' := by
  unfold zJ78_37 at h
  have g := kp_refl (wl w78) M
  cases hc1 : zF29 n M with
  | none => rw [hc1] at h; cases h
  | some w =>
    obtain ⟨v10, M11⟩ := w
    rw [hc1] at h
    dsimp only at h
    replace g := kp_tr g (kp_sub (by simp [w29, w78]) (zF29_kp n M _ _ hc1))
    by_cases q2 : v10 = 0 ∨ v10 = 1
    · rw [if_pos q2] at h
      rw [← (Prod.mk.inj (Option.some.inj h)).2]
      exact g
    · rw [if_neg q2] at h
      cases h
set_option maxRecDepth 100000 in
theorem zJ78_72_kp (n : Nat) (M : ZM) (r : Int) (m' : ZM) (h : zJ78_72 n M = some (r, m')) : kp (wl w78) M m' := by
  unfold zJ78_72 at h
  have g := kp_refl (wl w78) M
  cases hc1 : zF29 n M with
  | none => rw [hc1] at h; cases h
  | some w =>
    obtain ⟨v18, M19⟩ := w
    rw [hc1] at h
    dsimp only at h
    replace g := kp_tr g (kp_sub (by simp [w29, w78]) (zF29_kp n M _ _ hc1))
    by_cases q2 : v18 = 0 ∨ v18 = 1
    · rw [if_pos q2] at h
      rw [← (Prod.mk.inj (Option.some.inj h)).2]
      exact g
    · rw [if_neg q2] at h
      cases h
set_option maxRecDepth 100000 in
theorem zJ78_148_kp (n : Nat) (zrec7 : Int → ZM → Option (Int × ZM)) (hrec7 : ∀ (c0 : Int) (c1 : ZM) (r : Int) (m' : ZM), zrec7 c0 c1 = some (r, m') → kp (wl w78) c1 m') (x1 : Int) (M : ZM) (r : Int) (m' : ZM) (h : zJ78_148 n zrec7 x1 M = some (r, m')) : kp (wl w78) M m' := by
  unfold zJ78_148 at h
  have g := kp_refl (wl w78) M
  by_cases q1 : rg ((M.1 83 34) + 1)
  · rw [if_pos q1] at h
    replace g : kp (wl w78) M (z_i M 83 34 ((M.1 83 34) + 1)) := kp_i g (by simp [w78])
    rw [zlet] at h
    generalize z_i M 83 34 ((M.1 83 34) + 1) = M35 at h g
    cases hc2 : zF28 n M35 with
    | none => rw [hc2] at h; cases h
    | some w =>
      obtain ⟨v36, M37⟩ := w
      rw [hc2] at h
      dsimp only at h
      replace g := kp_tr g (kp_sub (by simp [w28, w78]) (zF28_kp n M35 _ _ hc2))
      exact kp_tr g (hrec7 x1 M37 _ _ h)
  · rw [if_neg q1] at h
    cases h
set_option maxRecDepth 100000 in
theorem zJ78_124_kp (n : Nat) (zrec7 : Int → ZM → Option (Int × ZM)) (hrec7 : ∀ (c0 : Int) (c1 : ZM) (r : Int) (m' : ZM), zrec7 c0 c1 = some (r, m') → kp (wl w78) c1 m') (s0 : Int) (M : ZM) (r : Int) (m' : ZM) (h : zJ78_124 n zrec7 s0 M = some (r, m')) : kp (wl w78) M m' := by
  unfold zJ78_124 at h
  have g := kp_refl (wl w78) M
  by_cases q1 : (M.1 83 34) < 0 ∨ 320 ≤ (M.1 83 34)
  · rw [if_pos q1] at h
    cases h
  · rw [if_neg q1] at h
    replace g : kp (wl w78) M (z_i M 105 (Int.toNat (M.1 83 34)) (M.1 83 5)) := kp_ia g (by simp [w78])
    rw [zlet] at h
    generalize z_i M 105 (Int.toNat (M.1 83 34)) (M.1 83 5) = M32 at h g
    by_cases q2 : (M32.1 83 34) < 0 ∨ 320 ≤ (M32.1 83 34)
    · rw [if_pos q2] at h
      cases h
    · rw [if_neg q2] at h
      replace g : kp (wl w78) M (z_i M32 106 (Int.toNat (M32.1 83 34)) 0) := kp_ia g (by simp [w78])
      rw [zlet] at h
      generalize z_i M32 106 (Int.toNat (M32.1 83 34)) 0 = M34 at h g
      exact kp_tr g (zJ78_148_kp n zrec7 hrec7 s0 M34 _ _ h)
set_option maxRecDepth 100000 in
theorem zJ78_95_kp (n : Nat) (zrec7 : Int → ZM → Option (Int × ZM)) (hrec7 : ∀ (c0 : Int) (c1 : ZM) (r : Int) (m' : ZM), zrec7 c0 c1 = some (r, m') → kp (wl w78) c1 m') (x1 : Int) (M : ZM) (r : Int) (m' : ZM) (h : zJ78_95 n zrec7 x1 M = some (r, m')) : kp (wl w78) M m' := by
  unfold zJ78_95 at h
  have g := kp_refl (wl w78) M
  by_cases q1 : (M.1 83 4) = 4
  · rw [if_pos q1] at h
    by_cases q2 : rg (x1 + 1)
    · rw [if_pos q2] at h
      exact kp_tr g (zJ78_124_kp n zrec7 hrec7 (x1 + 1) M _ _ h)
    · rw [if_neg q2] at h
      cases h
  · rw [if_neg q1] at h
    by_cases q3 : (M.1 83 4) = 5
    · rw [if_pos q3] at h
      by_cases q4 : rg (x1 - 1)
      · rw [if_pos q4] at h
        exact kp_tr g (zJ78_124_kp n zrec7 hrec7 (x1 - 1) M _ _ h)
      · rw [if_neg q4] at h
        cases h
    · rw [if_neg q3] at h
      exact kp_tr g (zJ78_124_kp n zrec7 hrec7 x1 M _ _ h)
set_option maxRecDepth 100000 in
theorem zJ78_77_kp (n : Nat) (zrec7 : Int → ZM → Option (Int × ZM)) (hrec7 : ∀ (c0 : Int) (c1 : ZM) (r : Int) (m' : ZM), zrec7 c0 c1 = some (r, m') → kp (wl w78) c1 m') (x1 : Int) (M : ZM) (r : Int) (m' : ZM) (h : zJ78_77 n zrec7 x1 M = some (r, m')) : kp (wl w78) M m' := by
  unfold zJ78_77 at h
  have g := kp_refl (wl w78) M
  by_cases q1 : (M.1 83 4) = 4
  · rw [if_pos q1] at h
    by_cases q2 : x1 < 0 ∨ 16 ≤ x1
    · rw [if_pos q2] at h
      cases h
    · rw [if_neg q2] at h
      replace g : kp (wl w78) M (z_i M 103 (Int.toNat x1) (M.1 83 5)) := kp_ia g (by simp [w78])
      rw [zlet] at h
      generalize z_i M 103 (Int.toNat x1) (M.1 83 5) = M29 at h g
      exact kp_tr g (zJ78_95_kp n zrec7 hrec7 x1 M29 _ _ h)
  · rw [if_neg q1] at h
    exact kp_tr g (zJ78_95_kp n zrec7 hrec7 x1 M _ _ h)
set_option maxRecDepth 100000 in
theorem zJ78_42_kp (n : Nat) (zrec7 : Int → ZM → Option (Int × ZM)) (hrec7 : ∀ (c0 : Int) (c1 : ZM) (r : Int) (m' : ZM), zrec7 c0 c1 = some (r, m') → kp (wl w78) c1 m') (x1 : Int) (M : ZM) (r : Int) (m' : ZM) (h : zJ78_42 n zrec7 x1 M = some (r, m')) : kp (wl w78) M m' := by
  unfold zJ78_42 at h
  have g := kp_refl (wl w78) M
  by_cases q1 : (M.1 83 4) = 5
  · rw [if_pos q1] at h
    by_cases q2 : x1 = 0
    · rw [if_pos q2] at h
      exact kp_tr g (zJ78_72_kp n M _ _ h)
    · rw [if_neg q2] at h
      by_cases q3 : rg (x1 - 1)
      · rw [if_pos q3] at h
        by_cases q4 : (x1 - 1) < 0 ∨ 16 ≤ (x1 - 1)
        · rw [if_pos q4] at h
          cases h
        · rw [if_neg q4] at h
          cases hc5 : zF23 n (M.1 103 (Int.toNat (x1 - 1))) M with
          | none => rw [hc5] at h; cases h
          | some w =>
            obtain ⟨v23, M24⟩ := w
            rw [hc5] at h
            dsimp only at h
            replace g := kp_tr g (kp_eq _ (zF23_kp n (M.1 103 (Int.toNat (x1 - 1))) M _ _ hc5))
            by_cases q6 : (M.1 83 5) = v23
            · rw [if_pos q6] at h
              exact kp_tr g (zJ78_77_kp n zrec7 hrec7 x1 M24 _ _ h)
            · rw [if_neg q6] at h
              exact kp_tr g (zJ78_72_kp n M24 _ _ h)
      · rw [if_neg q3] at h
        cases h
  · rw [if_neg q1] at h
    exact kp_tr g (zJ78_77_kp n zrec7 hrec7 x1 M _ _ h)
set_option maxRecDepth 100000 in
theorem zJ78_31_kp (n : Nat) (zrec7 : Int → ZM → Option (Int × ZM)) (hrec7 : ∀ (c0 : Int) (c1 : ZM) (r : Int) (m' : ZM), zrec7 c0 c1 = some (r, m') → kp (wl w78) c1 m') (x1 : Int) (M : ZM) (r : Int) (m' : ZM) (h : zJ78_31 n zrec7 x1 M = some (r, m')) : kp (wl w78) M m' := by
  unfold zJ78_31 at h
  have g := kp_refl (wl w78) M
  by_cases q1 : x1 ≤ 9
  · rw [if_pos q1] at h
    exact kp_tr g (zJ78_42_kp n zrec7 hrec7 x1 M _ _ h)
  · rw [if_neg q1] at h
    exact kp_tr g (zJ78_37_kp n M _ _ h)
set_option maxRecDepth 100000 in
theorem zL78_7_kp (n : Nat) : ∀ (k : Nat) (x1 : Int) (M : ZM) (r : Int) (m' : ZM), zL78_7 n k x1 M = some (r, m') → kp (wl w78) M m' := by
  intro k
  induction k with
  | zero => intro x1 M r m' h; cases h
  | succ k ih =>
    intro x1 M r m' h
    rw [zL78_7] at h
    have g := kp_refl (wl w78) M
    by_cases q1 : (M.1 83 4) = 6
    · rw [if_pos q1] at h
      by_cases q2 : x1 = 0
      · rw [if_pos q2] at h
        exact kp_tr g (zJ78_176_kp n M _ _ h)
      · rw [if_neg q2] at h
        cases hc3 : zF29 n M with
        | none => rw [hc3] at h; cases h
        | some w =>
          obtain ⟨v5, M6⟩ := w
          rw [hc3] at h
          dsimp only at h
          replace g := kp_tr g (kp_sub (by simp [w29, w78]) (zF29_kp n M _ _ hc3))
          by_cases q4 : v5 = 0
          · rw [if_pos q4] at h
            exact kp_tr g (zJ78_180_kp n M6 _ _ h)
          · rw [if_neg q4] at h
            exact kp_tr g (zJ78_176_kp n M6 _ _ h)
    · rw [if_neg q1] at h
      by_cases q5 : (M.1 83 4) = 0
      · rw [if_pos q5] at h
        exact kp_tr g (zJ78_37_kp n M _ _ h)
      · rw [if_neg q5] at h
        by_cases q6 : (M.1 83 4) = 4
        · rw [if_pos q6] at h
          exact kp_tr g (zJ78_31_kp n (zL78_7 n k) ih x1 M _ _ h)
        · rw [if_neg q6] at h
          exact kp_tr g (zJ78_42_kp n (zL78_7 n k) ih x1 M _ _ h)
set_option maxRecDepth 100000 in
theorem zF78_kp (n : Nat) (M : ZM) (r : Int) (m' : ZM) (h : zF78 n M = some (r, m')) : kp (wl w78) M m' := by
  unfold zF78 at h
  have g := kp_refl (wl w78) M
  replace g : kp (wl w78) M (z_i M 83 34 0) := kp_i g (by simp [w78])
  rw [zlet] at h
  generalize z_i M 83 34 0 = M1 at h g
  exact kp_tr g (zL78_7_kp n n 0 M1 _ _ h)
set_option maxRecDepth 100000 in
theorem zJ79_54_kp (n : Nat) (s0 : Int) (M : ZM) (r : Int) (m' : ZM) (h : zJ79_54 n s0 M = some (r, m')) : m' = M := by
  unfold zJ79_54 at h
  have g : M = M := rfl
  by_cases q1 : s0 = 0 ∨ s0 = 1
  · rw [if_pos q1] at h
    exact (Prod.mk.inj (Option.some.inj h)).2.symm.trans g
  · rw [if_neg q1] at h
    cases h
set_option maxRecDepth 100000 in
theorem zJ79_53_kp (n : Nat) (M : ZM) (r : Int) (m' : ZM) (h : zJ79_53 n M = some (r, m')) : m' = M := by
  unfold zJ79_53 at h
  have g : M = M := rfl
  exact (zJ79_54_kp n 0 M _ _ h).trans g
set_option maxRecDepth 100000 in
theorem zJ79_35_kp (n : Nat) (x1 : Int) (M : ZM) (r : Int) (m' : ZM) (h : zJ79_35 n x1 M = some (r, m')) : m' = M := by
  unfold zJ79_35 at h
  have g : M = M := rfl
  by_cases q1 : rg (x1 + 2)
  · rw [if_pos q1] at h
    by_cases q2 : (x1 + 2) < 0 ∨ 320 ≤ (x1 + 2)
    · rw [if_pos q2] at h
      cases h
    · rw [if_neg q2] at h
      cases hc3 : zF21 n (M.1 105 (Int.toNat (x1 + 2))) M with
      | none => rw [hc3] at h; cases h
      | some w =>
        obtain ⟨v8, M9⟩ := w
        rw [hc3] at h
        dsimp only at h
        replace g := (zF21_kp n (M.1 105 (Int.toNat (x1 + 2))) M _ _ hc3).trans g
        by_cases q4 : v8 = 0
        · rw [if_pos q4] at h
          exact (zJ79_53_kp n M9 _ _ h).trans g
        · rw [if_neg q4] at h
          exact (zJ79_54_kp n 1 M9 _ _ h).trans g
  · rw [if_neg q1] at h
    cases h
set_option maxRecDepth 100000 in
theorem zF79_kp (n : Nat) (a0 : Int) (M : ZM) (r : Int) (m' : ZM) (h : zF79 n a0 M = some (r, m')) : m' = M := by
  unfold zF79 at h
  have g : M = M := rfl
  by_cases q1 : rg (a0 + 2)
  · rw [if_pos q1] at h
    by_cases q2 : (M.1 83 34) ≤ (a0 + 2)
    · rw [if_pos q2] at h
      exact (zJ79_53_kp n M _ _ h).trans g
    · rw [if_neg q2] at h
      by_cases q3 : a0 < 0 ∨ 320 ≤ a0
      · rw [if_pos q3] at h
        cases h
      · rw [if_neg q3] at h
        by_cases q4 : (M.1 105 (Int.toNat a0)) < 1000
        · rw [if_pos q4] at h
          exact (zJ79_53_kp n M _ _ h).trans g
        · rw [if_neg q4] at h
          by_cases q5 : rg (a0 + 1)
          · rw [if_pos q5] at h
            by_cases q6 : (a0 + 1) < 0 ∨ 320 ≤ (a0 + 1)
            · rw [if_pos q6] at h
              cases h
            · rw [if_neg q6] at h
              by_cases q7 : (M.1 105 (Int.toNat (a0 + 1))) = 33
              · rw [if_pos q7] at h
                exact (zJ79_35_kp n a0 M _ _ h).trans g
              · rw [if_neg q7] at h
                exact (zJ79_53_kp n M _ _ h).trans g
          · rw [if_neg q5] at h
            cases h
  · rw [if_neg q1] at h
    cases h
def w80 : List (Nat × Nat) := [(105, 1000), (106, 1000), (83, 34)]
set_option maxRecDepth 100000 in
theorem zJ80_160_kp (n : Nat) (zrec135 : Int → Int → Int → ZM → Option (Int × ZM)) (hrec135 : ∀ (c0 : Int) (c1 : Int) (c2 : Int) (c3 : ZM) (r : Int) (m' : ZM), zrec135 c0 c1 c2 c3 = some (r, m') → kp (wl w80) c3 m') (x1 : Int) (x3 : Int) (x4 : Int) (M : ZM) (r : Int) (m' : ZM) (h : zJ80_160 n zrec135 x1 x3 x4 M = some (r, m')) : kp (wl w80) M m' := by
  unfold zJ80_160 at h
  have g := kp_refl (wl w80) M
  by_cases q1 : x4 < 0 ∨ 160 ≤ x4
  · rw [if_pos q1] at h
    cases h
  · rw [if_neg q1] at h
    by_cases q2 : rg (x1 + x4)
    · rw [if_pos q2] at h
      by_cases q3 : (x1 + x4) < 0 ∨ 320 ≤ (x1 + x4)
      · rw [if_pos q3] at h
        cases h
      · rw [if_neg q3] at h
        replace g : kp (wl w80) M (z_i M 106 (Int.toNat (x1 + x4)) (M.1 128 (Int.toNat x4))) := kp_ia g (by simp [w80])
        rw [zlet] at h
        generalize z_i M 106 (Int.toNat (x1 + x4)) (M.1 128 (Int.toNat x4)) = M11 at h g
        by_cases q4 : rg (x4 + 1)
        · rw [if_pos q4] at h
          exact kp_tr g (hrec135 x1 x3 (x4 + 1) M11 _ _ h)
        · rw [if_neg q4] at h
          cases h
    · rw [if_neg q2] at h
      cases h
set_option maxRecDepth 100000 in
theorem zL80_135_kp (n : Nat) : ∀ (k : Nat) (x1 : Int) (x3 : Int) (x4 : Int) (M : ZM) (r : Int) (m' : ZM), zL80_135 n k x1 x3 x4 M = some (r, m') → kp (wl w80) M m' := by
  intro k
  induction k with
  | zero => intro x1 x3 x4 M r m' h; cases h
  | succ k ih =>
    intro x1 x3 x4 M r m' h
    rw [zL80_135] at h
    have g := kp_refl (wl w80) M
    by_cases q1 : (M.1 83 62) ≤ x4
    · rw [if_pos q1] at h
      by_cases q2 : rg ((M.1 83 34) + x3)
      · rw [if_pos q2] at h
        replace g : kp (wl w80) M (z_i M 83 34 ((M.1 83 34) + x3)) := kp_i g (by simp [w80])
        rw [zlet] at h
        generalize z_i M 83 34 ((M.1 83 34) + x3) = M5 at h g
        rw [← (Prod.mk.inj (Option.some.inj h)).2]
        exact g
      · rw [if_neg q2] at h
        cases h
    · rw [if_neg q1] at h
      by_cases q3 : x4 < 0 ∨ 160 ≤ x4
      · rw [if_pos q3] at h
        cases h
      · rw [if_neg q3] at h
        by_cases q4 : rg (x1 + x4)
        · rw [if_pos q4] at h
          by_cases q5 : (x1 + x4) < 0 ∨ 320 ≤ (x1 + x4)
          · rw [if_pos q5] at h
            cases h
          · rw [if_neg q5] at h
            replace g : kp (wl w80) M (z_i M 105 (Int.toNat (x1 + x4)) (M.1 127 (Int.toNat x4))) := kp_ia g (by simp [w80])
            rw [zlet] at h
            generalize z_i M 105 (Int.toNat (x1 + x4)) (M.1 127 (Int.toNat x4)) = M8 at h g
            exact kp_tr g (zJ80_160_kp n (zL80_135 n k) ih x1 x3 x4 M8 _ _ h)
        · rw [if_neg q4] at h
          cases h
set_option maxRecDepth 100000 in
theorem zJ80_132_kp (n : Nat) (x1 : Int) (x3 : Int) (M : ZM) (r : Int) (m' : ZM) (h : zJ80_132 n x1 x3 M = some (r, m')) : kp (wl w80) M m' := by
  unfold zJ80_132 at h
  have g := kp_refl (wl w80) M
  exact kp_tr g (zL80_135_kp n n x1 x3 0 M _ _ h)
set_option maxRecDepth 100000 in
theorem zJ80_110_kp (n : Nat) (zrec85 : Int → Int → Int → ZM → Option (Int × ZM)) (hrec85 : ∀ (c0 : Int) (c1 : Int) (c2 : Int) (c3 : ZM) (r : Int) (m' : ZM), zrec85 c0 c1 c2 c3 = some (r, m') → kp (wl w80) c3 m') (x1 : Int) (x3 : Int) (x4 : Int) (M : ZM) (r : Int) (m' : ZM) (h : zJ80_110 n zrec85 x1 x3 x4 M = some (r, m')) : kp (wl w80) M m' := by
  unfold zJ80_110 at h
  have g := kp_refl (wl w80) M
  by_cases q1 : x4 < 0 ∨ 320 ≤ x4
  · rw [if_pos q1] at h
    cases h
  · rw [if_neg q1] at h
    by_cases q2 : rg (x4 + x3)
    · rw [if_pos q2] at h
      by_cases q3 : (x4 + x3) < 0 ∨ 320 ≤ (x4 + x3)
      · rw [if_pos q3] at h
        cases h
      · rw [if_neg q3] at h
        replace g : kp (wl w80) M (z_i M 106 (Int.toNat (x4 + x3)) (M.1 106 (Int.toNat x4))) := kp_ia g (by simp [w80])
        rw [zlet] at h
        generalize z_i M 106 (Int.toNat (x4 + x3)) (M.1 106 (Int.toNat x4)) = M17 at h g
        by_cases q4 : rg (x4 + 1)
        · rw [if_pos q4] at h
          exact kp_tr g (hrec85 x1 x3 (x4 + 1) M17 _ _ h)
        · rw [if_neg q4] at h
          cases h
    · rw [if_neg q2] at h
      cases h
set_option maxRecDepth 100000 in
theorem zL80_85_kp (n : Nat) : ∀ (k : Nat) (x1 : Int) (x3 : Int) (x4 : Int) (M : ZM) (r : Int) (m' : ZM), zL80_85 n k x1 x3 x4 M = some (r, m') → kp (wl w80) M m' := by
  intro k
  induction k with
  | zero => intro x1 x3 x4 M r m' h; cases h
  | succ k ih =>
    intro x1 x3 x4 M r m' h
    rw [zL80_85] at h
    have g := kp_refl (wl w80) M
    by_cases q1 : (M.1 83 34) ≤ x4
    · rw [if_pos q1] at h
      exact kp_tr g (zJ80_132_kp n x1 x3 M _ _ h)
    · rw [if_neg q1] at h
      by_cases q2 : x4 < 0 ∨ 320 ≤ x4
      · rw [if_pos q2] at h
        cases h
      · rw [if_neg q2] at h
        by_cases q3 : rg (x4 + x3)
        · rw [if_pos q3] at h
          by_cases q4 : (x4 + x3) < 0 ∨ 320 ≤ (x4 + x3)
          · rw [if_pos q4] at h
            cases h
          · rw [if_neg q4] at h
            replace g : kp (wl w80) M (z_i M 105 (Int.toNat (x4 + x3)) (M.1 105 (Int.toNat x4))) := kp_ia g (by simp [w80])
            rw [zlet] at h
            generalize z_i M 105 (Int.toNat (x4 + x3)) (M.1 105 (Int.toNat x4)) = M14 at h g
            exact kp_tr g (zJ80_110_kp n (zL80_85 n k) ih x1 x3 x4 M14 _ _ h)
        · rw [if_neg q3] at h
          cases h
set_option maxRecDepth 100000 in
theorem zJ80_57_kp (n : Nat) (zrec35 : Int → Int → Int → Int → ZM → Option (Int × ZM)) (hrec35 : ∀ (c0 : Int) (c1 : Int) (c2 : Int) (c3 : Int) (c4 : ZM) (r : Int) (m' : ZM), zrec35 c0 c1 c2 c3 c4 = some (r, m') → kp (wl w80) c4 m') (x1 : Int) (x2 : Int) (x3 : Int) (x4 : Int) (M : ZM) (r : Int) (m' : ZM) (h : zJ80_57 n zrec35 x1 x2 x3 x4 M = some (r, m')) : kp (wl w80) M m' := by
  unfold zJ80_57 at h
  have g := kp_refl (wl w80) M
  by_cases q1 : x4 < 0 ∨ 320 ≤ x4
  · rw [if_pos q1] at h
    cases h
  · rw [if_neg q1] at h
    by_cases q2 : rg (x4 + x3)
    · rw [if_pos q2] at h
      by_cases q3 : (x4 + x3) < 0 ∨ 320 ≤ (x4 + x3)
      · rw [if_pos q3] at h
        cases h
      · rw [if_neg q3] at h
        replace g : kp (wl w80) M (z_i M 106 (Int.toNat (x4 + x3)) (M.1 106 (Int.toNat x4))) := kp_ia g (by simp [w80])
        rw [zlet] at h
        generalize z_i M 106 (Int.toNat (x4 + x3)) (M.1 106 (Int.toNat x4)) = M24 at h g
        by_cases q4 : rg (x4 + (-1))
        · rw [if_pos q4] at h
          exact kp_tr g (hrec35 x1 x2 x3 (x4 + (-1)) M24 _ _ h)
        · rw [if_neg q4] at h
          cases h
    · rw [if_neg q2] at h
      cases h
set_option maxRecDepth 100000 in
theorem zL80_35_kp (n : Nat) : ∀ (k : Nat) (x1 : Int) (x2 : Int) (x3 : Int) (x4 : Int) (M : ZM) (r : Int) (m' : ZM), zL80_35 n k x1 x2 x3 x4 M = some (r, m') → kp (wl w80) M m' := by
  intro k
  induction k with
  | zero => intro x1 x2 x3 x4 M r m' h; cases h
  | succ k ih =>
    intro x1 x2 x3 x4 M r m' h
    rw [zL80_35] at h
    have g := kp_refl (wl w80) M
    by_cases q1 : x4 < x2
    · rw [if_pos q1] at h
      exact kp_tr g (zJ80_132_kp n x1 x3 M _ _ h)
    · rw [if_neg q1] at h
      by_cases q2 : x4 < 0 ∨ 320 ≤ x4
      · rw [if_pos q2] at h
        cases h
      · rw [if_neg q2] at h
        by_cases q3 : rg (x4 + x3)
        · rw [if_pos q3] at h
          by_cases q4 : (x4 + x3) < 0 ∨ 320 ≤ (x4 + x3)
          · rw [if_pos q4] at h
            cases h
          · rw [if_neg q4] at h
            replace g : kp (wl w80) M (z_i M 105 (Int.toNat (x4 + x3)) (M.1 105 (Int.toNat x4))) := kp_ia g (by simp [w80])
            rw [zlet] at h
            generalize z_i M 105 (Int.toNat (x4 + x3)) (M.1 105 (Int.toNat x4)) = M21 at h g
            exact kp_tr g (zJ80_57_kp n (zL80_35 n k) ih x1 x2 x3 x4 M21 _ _ h)
        · rw [if_neg q3] at h
          cases h
set_option maxRecDepth 100000 in
theorem zF80_kp (n : Nat) (a0 : Int) (a1 : Int) (M : ZM) (r : Int) (m' : ZM) (h : zF80 n a0 a1 M = some (r, m')) : kp (wl w80) M m' := by
  unfold zF80 at h
  have g := kp_refl (wl w80) M
  by_cases q1 : rg ((M.1 83 34) + ((M.1 83 62) - (a1 - a0)))
  · rw [if_pos q1] at h
    by_cases q2 : ((M.1 83 34) + ((M.1 83 62) - (a1 - a0))) ≤ 150
    · rw [if_pos q2] at h
      by_cases q3 : rg ((M.1 83 62) - (a1 - a0))
      · rw [if_pos q3] at h
        by_cases q4 : ((M.1 83 62) - (a1 - a0)) ≤ 0
        · rw [if_pos q4] at h
          exact kp_tr g (zL80_85_kp n n a0 ((M.1 83 62) - (a1 - a0)) a1 M _ _ h)
        · rw [if_neg q4] at h
          by_cases q5 : rg ((M.1 83 34) - 1)
          · rw [if_pos q5] at h
            exact kp_tr g (zL80_35_kp n n a0 a1 ((M.1 83 62) - (a1 - a0)) ((M.1 83 34) - 1) M _ _ h)
          · rw [if_neg q5] at h
            cases h
      · rw [if_neg q3] at h
        cases h
    · rw [if_neg q2] at h
      rw [← (Prod.mk.inj (Option.some.inj h)).2]
      exact g
  · rw [if_neg q1] at h
    cases h
set_option maxRecDepth 100000 in
theorem zJ83_24_kp (n : Nat) (s0 : Int) (M : ZM) (r : Int) (m' : ZM) (h : zJ83_24 n s0 M = some (r, m')) : m' = M := by
  unfold zJ83_24 at h
  have g : M = M := rfl
  exact (Prod.mk.inj (Option.some.inj h)).2.symm.trans g
set_option maxRecDepth 100000 in
theorem zF83_kp (n : Nat) (a0 : Int) (M : ZM) (r : Int) (m' : ZM) (h : zF83 n a0 M = some (r, m')) : m' = M := by
  unfold zF83 at h
  have g : M = M := rfl
  by_cases q1 : rg ((M.1 83 37) - 1)
  · rw [if_pos q1] at h
    cases hc2 : zF19 n a0 0 ((M.1 83 37) - 1) M with
    | none => rw [hc2] at h; cases h
    | some w =>
      obtain ⟨v1, M2⟩ := w
      rw [hc2] at h
      dsimp only at h
      replace g := (zF19_kp n a0 0 ((M.1 83 37) - 1) M _ _ hc2).trans g
      by_cases q3 : v1 = 0
      · rw [if_pos q3] at h
        exact (zJ83_24_kp n (-1) M2 _ _ h).trans g
      · rw [if_neg q3] at h
        by_cases q4 : a0 < 0 ∨ 320 ≤ a0
        · rw [if_pos q4] at h
          cases h
        · rw [if_neg q4] at h
          exact (zJ83_24_kp n (M2.1 105 (Int.toNat a0)) M2 _ _ h).trans g
  · rw [if_neg q1] at h
    cases h
set_option maxRecDepth 100000 in
theorem zJ84_24_kp (n : Nat) (s0 : Int) (M : ZM) (r : Int) (m' : ZM) (h : zJ84_24 n s0 M = some (r, m')) : m' = M := by
  unfold zJ84_24 at h
  have g : M = M := rfl
  exact (Prod.mk.inj (Option.some.inj h)).2.symm.trans g
set_option maxRecDepth 100000 in
theorem zF84_kp (n : Nat) (a0 : Int) (M : ZM) (r : Int) (m' : ZM) (h : zF84 n a0 M = some (r, m')) : m' = M := by
  unfold zF84 at h
  have g : M = M := rfl
  by_cases q1 : rg ((M.1 83 37) - 1)
  · rw [if_pos q1] at h
    cases hc2 : zF19 n a0 0 ((M.1 83 37) - 1) M with
    | none => rw [hc2] at h; cases h
    | some w =>
      obtain ⟨v1, M2⟩ := w
      rw [hc2] at h
      dsimp only at h
      replace g := (zF19_kp n a0 0 ((M.1 83 37) - 1) M _ _ hc2).trans g
      by_cases q3 : v1 = 0
      · rw [if_pos q3] at h
        exact (zJ84_24_kp n (-1) M2 _ _ h).trans g
      · rw [if_neg q3] at h
        by_cases q4 : a0 < 0 ∨ 320 ≤ a0
        · rw [if_pos q4] at h
          cases h
        · rw [if_neg q4] at h
          exact (zJ84_24_kp n (M2.1 106 (Int.toNat a0)) M2 _ _ h).trans g
  · rw [if_neg q1] at h
    cases h
set_option maxRecDepth 100000 in
theorem zJ85_40_kp (n : Nat) (s0 : Int) (M : ZM) (r : Int) (m' : ZM) (h : zJ85_40 n s0 M = some (r, m')) : m' = M := by
  unfold zJ85_40 at h
  have g : M = M := rfl
  by_cases q1 : s0 = 0 ∨ s0 = 1
  · rw [if_pos q1] at h
    exact (Prod.mk.inj (Option.some.inj h)).2.symm.trans g
  · rw [if_neg q1] at h
    cases h
set_option maxRecDepth 100000 in
theorem zJ85_39_kp (n : Nat) (M : ZM) (r : Int) (m' : ZM) (h : zJ85_39 n M = some (r, m')) : m' = M := by
  unfold zJ85_39 at h
  have g : M = M := rfl
  exact (zJ85_40_kp n 0 M _ _ h).trans g
set_option maxRecDepth 100000 in
theorem zJ85_35_kp (n : Nat) (M : ZM) (r : Int) (m' : ZM) (h : zJ85_35 n M = some (r, m')) : m' = M := by
  unfold zJ85_35 at h
  have g : M = M := rfl
  exact (zJ85_40_kp n 1 M _ _ h).trans g
set_option maxRecDepth 100000 in
theorem zF85_kp (n : Nat) (a0 : Int) (M : ZM) (r : Int) (m' : ZM) (h : zF85 n a0 M = some (r, m')) : m' = M := by
  unfold zF85 at h
  have g : M = M := rfl
  by_cases q1 : a0 < 0 ∨ 320 ≤ a0
  · rw [if_pos q1] at h
    cases h
  · rw [if_neg q1] at h
    by_cases q2 : (M.1 105 (Int.toNat a0)) < 1000
    · rw [if_pos q2] at h
      exact (zJ85_39_kp n M _ _ h).trans g
    · rw [if_neg q2] at h
      by_cases q3 : a0 ≤ 0
      · rw [if_pos q3] at h
        exact (zJ85_39_kp n M _ _ h).trans g
      · rw [if_neg q3] at h
        by_cases q4 : rg (a0 - 1)
        · rw [if_pos q4] at h
          by_cases q5 : (a0 - 1) < 0 ∨ 320 ≤ (a0 - 1)
          · rw [if_pos q5] at h
            cases h
          · rw [if_neg q5] at h
            cases hc6 : zF27 n 12 5 20 M with
            | none => rw [hc6] at h; cases h
            | some w =>
              obtain ⟨v6, M7⟩ := w
              rw [hc6] at h
              dsimp only at h
              replace g := (zF27_kp n 12 5 20 M _ _ hc6).trans g
              by_cases q7 : (M.1 105 (Int.toNat (a0 - 1))) = v6
              · rw [if_pos q7] at h
                exact (zJ85_35_kp n M7 _ _ h).trans g
              · rw [if_neg q7] at h
                exact (zJ85_39_kp n M7 _ _ h).trans g
        · rw [if_neg q4] at h
          cases h
set_option maxRecDepth 100000 in
theorem zJ86_26_kp (n : Nat) (M : ZM) (r : Int) (m' : ZM) (h : zJ86_26 n M = some (r, m')) : m' = M := by
  unfold zJ86_26 at h
  have g : M = M := rfl
  exact (Prod.mk.inj (Option.some.inj h)).2.symm.trans g
set_option maxRecDepth 100000 in
theorem zJ86_170_kp (n : Nat) (x2 : Int) (M : ZM) (r : Int) (m' : ZM) (h : zJ86_170 n x2 M = some (r, m')) : m' = M := by
  unfold zJ86_170 at h
  have g : M = M := rfl
  exact (Prod.mk.inj (Option.some.inj h)).2.symm.trans g
