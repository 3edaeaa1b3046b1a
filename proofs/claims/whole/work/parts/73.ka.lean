/-! What each method may write; written by program. -/
set_option maxRecDepth 100000 in
theorem zF4_kp (n : Nat) (M : ZM) (r : Int) (m' : ZM) (h : zF4 n M = some (r, m')) : m' = M := by
  unfold zF4 at h
  have g : M = M := rfl
  exact (Prod.mk.inj (Option.some.inj h)).2.symm.trans g
set_option maxRecDepth 100000 in
theorem zJ11_12_kp (n : Nat) (s0 : Int) (M : ZM) (r : Int) (m' : ZM) (h : zJ11_12 n s0 M = some (r, m')) : m' = M := by
  unfold zJ11_12 at h
  have g : M = M := rfl
  by_cases q1 : s0 = 0 ∨ s0 = 1
  · rw [if_pos q1] at h
    exact (Prod.mk.inj (Option.some.inj h)).2.symm.trans g
  · rw [if_neg q1] at h
    cases h
set_option maxRecDepth 100000 in
theorem zF11_kp (n : Nat) (a0 : Int) (M : ZM) (r : Int) (m' : ZM) (h : zF11 n a0 M = some (r, m')) : m' = M := by
  unfold zF11 at h
  have g : M = M := rfl
  by_cases q1 : a0 ≤ 1000
  · rw [if_pos q1] at h
    exact (zJ11_12_kp n 0 M _ _ h).trans g
  · rw [if_neg q1] at h
    exact (zJ11_12_kp n 1 M _ _ h).trans g
set_option maxRecDepth 100000 in
theorem zJ12_19_kp (n : Nat) (s0 : Int) (M : ZM) (r : Int) (m' : ZM) (h : zJ12_19 n s0 M = some (r, m')) : m' = M := by
  unfold zJ12_19 at h
  have g : M = M := rfl
  by_cases q1 : s0 = 0 ∨ s0 = 1
  · rw [if_pos q1] at h
    exact (Prod.mk.inj (Option.some.inj h)).2.symm.trans g
  · rw [if_neg q1] at h
    cases h
set_option maxRecDepth 100000 in
theorem zJ12_18_kp (n : Nat) (M : ZM) (r : Int) (m' : ZM) (h : zJ12_18 n M = some (r, m')) : m' = M := by
  unfold zJ12_18 at h
  have g : M = M := rfl
  exact (zJ12_19_kp n 0 M _ _ h).trans g
set_option maxRecDepth 100000 in
theorem zF12_kp (n : Nat) (a0 : Int) (M : ZM) (r : Int) (m' : ZM) (h : zF12 n a0 M = some (r, m')) : m' = M := by
  unfold zF12 at h
  have g : M = M := rfl
  by_cases q1 : a0 < 300
  · rw [if_pos q1] at h
    exact (zJ12_18_kp n M _ _ h).trans g
  · rw [if_neg q1] at h
    by_cases q2 : 1000 ≤ a0
    · rw [if_pos q2] at h
      exact (zJ12_18_kp n M _ _ h).trans g
    · rw [if_neg q2] at h
      exact (zJ12_19_kp n 1 M _ _ h).trans g
set_option maxRecDepth 100000 in
theorem zJ13_23_kp (n : Nat) (s0 : Int) (M : ZM) (r : Int) (m' : ZM) (h : zJ13_23 n s0 M = some (r, m')) : m' = M := by
  unfold zJ13_23 at h
  have g : M = M := rfl
  by_cases q1 : s0 = 0 ∨ s0 = 1
  · rw [if_pos q1] at h
    exact (Prod.mk.inj (Option.some.inj h)).2.symm.trans g
  · rw [if_neg q1] at h
    cases h
set_option maxRecDepth 100000 in
theorem zJ13_18_kp (n : Nat) (M : ZM) (r : Int) (m' : ZM) (h : zJ13_18 n M = some (r, m')) : m' = M := by
  unfold zJ13_18 at h
  have g : M = M := rfl
  exact (zJ13_23_kp n 1 M _ _ h).trans g
set_option maxRecDepth 100000 in
theorem zF13_kp (n : Nat) (a0 : Int) (M : ZM) (r : Int) (m' : ZM) (h : zF13 n a0 M = some (r, m')) : m' = M := by
  unfold zF13 at h
  have g : M = M := rfl
  by_cases q1 : a0 = 40
  · rw [if_pos q1] at h
    exact (zJ13_18_kp n M _ _ h).trans g
  · rw [if_neg q1] at h
    by_cases q2 : a0 = 91
    · rw [if_pos q2] at h
      exact (zJ13_18_kp n M _ _ h).trans g
    · rw [if_neg q2] at h
      by_cases q3 : a0 = 123
      · rw [if_pos q3] at h
        exact (zJ13_18_kp n M _ _ h).trans g
      · rw [if_neg q3] at h
        exact (zJ13_23_kp n 0 M _ _ h).trans g
set_option maxRecDepth 100000 in
theorem zJ14_23_kp (n : Nat) (s0 : Int) (M : ZM) (r : Int) (m' : ZM) (h : zJ14_23 n s0 M = some (r, m')) : m' = M := by
  unfold zJ14_23 at h
  have g : M = M := rfl
  by_cases q1 : s0 = 0 ∨ s0 = 1
  · rw [if_pos q1] at h
    exact (Prod.mk.inj (Option.some.inj h)).2.symm.trans g
  · rw [if_neg q1] at h
    cases h
set_option maxRecDepth 100000 in
theorem zJ14_18_kp (n : Nat) (M : ZM) (r : Int) (m' : ZM) (h : zJ14_18 n M = some (r, m')) : m' = M := by
  unfold zJ14_18 at h
  have g : M = M := rfl
  exact (zJ14_23_kp n 1 M _ _ h).trans g
set_option maxRecDepth 100000 in
theorem zF14_kp (n : Nat) (a0 : Int) (M : ZM) (r : Int) (m' : ZM) (h : zF14 n a0 M = some (r, m')) : m' = M := by
  unfold zF14 at h
  have g : M = M := rfl
  by_cases q1 : a0 = 41
  · rw [if_pos q1] at h
    exact (zJ14_18_kp n M _ _ h).trans g
  · rw [if_neg q1] at h
    by_cases q2 : a0 = 93
    · rw [if_pos q2] at h
      exact (zJ14_18_kp n M _ _ h).trans g
    · rw [if_neg q2] at h
      by_cases q3 : a0 = 125
      · rw [if_pos q3] at h
        exact (zJ14_18_kp n M _ _ h).trans g
      · rw [if_neg q3] at h
        exact (zJ14_23_kp n 0 M _ _ h).trans g
set_option maxRecDepth 100000 in
theorem zJ15_23_kp (n : Nat) (s0 : Int) (M : ZM) (r : Int) (m' : ZM) (h : zJ15_23 n s0 M = some (r, m')) : m' = M := by
  unfold zJ15_23 at h
  have g : M = M := rfl
  by_cases q1 : s0 = 0 ∨ s0 = 1
  · rw [if_pos q1] at h
    exact (Prod.mk.inj (Option.some.inj h)).2.symm.trans g
  · rw [if_neg q1] at h
    cases h
set_option maxRecDepth 100000 in
theorem zJ15_18_kp (n : Nat) (M : ZM) (r : Int) (m' : ZM) (h : zJ15_18 n M = some (r, m')) : m' = M := by
  unfold zJ15_18 at h
  have g : M = M := rfl
  exact (zJ15_23_kp n 1 M _ _ h).trans g
set_option maxRecDepth 100000 in
theorem zF15_kp (n : Nat) (a0 : Int) (M : ZM) (r : Int) (m' : ZM) (h : zF15 n a0 M = some (r, m')) : m' = M := by
  unfold zF15 at h
  have g : M = M := rfl
  by_cases q1 : a0 = 42
  · rw [if_pos q1] at h
    exact (zJ15_18_kp n M _ _ h).trans g
  · rw [if_neg q1] at h
    by_cases q2 : a0 = 43
    · rw [if_pos q2] at h
      exact (zJ15_18_kp n M _ _ h).trans g
    · rw [if_neg q2] at h
      by_cases q3 : a0 = 63
      · rw [if_pos q3] at h
        exact (zJ15_18_kp n M _ _ h).trans g
      · rw [if_neg q3] at h
        exact (zJ15_23_kp n 0 M _ _ h).trans g
set_option maxRecDepth 100000 in
theorem zJ16_33_kp (n : Nat) (s0 : Int) (M : ZM) (r : Int) (m' : ZM) (h : zJ16_33 n s0 M = some (r, m')) : m' = M := by
  unfold zJ16_33 at h
  have g : M = M := rfl
  by_cases q1 : s0 = 0 ∨ s0 = 1
  · rw [if_pos q1] at h
    exact (Prod.mk.inj (Option.some.inj h)).2.symm.trans g
  · rw [if_neg q1] at h
    cases h
set_option maxRecDepth 100000 in
theorem zJ16_28_kp (n : Nat) (M : ZM) (r : Int) (m' : ZM) (h : zJ16_28 n M = some (r, m')) : m' = M := by
  unfold zJ16_28 at h
  have g : M = M := rfl
  exact (zJ16_33_kp n 1 M _ _ h).trans g
set_option maxRecDepth 100000 in
theorem zF16_kp (n : Nat) (a0 : Int) (M : ZM) (r : Int) (m' : ZM) (h : zF16 n a0 M = some (r, m')) : m' = M := by
  unfold zF16 at h
  have g : M = M := rfl
  by_cases q1 : a0 = 1247
  · rw [if_pos q1] at h
    exact (zJ16_28_kp n M _ _ h).trans g
  · rw [if_neg q1] at h
    by_cases q2 : a0 = 11786
    · rw [if_pos q2] at h
      exact (zJ16_28_kp n M _ _ h).trans g
    · rw [if_neg q2] at h
      by_cases q3 : a0 = 1560
      · rw [if_pos q3] at h
        exact (zJ16_28_kp n M _ _ h).trans g
      · rw [if_neg q3] at h
        by_cases q4 : a0 = 1159
        · rw [if_pos q4] at h
          exact (zJ16_28_kp n M _ _ h).trans g
        · rw [if_neg q4] at h
          exact (zJ16_33_kp n 0 M _ _ h).trans g
set_option maxRecDepth 100000 in
theorem zJ17_24_kp (n : Nat) (s0 : Int) (M : ZM) (r : Int) (m' : ZM) (h : zJ17_24 n s0 M = some (r, m')) : m' = M := by
  unfold zJ17_24 at h
  have g : M = M := rfl
  exact (Prod.mk.inj (Option.some.inj h)).2.symm.trans g
set_option maxRecDepth 100000 in
theorem zF17_kp (n : Nat) (a0 : Int) (M : ZM) (r : Int) (m' : ZM) (h : zF17 n a0 M = some (r, m')) : m' = M := by
  unfold zF17 at h
  have g : M = M := rfl
  by_cases q1 : a0 = 40
  · rw [if_pos q1] at h
    exact (zJ17_24_kp n 41 M _ _ h).trans g
  · rw [if_neg q1] at h
    by_cases q2 : a0 = 91
    · rw [if_pos q2] at h
      exact (zJ17_24_kp n 93 M _ _ h).trans g
    · rw [if_neg q2] at h
      exact (zJ17_24_kp n 125 M _ _ h).trans g
set_option maxRecDepth 100000 in
theorem zJ19_15_kp (n : Nat) (s0 : Int) (M : ZM) (r : Int) (m' : ZM) (h : zJ19_15 n s0 M = some (r, m')) : m' = M := by
  unfold zJ19_15 at h
  have g : M = M := rfl
  by_cases q1 : s0 = 0 ∨ s0 = 1
  · rw [if_pos q1] at h
    exact (Prod.mk.inj (Option.some.inj h)).2.symm.trans g
  · rw [if_neg q1] at h
    cases h
set_option maxRecDepth 100000 in
theorem zJ19_14_kp (n : Nat) (M : ZM) (r : Int) (m' : ZM) (h : zJ19_14 n M = some (r, m')) : m' = M := by
  unfold zJ19_14 at h
  have g : M = M := rfl
  exact (zJ19_15_kp n 0 M _ _ h).trans g
set_option maxRecDepth 100000 in
theorem zF19_kp (n : Nat) (a0 : Int) (a1 : Int) (a2 : Int) (M : ZM) (r : Int) (m' : ZM) (h : zF19 n a0 a1 a2 M = some (r, m')) : m' = M := by
  unfold zF19 at h
  have g : M = M := rfl
  by_cases q1 : a0 < a1
  · rw [if_pos q1] at h
    exact (zJ19_14_kp n M _ _ h).trans g
  · rw [if_neg q1] at h
    by_cases q2 : a2 < a0
    · rw [if_pos q2] at h
      exact (zJ19_14_kp n M _ _ h).trans g
    · rw [if_neg q2] at h
      exact (zJ19_15_kp n 1 M _ _ h).trans g
def w20 : List (Nat × Nat) := [(83, 1), (84, 1000)]
set_option maxRecDepth 100000 in
theorem zJ20_114_kp (n : Nat) (x3 : Int) (M : ZM) (r : Int) (m' : ZM) (h : zJ20_114 n x3 M = some (r, m')) : kp (wl w20) M m' := by
  unfold zJ20_114 at h
  have g := kp_refl (wl w20) M
  by_cases q1 : x3 = 0 ∨ x3 = 1
  · rw [if_pos q1] at h
    rw [← (Prod.mk.inj (Option.some.inj h)).2]
    exact g
  · rw [if_neg q1] at h
    cases h
set_option maxRecDepth 100000 in
theorem zJ20_98_kp (n : Nat) (zrec69 : Int → Int → Int → ZM → Option (Int × ZM)) (hrec69 : ∀ (c0 : Int) (c1 : Int) (c2 : Int) (c3 : ZM) (r : Int) (m' : ZM), zrec69 c0 c1 c2 c3 = some (r, m') → kp (wl w20) c3 m') (x1 : Int) (x3 : Int) (x4 : Int) (M : ZM) (r : Int) (m' : ZM) (h : zJ20_98 n zrec69 x1 x3 x4 M = some (r, m')) : kp (wl w20) M m' := by
  unfold zJ20_98 at h
  have g := kp_refl (wl w20) M
  by_cases q1 : rg ((M.1 83 1) + 1)
  · rw [if_pos q1] at h
    replace g : kp (wl w20) M (z_i M 83 1 ((M.1 83 1) + 1)) := kp_i g (by simp [w20])
    rw [zlet] at h
    generalize z_i M 83 1 ((M.1 83 1) + 1) = M11 at h g
    by_cases q2 : rg (x4 + (-1))
    · rw [if_pos q2] at h
      exact kp_tr g (hrec69 x1 x3 (x4 + (-1)) M11 _ _ h)
    · rw [if_neg q2] at h
      cases h
  · rw [if_neg q1] at h
    cases h
set_option maxRecDepth 100000 in
theorem zL20_69_kp (n : Nat) : ∀ (k : Nat) (x1 : Int) (x3 : Int) (x4 : Int) (M : ZM) (r : Int) (m' : ZM), zL20_69 n k x1 x3 x4 M = some (r, m') → kp (wl w20) M m' := by
  intro k
  induction k with
  | zero => intro x1 x3 x4 M r m' h; cases h
  | succ k ih =>
    intro x1 x3 x4 M r m' h
    rw [zL20_69] at h
    have g := kp_refl (wl w20) M
    by_cases q1 : x4 < 0
    · rw [if_pos q1] at h
      exact kp_tr g (zJ20_114_kp n x3 M _ _ h)
    · rw [if_neg q1] at h
      by_cases q2 : x3 = 0
      · rw [if_pos q2] at h
        exact kp_tr g (zJ20_114_kp n x3 M _ _ h)
      · rw [if_neg q2] at h
        by_cases q3 : (M.1 83 1) < 0 ∨ 120 ≤ (M.1 83 1)
        · rw [if_pos q3] at h
          cases h
        · rw [if_neg q3] at h
          by_cases q4 : rg (8 * x4)
          · rw [if_pos q4] at h
            replace g : kp (wl w20) M (z_i M 84 (Int.toNat (M.1 83 1)) (((((iz x1) >>> ((iz (8 * x4)) &&& 31)) &&& 255) : Int32).toInt)) := kp_ia g (by simp [w20])
            rw [zlet] at h
            generalize z_i M 84 (Int.toNat (M.1 83 1)) (((((iz x1) >>> ((iz (8 * x4)) &&& 31)) &&& 255) : Int32).toInt) = M10 at h g
            exact kp_tr g (zJ20_98_kp n (zL20_69 n k) ih x1 x3 x4 M10 _ _ h)
          · rw [if_neg q4] at h
            cases h
set_option maxRecDepth 100000 in
theorem zJ20_64_kp (n : Nat) (x1 : Int) (x2 : Int) (x3 : Int) (M : ZM) (r : Int) (m' : ZM) (h : zJ20_64 n x1 x2 x3 M = some (r, m')) : kp (wl w20) M m' := by
  unfold zJ20_64 at h
  have g := kp_refl (wl w20) M
  exact kp_tr g (zL20_69_kp n n x1 x3 ((((iz x2) - 1) : Int32).toInt) M _ _ h)
set_option maxRecDepth 100000 in
theorem zL20_29_kp (n : Nat) : ∀ (k : Nat) (x1 : Int) (x2 : Int) (x3 : Int) (x4 : Int) (M : ZM) (r : Int) (m' : ZM), zL20_29 n k x1 x2 x3 x4 M = some (r, m') → kp (wl w20) M m' := by
  intro k
  induction k with
  | zero => intro x1 x2 x3 x4 M r m' h; cases h
  | succ k ih =>
    intro x1 x2 x3 x4 M r m' h
    rw [zL20_29] at h
    have g := kp_refl (wl w20) M
    by_cases q1 : x2 ≤ x4
    · rw [if_pos q1] at h
      exact kp_tr g (zJ20_64_kp n x1 x2 x3 M _ _ h)
    · rw [if_neg q1] at h
      by_cases q2 : x3 = 0
      · rw [if_pos q2] at h
        exact kp_tr g (zJ20_64_kp n x1 x2 x3 M _ _ h)
      · rw [if_neg q2] at h
        by_cases q3 : rg (8 * x4)
        · rw [if_pos q3] at h
          cases hc4 : zF19 n (((((iz x1) >>> ((iz (8 * x4)) &&& 31)) &&& 255) : Int32).toInt) 32 126 M with
          | none => rw [hc4] at h; cases h
          | some w =>
            obtain ⟨v13, M14⟩ := w
            rw [hc4] at h
            dsimp only at h
            replace g := kp_tr g (kp_eq _ (zF19_kp n (((((iz x1) >>> ((iz (8 * x4)) &&& 31)) &&& 255) : Int32).toInt) 32 126 M _ _ hc4))
            by_cases q5 : rg (x4 + 1)
            · rw [if_pos q5] at h
              exact kp_tr g (ih x1 x2 v13 (x4 + 1) M14 _ _ h)
            · rw [if_neg q5] at h
              cases h
        · rw [if_neg q3] at h
          cases h
set_option maxRecDepth 100000 in
theorem zJ20_25_kp (n : Nat) (x1 : Int) (x2 : Int) (s0 : Int) (M : ZM) (r : Int) (m' : ZM) (h : zJ20_25 n x1 x2 s0 M = some (r, m')) : kp (wl w20) M m' := by
  unfold zJ20_25 at h
  have g := kp_refl (wl w20) M
  exact kp_tr g (zL20_29_kp n n x1 x2 s0 0 M _ _ h)
set_option maxRecDepth 100000 in
theorem zJ20_24_kp (n : Nat) (x1 : Int) (x2 : Int) (M : ZM) (r : Int) (m' : ZM) (h : zJ20_24 n x1 x2 M = some (r, m')) : kp (wl w20) M m' := by
  unfold zJ20_24 at h
  have g := kp_refl (wl w20) M
  exact kp_tr g (zJ20_25_kp n x1 x2 0 M _ _ h)
set_option maxRecDepth 100000 in
theorem zF20_kp (n : Nat) (a0 : Int) (a1 : Int) (M : ZM) (r : Int) (m' : ZM) (h : zF20 n a0 a1 M = some (r, m')) : kp (wl w20) M m' := by
  unfold zF20 at h
  have g := kp_refl (wl w20) M
  cases hc1 : zF19 n a1 1 4 M with
  | none => rw [hc1] at h; cases h
  | some w =>
    obtain ⟨v1, M2⟩ := w
    rw [hc1] at h
    dsimp only at h
    replace g := kp_tr g (kp_eq _ (zF19_kp n a1 1 4 M _ _ hc1))
    by_cases q2 : v1 = 0
    · rw [if_pos q2] at h
      exact kp_tr g (zJ20_24_kp n a0 a1 M2 _ _ h)
    · rw [if_neg q2] at h
      by_cases q3 : rg ((M2.1 83 1) + a1)
      · rw [if_pos q3] at h
        by_cases q4 : 120 < ((M2.1 83 1) + a1)
        · rw [if_pos q4] at h
          exact kp_tr g (zJ20_24_kp n a0 a1 M2 _ _ h)
        · rw [if_neg q4] at h
          exact kp_tr g (zJ20_25_kp n a0 a1 1 M2 _ _ h)
      · rw [if_neg q3] at h
        cases h
set_option maxRecDepth 100000 in
theorem zJ21_23_kp (n : Nat) (s0 : Int) (M : ZM) (r : Int) (m' : ZM) (h : zJ21_23 n s0 M = some (r, m')) : m' = M := by
  unfold zJ21_23 at h
  have g : M = M := rfl
  by_cases q1 : s0 = 0 ∨ s0 = 1
  · rw [if_pos q1] at h
    exact (Prod.mk.inj (Option.some.inj h)).2.symm.trans g
  · rw [if_neg q1] at h
    cases h
set_option maxRecDepth 100000 in
theorem zJ21_18_kp (n : Nat) (M : ZM) (r : Int) (m' : ZM) (h : zJ21_18 n M = some (r, m')) : m' = M := by
  unfold zJ21_18 at h
  have g : M = M := rfl
  exact (zJ21_23_kp n 1 M _ _ h).trans g
set_option maxRecDepth 100000 in
theorem zF21_kp (n : Nat) (a0 : Int) (M : ZM) (r : Int) (m' : ZM) (h : zF21 n a0 M = some (r, m')) : m' = M := by
  unfold zF21 at h
  have g : M = M := rfl
  by_cases q1 : a0 = 40
  · rw [if_pos q1] at h
    exact (zJ21_18_kp n M _ _ h).trans g
  · rw [if_neg q1] at h
    by_cases q2 : a0 = 91
    · rw [if_pos q2] at h
      exact (zJ21_18_kp n M _ _ h).trans g
    · rw [if_neg q2] at h
      by_cases q3 : a0 = 123
      · rw [if_pos q3] at h
        exact (zJ21_18_kp n M _ _ h).trans g
      · rw [if_neg q3] at h
        exact (zJ21_23_kp n 0 M _ _ h).trans g
set_option maxRecDepth 100000 in
theorem zJ22_23_kp (n : Nat) (s0 : Int) (M : ZM) (r : Int) (m' : ZM) (h : zJ22_23 n s0 M = some (r, m')) : m' = M := by
  unfold zJ22_23 at h
  have g : M = M := rfl
  by_cases q1 : s0 = 0 ∨ s0 = 1
  · rw [if_pos q1] at h
    exact (Prod.mk.inj (Option.some.inj h)).2.symm.trans g
  · rw [if_neg q1] at h
    cases h
set_option maxRecDepth 100000 in
theorem zJ22_18_kp (n : Nat) (M : ZM) (r : Int) (m' : ZM) (h : zJ22_18 n M = some (r, m')) : m' = M := by
  unfold zJ22_18 at h
  have g : M = M := rfl
  exact (zJ22_23_kp n 1 M _ _ h).trans g
set_option maxRecDepth 100000 in
theorem zF22_kp (n : Nat) (a0 : Int) (M : ZM) (r : Int) (m' : ZM) (h : zF22 n a0 M = some (r, m')) : m' = M := by
  unfold zF22 at h
  have g : M = M := rfl
  by_cases q1 : a0 = 41
  · rw [if_pos q1] at h
    exact (zJ22_18_kp n M _ _ h).trans g
  · rw [if_neg q1] at h
    by_cases q2 : a0 = 93
    · rw [if_pos q2] at h
      exact (zJ22_18_kp n M _ _ h).trans g
    · rw [if_neg q2] at h
      by_cases q3 : a0 = 125
      · rw [if_pos q3] at h
        exact (zJ22_18_kp n M _ _ h).trans g
      · rw [if_neg q3] at h
        exact (zJ22_23_kp n 0 M _ _ h).trans g
set_option maxRecDepth 100000 in
theorem zJ23_24_kp (n : Nat) (s0 : Int) (M : ZM) (r : Int) (m' : ZM) (h : zJ23_24 n s0 M = some (r, m')) : m' = M := by
  unfold zJ23_24 at h
  have g : M = M := rfl
  exact (Prod.mk.inj (Option.some.inj h)).2.symm.trans g
set_option maxRecDepth 100000 in
theorem zF23_kp (n : Nat) (a0 : Int) (M : ZM) (r : Int) (m' : ZM) (h : zF23 n a0 M = some (r, m')) : m' = M := by
  unfold zF23 at h
  have g : M = M := rfl
  by_cases q1 : a0 = 40
  · rw [if_pos q1] at h
    exact (zJ23_24_kp n 41 M _ _ h).trans g
  · rw [if_neg q1] at h
    by_cases q2 : a0 = 91
    · rw [if_pos q2] at h
      exact (zJ23_24_kp n 93 M _ _ h).trans g
    · rw [if_neg q2] at h
      exact (zJ23_24_kp n 125 M _ _ h).trans g
set_option maxRecDepth 100000 in
theorem zJ24_65_kp (n : Nat) (s0 : Int) (M : ZM) (r : Int) (m' : ZM) (h : zJ24_65 n s0 M = some (r, m')) : m' = M := by
  unfold zJ24_65 at h
  have g : M = M := rfl
  by_cases q1 : s0 = 0 ∨ s0 = 1
  · rw [if_pos q1] at h
    exact (Prod.mk.inj (Option.some.inj h)).2.symm.trans g
  · rw [if_neg q1] at h
    cases h
set_option maxRecDepth 100000 in
theorem zJ24_60_kp (n : Nat) (M : ZM) (r : Int) (m' : ZM) (h : zJ24_60 n M = some (r, m')) : m' = M := by
  unfold zJ24_60 at h
  have g : M = M := rfl
  exact (zJ24_65_kp n 1 M _ _ h).trans g
set_option maxRecDepth 100000 in
theorem zJ24_64_kp (n : Nat) (M : ZM) (r : Int) (m' : ZM) (h : zJ24_64 n M = some (r, m')) : m' = M := by
  unfold zJ24_64 at h
  have g : M = M := rfl
  exact (zJ24_65_kp n 0 M _ _ h).trans g
set_option maxRecDepth 100000 in
theorem zJ24_30_kp (n : Nat) (x0 : Int) (M : ZM) (r : Int) (m' : ZM) (h : zJ24_30 n x0 M = some (r, m')) : m' = M := by
  unfold zJ24_30 at h
  have g : M = M := rfl
  by_cases q1 : x0 = 58
  · rw [if_pos q1] at h
    exact (zJ24_60_kp n M _ _ h).trans g
  · rw [if_neg q1] at h
    by_cases q2 : x0 = 33
    · rw [if_pos q2] at h
      exact (zJ24_60_kp n M _ _ h).trans g
    · rw [if_neg q2] at h
      by_cases q3 : x0 = 63
      · rw [if_pos q3] at h
        exact (zJ24_60_kp n M _ _ h).trans g
      · rw [if_neg q3] at h
        by_cases q4 : x0 = 62
        · rw [if_pos q4] at h
          exact (zJ24_60_kp n M _ _ h).trans g
        · rw [if_neg q4] at h
          by_cases q5 : x0 = 36
          · rw [if_pos q5] at h
            exact (zJ24_60_kp n M _ _ h).trans g
          · rw [if_neg q5] at h
            exact (zJ24_64_kp n M _ _ h).trans g
set_option maxRecDepth 100000 in
theorem zF24_kp (n : Nat) (a0 : Int) (M : ZM) (r : Int) (m' : ZM) (h : zF24 n a0 M = some (r, m')) : m' = M := by
  unfold zF24 at h
  have g : M = M := rfl
  by_cases q1 : a0 = 43
  · rw [if_pos q1] at h
    exact (zJ24_60_kp n M _ _ h).trans g
  · rw [if_neg q1] at h
    by_cases q2 : a0 = 42
    · rw [if_pos q2] at h
      exact (zJ24_60_kp n M _ _ h).trans g
    · rw [if_neg q2] at h
      by_cases q3 : a0 = 44
      · rw [if_pos q3] at h
        exact (zJ24_60_kp n M _ _ h).trans g
      · rw [if_neg q3] at h
        by_cases q4 : a0 = 59
        · rw [if_pos q4] at h
          exact (zJ24_60_kp n M _ _ h).trans g
        · rw [if_neg q4] at h
          by_cases q5 : a0 = 61
          · rw [if_pos q5] at h
            exact (zJ24_60_kp n M _ _ h).trans g
          · rw [if_neg q5] at h
            exact (zJ24_30_kp n a0 M _ _ h).trans g
set_option maxRecDepth 100000 in
theorem zF25_kp (n : Nat) (a0 : Int) (M : ZM) (r : Int) (m' : ZM) (h : zF25 n a0 M = some (r, m')) : m' = M := by
  unfold zF25 at h
  have g : M = M := rfl
  cases hc1 : zF19 n a0 97 122 M with
  | none => rw [hc1] at h; cases h
  | some w =>
    obtain ⟨v1, M2⟩ := w
    rw [hc1] at h
    dsimp only at h
    replace g := (zF19_kp n a0 97 122 M _ _ hc1).trans g
    by_cases q2 : v1 = 0 ∨ v1 = 1
    · rw [if_pos q2] at h
      exact (Prod.mk.inj (Option.some.inj h)).2.symm.trans g
    · rw [if_neg q2] at h
      cases h
set_option maxRecDepth 100000 in
theorem zF26_kp (n : Nat) (a0 : Int) (M : ZM) (r : Int) (m' : ZM) (h : zF26 n a0 M = some (r, m')) : m' = M := by
  unfold zF26 at h
  have g : M = M := rfl
  cases hc1 : zF19 n a0 48 57 M with
  | none => rw [hc1] at h; cases h
  | some w =>
    obtain ⟨v1, M2⟩ := w
    rw [hc1] at h
    dsimp only at h
    replace g := (zF19_kp n a0 48 57 M _ _ hc1).trans g
    by_cases q2 : v1 = 0 ∨ v1 = 1
    · rw [if_pos q2] at h
      exact (Prod.mk.inj (Option.some.inj h)).2.symm.trans g
    · rw [if_neg q2] at h
      cases h
set_option maxRecDepth 100000 in
theorem zJ27_35_kp (n : Nat) (s0 : Int) (s1 : Int) (M : ZM) (r : Int) (m' : ZM) (h : zJ27_35 n s0 s1 M = some (r, m')) : m' = M := by
  unfold zJ27_35 at h
  have g : M = M := rfl
  by_cases q1 : rg (s1 + s0)
  · rw [if_pos q1] at h
    exact (Prod.mk.inj (Option.some.inj h)).2.symm.trans g
  · rw [if_neg q1] at h
    cases h
set_option maxRecDepth 100000 in
theorem zF27_kp (n : Nat) (a0 : Int) (a1 : Int) (a2 : Int) (M : ZM) (r : Int) (m' : ZM) (h : zF27 n a0 a1 a2 M = some (r, m')) : m' = M := by
  unfold zF27 at h
  have g : M = M := rfl
  by_cases q1 : a2 ≤ 0
  · rw [if_pos q1] at h
    by_cases q2 : a1 ≤ 0
    · rw [if_pos q2] at h
      exact (zJ27_35_kp n a0 1000 M _ _ h).trans g
    · rw [if_neg q2] at h
      by_cases q3 : rg ((a0 * 27) + a1)
      · rw [if_pos q3] at h
        exact (zJ27_35_kp n ((a0 * 27) + a1) 1000 M _ _ h).trans g
      · rw [if_neg q3] at h
        cases h
  · rw [if_neg q1] at h
    by_cases q4 : rg ((((a0 * 27) + a1) * 27) + a2)
    · rw [if_pos q4] at h
      exact (zJ27_35_kp n ((((a0 * 27) + a1) * 27) + a2) 1000 M _ _ h).trans g
    · rw [if_neg q4] at h
      cases h
def w28 : List (Nat × Nat) := [(83, 4), (83, 5), (83, 6), (83, 7)]
set_option maxRecDepth 100000 in
theorem zJ28_341_kp (n : Nat) (M : ZM) (r : Unit) (m' : ZM) (h : zJ28_341 n M = some (r, m')) : kp (wl w28) M m' := by
  unfold zJ28_341 at h
  have g := kp_refl (wl w28) M
  rw [← (Prod.mk.inj (Option.some.inj h)).2]
  exact g
set_option maxRecDepth 100000 in
theorem zJ28_338_kp (n : Nat) (s0 : Int) (M : ZM) (r : Unit) (m' : ZM) (h : zJ28_338 n s0 M = some (r, m')) : kp (wl w28) M m' := by
  unfold zJ28_338 at h
  have g := kp_refl (wl w28) M
  replace g : kp (wl w28) M (z_i M 83 4 s0) := kp_i g (by simp [w28])
  rw [zlet] at h
  generalize z_i M 83 4 s0 = M29 at h g
  exact kp_tr g (zJ28_341_kp n M29 _ _ h)
set_option maxRecDepth 100000 in
theorem zJ28_287_kp (n : Nat) (x4 : Int) (s0 : Int) (M : ZM) (r : Unit) (m' : ZM) (h : zJ28_287 n x4 s0 M = some (r, m')) : kp (wl w28) M m' := by
  unfold zJ28_287 at h
  have g := kp_refl (wl w28) M
  replace g : kp (wl w28) M (z_i M 83 4 s0) := kp_i g (by simp [w28])
  rw [zlet] at h
  generalize z_i M 83 4 s0 = M31 at h g
  by_cases q1 : rg (300 + x4)
  · rw [if_pos q1] at h
    replace g : kp (wl w28) M (z_i M31 83 5 (300 + x4)) := kp_i g (by simp [w28])
    rw [zlet] at h
    generalize z_i M31 83 5 (300 + x4) = M32 at h g
    exact kp_tr g (zJ28_341_kp n M32 _ _ h)
  · rw [if_neg q1] at h
    cases h
set_option maxRecDepth 100000 in
theorem zJ28_282_kp (n : Nat) (x4 : Int) (M : ZM) (r : Unit) (m' : ZM) (h : zJ28_282 n x4 M = some (r, m')) : kp (wl w28) M m' := by
  unfold zJ28_282 at h
  have g := kp_refl (wl w28) M
  exact kp_tr g (zJ28_287_kp n x4 2 M _ _ h)
set_option maxRecDepth 100000 in
theorem zJ28_286_kp (n : Nat) (x4 : Int) (M : ZM) (r : Unit) (m' : ZM) (h : zJ28_286 n x4 M = some (r, m')) : kp (wl w28) M m' := by
  unfold zJ28_286 at h
  have g := kp_refl (wl w28) M
  exact kp_tr g (zJ28_287_kp n x4 0 M _ _ h)
set_option maxRecDepth 100000 in
theorem zJ28_256_kp (n : Nat) (x2 : Int) (x4 : Int) (x5 : Int) (M : ZM) (r : Unit) (m' : ZM) (h : zJ28_256 n x2 x4 x5 M = some (r, m')) : kp (wl w28) M m' := by
  unfold zJ28_256 at h
  have g := kp_refl (wl w28) M
  cases hc1 : zF26 n x2 M with
  | none => rw [hc1] at h; cases h
  | some w =>
    obtain ⟨v13, M14⟩ := w
    rw [hc1] at h
    dsimp only at h
    replace g := kp_tr g (kp_eq _ (zF26_kp n x2 M _ _ hc1))
    by_cases q2 : v13 = 0
    · rw [if_pos q2] at h
      cases hc3 : zF21 n x2 M14 with
      | none => rw [hc3] at h; cases h
      | some w =>
        obtain ⟨v17, M18⟩ := w
        rw [hc3] at h
        dsimp only at h
        replace g := kp_tr g (kp_eq _ (zF21_kp n x2 M14 _ _ hc3))
        by_cases q4 : v17 = 0
        · rw [if_pos q4] at h
          cases hc5 : zF22 n x2 M18 with
          | none => rw [hc5] at h; cases h
          | some w =>
            obtain ⟨v21, M22⟩ := w
            rw [hc5] at h
            dsimp only at h
            replace g := kp_tr g (kp_eq _ (zF22_kp n x2 M18 _ _ hc5))
            by_cases q6 : v21 = 0
            · rw [if_pos q6] at h
              cases hc7 : zF24 n x2 M22 with
              | none => rw [hc7] at h; cases h
              | some w =>
                obtain ⟨v25, M26⟩ := w
                rw [hc7] at h
                dsimp only at h
                replace g := kp_tr g (kp_eq _ (zF24_kp n x2 M22 _ _ hc7))
                by_cases q8 : v25 = 0
                · rw [if_pos q8] at h
                  exact kp_tr g (zJ28_338_kp n 0 M26 _ _ h)
                · rw [if_neg q8] at h
                  exact kp_tr g (zJ28_338_kp n 3 M26 _ _ h)
            · rw [if_neg q6] at h
              exact kp_tr g (zJ28_338_kp n 5 M22 _ _ h)
        · rw [if_neg q4] at h
          exact kp_tr g (zJ28_338_kp n 4 M18 _ _ h)
    · rw [if_neg q2] at h
      by_cases q9 : x5 = 1
      · rw [if_pos q9] at h
        exact kp_tr g (zJ28_282_kp n x4 M14 _ _ h)
      · rw [if_neg q9] at h
        by_cases q10 : x5 = 2
        · rw [if_pos q10] at h
          by_cases q11 : x2 = 48
          · rw [if_pos q11] at h
            exact kp_tr g (zJ28_286_kp n x4 M14 _ _ h)
          · rw [if_neg q11] at h
            exact kp_tr g (zJ28_282_kp n x4 M14 _ _ h)
        · rw [if_neg q10] at h
          exact kp_tr g (zJ28_286_kp n x4 M14 _ _ h)
set_option maxRecDepth 100000 in
theorem zJ28_240_kp (n : Nat) (x4 : Int) (s0 : Int) (M : ZM) (r : Unit) (m' : ZM) (h : zJ28_240 n x4 s0 M = some (r, m')) : kp (wl w28) M m' := by
  unfold zJ28_240 at h
  have g := kp_refl (wl w28) M
  replace g : kp (wl w28) M (z_i M 83 4 s0) := kp_i g (by simp [w28])
  rw [zlet] at h
  generalize z_i M 83 4 s0 = M36 at h g
  by_cases q1 : rg (1000 + x4)
  · rw [if_pos q1] at h
    replace g : kp (wl w28) M (z_i M36 83 5 (1000 + x4)) := kp_i g (by simp [w28])
    rw [zlet] at h
    generalize z_i M36 83 5 (1000 + x4) = M37 at h g
    exact kp_tr g (zJ28_341_kp n M37 _ _ h)
  · rw [if_neg q1] at h
    cases h
set_option maxRecDepth 100000 in
theorem zJ28_228_kp (n : Nat) (x4 : Int) (x5 : Int) (M : ZM) (r : Unit) (m' : ZM) (h : zJ28_228 n x4 x5 M = some (r, m')) : kp (wl w28) M m' := by
  unfold zJ28_228 at h
  have g := kp_refl (wl w28) M
  by_cases q1 : 3 < x5
  · rw [if_pos q1] at h
    exact kp_tr g (zJ28_240_kp n x4 0 M _ _ h)
  · rw [if_neg q1] at h
    exact kp_tr g (zJ28_240_kp n x4 1 M _ _ h)
set_option maxRecDepth 100000 in
theorem zJ28_213_kp (n : Nat) (x1 : Int) (M : ZM) (r : Unit) (m' : ZM) (h : zJ28_213 n x1 M = some (r, m')) : kp (wl w28) M m' := by
  unfold zJ28_213 at h
  have g := kp_refl (wl w28) M
  replace g : kp (wl w28) M (z_i M 83 7 x1) := kp_i g (by simp [w28])
  rw [zlet] at h
  generalize z_i M 83 7 x1 = M39 at h g
  exact kp_tr g (zJ28_341_kp n M39 _ _ h)
set_option maxRecDepth 100000 in
theorem zJ28_191_kp (n : Nat) (x1 : Int) (x2 : Int) (x4 : Int) (x5 : Int) (s0 : Int) (M : ZM) (r : Unit) (m' : ZM) (h : zJ28_191 n x1 x2 x4 x5 s0 M = some (r, m')) : kp (wl w28) M m' := by
  unfold zJ28_191 at h
  have g := kp_refl (wl w28) M
  replace g : kp (wl w28) M (z_i M 83 7 s0) := kp_i g (by simp [w28])
  rw [zlet] at h
  generalize z_i M 83 7 s0 = M6 at h g
  replace g : kp (wl w28) M (z_i M6 83 5 x2) := kp_i g (by simp [w28])
  rw [zlet] at h
  generalize z_i M6 83 5 x2 = M7 at h g
  by_cases q1 : x1 < (M7.1 83 3)
  · rw [if_pos q1] at h
    cases hc2 : zF25 n x2 M7 with
    | none => rw [hc2] at h; cases h
    | some w =>
      obtain ⟨v9, M10⟩ := w
      rw [hc2] at h
      dsimp only at h
      replace g := kp_tr g (kp_eq _ (zF25_kp n x2 M7 _ _ hc2))
      by_cases q3 : v9 = 0
      · rw [if_pos q3] at h
        exact kp_tr g (zJ28_256_kp n x2 x4 x5 M10 _ _ h)
      · rw [if_neg q3] at h
        exact kp_tr g (zJ28_228_kp n x4 x5 M10 _ _ h)
  · rw [if_neg q1] at h
    replace g : kp (wl w28) M (z_i M7 83 4 6) := kp_i g (by simp [w28])
    rw [zlet] at h
    generalize z_i M7 83 4 6 = M38 at h g
    exact kp_tr g (zJ28_213_kp n x1 M38 _ _ h)
set_option maxRecDepth 100000 in
theorem zJ28_173_kp (n : Nat) (x1 : Int) (x2 : Int) (x3 : Int) (x4 : Int) (M : ZM) (r : Unit) (m' : ZM) (h : zJ28_173 n x1 x2 x3 x4 M = some (r, m')) : kp (wl w28) M m' := by
  unfold zJ28_173 at h
  have g := kp_refl (wl w28) M
  by_cases q1 : rg (x3 - x1)
  · rw [if_pos q1] at h
    by_cases q2 : (x3 - x1) ≤ 0
    · rw [if_pos q2] at h
      by_cases q3 : rg (x1 + 1)
      · rw [if_pos q3] at h
        exact kp_tr g (zJ28_191_kp n x1 x2 x4 (x3 - x1) (x1 + 1) M _ _ h)
      · rw [if_neg q3] at h
        cases h
    · rw [if_neg q2] at h
      exact kp_tr g (zJ28_191_kp n x1 x2 x4 (x3 - x1) x3 M _ _ h)
  · rw [if_neg q1] at h
    cases h
set_option maxRecDepth 100000 in
theorem zJ28_164_kp (n : Nat) (zrec60 : Int → Int → Int → Int → ZM → Option (Unit × ZM)) (hrec60 : ∀ (c0 : Int) (c1 : Int) (c2 : Int) (c3 : Int) (c4 : ZM) (r : Unit) (m' : ZM), zrec60 c0 c1 c2 c3 c4 = some (r, m') → kp (wl w28) c4 m') (x1 : Int) (x2 : Int) (x3 : Int) (s0 : Int) (M : ZM) (r : Unit) (m' : ZM) (h : zJ28_164 n zrec60 x1 x2 x3 s0 M = some (r, m')) : kp (wl w28) M m' := by
  unfold zJ28_164 at h
  have g := kp_refl (wl w28) M
  by_cases q1 : rg (x3 + 1)
  · rw [if_pos q1] at h
    exact kp_tr g (hrec60 x1 x2 (x3 + 1) s0 M _ _ h)
  · rw [if_neg q1] at h
    cases h
set_option maxRecDepth 100000 in
theorem zJ28_149_kp (n : Nat) (zrec60 : Int → Int → Int → Int → ZM → Option (Unit × ZM)) (hrec60 : ∀ (c0 : Int) (c1 : Int) (c2 : Int) (c3 : Int) (c4 : ZM) (r : Unit) (m' : ZM), zrec60 c0 c1 c2 c3 c4 = some (r, m') → kp (wl w28) c4 m') (x1 : Int) (x2 : Int) (x3 : Int) (s0 : Int) (M : ZM) (r : Unit) (m' : ZM) (h : zJ28_149 n zrec60 x1 x2 x3 s0 M = some (r, m')) : kp (wl w28) M m' := by
  unfold zJ28_149 at h
  have g := kp_refl (wl w28) M
  by_cases q1 : rg (x3 - x1)
  · rw [if_pos q1] at h
    by_cases q2 : 4 ≤ (x3 - x1)
    · rw [if_pos q2] at h
      exact kp_tr g (zJ28_164_kp n zrec60 hrec60 x1 x2 x3 0 M _ _ h)
    · rw [if_neg q2] at h
      exact kp_tr g (zJ28_164_kp n zrec60 hrec60 x1 x2 x3 s0 M _ _ h)
  · rw [if_neg q1] at h
    cases h
set_option maxRecDepth 100000 in
theorem zJ28_109_kp (n : Nat) (zrec60 : Int → Int → Int → Int → ZM → Option (Unit × ZM)) (hrec60 : ∀ (c0 : Int) (c1 : Int) (c2 : Int) (c3 : Int) (c4 : ZM) (r : Unit) (m' : ZM), zrec60 c0 c1 c2 c3 c4 = some (r, m') → kp (wl w28) c4 m') (x1 : Int) (x2 : Int) (x3 : Int) (x4 : Int) (M : ZM) (r : Unit) (m' : ZM) (h : zJ28_109 n zrec60 x1 x2 x3 x4 M = some (r, m')) : kp (wl w28) M m' := by
  unfold zJ28_109 at h
  have g := kp_refl (wl w28) M
  cases hc1 : zF25 n x2 M with
  | none => rw [hc1] at h; cases h
  | some w =>
    obtain ⟨v53, M54⟩ := w
    rw [hc1] at h
    dsimp only at h
    replace g := kp_tr g (kp_eq _ (zF25_kp n x2 M _ _ hc1))
    by_cases q2 : v53 = 0
    · rw [if_pos q2] at h
      by_cases q3 : x3 < 0 ∨ 120 ≤ x3
      · rw [if_pos q3] at h
        cases h
      · rw [if_neg q3] at h
        by_cases q4 : rg (((x4 * 10) + (M54.1 85 (Int.toNat x3))) - 48)
        · rw [if_pos q4] at h
          exact kp_tr g (zJ28_149_kp n zrec60 hrec60 x1 x2 x3 (((x4 * 10) + (M54.1 85 (Int.toNat x3))) - 48) M54 _ _ h)
        · rw [if_neg q4] at h
          cases h
    · rw [if_neg q2] at h
      by_cases q5 : x3 < 0 ∨ 120 ≤ x3
      · rw [if_pos q5] at h
        cases h
      · rw [if_neg q5] at h
        by_cases q6 : rg (((x4 * 27) + (M54.1 85 (Int.toNat x3))) - 96)
        · rw [if_pos q6] at h
          exact kp_tr g (zJ28_149_kp n zrec60 hrec60 x1 x2 x3 (((x4 * 27) + (M54.1 85 (Int.toNat x3))) - 96) M54 _ _ h)
        · rw [if_neg q6] at h
          cases h
set_option maxRecDepth 100000 in
theorem zJ28_97_kp (n : Nat) (zrec60 : Int → Int → Int → Int → ZM → Option (Unit × ZM)) (hrec60 : ∀ (c0 : Int) (c1 : Int) (c2 : Int) (c3 : Int) (c4 : ZM) (r : Unit) (m' : ZM), zrec60 c0 c1 c2 c3 c4 = some (r, m') → kp (wl w28) c4 m') (x1 : Int) (x2 : Int) (x3 : Int) (x4 : Int) (M : ZM) (r : Unit) (m' : ZM) (h : zJ28_97 n zrec60 x1 x2 x3 x4 M = some (r, m')) : kp (wl w28) M m' := by
  unfold zJ28_97 at h
  have g := kp_refl (wl w28) M
  by_cases q1 : x3 < 0 ∨ 120 ≤ x3
  · rw [if_pos q1] at h
    cases h
  · rw [if_neg q1] at h
    cases hc2 : zF26 n (M.1 85 (Int.toNat x3)) M with
    | none => rw [hc2] at h; cases h
    | some w =>
      obtain ⟨v49, M50⟩ := w
      rw [hc2] at h
      dsimp only at h
      replace g := kp_tr g (kp_eq _ (zF26_kp n (M.1 85 (Int.toNat x3)) M _ _ hc2))
      by_cases q3 : v49 = 0
      · rw [if_pos q3] at h
        exact kp_tr g (zJ28_173_kp n x1 x2 x3 x4 M50 _ _ h)
      · rw [if_neg q3] at h
        exact kp_tr g (zJ28_109_kp n zrec60 hrec60 x1 x2 x3 x4 M50 _ _ h)
set_option maxRecDepth 100000 in
theorem zL28_60_kp (n : Nat) : ∀ (k : Nat) (x1 : Int) (x2 : Int) (x3 : Int) (x4 : Int) (M : ZM) (r : Unit) (m' : ZM), zL28_60 n k x1 x2 x3 x4 M = some (r, m') → kp (wl w28) M m' := by
  intro k
  induction k with
  | zero => intro x1 x2 x3 x4 M r m' h; cases h
  | succ k ih =>
    intro x1 x2 x3 x4 M r m' h
    rw [zL28_60] at h
    have g := kp_refl (wl w28) M
    by_cases q1 : (M.1 83 3) ≤ x3
    · rw [if_pos q1] at h
      exact kp_tr g (zJ28_173_kp n x1 x2 x3 x4 M _ _ h)
    · rw [if_neg q1] at h
      cases hc2 : zF25 n x2 M with
      | none => rw [hc2] at h; cases h
      | some w =>
        obtain ⟨v40, M41⟩ := w
        rw [hc2] at h
        dsimp only at h
        replace g := kp_tr g (kp_eq _ (zF25_kp n x2 M _ _ hc2))
        by_cases q3 : v40 = 0
        · rw [if_pos q3] at h
          cases hc4 : zF26 n x2 M41 with
          | none => rw [hc4] at h; cases h
          | some w =>
            obtain ⟨v44, M45⟩ := w
            rw [hc4] at h
            dsimp only at h
            replace g := kp_tr g (kp_eq _ (zF26_kp n x2 M41 _ _ hc4))
            by_cases q5 : v44 = 0
            · rw [if_pos q5] at h
              exact kp_tr g (zJ28_173_kp n x1 x2 x3 x4 M45 _ _ h)
            · rw [if_neg q5] at h
              exact kp_tr g (zJ28_97_kp n (zL28_60 n k) ih x1 x2 x3 x4 M45 _ _ h)
        · rw [if_neg q3] at h
          by_cases q6 : x3 < 0 ∨ 120 ≤ x3
          · rw [if_pos q6] at h
            cases h
          · rw [if_neg q6] at h
            cases hc7 : zF25 n (M41.1 85 (Int.toNat x3)) M41 with
            | none => rw [hc7] at h; cases h
            | some w =>
              obtain ⟨v61, M62⟩ := w
              rw [hc7] at h
              dsimp only at h
              replace g := kp_tr g (kp_eq _ (zF25_kp n (M41.1 85 (Int.toNat x3)) M41 _ _ hc7))
              by_cases q8 : v61 = 0
              · rw [if_pos q8] at h
                exact kp_tr g (zJ28_173_kp n x1 x2 x3 x4 M62 _ _ h)
              · rw [if_neg q8] at h
                exact kp_tr g (zJ28_109_kp n (zL28_60 n k) ih x1 x2 x3 x4 M62 _ _ h)
set_option maxRecDepth 100000 in
theorem zJ28_54_kp (n : Nat) (x1 : Int) (s0 : Int) (M : ZM) (r : Unit) (m' : ZM) (h : zJ28_54 n x1 s0 M = some (r, m')) : kp (wl w28) M m' := by
  unfold zJ28_54 at h
  have g := kp_refl (wl w28) M
  exact kp_tr g (zL28_60_kp n n x1 s0 x1 0 M _ _ h)
set_option maxRecDepth 100000 in
theorem zJ28_31_kp (n : Nat) (x1 : Int) (M : ZM) (r : Unit) (m' : ZM) (h : zJ28_31 n x1 M = some (r, m')) : kp (wl w28) M m' := by
  unfold zJ28_31 at h
  have g := kp_refl (wl w28) M
  replace g : kp (wl w28) M (z_i M 83 6 x1) := kp_i g (by simp [w28])
  rw [zlet] at h
  generalize z_i M 83 6 x1 = M2 at h g
  by_cases q1 : (M2.1 83 3) ≤ x1
  · rw [if_pos q1] at h
    exact kp_tr g (zJ28_54_kp n x1 0 M2 _ _ h)
  · rw [if_neg q1] at h
    by_cases q2 : x1 < 0 ∨ 120 ≤ x1
    · rw [if_pos q2] at h
      cases h
    · rw [if_neg q2] at h
      exact kp_tr g (zJ28_54_kp n x1 (M2.1 85 (Int.toNat x1)) M2 _ _ h)
set_option maxRecDepth 100000 in
theorem zL28_5_kp (n : Nat) : ∀ (k : Nat) (x1 : Int) (M : ZM) (r : Unit) (m' : ZM), zL28_5 n k x1 M = some (r, m') → kp (wl w28) M m' := by
  intro k
  induction k with
  | zero => intro x1 M r m' h; cases h
  | succ k ih =>
    intro x1 M r m' h
    rw [zL28_5] at h
    have g := kp_refl (wl w28) M
    by_cases q1 : (M.1 83 3) ≤ x1
    · rw [if_pos q1] at h
      exact kp_tr g (zJ28_31_kp n x1 M _ _ h)
    · rw [if_neg q1] at h
      by_cases q2 : x1 < 0 ∨ 120 ≤ x1
      · rw [if_pos q2] at h
        cases h
      · rw [if_neg q2] at h
        by_cases q3 : (M.1 85 (Int.toNat x1)) = 32
        · rw [if_pos q3] at h
          by_cases q4 : rg (x1 + 1)
          · rw [if_pos q4] at h
            exact kp_tr g (ih (x1 + 1) M _ _ h)
          · rw [if_neg q4] at h
            cases h
        · rw [if_neg q3] at h
          exact kp_tr g (zJ28_31_kp n x1 M _ _ h)
set_option maxRecDepth 100000 in
theorem zF28_kp (n : Nat) (M : ZM) (r : Unit) (m' : ZM) (h : zF28 n M = some (r, m')) : kp (wl w28) M m' := by
  unfold zF28 at h
  have g := kp_refl (wl w28) M
  exact kp_tr g (zL28_5_kp n n (M.1 83 7) M _ _ h)
def w29 : List (Nat × Nat) := [(83, 8)]
set_option maxRecDepth 100000 in
theorem zF29_kp (n : Nat) (M : ZM) (r : Int) (m' : ZM) (h : zF29 n M = some (r, m')) : kp (wl w29) M m' := by
  unfold zF29 at h
  have g := kp_refl (wl w29) M
  replace g : kp (wl w29) M (z_i M 83 8 (M.1 83 6)) := kp_i g (by simp [w29])
  rw [zlet] at h
  generalize z_i M 83 8 (M.1 83 6) = M1 at h g
  rw [← (Prod.mk.inj (Option.some.inj h)).2]
  exact g
def w30 : List (Nat × Nat) := [(83, 4), (83, 5), (83, 6), (83, 7), (83, 8)]
set_option maxRecDepth 100000 in
theorem zF30_kp (n : Nat) (a0 : Int) (M : ZM) (r : Int) (m' : ZM) (h : zF30 n a0 M = some (r, m')) : kp (wl w30) M m' := by
  unfold zF30 at h
  have g := kp_refl (wl w30) M
  by_cases q1 : a0 = 0
  · rw [if_pos q1] at h
    cases hc2 : zF29 n M with
    | none => rw [hc2] at h; cases h
    | some w =>
      obtain ⟨v2, M3⟩ := w
      rw [hc2] at h
      dsimp only at h
      replace g := kp_tr g (kp_sub (by simp [w29, w30]) (zF29_kp n M _ _ hc2))
      by_cases q3 : v2 = 0 ∨ v2 = 1
      · rw [if_pos q3] at h
        rw [← (Prod.mk.inj (Option.some.inj h)).2]
        exact g
      · rw [if_neg q3] at h
        cases h
  · rw [if_neg q1] at h
    cases hc4 : zF28 n M with
    | none => rw [hc4] at h; cases h
    | some w =>
      obtain ⟨v6, M7⟩ := w
      rw [hc4] at h
      dsimp only at h
      replace g := kp_tr g (kp_sub (by simp [w28, w30]) (zF28_kp n M _ _ hc4))
      rw [← (Prod.mk.inj (Option.some.inj h)).2]
      exact g
set_option maxRecDepth 100000 in
theorem zJ31_29_kp (n : Nat) (s0 : Int) (M : ZM) (r : Int) (m' : ZM) (h : zJ31_29 n s0 M = some (r, m')) : m' = M := by
  unfold zJ31_29 at h
  have g : M = M := rfl
  by_cases q1 : s0 = 0 ∨ s0 = 1
  · rw [if_pos q1] at h
    exact (Prod.mk.inj (Option.some.inj h)).2.symm.trans g
  · rw [if_neg q1] at h
    cases h
set_option maxRecDepth 100000 in
theorem zJ31_28_kp (n : Nat) (M : ZM) (r : Int) (m' : ZM) (h : zJ31_28 n M = some (r, m')) : m' = M := by
  unfold zJ31_28 at h
  have g : M = M := rfl
  exact (zJ31_29_kp n 0 M _ _ h).trans g
set_option maxRecDepth 100000 in
theorem zJ31_24_kp (n : Nat) (M : ZM) (r : Int) (m' : ZM) (h : zJ31_24 n M = some (r, m')) : m' = M := by
  unfold zJ31_24 at h
  have g : M = M := rfl
  exact (zJ31_29_kp n 1 M _ _ h).trans g
set_option maxRecDepth 100000 in
theorem zF31_kp (n : Nat) (a0 : Int) (M : ZM) (r : Int) (m' : ZM) (h : zF31 n a0 M = some (r, m')) : m' = M := by
  unfold zF31 at h
  have g : M = M := rfl
  by_cases q1 : (M.1 83 4) < 3
  · rw [if_pos q1] at h
    exact (zJ31_28_kp n M _ _ h).trans g
  · rw [if_neg q1] at h
    by_cases q2 : 5 < (M.1 83 4)
    · rw [if_pos q2] at h
      exact (zJ31_28_kp n M _ _ h).trans g
    · rw [if_neg q2] at h
      by_cases q3 : (M.1 83 5) = a0
      · rw [if_pos q3] at h
        exact (zJ31_24_kp n M _ _ h).trans g
      · rw [if_neg q3] at h
        exact (zJ31_28_kp n M _ _ h).trans g
def w32 : List (Nat × Nat) := [(83, 1), (83, 3), (83, 4), (83, 5), (83, 6), (83, 7), (83, 8), (85, 1000)]
set_option maxRecDepth 100000 in
theorem zJ32_46_kp (n : Nat) (M : ZM) (r : Unit) (m' : ZM) (h : zJ32_46 n M = some (r, m')) : kp (wl w32) M m' := by
  unfold zJ32_46 at h
  have g := kp_refl (wl w32) M
  replace g : kp (wl w32) M (z_i M 83 7 0) := kp_i g (by simp [w32])
  rw [zlet] at h
  generalize z_i M 83 7 0 = M5 at h g
  cases hc1 : zF28 n M5 with
  | none => rw [hc1] at h; cases h
  | some w =>
    obtain ⟨v6, M7⟩ := w
    rw [hc1] at h
    dsimp only at h
    replace g := kp_tr g (kp_sub (by simp [w28, w32]) (zF28_kp n M5 _ _ hc1))
    rw [← (Prod.mk.inj (Option.some.inj h)).2]
    exact g
set_option maxRecDepth 100000 in
theorem zJ32_30_kp (n : Nat) (zrec10 : Int → ZM → Option (Unit × ZM)) (hrec10 : ∀ (c0 : Int) (c1 : ZM) (r : Unit) (m' : ZM), zrec10 c0 c1 = some (r, m') → kp (wl w32) c1 m') (x1 : Int) (M : ZM) (r : Unit) (m' : ZM) (h : zJ32_30 n zrec10 x1 M = some (r, m')) : kp (wl w32) M m' := by
  unfold zJ32_30 at h
  have g := kp_refl (wl w32) M
  by_cases q1 : rg (x1 + 1)
  · rw [if_pos q1] at h
    exact kp_tr g (hrec10 (x1 + 1) M _ _ h)
  · rw [if_neg q1] at h
    cases h
set_option maxRecDepth 100000 in
theorem zL32_10_kp (n : Nat) : ∀ (k : Nat) (x1 : Int) (M : ZM) (r : Unit) (m' : ZM), zL32_10 n k x1 M = some (r, m') → kp (wl w32) M m' := by
  intro k
  induction k with
  | zero => intro x1 M r m' h; cases h
  | succ k ih =>
    intro x1 M r m' h
    rw [zL32_10] at h
    have g := kp_refl (wl w32) M
    by_cases q1 : (M.1 83 1) ≤ x1
    · rw [if_pos q1] at h
      replace g : kp (wl w32) M (z_i M 83 1 0) := kp_i g (by simp [w32])
      rw [zlet] at h
      generalize z_i M 83 1 0 = M3 at h g
      replace g : kp (wl w32) M (z_i M3 83 8 (-1)) := kp_i g (by simp [w32])
      rw [zlet] at h
      generalize z_i M3 83 8 (-1) = M4 at h g
      exact kp_tr g (zJ32_46_kp n M4 _ _ h)
    · rw [if_neg q1] at h
      by_cases q2 : x1 < 0 ∨ 120 ≤ x1
      · rw [if_pos q2] at h
        cases h
      · rw [if_neg q2] at h
        replace g : kp (wl w32) M (z_i M 85 (Int.toNat x1) (M.1 84 (Int.toNat x1))) := kp_ia g (by simp [w32])
        rw [zlet] at h
        generalize z_i M 85 (Int.toNat x1) (M.1 84 (Int.toNat x1)) = M11 at h g
        exact kp_tr g (zJ32_30_kp n (zL32_10 n k) ih x1 M11 _ _ h)
set_option maxRecDepth 100000 in
theorem zF32_kp (n : Nat) (M : ZM) (r : Unit) (m' : ZM) (h : zF32 n M = some (r, m')) : kp (wl w32) M m' := by
  unfold zF32 at h
  have g := kp_refl (wl w32) M
  replace g : kp (wl w32) M (z_i M 83 3 (M.1 83 1)) := kp_i g (by simp [w32])
  rw [zlet] at h
  generalize z_i M 83 3 (M.1 83 1) = M1 at h g
  exact kp_tr g (zL32_10_kp n n 0 M1 _ _ h)
def w35 : List (Nat × Nat) := [(83, 32), (90, 1000), (91, 1000), (92, 1000), (93, 1000), (94, 1000), (95, 1000), (96, 1000)]
set_option maxRecDepth 100000 in
theorem zJ35_63_kp (n : Nat) (M : ZM) (r : Unit) (m' : ZM) (h : zJ35_63 n M = some (r, m')) : kp (wl w35) M m' := by
  unfold zJ35_63 at h
  have g := kp_refl (wl w35) M
  by_cases q1 : (M.1 83 32) < 0 ∨ 128 ≤ (M.1 83 32)
  · rw [if_pos q1] at h
    cases h
  · rw [if_neg q1] at h
    replace g : kp (wl w35) M (z_i M 96 (Int.toNat (M.1 83 32)) (M.1 83 31)) := kp_ia g (by simp [w35])
    rw [zlet] at h
    generalize z_i M 96 (Int.toNat (M.1 83 32)) (M.1 83 31) = M14 at h g
    by_cases q2 : rg ((M14.1 83 32) + 1)
    · rw [if_pos q2] at h
      replace g : kp (wl w35) M (z_i M14 83 32 ((M14.1 83 32) + 1)) := kp_i g (by simp [w35])
      rw [zlet] at h
      generalize z_i M14 83 32 ((M14.1 83 32) + 1) = M15 at h g
      rw [← (Prod.mk.inj (Option.some.inj h)).2]
      exact g
    · rw [if_neg q2] at h
      cases h
set_option maxRecDepth 100000 in
theorem zJ35_40_kp (n : Nat) (x3 : Int) (M : ZM) (r : Unit) (m' : ZM) (h : zJ35_40 n x3 M = some (r, m')) : kp (wl w35) M m' := by
  unfold zJ35_40 at h
  have g := kp_refl (wl w35) M
  by_cases q1 : (M.1 83 32) < 0 ∨ 128 ≤ (M.1 83 32)
  · rw [if_pos q1] at h
    cases h
  · rw [if_neg q1] at h
    replace g : kp (wl w35) M (z_i M 94 (Int.toNat (M.1 83 32)) x3) := kp_ia g (by simp [w35])
    rw [zlet] at h
    generalize z_i M 94 (Int.toNat (M.1 83 32)) x3 = M10 at h g
    by_cases q2 : (M10.1 83 32) < 0 ∨ 128 ≤ (M10.1 83 32)
    · rw [if_pos q2] at h
      cases h
    · rw [if_neg q2] at h
      replace g : kp (wl w35) M (z_i M10 95 (Int.toNat (M10.1 83 32)) (M10.1 83 30)) := kp_ia g (by simp [w35])
      rw [zlet] at h
      generalize z_i M10 95 (Int.toNat (M10.1 83 32)) (M10.1 83 30) = M12 at h g
      exact kp_tr g (zJ35_63_kp n M12 _ _ h)
set_option maxRecDepth 100000 in
theorem zJ35_20_kp (n : Nat) (x3 : Int) (M : ZM) (r : Unit) (m' : ZM) (h : zJ35_20 n x3 M = some (r, m')) : kp (wl w35) M m' := by
  unfold zJ35_20 at h
  have g := kp_refl (wl w35) M
  by_cases q1 : (M.1 83 32) < 0 ∨ 128 ≤ (M.1 83 32)
  · rw [if_pos q1] at h
    cases h
  · rw [if_neg q1] at h
    replace g : kp (wl w35) M (z_i M 92 (Int.toNat (M.1 83 32)) (-1)) := kp_ia g (by simp [w35])
    rw [zlet] at h
    generalize z_i M 92 (Int.toNat (M.1 83 32)) (-1) = M6 at h g
    by_cases q2 : (M6.1 83 32) < 0 ∨ 128 ≤ (M6.1 83 32)
    · rw [if_pos q2] at h
      cases h
    · rw [if_neg q2] at h
      replace g : kp (wl w35) M (z_i M6 93 (Int.toNat (M6.1 83 32)) 0) := kp_ia g (by simp [w35])
      rw [zlet] at h
      generalize z_i M6 93 (Int.toNat (M6.1 83 32)) 0 = M8 at h g
      exact kp_tr g (zJ35_40_kp n x3 M8 _ _ h)
set_option maxRecDepth 100000 in
theorem zF35_kp (n : Nat) (a0 : Int) (a1 : Int) (a2 : Int) (M : ZM) (r : Unit) (m' : ZM) (h : zF35 n a0 a1 a2 M = some (r, m')) : kp (wl w35) M m' := by
  unfold zF35 at h
  have g := kp_refl (wl w35) M
  by_cases q1 : (M.1 83 32) < 0 ∨ 128 ≤ (M.1 83 32)
  · rw [if_pos q1] at h
    cases h
  · rw [if_neg q1] at h
    replace g : kp (wl w35) M (z_i M 90 (Int.toNat (M.1 83 32)) a0) := kp_ia g (by simp [w35])
    rw [zlet] at h
    generalize z_i M 90 (Int.toNat (M.1 83 32)) a0 = M2 at h g
    by_cases q2 : (M2.1 83 32) < 0 ∨ 128 ≤ (M2.1 83 32)
    · rw [if_pos q2] at h
      cases h
    · rw [if_neg q2] at h
      replace g : kp (wl w35) M (z_i M2 91 (Int.toNat (M2.1 83 32)) a1) := kp_ia g (by simp [w35])
      rw [zlet] at h
      generalize z_i M2 91 (Int.toNat (M2.1 83 32)) a1 = M4 at h g
      exact kp_tr g (zJ35_20_kp n a2 M4 _ _ h)
def w36 : List (Nat × Nat) := [(100, 1000), (101, 1000), (102, 1000), (83, 32), (97, 1000), (98, 1000), (99, 1000)]
set_option maxRecDepth 100000 in
theorem zJ36_66_kp (n : Nat) (M : ZM) (r : Unit) (m' : ZM) (h : zJ36_66 n M = some (r, m')) : kp (wl w36) M m' := by
  unfold zJ36_66 at h
  have g := kp_refl (wl w36) M
  by_cases q1 : rg ((M.1 83 32) + 1)
  · rw [if_pos q1] at h
    replace g : kp (wl w36) M (z_i M 83 32 ((M.1 83 32) + 1)) := kp_i g (by simp [w36])
    rw [zlet] at h
    generalize z_i M 83 32 ((M.1 83 32) + 1) = M13 at h g
    rw [← (Prod.mk.inj (Option.some.inj h)).2]
    exact g
  · rw [if_neg q1] at h
    cases h
set_option maxRecDepth 100000 in
theorem zJ36_40_kp (n : Nat) (M : ZM) (r : Unit) (m' : ZM) (h : zJ36_40 n M = some (r, m')) : kp (wl w36) M m' := by
  unfold zJ36_40 at h
  have g := kp_refl (wl w36) M
  by_cases q1 : (M.1 83 32) < 0 ∨ 128 ≤ (M.1 83 32)
  · rw [if_pos q1] at h
    cases h
  · rw [if_neg q1] at h
    replace g : kp (wl w36) M (z_i M 101 (Int.toNat (M.1 83 32)) (M.1 83 30)) := kp_ia g (by simp [w36])
    rw [zlet] at h
    generalize z_i M 101 (Int.toNat (M.1 83 32)) (M.1 83 30) = M10 at h g
    by_cases q2 : (M10.1 83 32) < 0 ∨ 128 ≤ (M10.1 83 32)
    · rw [if_pos q2] at h
      cases h
    · rw [if_neg q2] at h
      replace g : kp (wl w36) M (z_i M10 102 (Int.toNat (M10.1 83 32)) (M10.1 83 31)) := kp_ia g (by simp [w36])
      rw [zlet] at h
      generalize z_i M10 102 (Int.toNat (M10.1 83 32)) (M10.1 83 31) = M12 at h g
      exact kp_tr g (zJ36_66_kp n M12 _ _ h)
set_option maxRecDepth 100000 in
theorem zJ36_20_kp (n : Nat) (M : ZM) (r : Unit) (m' : ZM) (h : zJ36_20 n M = some (r, m')) : kp (wl w36) M m' := by
  unfold zJ36_20 at h
  have g := kp_refl (wl w36) M
  by_cases q1 : (M.1 83 32) < 0 ∨ 128 ≤ (M.1 83 32)
  · rw [if_pos q1] at h
    cases h
  · rw [if_neg q1] at h
    replace g : kp (wl w36) M (z_i M 99 (Int.toNat (M.1 83 32)) (-1)) := kp_ia g (by simp [w36])
    rw [zlet] at h
    generalize z_i M 99 (Int.toNat (M.1 83 32)) (-1) = M6 at h g
    by_cases q2 : (M6.1 83 32) < 0 ∨ 128 ≤ (M6.1 83 32)
    · rw [if_pos q2] at h
      cases h
    · rw [if_neg q2] at h
      replace g : kp (wl w36) M (z_i M6 100 (Int.toNat (M6.1 83 32)) 0) := kp_ia g (by simp [w36])
      rw [zlet] at h
      generalize z_i M6 100 (Int.toNat (M6.1 83 32)) 0 = M8 at h g
      exact kp_tr g (zJ36_40_kp n M8 _ _ h)
set_option maxRecDepth 100000 in
theorem zF36_kp (n : Nat) (a0 : Int) (a1 : Int) (M : ZM) (r : Unit) (m' : ZM) (h : zF36 n a0 a1 M = some (r, m')) : kp (wl w36) M m' := by
  unfold zF36 at h
  have g := kp_refl (wl w36) M
  by_cases q1 : (M.1 83 32) < 0 ∨ 128 ≤ (M.1 83 32)
  · rw [if_pos q1] at h
    cases h
  · rw [if_neg q1] at h
    replace g : kp (wl w36) M (z_i M 97 (Int.toNat (M.1 83 32)) a0) := kp_ia g (by simp [w36])
    rw [zlet] at h
    generalize z_i M 97 (Int.toNat (M.1 83 32)) a0 = M2 at h g
    by_cases q2 : (M2.1 83 32) < 0 ∨ 128 ≤ (M2.1 83 32)
    · rw [if_pos q2] at h
      cases h
    · rw [if_neg q2] at h
      replace g : kp (wl w36) M (z_i M2 98 (Int.toNat (M2.1 83 32)) a1) := kp_ia g (by simp [w36])
      rw [zlet] at h
      generalize z_i M2 98 (Int.toNat (M2.1 83 32)) a1 = M4 at h g
      exact kp_tr g (zJ36_20_kp n M4 _ _ h)
def w37 : List (Nat × Nat) := [(103, 1000), (104, 1000), (83, 4), (83, 5), (83, 6), (83, 7), (83, 8), (83, 27)]
set_option maxRecDepth 100000 in
theorem zJ37_49_kp (n : Nat) (M : ZM) (r : Int) (m' : ZM) (h : zJ37_49 n M = some (r, m')) : kp (wl w37) M m' := by
  unfold zJ37_49 at h
  have g := kp_refl (wl w37) M
  cases hc1 : zF28 n M with
  | none => rw [hc1] at h; cases h
  | some w =>
    obtain ⟨v7, M8⟩ := w
    rw [hc1] at h
    dsimp only at h
    replace g := kp_tr g (kp_sub (by simp [w28, w37]) (zF28_kp n M _ _ hc1))
    rw [← (Prod.mk.inj (Option.some.inj h)).2]
    exact g
set_option maxRecDepth 100000 in
theorem zJ37_29_kp (n : Nat) (x1 : Int) (M : ZM) (r : Int) (m' : ZM) (h : zJ37_29 n x1 M = some (r, m')) : kp (wl w37) M m' := by
  unfold zJ37_29 at h
  have g := kp_refl (wl w37) M
  by_cases q1 : (M.1 83 27) < 0 ∨ 16 ≤ (M.1 83 27)
  · rw [if_pos q1] at h
    cases h
  · rw [if_neg q1] at h
    replace g : kp (wl w37) M (z_i M 104 (Int.toNat (M.1 83 27)) x1) := kp_ia g (by simp [w37])
    rw [zlet] at h
    generalize z_i M 104 (Int.toNat (M.1 83 27)) x1 = M5 at h g
    by_cases q2 : rg ((M5.1 83 27) + 1)
    · rw [if_pos q2] at h
      replace g : kp (wl w37) M (z_i M5 83 27 ((M5.1 83 27) + 1)) := kp_i g (by simp [w37])
      rw [zlet] at h
      generalize z_i M5 83 27 ((M5.1 83 27) + 1) = M6 at h g
      exact kp_tr g (zJ37_49_kp n M6 _ _ h)
    · rw [if_neg q2] at h
      cases h
set_option maxRecDepth 100000 in
theorem zF37_kp (n : Nat) (a0 : Int) (M : ZM) (r : Int) (m' : ZM) (h : zF37 n a0 M = some (r, m')) : kp (wl w37) M m' := by
  unfold zF37 at h
  have g := kp_refl (wl w37) M
  by_cases q1 : rg ((M.1 83 27) + 1)
  · rw [if_pos q1] at h
    by_cases q2 : ((M.1 83 27) + 1) ≤ 9
    · rw [if_pos q2] at h
      by_cases q3 : (M.1 83 27) < 0 ∨ 16 ≤ (M.1 83 27)
      · rw [if_pos q3] at h
        cases h
      · rw [if_neg q3] at h
        replace g : kp (wl w37) M (z_i M 103 (Int.toNat (M.1 83 27)) (M.1 83 5)) := kp_ia g (by simp [w37])
        rw [zlet] at h
        generalize z_i M 103 (Int.toNat (M.1 83 27)) (M.1 83 5) = M3 at h g
        exact kp_tr g (zJ37_29_kp n a0 M3 _ _ h)
    · rw [if_neg q2] at h
      cases hc4 : zF29 n M with
      | none => rw [hc4] at h; cases h
      | some w =>
        obtain ⟨v10, M11⟩ := w
        rw [hc4] at h
        dsimp only at h
        replace g := kp_tr g (kp_sub (by simp [w29, w37]) (zF29_kp n M _ _ hc4))
        by_cases q5 : v10 = 0 ∨ v10 = 1
        · rw [if_pos q5] at h
          rw [← (Prod.mk.inj (Option.some.inj h)).2]
          exact g
        · rw [if_neg q5] at h
          cases h
  · rw [if_neg q1] at h
    cases h
def w38 : List (Nat × Nat) := [(83, 30), (83, 31)]
set_option maxRecDepth 100000 in
theorem zJ38_32_kp (n : Nat) (s0 : Int) (M : ZM) (r : Unit) (m' : ZM) (h : zJ38_32 n s0 M = some (r, m')) : kp (wl w38) M m' := by
  unfold zJ38_32 at h
  have g := kp_refl (wl w38) M
  replace g : kp (wl w38) M (z_i M 83 30 s0) := kp_i g (by simp [w38])
  rw [zlet] at h
  generalize z_i M 83 30 s0 = M4 at h g
  rw [← (Prod.mk.inj (Option.some.inj h)).2]
  exact g
set_option maxRecDepth 100000 in
theorem zJ38_13_kp (n : Nat) (x1 : Int) (s0 : Int) (M : ZM) (r : Unit) (m' : ZM) (h : zJ38_13 n x1 s0 M = some (r, m')) : kp (wl w38) M m' := by
  unfold zJ38_13 at h
  have g := kp_refl (wl w38) M
  replace g : kp (wl w38) M (z_i M 83 31 s0) := kp_i g (by simp [w38])
  rw [zlet] at h
  generalize z_i M 83 31 s0 = M2 at h g
  by_cases q1 : (M2.1 83 30) < 0
  · rw [if_pos q1] at h
    exact kp_tr g (zJ38_32_kp n x1 M2 _ _ h)
  · rw [if_neg q1] at h
    exact kp_tr g (zJ38_32_kp n (M2.1 83 30) M2 _ _ h)
set_option maxRecDepth 100000 in
theorem zF38_kp (n : Nat) (a0 : Int) (M : ZM) (r : Unit) (m' : ZM) (h : zF38 n a0 M = some (r, m')) : kp (wl w38) M m' := by
  unfold zF38 at h
  have g := kp_refl (wl w38) M
  by_cases q1 : (M.1 83 30) < 0
  · rw [if_pos q1] at h
    exact kp_tr g (zJ38_13_kp n a0 (-1) M _ _ h)
  · rw [if_neg q1] at h
    exact kp_tr g (zJ38_13_kp n a0 a0 M _ _ h)
def w39 : List (Nat × Nat) := [(83, 30), (83, 31)]
set_option maxRecDepth 100000 in
theorem zJ39_16_kp (n : Nat) (s0 : Int) (M : ZM) (r : Unit) (m' : ZM) (h : zJ39_16 n s0 M = some (r, m')) : kp (wl w39) M m' := by
  unfold zJ39_16 at h
  have g := kp_refl (wl w39) M
  replace g : kp (wl w39) M (z_i M 83 30 s0) := kp_i g (by simp [w39])
  rw [zlet] at h
  generalize z_i M 83 30 s0 = M2 at h g
  replace g : kp (wl w39) M (z_i M2 83 31 (-1)) := kp_i g (by simp [w39])
  rw [zlet] at h
  generalize z_i M2 83 31 (-1) = M3 at h g
  rw [← (Prod.mk.inj (Option.some.inj h)).2]
  exact g
set_option maxRecDepth 100000 in
theorem zF39_kp (n : Nat) (M : ZM) (r : Unit) (m' : ZM) (h : zF39 n M = some (r, m')) : kp (wl w39) M m' := by
  unfold zF39 at h
  have g := kp_refl (wl w39) M
  by_cases q1 : (M.1 83 31) < 0
  · rw [if_pos q1] at h
    exact kp_tr g (zJ39_16_kp n (-1) M _ _ h)
  · rw [if_neg q1] at h
    exact kp_tr g (zJ39_16_kp n (M.1 83 30) M _ _ h)
def w40 : List (Nat × Nat) := [(83, 4), (83, 5), (83, 6), (83, 7), (83, 8)]
set_option maxRecDepth 100000 in
theorem zJ40_146_kp (n : Nat) (s0 : Int) (M : ZM) (r : Int) (m' : ZM) (h : zJ40_146 n s0 M = some (r, m')) : kp (wl w40) M m' := by
  unfold zJ40_146 at h
  have g := kp_refl (wl w40) M
  rw [← (Prod.mk.inj (Option.some.inj h)).2]
  exact g
set_option maxRecDepth 100000 in
theorem zJ40_129_kp (n : Nat) (x1 : Int) (x2 : Int) (s0 : Int) (M : ZM) (r : Int) (m' : ZM) (h : zJ40_129 n x1 x2 s0 M = some (r, m')) : kp (wl w40) M m' := by
  unfold zJ40_129 at h
  have g := kp_refl (wl w40) M
  cases hc1 : zF30 n s0 M with
  | none => rw [hc1] at h; cases h
  | some w =>
    obtain ⟨v31, M32⟩ := w
    rw [hc1] at h
    dsimp only at h
    replace g := kp_tr g (kp_sub (by simp [w30, w40]) (zF30_kp n s0 M _ _ hc1))
    by_cases q2 : v31 = 0
    · rw [if_pos q2] at h
      exact kp_tr g (zJ40_146_kp n (-1) M32 _ _ h)
    · rw [if_neg q2] at h
      by_cases q3 : rg ((256 * x2) + x1)
      · rw [if_pos q3] at h
        exact kp_tr g (zJ40_146_kp n ((256 * x2) + x1) M32 _ _ h)
      · rw [if_neg q3] at h
        cases h
set_option maxRecDepth 100000 in
theorem zJ40_118_kp (n : Nat) (x2 : Int) (s0 : Int) (M : ZM) (r : Int) (m' : ZM) (h : zJ40_118 n x2 s0 M = some (r, m')) : kp (wl w40) M m' := by
  unfold zJ40_118 at h
  have g := kp_refl (wl w40) M
  by_cases q1 : s0 ≤ 0
  · rw [if_pos q1] at h
    exact kp_tr g (zJ40_129_kp n s0 x2 0 M _ _ h)
  · rw [if_neg q1] at h
    exact kp_tr g (zJ40_129_kp n s0 x2 1 M _ _ h)
set_option maxRecDepth 100000 in
theorem zJ40_104_kp (n : Nat) (x2 : Int) (M : ZM) (r : Int) (m' : ZM) (h : zJ40_104 n x2 M = some (r, m')) : kp (wl w40) M m' := by
  unfold zJ40_104 at h
  have g := kp_refl (wl w40) M
  cases hc1 : zF31 n 43 M with
  | none => rw [hc1] at h; cases h
  | some w =>
    obtain ⟨v26, M27⟩ := w
    rw [hc1] at h
    dsimp only at h
    replace g := kp_tr g (kp_eq _ (zF31_kp n 43 M _ _ hc1))
    by_cases q2 : v26 = 0
    · rw [if_pos q2] at h
      exact kp_tr g (zJ40_118_kp n x2 0 M27 _ _ h)
    · rw [if_neg q2] at h
      exact kp_tr g (zJ40_118_kp n x2 2 M27 _ _ h)
set_option maxRecDepth 100000 in
theorem zJ40_100_kp (n : Nat) (x2 : Int) (M : ZM) (r : Int) (m' : ZM) (h : zJ40_100 n x2 M = some (r, m')) : kp (wl w40) M m' := by
  unfold zJ40_100 at h
  have g := kp_refl (wl w40) M
  exact kp_tr g (zJ40_118_kp n x2 1 M _ _ h)
set_option maxRecDepth 100000 in
theorem zJ40_83_kp (n : Nat) (x2 : Int) (s0 : Int) (M : ZM) (r : Int) (m' : ZM) (h : zJ40_83 n x2 s0 M = some (r, m')) : kp (wl w40) M m' := by
  unfold zJ40_83 at h
  have g := kp_refl (wl w40) M
  cases hc1 : zF30 n s0 M with
  | none => rw [hc1] at h; cases h
  | some w =>
    obtain ⟨v18, M19⟩ := w
    rw [hc1] at h
    dsimp only at h
    replace g := kp_tr g (kp_sub (by simp [w30, w40]) (zF30_kp n s0 M _ _ hc1))
    by_cases q2 : v18 = 0
    · rw [if_pos q2] at h
      rw [← (Prod.mk.inj (Option.some.inj h)).2]
      exact g
    · rw [if_neg q2] at h
      cases hc3 : zF31 n 42 M19 with
      | none => rw [hc3] at h; cases h
      | some w =>
        obtain ⟨v22, M23⟩ := w
        rw [hc3] at h
        dsimp only at h
        replace g := kp_tr g (kp_eq _ (zF31_kp n 42 M19 _ _ hc3))
        by_cases q4 : v22 = 0
        · rw [if_pos q4] at h
          exact kp_tr g (zJ40_104_kp n x2 M23 _ _ h)
        · rw [if_neg q4] at h
          exact kp_tr g (zJ40_100_kp n x2 M23 _ _ h)
set_option maxRecDepth 100000 in
theorem zJ40_82_kp (n : Nat) (x2 : Int) (M : ZM) (r : Int) (m' : ZM) (h : zJ40_82 n x2 M = some (r, m')) : kp (wl w40) M m' := by
  unfold zJ40_82 at h
  have g := kp_refl (wl w40) M
  exact kp_tr g (zJ40_83_kp n x2 0 M _ _ h)
set_option maxRecDepth 100000 in
theorem zJ40_40_kp (n : Nat) (s0 : Int) (M : ZM) (r : Int) (m' : ZM) (h : zJ40_40 n s0 M = some (r, m')) : kp (wl w40) M m' := by
  unfold zJ40_40 at h
  have g := kp_refl (wl w40) M
  by_cases q1 : s0 ≤ 0
  · rw [if_pos q1] at h
    cases hc2 : zF19 n (M.1 83 4) 1 3 M with
    | none => rw [hc2] at h; cases h
    | some w =>
      obtain ⟨v14, M15⟩ := w
      rw [hc2] at h
      dsimp only at h
      replace g := kp_tr g (kp_eq _ (zF19_kp n (M.1 83 4) 1 3 M _ _ hc2))
      by_cases q3 : v14 = 0
      · rw [if_pos q3] at h
        exact kp_tr g (zJ40_82_kp n (M.1 83 5) M15 _ _ h)
      · rw [if_neg q3] at h
        cases hc4 : zF31 n 36 M15 with
        | none => rw [hc4] at h; cases h
        | some w =>
          obtain ⟨v35, M36⟩ := w
          rw [hc4] at h
          dsimp only at h
          replace g := kp_tr g (kp_eq _ (zF31_kp n 36 M15 _ _ hc4))
          by_cases q5 : v35 = 0
          · rw [if_pos q5] at h
            exact kp_tr g (zJ40_83_kp n (M.1 83 5) 1 M36 _ _ h)
          · rw [if_neg q5] at h
            exact kp_tr g (zJ40_82_kp n (M.1 83 5) M36 _ _ h)
  · rw [if_neg q1] at h
    cases hc6 : zF28 n M with
    | none => rw [hc6] at h; cases h
    | some w =>
      obtain ⟨v39, M40⟩ := w
      rw [hc6] at h
      dsimp only at h
      replace g := kp_tr g (kp_sub (by simp [w28, w40]) (zF28_kp n M _ _ hc6))
      rw [← (Prod.mk.inj (Option.some.inj h)).2]
      exact g
set_option maxRecDepth 100000 in
theorem zJ40_26_kp (n : Nat) (M : ZM) (r : Int) (m' : ZM) (h : zJ40_26 n M = some (r, m')) : kp (wl w40) M m' := by
  unfold zJ40_26 at h
  have g := kp_refl (wl w40) M
  cases hc1 : zF31 n 63 M with
  | none => rw [hc1] at h; cases h
  | some w =>
    obtain ⟨v9, M10⟩ := w
    rw [hc1] at h
    dsimp only at h
    replace g := kp_tr g (kp_eq _ (zF31_kp n 63 M _ _ hc1))
    by_cases q2 : v9 = 0
    · rw [if_pos q2] at h
      exact kp_tr g (zJ40_40_kp n 0 M10 _ _ h)
    · rw [if_neg q2] at h
      exact kp_tr g (zJ40_40_kp n 3 M10 _ _ h)
set_option maxRecDepth 100000 in
theorem zJ40_22_kp (n : Nat) (M : ZM) (r : Int) (m' : ZM) (h : zJ40_22 n M = some (r, m')) : kp (wl w40) M m' := by
  unfold zJ40_22 at h
  have g := kp_refl (wl w40) M
  exact kp_tr g (zJ40_40_kp n 2 M _ _ h)
set_option maxRecDepth 100000 in
theorem zF40_kp (n : Nat) (M : ZM) (r : Int) (m' : ZM) (h : zF40 n M = some (r, m')) : kp (wl w40) M m' := by
  unfold zF40 at h
  have g := kp_refl (wl w40) M
  cases hc1 : zF31 n 42 M with
  | none => rw [hc1] at h; cases h
  | some w =>
    obtain ⟨v1, M2⟩ := w
    rw [hc1] at h
    dsimp only at h
    replace g := kp_tr g (kp_eq _ (zF31_kp n 42 M _ _ hc1))
    by_cases q2 : v1 = 0
    · rw [if_pos q2] at h
      cases hc3 : zF31 n 43 M2 with
      | none => rw [hc3] at h; cases h
      | some w =>
        obtain ⟨v5, M6⟩ := w
        rw [hc3] at h
        dsimp only at h
        replace g := kp_tr g (kp_eq _ (zF31_kp n 43 M2 _ _ hc3))
        by_cases q4 : v5 = 0
        · rw [if_pos q4] at h
          exact kp_tr g (zJ40_26_kp n M6 _ _ h)
        · rw [if_neg q4] at h
          exact kp_tr g (zJ40_22_kp n M6 _ _ h)
    · rw [if_neg q2] at h
      exact kp_tr g (zJ40_40_kp n 1 M2 _ _ h)
set_option maxRecDepth 100000 in
theorem zJ41_64_kp (n : Nat) (s0 : Int) (M : ZM) (r : Int) (m' : ZM) (h : zJ41_64 n s0 M = some (r, m')) : m' = M := by
  unfold zJ41_64 at h
  have g : M = M := rfl
  exact (Prod.mk.inj (Option.some.inj h)).2.symm.trans g
set_option maxRecDepth 100000 in
theorem zJ41_28_kp (n : Nat) (M : ZM) (r : Int) (m' : ZM) (h : zJ41_28 n M = some (r, m')) : m' = M := by
  unfold zJ41_28 at h
  have g : M = M := rfl
  exact (zJ41_64_kp n 2 M _ _ h).trans g
set_option maxRecDepth 100000 in
theorem zJ41_59_kp (n : Nat) (M : ZM) (r : Int) (m' : ZM) (h : zJ41_59 n M = some (r, m')) : m' = M := by
  unfold zJ41_59 at h
  have g : M = M := rfl
  exact (zJ41_64_kp n 4 M _ _ h).trans g
set_option maxRecDepth 100000 in
theorem zJ41_63_kp (n : Nat) (M : ZM) (r : Int) (m' : ZM) (h : zJ41_63 n M = some (r, m')) : m' = M := by
  unfold zJ41_63 at h
  have g : M = M := rfl
  exact (zJ41_64_kp n 0 M _ _ h).trans g
set_option maxRecDepth 100000 in
theorem zJ41_32_kp (n : Nat) (x0 : Int) (M : ZM) (r : Int) (m' : ZM) (h : zJ41_32 n x0 M = some (r, m')) : m' = M := by
  unfold zJ41_32 at h
  have g : M = M := rfl
  cases hc1 : zF27 n 20 20 0 M with
  | none => rw [hc1] at h; cases h
  | some w =>
    obtain ⟨v9, M10⟩ := w
    rw [hc1] at h
    dsimp only at h
    replace g := (zF27_kp n 20 20 0 M _ _ hc1).trans g
    by_cases q2 : x0 = v9
    · rw [if_pos q2] at h
      exact (zJ41_64_kp n 3 M10 _ _ h).trans g
    · rw [if_neg q2] at h
      cases hc3 : zF27 n 5 24 0 M10 with
      | none => rw [hc3] at h; cases h
      | some w =>
        obtain ⟨v13, M14⟩ := w
        rw [hc3] at h
        dsimp only at h
        replace g := (zF27_kp n 5 24 0 M10 _ _ hc3).trans g
        by_cases q4 : x0 = v13
        · rw [if_pos q4] at h
          exact (zJ41_59_kp n M14 _ _ h).trans g
        · rw [if_neg q4] at h
          exact (zJ41_63_kp n M14 _ _ h).trans g
set_option maxRecDepth 100000 in
theorem zF41_kp (n : Nat) (a0 : Int) (M : ZM) (r : Int) (m' : ZM) (h : zF41 n a0 M = some (r, m')) : m' = M := by
  unfold zF41 at h
  have g : M = M := rfl
  cases hc1 : zF27 n 9 4 0 M with
  | none => rw [hc1] at h; cases h
  | some w =>
    obtain ⟨v1, M2⟩ := w
    rw [hc1] at h
    dsimp only at h
    replace g := (zF27_kp n 9 4 0 M _ _ hc1).trans g
    by_cases q2 : a0 = v1
    · rw [if_pos q2] at h
      exact (zJ41_64_kp n 1 M2 _ _ h).trans g
    · rw [if_neg q2] at h
      cases hc3 : zF27 n 14 21 13 M2 with
      | none => rw [hc3] at h; cases h
      | some w =>
        obtain ⟨v5, M6⟩ := w
        rw [hc3] at h
        dsimp only at h
        replace g := (zF27_kp n 14 21 13 M2 _ _ hc3).trans g
        by_cases q4 : a0 = v5
        · rw [if_pos q4] at h
          exact (zJ41_28_kp n M6 _ _ h).trans g
        · rw [if_neg q4] at h
          exact (zJ41_32_kp n a0 M6 _ _ h).trans g
def w42 : List (Nat × Nat) := [(100, 1000), (101, 1000), (102, 1000), (103, 1000), (104, 1000), (83, 4), (83, 5), (83, 6), (83, 7), (83, 8), (83, 27), (83, 30), (83, 31), (83, 32), (83, 33), (90, 1000), (91, 1000), (92, 1000), (93, 1000), (94, 1000), (95, 1000), (96, 1000), (97, 1000), (98, 1000), (99, 1000)]
set_option maxRecDepth 100000 in
theorem zJ42_21_kp (n : Nat) (x2 : Int) (M : ZM) (r : Int) (m' : ZM) (h : zJ42_21 n x2 M = some (r, m')) : kp (wl w42) M m' := by
  unfold zJ42_21 at h
  have g := kp_refl (wl w42) M
  cases hc1 : zF36 n 7 x2 M with
  | none => rw [hc1] at h; cases h
  | some w =>
    obtain ⟨v6, M7⟩ := w
    rw [hc1] at h
    dsimp only at h
    replace g := kp_tr g (kp_sub (by simp [w36, w42]) (zF36_kp n 7 x2 M _ _ hc1))
    rw [← (Prod.mk.inj (Option.some.inj h)).2]
    exact g
set_option maxRecDepth 100000 in
theorem zJ42_82_kp (n : Nat) (s0 : Int) (M : ZM) (r : Int) (m' : ZM) (h : zJ42_82 n s0 M = some (r, m')) : kp (wl w42) M m' := by
  unfold zJ42_82 at h
  have g := kp_refl (wl w42) M
  cases hc1 : zF30 n s0 M with
  | none => rw [hc1] at h; cases h
  | some w =>
    obtain ⟨v24, M25⟩ := w
    rw [hc1] at h
    dsimp only at h
    replace g := kp_tr g (kp_sub (by simp [w30, w42]) (zF30_kp n s0 M _ _ hc1))
    by_cases q2 : v24 = 0 ∨ v24 = 1
    · rw [if_pos q2] at h
      rw [← (Prod.mk.inj (Option.some.inj h)).2]
      exact g
    · rw [if_neg q2] at h
      cases h
set_option maxRecDepth 100000 in
theorem zJ42_64_kp (n : Nat) (x2 : Int) (s0 : Int) (M : ZM) (r : Int) (m' : ZM) (h : zJ42_64 n x2 s0 M = some (r, m')) : kp (wl w42) M m' := by
  unfold zJ42_64 at h
  have g := kp_refl (wl w42) M
  cases hc1 : zF35 n 3 x2 s0 M with
  | none => rw [hc1] at h; cases h
  | some w =>
    obtain ⟨v20, M21⟩ := w
    rw [hc1] at h
    dsimp only at h
    replace g := kp_tr g (kp_sub (by simp [w35, w42]) (zF35_kp n 3 x2 s0 M _ _ hc1))
    by_cases q2 : s0 ≤ 0
    · rw [if_pos q2] at h
      exact kp_tr g (zJ42_82_kp n 0 M21 _ _ h)
    · rw [if_neg q2] at h
      exact kp_tr g (zJ42_82_kp n 1 M21 _ _ h)
set_option maxRecDepth 100000 in
theorem zJ42_53_kp (n : Nat) (x2 : Int) (M : ZM) (r : Int) (m' : ZM) (h : zJ42_53 n x2 M = some (r, m')) : kp (wl w42) M m' := by
  unfold zJ42_53 at h
  have g := kp_refl (wl w42) M
  cases hc1 : zF41 n (M.1 83 5) M with
  | none => rw [hc1] at h; cases h
  | some w =>
    obtain ⟨v17, M18⟩ := w
    rw [hc1] at h
    dsimp only at h
    replace g := kp_tr g (kp_eq _ (zF41_kp n (M.1 83 5) M _ _ hc1))
    exact kp_tr g (zJ42_64_kp n x2 v17 M18 _ _ h)
set_option maxRecDepth 100000 in
theorem zJ42_63_kp (n : Nat) (x2 : Int) (M : ZM) (r : Int) (m' : ZM) (h : zJ42_63 n x2 M = some (r, m')) : kp (wl w42) M m' := by
  unfold zJ42_63 at h
  have g := kp_refl (wl w42) M
  exact kp_tr g (zJ42_64_kp n x2 0 M _ _ h)
set_option maxRecDepth 100000 in
theorem zJ42_30_kp (n : Nat) (x2 : Int) (M : ZM) (r : Int) (m' : ZM) (h : zJ42_30 n x2 M = some (r, m')) : kp (wl w42) M m' := by
  unfold zJ42_30 at h
  have g := kp_refl (wl w42) M
  cases hc1 : zF31 n 58 M with
  | none => rw [hc1] at h; cases h
  | some w =>
    obtain ⟨v9, M10⟩ := w
    rw [hc1] at h
    dsimp only at h
    replace g := kp_tr g (kp_eq _ (zF31_kp n 58 M _ _ hc1))
    cases hc2 : zF30 n v9 M10 with
    | none => rw [hc2] at h; cases h
    | some w =>
      obtain ⟨v12, M13⟩ := w
      rw [hc2] at h
      dsimp only at h
      replace g := kp_tr g (kp_sub (by simp [w30, w42]) (zF30_kp n v9 M10 _ _ hc2))
      by_cases q3 : v12 = 0
      · rw [if_pos q3] at h
        rw [← (Prod.mk.inj (Option.some.inj h)).2]
        exact g
      · rw [if_neg q3] at h
        by_cases q4 : (M13.1 83 4) = 1
        · rw [if_pos q4] at h
          exact kp_tr g (zJ42_53_kp n x2 M13 _ _ h)
        · rw [if_neg q4] at h
          exact kp_tr g (zJ42_63_kp n x2 M13 _ _ h)
set_option maxRecDepth 100000 in
theorem zJ42_114_kp (n : Nat) (M : ZM) (r : Int) (m' : ZM) (h : zJ42_114 n M = some (r, m')) : kp (wl w42) M m' := by
  unfold zJ42_114 at h
  have g := kp_refl (wl w42) M
  cases hc1 : zF29 n M with
  | none => rw [hc1] at h; cases h
  | some w =>
    obtain ⟨v32, M33⟩ := w
    rw [hc1] at h
    dsimp only at h
    replace g := kp_tr g (kp_sub (by simp [w29, w42]) (zF29_kp n M _ _ hc1))
    by_cases q2 : v32 = 0 ∨ v32 = 1
    · rw [if_pos q2] at h
      rw [← (Prod.mk.inj (Option.some.inj h)).2]
      exact g
    · rw [if_neg q2] at h
      cases h
set_option maxRecDepth 100000 in
theorem zJ42_142_kp (n : Nat) (M : ZM) (r : Int) (m' : ZM) (h : zJ42_142 n M = some (r, m')) : kp (wl w42) M m' := by
  unfold zJ42_142 at h
  have g := kp_refl (wl w42) M
  rw [← (Prod.mk.inj (Option.some.inj h)).2]
  exact g
set_option maxRecDepth 100000 in
theorem zJ42_164_kp (n : Nat) (x2 : Int) (M : ZM) (r : Int) (m' : ZM) (h : zJ42_164 n x2 M = some (r, m')) : kp (wl w42) M m' := by
  unfold zJ42_164 at h
  have g := kp_refl (wl w42) M
  cases hc1 : zF38 n x2 M with
  | none => rw [hc1] at h; cases h
  | some w =>
    obtain ⟨v47, M48⟩ := w
    rw [hc1] at h
    dsimp only at h
    replace g := kp_tr g (kp_sub (by simp [w38, w42]) (zF38_kp n x2 M _ _ hc1))
    rw [← (Prod.mk.inj (Option.some.inj h)).2]
    exact g
set_option maxRecDepth 100000 in
theorem zJ42_144_kp (n : Nat) (x1 : Int) (x2 : Int) (M : ZM) (r : Int) (m' : ZM) (h : zJ42_144 n x1 x2 M = some (r, m')) : kp (wl w42) M m' := by
  unfold zJ42_144 at h
  have g := kp_refl (wl w42) M
  by_cases q1 : x1 = 0
  · rw [if_pos q1] at h
    cases hc2 : zF36 n 4 0 M with
    | none => rw [hc2] at h; cases h
    | some w =>
      obtain ⟨v44, M45⟩ := w
      rw [hc2] at h
      dsimp only at h
      replace g := kp_tr g (kp_sub (by simp [w36, w42]) (zF36_kp n 4 0 M _ _ hc2))
      exact kp_tr g (zJ42_164_kp n x2 M45 _ _ h)
  · rw [if_neg q1] at h
    cases hc3 : zF35 n 4 0 0 M with
    | none => rw [hc3] at h; cases h
    | some w =>
      obtain ⟨v50, M51⟩ := w
      rw [hc3] at h
      dsimp only at h
      replace g := kp_tr g (kp_sub (by simp [w35, w42]) (zF35_kp n 4 0 0 M _ _ hc3))
      exact kp_tr g (zJ42_164_kp n x2 M51 _ _ h)
set_option maxRecDepth 100000 in
theorem zJ42_119_kp (n : Nat) (x1 : Int) (M : ZM) (r : Int) (m' : ZM) (h : zJ42_119 n x1 M = some (r, m')) : kp (wl w42) M m' := by
  unfold zJ42_119 at h
  have g := kp_refl (wl w42) M
  by_cases q1 : rg ((M.1 83 33) + 1)
  · rw [if_pos q1] at h
    replace g : kp (wl w42) M (z_i M 83 33 ((M.1 83 33) + 1)) := kp_i g (by simp [w42])
    rw [zlet] at h
    generalize z_i M 83 33 ((M.1 83 33) + 1) = M38 at h g
    cases hc2 : zF37 n (M38.1 83 32) M38 with
    | none => rw [hc2] at h; cases h
    | some w =>
      obtain ⟨v39, M40⟩ := w
      rw [hc2] at h
      dsimp only at h
      replace g := kp_tr g (kp_sub (by simp [w37, w42]) (zF37_kp n (M38.1 83 32) M38 _ _ hc2))
      by_cases q3 : v39 = 0
      · rw [if_pos q3] at h
        exact kp_tr g (zJ42_142_kp n M40 _ _ h)
      · rw [if_neg q3] at h
        exact kp_tr g (zJ42_144_kp n x1 (M38.1 83 32) M40 _ _ h)
  · rw [if_neg q1] at h
    cases h
set_option maxRecDepth 100000 in
theorem zJ42_102_kp (n : Nat) (x1 : Int) (M : ZM) (r : Int) (m' : ZM) (h : zJ42_102 n x1 M = some (r, m')) : kp (wl w42) M m' := by
  unfold zJ42_102 at h
  have g := kp_refl (wl w42) M
  by_cases q1 : x1 = 0
  · rw [if_pos q1] at h
    exact kp_tr g (zJ42_119_kp n x1 M _ _ h)
  · rw [if_neg q1] at h
    by_cases q2 : (M.1 83 33) < 4
    · rw [if_pos q2] at h
      exact kp_tr g (zJ42_119_kp n x1 M _ _ h)
    · rw [if_neg q2] at h
      exact kp_tr g (zJ42_114_kp n M _ _ h)
set_option maxRecDepth 100000 in
theorem zF42_kp (n : Nat) (a0 : Int) (M : ZM) (r : Int) (m' : ZM) (h : zF42 n a0 M = some (r, m')) : kp (wl w42) M m' := by
  unfold zF42 at h
  have g := kp_refl (wl w42) M
  by_cases q1 : (M.1 83 4) = 1
  · rw [if_pos q1] at h
    cases hc2 : zF28 n M with
    | none => rw [hc2] at h; cases h
    | some w =>
      obtain ⟨v2, M3⟩ := w
      rw [hc2] at h
      dsimp only at h
      replace g := kp_tr g (kp_sub (by simp [w28, w42]) (zF28_kp n M _ _ hc2))
      by_cases q3 : a0 = 0
      · rw [if_pos q3] at h
        exact kp_tr g (zJ42_21_kp n (M.1 83 5) M3 _ _ h)
      · rw [if_neg q3] at h
        exact kp_tr g (zJ42_30_kp n (M.1 83 5) M3 _ _ h)
  · rw [if_neg q1] at h
    cases hc4 : zF31 n 40 M with
    | none => rw [hc4] at h; cases h
    | some w =>
      obtain ⟨v28, M29⟩ := w
      rw [hc4] at h
      dsimp only at h
      replace g := kp_tr g (kp_eq _ (zF31_kp n 40 M _ _ hc4))
      by_cases q5 : v28 = 0
      · rw [if_pos q5] at h
        exact kp_tr g (zJ42_114_kp n M29 _ _ h)
      · rw [if_neg q5] at h
        by_cases q6 : 0 ≤ (M29.1 83 31)
        · rw [if_pos q6] at h
          exact kp_tr g (zJ42_114_kp n M29 _ _ h)
        · rw [if_neg q6] at h
          exact kp_tr g (zJ42_102_kp n a0 M29 _ _ h)
def w43 : List (Nat × Nat) := [(100, 1000), (101, 1000), (102, 1000), (83, 4), (83, 5), (83, 6), (83, 7), (83, 8), (83, 27), (83, 30), (83, 31), (83, 32), (90, 1000), (91, 1000), (92, 1000), (93, 1000), (94, 1000), (95, 1000), (96, 1000), (97, 1000), (98, 1000), (99, 1000)]
set_option maxRecDepth 100000 in
theorem zJ43_185_kp (n : Nat) (M : ZM) (r : Int) (m' : ZM) (h : zJ43_185 n M = some (r, m')) : kp (wl w43) M m' := by
  unfold zJ43_185 at h
  have g := kp_refl (wl w43) M
  rw [← (Prod.mk.inj (Option.some.inj h)).2]
  exact g
set_option maxRecDepth 100000 in
theorem zJ43_177_kp (n : Nat) (x2 : Int) (x5 : Int) (M : ZM) (r : Int) (m' : ZM) (h : zJ43_177 n x2 x5 M = some (r, m')) : kp (wl w43) M m' := by
  unfold zJ43_177 at h
  have g := kp_refl (wl w43) M
  by_cases q1 : x2 < 0 ∨ 128 ≤ x2
  · rw [if_pos q1] at h
    cases h
  · rw [if_neg q1] at h
    replace g : kp (wl w43) M (z_i M 99 (Int.toNat x2) x5) := kp_ia g (by simp [w43])
    rw [zlet] at h
    generalize z_i M 99 (Int.toNat x2) x5 = M23 at h g
    exact kp_tr g (zJ43_185_kp n M23 _ _ h)
set_option maxRecDepth 100000 in
theorem zJ43_150_kp (n : Nat) (x2 : Int) (x4 : Int) (x5 : Int) (M : ZM) (r : Int) (m' : ZM) (h : zJ43_150 n x2 x4 x5 M = some (r, m')) : kp (wl w43) M m' := by
  unfold zJ43_150 at h
  have g := kp_refl (wl w43) M
  cases hc1 : zF36 n 5 0 M with
  | none => rw [hc1] at h; cases h
  | some w =>
    obtain ⟨v15, M16⟩ := w
    rw [hc1] at h
    dsimp only at h
    replace g := kp_tr g (kp_sub (by simp [w36, w43]) (zF36_kp n 5 0 M _ _ hc1))
    by_cases q2 : x5 < 0 ∨ 128 ≤ x5
    · rw [if_pos q2] at h
      cases h
    · rw [if_neg q2] at h
      replace g : kp (wl w43) M (z_i M16 99 (Int.toNat x5) x2) := kp_ia g (by simp [w43])
      rw [zlet] at h
      generalize z_i M16 99 (Int.toNat x5) x2 = M19 at h g
      by_cases q3 : rg (Int.tdiv x4 256)
      · rw [if_pos q3] at h
        replace g : kp (wl w43) M (z_i M19 100 (Int.toNat x5) (Int.tdiv x4 256)) := kp_ia g (by simp [w43])
        rw [zlet] at h
        generalize z_i M19 100 (Int.toNat x5) (Int.tdiv x4 256) = M21 at h g
        exact kp_tr g (zJ43_177_kp n x2 x5 M21 _ _ h)
      · rw [if_neg q3] at h
        cases h
set_option maxRecDepth 100000 in
theorem zJ43_135_kp (n : Nat) (x2 : Int) (x4 : Int) (M : ZM) (r : Int) (m' : ZM) (h : zJ43_135 n x2 x4 M = some (r, m')) : kp (wl w43) M m' := by
  unfold zJ43_135 at h
  have g := kp_refl (wl w43) M
  by_cases q1 : x2 < 0 ∨ 128 ≤ x2
  · rw [if_pos q1] at h
    cases h
  · rw [if_neg q1] at h
    by_cases q2 : rg (x4 - ((Int.tdiv x4 256) * 256))
    · rw [if_pos q2] at h
      replace g : kp (wl w43) M (z_i M 94 (Int.toNat x2) (x4 - ((Int.tdiv x4 256) * 256))) := kp_ia g (by simp [w43])
      rw [zlet] at h
      generalize z_i M 94 (Int.toNat x2) (x4 - ((Int.tdiv x4 256) * 256)) = M36 at h g
      exact kp_tr g (zJ43_185_kp n M36 _ _ h)
    · rw [if_neg q2] at h
      cases h
set_option maxRecDepth 100000 in
theorem zJ43_115_kp (n : Nat) (x2 : Int) (x4 : Int) (x5 : Int) (M : ZM) (r : Int) (m' : ZM) (h : zJ43_115 n x2 x4 x5 M = some (r, m')) : kp (wl w43) M m' := by
  unfold zJ43_115 at h
  have g := kp_refl (wl w43) M
  by_cases q1 : x2 < 0 ∨ 128 ≤ x2
  · rw [if_pos q1] at h
    cases h
  · rw [if_neg q1] at h
    replace g : kp (wl w43) M (z_i M 92 (Int.toNat x2) x5) := kp_ia g (by simp [w43])
    rw [zlet] at h
    generalize z_i M 92 (Int.toNat x2) x5 = M32 at h g
    by_cases q2 : rg (Int.tdiv x4 256)
    · rw [if_pos q2] at h
      replace g : kp (wl w43) M (z_i M32 93 (Int.toNat x2) (Int.tdiv x4 256)) := kp_ia g (by simp [w43])
      rw [zlet] at h
      generalize z_i M32 93 (Int.toNat x2) (Int.tdiv x4 256) = M34 at h g
      exact kp_tr g (zJ43_135_kp n x2 x4 M34 _ _ h)
    · rw [if_neg q2] at h
      cases h
set_option maxRecDepth 100000 in
theorem zJ43_82_kp (n : Nat) (x2 : Int) (x4 : Int) (x5 : Int) (M : ZM) (r : Int) (m' : ZM) (h : zJ43_82 n x2 x4 x5 M = some (r, m')) : kp (wl w43) M m' := by
  unfold zJ43_82 at h
  have g := kp_refl (wl w43) M
  by_cases q1 : rg (x4 - ((Int.tdiv x4 256) * 256))
  · rw [if_pos q1] at h
    cases hc2 : zF35 n 5 0 (x4 - ((Int.tdiv x4 256) * 256)) M with
    | none => rw [hc2] at h; cases h
    | some w =>
      obtain ⟨v24, M25⟩ := w
      rw [hc2] at h
      dsimp only at h
      replace g := kp_tr g (kp_sub (by simp [w35, w43]) (zF35_kp n 5 0 (x4 - ((Int.tdiv x4 256) * 256)) M _ _ hc2))
      by_cases q3 : x5 < 0 ∨ 128 ≤ x5
      · rw [if_pos q3] at h
        cases h
      · rw [if_neg q3] at h
        replace g : kp (wl w43) M (z_i M25 92 (Int.toNat x5) x2) := kp_ia g (by simp [w43])
        rw [zlet] at h
        generalize z_i M25 92 (Int.toNat x5) x2 = M28 at h g
        by_cases q4 : rg (Int.tdiv x4 256)
        · rw [if_pos q4] at h
          replace g : kp (wl w43) M (z_i M28 93 (Int.toNat x5) (Int.tdiv x4 256)) := kp_ia g (by simp [w43])
          rw [zlet] at h
          generalize z_i M28 93 (Int.toNat x5) (Int.tdiv x4 256) = M30 at h g
          exact kp_tr g (zJ43_115_kp n x2 x4 x5 M30 _ _ h)
        · rw [if_neg q4] at h
          cases h
  · rw [if_neg q1] at h
    cases h
set_option maxRecDepth 100000 in
theorem zJ43_59_kp (n : Nat) (x1 : Int) (x2 : Int) (M : ZM) (r : Int) (m' : ZM) (h : zJ43_59 n x1 x2 M = some (r, m')) : kp (wl w43) M m' := by
  unfold zJ43_59 at h
  have g := kp_refl (wl w43) M
  cases hc1 : zF40 n M with
  | none => rw [hc1] at h; cases h
  | some w =>
    obtain ⟨v10, M11⟩ := w
    rw [hc1] at h
    dsimp only at h
    replace g := kp_tr g (kp_sub (by simp [w40, w43]) (zF40_kp n M _ _ hc1))
    by_cases q2 : 0 ≤ v10
    · rw [if_pos q2] at h
      by_cases q3 : x1 = 0
      · rw [if_pos q3] at h
        exact kp_tr g (zJ43_150_kp n x2 v10 (M11.1 83 32) M11 _ _ h)
      · rw [if_neg q3] at h
        exact kp_tr g (zJ43_82_kp n x2 v10 (M11.1 83 32) M11 _ _ h)
    · rw [if_neg q2] at h
      rw [← (Prod.mk.inj (Option.some.inj h)).2]
      exact g
set_option maxRecDepth 100000 in
theorem zJ43_53_kp (n : Nat) (M : ZM) (r : Int) (m' : ZM) (h : zJ43_53 n M = some (r, m')) : kp (wl w43) M m' := by
  unfold zJ43_53 at h
  have g := kp_refl (wl w43) M
  rw [← (Prod.mk.inj (Option.some.inj h)).2]
  exact g
set_option maxRecDepth 100000 in
theorem zJ43_25_kp (n : Nat) (x1 : Int) (x2 : Int) (x3 : Int) (M : ZM) (r : Int) (m' : ZM) (h : zJ43_25 n x1 x2 x3 M = some (r, m')) : kp (wl w43) M m' := by
  unfold zJ43_25 at h
  have g := kp_refl (wl w43) M
  cases hc1 : zF28 n M with
  | none => rw [hc1] at h; cases h
  | some w =>
    obtain ⟨v3, M4⟩ := w
    rw [hc1] at h
    dsimp only at h
    replace g := kp_tr g (kp_sub (by simp [w28, w43]) (zF28_kp n M _ _ hc1))
    by_cases q2 : 0 ≤ x2
    · rw [if_pos q2] at h
      cases hc3 : zF39 n M4 with
      | none => rw [hc3] at h; cases h
      | some w =>
        obtain ⟨v7, M8⟩ := w
        rw [hc3] at h
        dsimp only at h
        replace g := kp_tr g (kp_sub (by simp [w39, w43]) (zF39_kp n M4 _ _ hc3))
        exact kp_tr g (zJ43_59_kp n x1 x2 M8 _ _ h)
    · rw [if_neg q2] at h
      by_cases q4 : x1 = 0
      · rw [if_pos q4] at h
        cases hc5 : zF36 n 0 x3 M4 with
        | none => rw [hc5] at h; cases h
        | some w =>
          obtain ⟨v38, M39⟩ := w
          rw [hc5] at h
          dsimp only at h
          replace g := kp_tr g (kp_sub (by simp [w36, w43]) (zF36_kp n 0 x3 M4 _ _ hc5))
          exact kp_tr g (zJ43_53_kp n M39 _ _ h)
      · rw [if_neg q4] at h
        cases hc6 : zF35 n 2 x3 0 M4 with
        | none => rw [hc6] at h; cases h
        | some w =>
          obtain ⟨v41, M42⟩ := w
          rw [hc6] at h
          dsimp only at h
          replace g := kp_tr g (kp_sub (by simp [w35, w43]) (zF35_kp n 2 x3 0 M4 _ _ hc6))
          exact kp_tr g (zJ43_53_kp n M42 _ _ h)
set_option maxRecDepth 100000 in
theorem zF43_kp (n : Nat) (a0 : Int) (M : ZM) (r : Int) (m' : ZM) (h : zF43 n a0 M = some (r, m')) : kp (wl w43) M m' := by
  unfold zF43 at h
  have g := kp_refl (wl w43) M
  by_cases q1 : rg ((M.1 83 27) - 1)
  · rw [if_pos q1] at h
    replace g : kp (wl w43) M (z_i M 83 27 ((M.1 83 27) - 1)) := kp_i g (by simp [w43])
    rw [zlet] at h
    generalize z_i M 83 27 ((M.1 83 27) - 1) = M1 at h g
    by_cases q2 : (M1.1 83 27) < 0 ∨ 16 ≤ (M1.1 83 27)
    · rw [if_pos q2] at h
      cases h
    · rw [if_neg q2] at h
      exact kp_tr g (zJ43_25_kp n a0 (M1.1 104 (Int.toNat (M1.1 83 27))) (M1.1 83 5) M1 _ _ h)
  · rw [if_neg q1] at h
    cases h
def w44 : List (Nat × Nat) := [(100, 1000), (101, 1000), (102, 1000), (103, 1000), (104, 1000), (83, 4), (83, 5), (83, 6), (83, 7), (83, 8), (83, 27), (83, 30), (83, 31), (83, 32), (83, 33), (90, 1000), (91, 1000), (92, 1000), (93, 1000), (94, 1000), (95, 1000), (96, 1000), (97, 1000), (98, 1000), (99, 1000)]
set_option maxRecDepth 100000 in
theorem zJ44_276_kp (n : Nat) (M : ZM) (r : Int) (m' : ZM) (h : zJ44_276 n M = some (r, m')) : kp (wl w44) M m' := by
  unfold zJ44_276 at h
  have g := kp_refl (wl w44) M
  rw [← (Prod.mk.inj (Option.some.inj h)).2]
  exact g
set_option maxRecDepth 100000 in
theorem zJ44_59_kp (n : Nat) (M : ZM) (r : Int) (m' : ZM) (h : zJ44_59 n M = some (r, m')) : kp (wl w44) M m' := by
  unfold zJ44_59 at h
  have g := kp_refl (wl w44) M
  cases hc1 : zF29 n M with
  | none => rw [hc1] at h; cases h
  | some w =>
    obtain ⟨v19, M20⟩ := w
    rw [hc1] at h
    dsimp only at h
    replace g := kp_tr g (kp_sub (by simp [w29, w44]) (zF29_kp n M _ _ hc1))
    by_cases q2 : v19 = 0 ∨ v19 = 1
    · rw [if_pos q2] at h
      rw [← (Prod.mk.inj (Option.some.inj h)).2]
      exact g
    · rw [if_neg q2] at h
      cases h
set_option maxRecDepth 100000 in
theorem zJ44_140_kp (n : Nat) (zrec39 : Int → Int → Int → ZM → Option (Int × ZM)) (hrec39 : ∀ (c0 : Int) (c1 : Int) (c2 : Int) (c3 : ZM) (r : Int) (m' : ZM), zrec39 c0 c1 c2 c3 = some (r, m') → kp (wl w44) c3 m') (x1 : Int) (x2 : Int) (x3 : Int) (M : ZM) (r : Int) (m' : ZM) (h : zJ44_140 n zrec39 x1 x2 x3 M = some (r, m')) : kp (wl w44) M m' := by
  unfold zJ44_140 at h
  have g := kp_refl (wl w44) M
  exact kp_tr g (hrec39 x1 x2 x3 M _ _ h)
set_option maxRecDepth 100000 in
theorem zJ44_125_kp (n : Nat) (zrec39 : Int → Int → Int → ZM → Option (Int × ZM)) (hrec39 : ∀ (c0 : Int) (c1 : Int) (c2 : Int) (c3 : ZM) (r : Int) (m' : ZM), zrec39 c0 c1 c2 c3 = some (r, m') → kp (wl w44) c3 m') (x1 : Int) (x2 : Int) (s0 : Int) (M : ZM) (r : Int) (m' : ZM) (h : zJ44_125 n zrec39 x1 x2 s0 M = some (r, m')) : kp (wl w44) M m' := by
  unfold zJ44_125 at h
  have g := kp_refl (wl w44) M
  by_cases q1 : s0 = 0
  · rw [if_pos q1] at h
    exact kp_tr g (zJ44_140_kp n zrec39 hrec39 x1 x2 s0 M _ _ h)
  · rw [if_neg q1] at h
    cases hc2 : zF43 n x1 M with
    | none => rw [hc2] at h; cases h
    | some w =>
      obtain ⟨v29, M30⟩ := w
      rw [hc2] at h
      dsimp only at h
      replace g := kp_tr g (kp_sub (by simp [w43, w44]) (zF43_kp n x1 M _ _ hc2))
      by_cases q3 : v29 = 0
      · rw [if_pos q3] at h
        rw [← (Prod.mk.inj (Option.some.inj h)).2]
        exact g
      · rw [if_neg q3] at h
        exact kp_tr g (zJ44_140_kp n zrec39 hrec39 x1 x2 s0 M30 _ _ h)
set_option maxRecDepth 100000 in
theorem zJ44_97_kp (n : Nat) (zrec39 : Int → Int → Int → ZM → Option (Int × ZM)) (hrec39 : ∀ (c0 : Int) (c1 : Int) (c2 : Int) (c3 : ZM) (r : Int) (m' : ZM), zrec39 c0 c1 c2 c3 = some (r, m') → kp (wl w44) c3 m') (x1 : Int) (x2 : Int) (s0 : Int) (M : ZM) (r : Int) (m' : ZM) (h : zJ44_97 n zrec39 x1 x2 s0 M = some (r, m')) : kp (wl w44) M m' := by
  unfold zJ44_97 at h
  have g := kp_refl (wl w44) M
  by_cases q1 : (M.1 83 5) = s0
  · rw [if_pos q1] at h
    by_cases q2 : (M.1 83 27) ≤ 0
    · rw [if_pos q2] at h
      exact kp_tr g (zJ44_125_kp n zrec39 hrec39 x1 x2 0 M _ _ h)
    · rw [if_neg q2] at h
      exact kp_tr g (zJ44_125_kp n zrec39 hrec39 x1 x2 1 M _ _ h)
  · rw [if_neg q1] at h
    cases hc3 : zF29 n M with
    | none => rw [hc3] at h; cases h
    | some w =>
      obtain ⟨v33, M34⟩ := w
      rw [hc3] at h
      dsimp only at h
      replace g := kp_tr g (kp_sub (by simp [w29, w44]) (zF29_kp n M _ _ hc3))
      by_cases q4 : v33 = 0 ∨ v33 = 1
      · rw [if_pos q4] at h
        rw [← (Prod.mk.inj (Option.some.inj h)).2]
        exact g
      · rw [if_neg q4] at h
        cases h
set_option maxRecDepth 100000 in
theorem zJ44_72_kp (n : Nat) (zrec39 : Int → Int → Int → ZM → Option (Int × ZM)) (hrec39 : ∀ (c0 : Int) (c1 : Int) (c2 : Int) (c3 : ZM) (r : Int) (m' : ZM), zrec39 c0 c1 c2 c3 = some (r, m') → kp (wl w44) c3 m') (x1 : Int) (x2 : Int) (M : ZM) (r : Int) (m' : ZM) (h : zJ44_72 n zrec39 x1 x2 M = some (r, m')) : kp (wl w44) M m' := by
  unfold zJ44_72 at h
  have g := kp_refl (wl w44) M
  by_cases q1 : (M.1 83 27) ≤ 0
  · rw [if_pos q1] at h
    exact kp_tr g (zJ44_97_kp n zrec39 hrec39 x1 x2 x2 M _ _ h)
  · rw [if_neg q1] at h
    by_cases q2 : rg ((M.1 83 27) - 1)
    · rw [if_pos q2] at h
      by_cases q3 : ((M.1 83 27) - 1) < 0 ∨ 16 ≤ ((M.1 83 27) - 1)
      · rw [if_pos q3] at h
        cases h
      · rw [if_neg q3] at h
        cases hc4 : zF23 n (M.1 103 (Int.toNat ((M.1 83 27) - 1))) M with
        | none => rw [hc4] at h; cases h
        | some w =>
          obtain ⟨v38, M39⟩ := w
          rw [hc4] at h
          dsimp only at h
          replace g := kp_tr g (kp_eq _ (zF23_kp n (M.1 103 (Int.toNat ((M.1 83 27) - 1))) M _ _ hc4))
          exact kp_tr g (zJ44_97_kp n zrec39 hrec39 x1 x2 v38 M39 _ _ h)
    · rw [if_neg q2] at h
      cases h
set_option maxRecDepth 100000 in
theorem zJ44_212_kp (n : Nat) (zrec39 : Int → Int → Int → ZM → Option (Int × ZM)) (hrec39 : ∀ (c0 : Int) (c1 : Int) (c2 : Int) (c3 : ZM) (r : Int) (m' : ZM), zrec39 c0 c1 c2 c3 = some (r, m') → kp (wl w44) c3 m') (x1 : Int) (x2 : Int) (x3 : Int) (M : ZM) (r : Int) (m' : ZM) (h : zJ44_212 n zrec39 x1 x2 x3 M = some (r, m')) : kp (wl w44) M m' := by
  unfold zJ44_212 at h
  have g := kp_refl (wl w44) M
  exact kp_tr g (hrec39 x1 x2 x3 M _ _ h)
set_option maxRecDepth 100000 in
theorem zJ44_180_kp (n : Nat) (zrec39 : Int → Int → Int → ZM → Option (Int × ZM)) (hrec39 : ∀ (c0 : Int) (c1 : Int) (c2 : Int) (c3 : ZM) (r : Int) (m' : ZM), zrec39 c0 c1 c2 c3 = some (r, m') → kp (wl w44) c3 m') (x1 : Int) (x2 : Int) (x3 : Int) (x4 : Int) (M : ZM) (r : Int) (m' : ZM) (h : zJ44_180 n zrec39 x1 x2 x3 x4 M = some (r, m')) : kp (wl w44) M m' := by
  unfold zJ44_180 at h
  have g := kp_refl (wl w44) M
  cases hc1 : zF37 n (-1) M with
  | none => rw [hc1] at h; cases h
  | some w =>
    obtain ⟨v46, M47⟩ := w
    rw [hc1] at h
    dsimp only at h
    replace g := kp_tr g (kp_sub (by simp [w37, w44]) (zF37_kp n (-1) M _ _ hc1))
    by_cases q2 : v46 = 0
    · rw [if_pos q2] at h
      rw [← (Prod.mk.inj (Option.some.inj h)).2]
      exact g
    · rw [if_neg q2] at h
      by_cases q3 : x1 = 0
      · rw [if_pos q3] at h
        cases hc4 : zF36 n 0 x4 M47 with
        | none => rw [hc4] at h; cases h
        | some w =>
          obtain ⟨v51, M52⟩ := w
          rw [hc4] at h
          dsimp only at h
          replace g := kp_tr g (kp_sub (by simp [w36, w44]) (zF36_kp n 0 x4 M47 _ _ hc4))
          exact kp_tr g (zJ44_212_kp n zrec39 hrec39 x1 x2 x3 M52 _ _ h)
      · rw [if_neg q3] at h
        cases hc5 : zF35 n 1 x4 0 M47 with
        | none => rw [hc5] at h; cases h
        | some w =>
          obtain ⟨v54, M55⟩ := w
          rw [hc5] at h
          dsimp only at h
          replace g := kp_tr g (kp_sub (by simp [w35, w44]) (zF35_kp n 1 x4 0 M47 _ _ hc5))
          exact kp_tr g (zJ44_212_kp n zrec39 hrec39 x1 x2 x3 M55 _ _ h)
set_option maxRecDepth 100000 in
theorem zJ44_247_kp (n : Nat) (zrec39 : Int → Int → Int → ZM → Option (Int × ZM)) (hrec39 : ∀ (c0 : Int) (c1 : Int) (c2 : Int) (c3 : ZM) (r : Int) (m' : ZM), zrec39 c0 c1 c2 c3 = some (r, m') → kp (wl w44) c3 m') (x1 : Int) (x2 : Int) (x3 : Int) (M : ZM) (r : Int) (m' : ZM) (h : zJ44_247 n zrec39 x1 x2 x3 M = some (r, m')) : kp (wl w44) M m' := by
  unfold zJ44_247 at h
  have g := kp_refl (wl w44) M
  exact kp_tr g (hrec39 x1 x2 x3 M _ _ h)
set_option maxRecDepth 100000 in
theorem zJ44_221_kp (n : Nat) (zrec39 : Int → Int → Int → ZM → Option (Int × ZM)) (hrec39 : ∀ (c0 : Int) (c1 : Int) (c2 : Int) (c3 : ZM) (r : Int) (m' : ZM), zrec39 c0 c1 c2 c3 = some (r, m') → kp (wl w44) c3 m') (x1 : Int) (x2 : Int) (x3 : Int) (x4 : Int) (M : ZM) (r : Int) (m' : ZM) (h : zJ44_221 n zrec39 x1 x2 x3 x4 M = some (r, m')) : kp (wl w44) M m' := by
  unfold zJ44_221 at h
  have g := kp_refl (wl w44) M
  cases hc1 : zF28 n M with
  | none => rw [hc1] at h; cases h
  | some w =>
    obtain ⟨v57, M58⟩ := w
    rw [hc1] at h
    dsimp only at h
    replace g := kp_tr g (kp_sub (by simp [w28, w44]) (zF28_kp n M _ _ hc1))
    by_cases q2 : x1 = 0
    · rw [if_pos q2] at h
      cases hc3 : zF36 n 0 x4 M58 with
      | none => rw [hc3] at h; cases h
      | some w =>
        obtain ⟨v61, M62⟩ := w
        rw [hc3] at h
        dsimp only at h
        replace g := kp_tr g (kp_sub (by simp [w36, w44]) (zF36_kp n 0 x4 M58 _ _ hc3))
        exact kp_tr g (zJ44_247_kp n zrec39 hrec39 x1 x2 x3 M62 _ _ h)
    · rw [if_neg q2] at h
      cases hc4 : zF35 n 0 x4 0 M58 with
      | none => rw [hc4] at h; cases h
      | some w =>
        obtain ⟨v64, M65⟩ := w
        rw [hc4] at h
        dsimp only at h
        replace g := kp_tr g (kp_sub (by simp [w35, w44]) (zF35_kp n 0 x4 0 M58 _ _ hc4))
        exact kp_tr g (zJ44_247_kp n zrec39 hrec39 x1 x2 x3 M65 _ _ h)
set_option maxRecDepth 100000 in
theorem zJ44_156_kp (n : Nat) (zrec39 : Int → Int → Int → ZM → Option (Int × ZM)) (hrec39 : ∀ (c0 : Int) (c1 : Int) (c2 : Int) (c3 : ZM) (r : Int) (m' : ZM), zrec39 c0 c1 c2 c3 = some (r, m') → kp (wl w44) c3 m') (x1 : Int) (x2 : Int) (x3 : Int) (M : ZM) (r : Int) (m' : ZM) (h : zJ44_156 n zrec39 x1 x2 x3 M = some (r, m')) : kp (wl w44) M m' := by
  unfold zJ44_156 at h
  have g := kp_refl (wl w44) M
  cases hc1 : zF42 n x1 M with
  | none => rw [hc1] at h; cases h
  | some w =>
    obtain ⟨v70, M71⟩ := w
    rw [hc1] at h
    dsimp only at h
    replace g := kp_tr g (kp_sub (by simp [w42, w44]) (zF42_kp n x1 M _ _ hc1))
    by_cases q2 : v70 = 0
    · rw [if_pos q2] at h
      rw [← (Prod.mk.inj (Option.some.inj h)).2]
      exact g
    · rw [if_neg q2] at h
      exact kp_tr g (hrec39 x1 x2 x3 M71 _ _ h)
set_option maxRecDepth 100000 in
theorem zJ44_143_kp (n : Nat) (zrec39 : Int → Int → Int → ZM → Option (Int × ZM)) (hrec39 : ∀ (c0 : Int) (c1 : Int) (c2 : Int) (c3 : ZM) (r : Int) (m' : ZM), zrec39 c0 c1 c2 c3 = some (r, m') → kp (wl w44) c3 m') (x1 : Int) (x2 : Int) (x3 : Int) (M : ZM) (r : Int) (m' : ZM) (h : zJ44_143 n zrec39 x1 x2 x3 M = some (r, m')) : kp (wl w44) M m' := by
  unfold zJ44_143 at h
  have g := kp_refl (wl w44) M
  cases hc1 : zF31 n 36 M with
  | none => rw [hc1] at h; cases h
  | some w =>
    obtain ⟨v41, M42⟩ := w
    rw [hc1] at h
    dsimp only at h
    replace g := kp_tr g (kp_eq _ (zF31_kp n 36 M _ _ hc1))
    by_cases q2 : v41 = 0
    · rw [if_pos q2] at h
      by_cases q3 : (M42.1 83 4) = 4
      · rw [if_pos q3] at h
        exact kp_tr g (zJ44_180_kp n zrec39 hrec39 x1 x2 x3 (M42.1 83 5) M42 _ _ h)
      · rw [if_neg q3] at h
        exact kp_tr g (zJ44_221_kp n zrec39 hrec39 x1 x2 x3 (M42.1 83 5) M42 _ _ h)
    · rw [if_neg q2] at h
      cases hc4 : zF28 n M42 with
      | none => rw [hc4] at h; cases h
      | some w =>
        obtain ⟨v67, M68⟩ := w
        rw [hc4] at h
        dsimp only at h
        replace g := kp_tr g (kp_sub (by simp [w28, w44]) (zF28_kp n M42 _ _ hc4))
        exact kp_tr g (zJ44_156_kp n zrec39 hrec39 x1 x2 x3 M68 _ _ h)
set_option maxRecDepth 100000 in
theorem zL44_39_kp (n : Nat) : ∀ (k : Nat) (x1 : Int) (x2 : Int) (x3 : Int) (M : ZM) (r : Int) (m' : ZM), zL44_39 n k x1 x2 x3 M = some (r, m') → kp (wl w44) M m' := by
  intro k
  induction k with
  | zero => intro x1 x2 x3 M r m' h; cases h
  | succ k ih =>
    intro x1 x2 x3 M r m' h
    rw [zL44_39] at h
    have g := kp_refl (wl w44) M
    by_cases q1 : x3 = 0
    · rw [if_pos q1] at h
      cases hc2 : zF28 n M with
      | none => rw [hc2] at h; cases h
      | some w =>
        obtain ⟨v8, M9⟩ := w
        rw [hc2] at h
        dsimp only at h
        replace g := kp_tr g (kp_sub (by simp [w28, w44]) (zF28_kp n M _ _ hc2))
        by_cases q3 : x1 = 0
        · rw [if_pos q3] at h
          cases hc4 : zF36 n 6 0 M9 with
          | none => rw [hc4] at h; cases h
          | some w =>
            obtain ⟨v12, M13⟩ := w
            rw [hc4] at h
            dsimp only at h
            replace g := kp_tr g (kp_sub (by simp [w36, w44]) (zF36_kp n 6 0 M9 _ _ hc4))
            exact kp_tr g (zJ44_276_kp n M13 _ _ h)
        · rw [if_neg q3] at h
          cases hc5 : zF35 n 6 0 0 M9 with
          | none => rw [hc5] at h; cases h
          | some w =>
            obtain ⟨v15, M16⟩ := w
            rw [hc5] at h
            dsimp only at h
            replace g := kp_tr g (kp_sub (by simp [w35, w44]) (zF35_kp n 6 0 0 M9 _ _ hc5))
            exact kp_tr g (zJ44_276_kp n M16 _ _ h)
    · rw [if_neg q1] at h
      by_cases q6 : (M.1 83 4) = 0
      · rw [if_pos q6] at h
        exact kp_tr g (zJ44_59_kp n M _ _ h)
      · rw [if_neg q6] at h
        by_cases q7 : (M.1 83 4) = 6
        · rw [if_pos q7] at h
          exact kp_tr g (zJ44_59_kp n M _ _ h)
        · rw [if_neg q7] at h
          by_cases q8 : (M.1 83 4) = 5
          · rw [if_pos q8] at h
            exact kp_tr g (zJ44_72_kp n (zL44_39 n k) ih x1 x2 M _ _ h)
          · rw [if_neg q8] at h
            exact kp_tr g (zJ44_143_kp n (zL44_39 n k) ih x1 x2 x3 M _ _ h)
set_option maxRecDepth 100000 in
theorem zJ44_36_kp (n : Nat) (x1 : Int) (s0 : Int) (M : ZM) (r : Int) (m' : ZM) (h : zJ44_36 n x1 s0 M = some (r, m')) : kp (wl w44) M m' := by
  unfold zJ44_36 at h
  have g := kp_refl (wl w44) M
  exact kp_tr g (zL44_39_kp n n x1 s0 1 M _ _ h)
set_option maxRecDepth 100000 in
theorem zJ44_15_kp (n : Nat) (x1 : Int) (M : ZM) (r : Int) (m' : ZM) (h : zJ44_15 n x1 M = some (r, m')) : kp (wl w44) M m' := by
  unfold zJ44_15 at h
  have g := kp_refl (wl w44) M
  replace g : kp (wl w44) M (z_i M 83 32 0) := kp_i g (by simp [w44])
  rw [zlet] at h
  generalize z_i M 83 32 0 = M4 at h g
  replace g : kp (wl w44) M (z_i M4 83 33 0) := kp_i g (by simp [w44])
  rw [zlet] at h
  generalize z_i M4 83 33 0 = M5 at h g
  by_cases q1 : x1 = 0
  · rw [if_pos q1] at h
    exact kp_tr g (zJ44_36_kp n x1 125 M5 _ _ h)
  · rw [if_neg q1] at h
    exact kp_tr g (zJ44_36_kp n x1 41 M5 _ _ h)
set_option maxRecDepth 100000 in
theorem zF44_kp (n : Nat) (a0 : Int) (M : ZM) (r : Int) (m' : ZM) (h : zF44 n a0 M = some (r, m')) : kp (wl w44) M m' := by
  unfold zF44 at h
  have g := kp_refl (wl w44) M
  replace g : kp (wl w44) M (z_i M 83 27 0) := kp_i g (by simp [w44])
  rw [zlet] at h
  generalize z_i M 83 27 0 = M1 at h g
  replace g : kp (wl w44) M (z_i M1 83 30 (-1)) := kp_i g (by simp [w44])
  rw [zlet] at h
  generalize z_i M1 83 30 (-1) = M2 at h g
  replace g : kp (wl w44) M (z_i M2 83 31 (-1)) := kp_i g (by simp [w44])
  rw [zlet] at h
  generalize z_i M2 83 31 (-1) = M3 at h g
  exact kp_tr g (zJ44_15_kp n a0 M3 _ _ h)
def w45 : List (Nat × Nat) := [(100, 1000), (101, 1000), (102, 1000), (103, 1000), (104, 1000), (83, 4), (83, 5), (83, 6), (83, 7), (83, 8), (83, 27), (83, 30), (83, 31), (83, 32), (83, 33), (88, 1000), (89, 1000), (90, 1000), (91, 1000), (92, 1000), (93, 1000), (94, 1000), (95, 1000), (96, 1000), (97, 1000), (98, 1000), (99, 1000)]
set_option maxRecDepth 100000 in
theorem zJ45_176_kp (n : Nat) (s0 : Int) (M : ZM) (r : Int) (m' : ZM) (h : zJ45_176 n s0 M = some (r, m')) : kp (wl w45) M m' := by
  unfold zJ45_176 at h
  have g := kp_refl (wl w45) M
  by_cases q1 : s0 = 0 ∨ s0 = 1
  · rw [if_pos q1] at h
    rw [← (Prod.mk.inj (Option.some.inj h)).2]
    exact g
  · rw [if_neg q1] at h
    cases h
set_option maxRecDepth 100000 in
theorem zJ45_171_kp (n : Nat) (M : ZM) (r : Int) (m' : ZM) (h : zJ45_171 n M = some (r, m')) : kp (wl w45) M m' := by
  unfold zJ45_171 at h
  have g := kp_refl (wl w45) M
  exact kp_tr g (zJ45_176_kp n 1 M _ _ h)
set_option maxRecDepth 100000 in
theorem zJ45_175_kp (n : Nat) (M : ZM) (r : Int) (m' : ZM) (h : zJ45_175 n M = some (r, m')) : kp (wl w45) M m' := by
  unfold zJ45_175 at h
  have g := kp_refl (wl w45) M
  exact kp_tr g (zJ45_176_kp n 0 M _ _ h)
set_option maxRecDepth 100000 in
theorem zJ45_66_kp (n : Nat) (M : ZM) (r : Int) (m' : ZM) (h : zJ45_66 n M = some (r, m')) : kp (wl w45) M m' := by
  unfold zJ45_66 at h
  have g := kp_refl (wl w45) M
  rw [← (Prod.mk.inj (Option.some.inj h)).2]
  exact g
set_option maxRecDepth 100000 in
theorem zJ45_89_kp (n : Nat) (M : ZM) (r : Int) (m' : ZM) (h : zJ45_89 n M = some (r, m')) : kp (wl w45) M m' := by
  unfold zJ45_89 at h
  have g := kp_refl (wl w45) M
  rw [← (Prod.mk.inj (Option.some.inj h)).2]
  exact g
set_option maxRecDepth 100000 in
theorem zJ45_143_kp (n : Nat) (zrec41 : Int → Int → Int → ZM → Option (Int × ZM)) (hrec41 : ∀ (c0 : Int) (c1 : Int) (c2 : Int) (c3 : ZM) (r : Int) (m' : ZM), zrec41 c0 c1 c2 c3 = some (r, m') → kp (wl w45) c3 m') (x1 : Int) (x2 : Int) (s0 : Int) (M : ZM) (r : Int) (m' : ZM) (h : zJ45_143 n zrec41 x1 x2 s0 M = some (r, m')) : kp (wl w45) M m' := by
  unfold zJ45_143 at h
  have g := kp_refl (wl w45) M
  by_cases q1 : s0 = 0
  · rw [if_pos q1] at h
    exact kp_tr g (hrec41 x1 x2 s0 M _ _ h)
  · rw [if_neg q1] at h
    cases hc2 : zF28 n M with
    | none => rw [hc2] at h; cases h
    | some w =>
      obtain ⟨v49, M50⟩ := w
      rw [hc2] at h
      dsimp only at h
      replace g := kp_tr g (kp_sub (by simp [w28, w45]) (zF28_kp n M _ _ hc2))
      exact kp_tr g (hrec41 x1 x2 s0 M50 _ _ h)
set_option maxRecDepth 100000 in
theorem zJ45_142_kp (n : Nat) (zrec41 : Int → Int → Int → ZM → Option (Int × ZM)) (hrec41 : ∀ (c0 : Int) (c1 : Int) (c2 : Int) (c3 : ZM) (r : Int) (m' : ZM), zrec41 c0 c1 c2 c3 = some (r, m') → kp (wl w45) c3 m') (x1 : Int) (x2 : Int) (M : ZM) (r : Int) (m' : ZM) (h : zJ45_142 n zrec41 x1 x2 M = some (r, m')) : kp (wl w45) M m' := by
  unfold zJ45_142 at h
  have g := kp_refl (wl w45) M
  exact kp_tr g (zJ45_143_kp n zrec41 hrec41 x1 x2 0 M _ _ h)
set_option maxRecDepth 100000 in
theorem zJ45_128_kp (n : Nat) (zrec41 : Int → Int → Int → ZM → Option (Int × ZM)) (hrec41 : ∀ (c0 : Int) (c1 : Int) (c2 : Int) (c3 : ZM) (r : Int) (m' : ZM), zrec41 c0 c1 c2 c3 = some (r, m') → kp (wl w45) c3 m') (x1 : Int) (x2 : Int) (M : ZM) (r : Int) (m' : ZM) (h : zJ45_128 n zrec41 x1 x2 M = some (r, m')) : kp (wl w45) M m' := by
  unfold zJ45_128 at h
  have g := kp_refl (wl w45) M
  by_cases q1 : x1 < 0 ∨ 6 ≤ x1
  · rw [if_pos q1] at h
    cases h
  · rw [if_neg q1] at h
    by_cases q2 : 3 ≤ (M.1 89 (Int.toNat x1))
    · rw [if_pos q2] at h
      exact kp_tr g (zJ45_142_kp n zrec41 hrec41 x1 x2 M _ _ h)
    · rw [if_neg q2] at h
      exact kp_tr g (zJ45_143_kp n zrec41 hrec41 x1 x2 1 M _ _ h)
set_option maxRecDepth 100000 in
theorem zJ45_105_kp (n : Nat) (zrec41 : Int → Int → Int → ZM → Option (Int × ZM)) (hrec41 : ∀ (c0 : Int) (c1 : Int) (c2 : Int) (c3 : ZM) (r : Int) (m' : ZM), zrec41 c0 c1 c2 c3 = some (r, m') → kp (wl w45) c3 m') (x1 : Int) (x2 : Int) (M : ZM) (r : Int) (m' : ZM) (h : zJ45_105 n zrec41 x1 x2 M = some (r, m')) : kp (wl w45) M m' := by
  unfold zJ45_105 at h
  have g := kp_refl (wl w45) M
  by_cases q1 : x1 < 0 ∨ 6 ≤ x1
  · rw [if_pos q1] at h
    cases h
  · rw [if_neg q1] at h
    by_cases q2 : rg (x2 + 1)
    · rw [if_pos q2] at h
      by_cases q3 : (M.1 89 (Int.toNat x1)) = (x2 + 1)
      · rw [if_pos q3] at h
        rw [← (Prod.mk.inj (Option.some.inj h)).2]
        exact g
      · rw [if_neg q3] at h
        cases hc4 : zF31 n 59 M with
        | none => rw [hc4] at h; cases h
        | some w =>
          obtain ⟨v44, M45⟩ := w
          rw [hc4] at h
          dsimp only at h
          replace g := kp_tr g (kp_eq _ (zF31_kp n 59 M _ _ hc4))
          by_cases q5 : v44 = 0
          · rw [if_pos q5] at h
            exact kp_tr g (zJ45_142_kp n zrec41 hrec41 x1 x2 M45 _ _ h)
          · rw [if_neg q5] at h
            exact kp_tr g (zJ45_128_kp n zrec41 hrec41 x1 x2 M45 _ _ h)
    · rw [if_neg q2] at h
      cases h
set_option maxRecDepth 100000 in
theorem zJ45_81_kp (n : Nat) (zrec41 : Int → Int → Int → ZM → Option (Int × ZM)) (hrec41 : ∀ (c0 : Int) (c1 : Int) (c2 : Int) (c3 : ZM) (r : Int) (m' : ZM), zrec41 c0 c1 c2 c3 = some (r, m') → kp (wl w45) c3 m') (x1 : Int) (x2 : Int) (M : ZM) (r : Int) (m' : ZM) (h : zJ45_81 n zrec41 x1 x2 M = some (r, m')) : kp (wl w45) M m' := by
  unfold zJ45_81 at h
  have g := kp_refl (wl w45) M
  cases hc1 : zF44 n 0 M with
  | none => rw [hc1] at h; cases h
  | some w =>
    obtain ⟨v35, M36⟩ := w
    rw [hc1] at h
    dsimp only at h
    replace g := kp_tr g (kp_sub (by simp [w44, w45]) (zF44_kp n 0 M _ _ hc1))
    by_cases q2 : v35 = 0
    · rw [if_pos q2] at h
      exact kp_tr g (zJ45_89_kp n M36 _ _ h)
    · rw [if_neg q2] at h
      by_cases q3 : x1 < 0 ∨ 6 ≤ x1
      · rw [if_pos q3] at h
        cases h
      · rw [if_neg q3] at h
        by_cases q4 : rg ((M36.1 89 (Int.toNat x1)) + 1)
        · rw [if_pos q4] at h
          replace g : kp (wl w45) M (z_i M36 89 (Int.toNat x1) ((M36.1 89 (Int.toNat x1)) + 1)) := kp_ia g (by simp [w45])
          rw [zlet] at h
          generalize z_i M36 89 (Int.toNat x1) ((M36.1 89 (Int.toNat x1)) + 1) = M41 at h g
          exact kp_tr g (zJ45_105_kp n zrec41 hrec41 x1 x2 M41 _ _ h)
        · rw [if_neg q4] at h
          cases h
set_option maxRecDepth 100000 in
theorem zJ45_58_kp (n : Nat) (zrec41 : Int → Int → Int → ZM → Option (Int × ZM)) (hrec41 : ∀ (c0 : Int) (c1 : Int) (c2 : Int) (c3 : ZM) (r : Int) (m' : ZM), zrec41 c0 c1 c2 c3 = some (r, m') → kp (wl w45) c3 m') (x1 : Int) (x2 : Int) (M : ZM) (r : Int) (m' : ZM) (h : zJ45_58 n zrec41 x1 x2 M = some (r, m')) : kp (wl w45) M m' := by
  unfold zJ45_58 at h
  have g := kp_refl (wl w45) M
  cases hc1 : zF44 n 1 M with
  | none => rw [hc1] at h; cases h
  | some w =>
    obtain ⟨v24, M25⟩ := w
    rw [hc1] at h
    dsimp only at h
    replace g := kp_tr g (kp_sub (by simp [w44, w45]) (zF44_kp n 1 M _ _ hc1))
    by_cases q2 : v24 = 0
    · rw [if_pos q2] at h
      exact kp_tr g (zJ45_66_kp n M25 _ _ h)
    · rw [if_neg q2] at h
      cases hc3 : zF31 n 123 M25 with
      | none => rw [hc3] at h; cases h
      | some w =>
        obtain ⟨v28, M29⟩ := w
        rw [hc3] at h
        dsimp only at h
        replace g := kp_tr g (kp_eq _ (zF31_kp n 123 M25 _ _ hc3))
        cases hc4 : zF30 n v28 M29 with
        | none => rw [hc4] at h; cases h
        | some w =>
          obtain ⟨v31, M32⟩ := w
          rw [hc4] at h
          dsimp only at h
          replace g := kp_tr g (kp_sub (by simp [w30, w45]) (zF30_kp n v28 M29 _ _ hc4))
          by_cases q5 : v31 = 0
          · rw [if_pos q5] at h
            exact kp_tr g (zJ45_89_kp n M32 _ _ h)
          · rw [if_neg q5] at h
            exact kp_tr g (zJ45_81_kp n zrec41 hrec41 x1 x2 M32 _ _ h)
set_option maxRecDepth 100000 in
theorem zL45_41_kp (n : Nat) : ∀ (k : Nat) (x1 : Int) (x2 : Int) (x3 : Int) (M : ZM) (r : Int) (m' : ZM), zL45_41 n k x1 x2 x3 M = some (r, m') → kp (wl w45) M m' := by
  intro k
  induction k with
  | zero => intro x1 x2 x3 M r m' h; cases h
  | succ k ih =>
    intro x1 x2 x3 M r m' h
    rw [zL45_41] at h
    have g := kp_refl (wl w45) M
    by_cases q1 : x3 = 0
    · rw [if_pos q1] at h
      by_cases q2 : (M.1 83 4) = 6
      · rw [if_pos q2] at h
        exact kp_tr g (zJ45_171_kp n M _ _ h)
      · rw [if_neg q2] at h
        cases hc3 : zF29 n M with
        | none => rw [hc3] at h; cases h
        | some w =>
          obtain ⟨v13, M14⟩ := w
          rw [hc3] at h
          dsimp only at h
          replace g := kp_tr g (kp_sub (by simp [w29, w45]) (zF29_kp n M _ _ hc3))
          by_cases q4 : v13 = 0
          · rw [if_pos q4] at h
            exact kp_tr g (zJ45_175_kp n M14 _ _ h)
          · rw [if_neg q4] at h
            exact kp_tr g (zJ45_171_kp n M14 _ _ h)
    · rw [if_neg q1] at h
      cases hc5 : zF31 n 40 M with
      | none => rw [hc5] at h; cases h
      | some w =>
        obtain ⟨v17, M18⟩ := w
        rw [hc5] at h
        dsimp only at h
        replace g := kp_tr g (kp_eq _ (zF31_kp n 40 M _ _ hc5))
        cases hc6 : zF30 n v17 M18 with
        | none => rw [hc6] at h; cases h
        | some w =>
          obtain ⟨v20, M21⟩ := w
          rw [hc6] at h
          dsimp only at h
          replace g := kp_tr g (kp_sub (by simp [w30, w45]) (zF30_kp n v17 M18 _ _ hc6))
          by_cases q7 : v20 = 0
          · rw [if_pos q7] at h
            exact kp_tr g (zJ45_66_kp n M21 _ _ h)
          · rw [if_neg q7] at h
            exact kp_tr g (zJ45_58_kp n (zL45_41 n k) ih x1 x2 M21 _ _ h)
set_option maxRecDepth 100000 in
theorem zJ45_39_kp (n : Nat) (x1 : Int) (x2 : Int) (M : ZM) (r : Int) (m' : ZM) (h : zJ45_39 n x1 x2 M = some (r, m')) : kp (wl w45) M m' := by
  unfold zJ45_39 at h
  have g := kp_refl (wl w45) M
  exact kp_tr g (zL45_41_kp n n x1 x2 1 M _ _ h)
set_option maxRecDepth 100000 in
theorem zJ45_24_kp (n : Nat) (x1 : Int) (x2 : Int) (s0 : Int) (M : ZM) (r : Int) (m' : ZM) (h : zJ45_24 n x1 x2 s0 M = some (r, m')) : kp (wl w45) M m' := by
  unfold zJ45_24 at h
  have g := kp_refl (wl w45) M
  cases hc1 : zF30 n s0 M with
  | none => rw [hc1] at h; cases h
  | some w =>
    obtain ⟨v4, M5⟩ := w
    rw [hc1] at h
    dsimp only at h
    replace g := kp_tr g (kp_sub (by simp [w30, w45]) (zF30_kp n s0 M _ _ hc1))
    by_cases q2 : v4 = 0
    · rw [if_pos q2] at h
      rw [← (Prod.mk.inj (Option.some.inj h)).2]
      exact g
    · rw [if_neg q2] at h
      by_cases q3 : x1 < 0 ∨ 6 ≤ x1
      · rw [if_pos q3] at h
        cases h
      · rw [if_neg q3] at h
        replace g : kp (wl w45) M (z_i M5 89 (Int.toNat x1) 0) := kp_ia g (by simp [w45])
        rw [zlet] at h
        generalize z_i M5 89 (Int.toNat x1) 0 = M9 at h g
        exact kp_tr g (zJ45_39_kp n x1 x2 M9 _ _ h)
set_option maxRecDepth 100000 in
theorem zF45_kp (n : Nat) (a0 : Int) (a1 : Int) (M : ZM) (r : Int) (m' : ZM) (h : zF45 n a0 a1 M = some (r, m')) : kp (wl w45) M m' := by
  unfold zF45 at h
  have g := kp_refl (wl w45) M
  by_cases q1 : a0 < 0 ∨ 6 ≤ a0
  · rw [if_pos q1] at h
    cases h
  · rw [if_neg q1] at h
    replace g : kp (wl w45) M (z_i M 88 (Int.toNat a0) (M.1 83 5)) := kp_ia g (by simp [w45])
    rw [zlet] at h
    generalize z_i M 88 (Int.toNat a0) (M.1 83 5) = M2 at h g
    by_cases q2 : (M2.1 83 4) = 1
    · rw [if_pos q2] at h
      exact kp_tr g (zJ45_24_kp n a0 a1 1 M2 _ _ h)
    · rw [if_neg q2] at h
      exact kp_tr g (zJ45_24_kp n a0 a1 0 M2 _ _ h)
set_option maxRecDepth 100000 in
theorem zJ46_40_kp (n : Nat) (zrec4 : Int → Int → Int → ZM → Option (Int × ZM)) (hrec4 : ∀ (c0 : Int) (c1 : Int) (c2 : Int) (c3 : ZM) (r : Int) (m' : ZM), zrec4 c0 c1 c2 c3 = some (r, m') → m' = c3) (x1 : Int) (x3 : Int) (s0 : Int) (M : ZM) (r : Int) (m' : ZM) (h : zJ46_40 n zrec4 x1 x3 s0 M = some (r, m')) : m' = M := by
  unfold zJ46_40 at h
  have g : M = M := rfl
  by_cases q1 : rg (x3 + 1)
  · rw [if_pos q1] at h
    exact (hrec4 x1 s0 (x3 + 1) M _ _ h).trans g
  · rw [if_neg q1] at h
    cases h
set_option maxRecDepth 100000 in
theorem zJ46_39_kp (n : Nat) (zrec4 : Int → Int → Int → ZM → Option (Int × ZM)) (hrec4 : ∀ (c0 : Int) (c1 : Int) (c2 : Int) (c3 : ZM) (r : Int) (m' : ZM), zrec4 c0 c1 c2 c3 = some (r, m') → m' = c3) (x1 : Int) (x2 : Int) (x3 : Int) (M : ZM) (r : Int) (m' : ZM) (h : zJ46_39 n zrec4 x1 x2 x3 M = some (r, m')) : m' = M := by
  unfold zJ46_39 at h
  have g : M = M := rfl
  exact (zJ46_40_kp n zrec4 hrec4 x1 x3 x2 M _ _ h).trans g
set_option maxRecDepth 100000 in
theorem zJ46_25_kp (n : Nat) (zrec4 : Int → Int → Int → ZM → Option (Int × ZM)) (hrec4 : ∀ (c0 : Int) (c1 : Int) (c2 : Int) (c3 : ZM) (r : Int) (m' : ZM), zrec4 c0 c1 c2 c3 = some (r, m') → m' = c3) (x1 : Int) (x2 : Int) (x3 : Int) (M : ZM) (r : Int) (m' : ZM) (h : zJ46_25 n zrec4 x1 x2 x3 M = some (r, m')) : m' = M := by
  unfold zJ46_25 at h
  have g : M = M := rfl
  by_cases q1 : x3 < 0 ∨ 128 ≤ x3
  · rw [if_pos q1] at h
    cases h
  · rw [if_neg q1] at h
    by_cases q2 : (M.1 91 (Int.toNat x3)) = x1
    · rw [if_pos q2] at h
      exact (zJ46_40_kp n zrec4 hrec4 x1 x3 x3 M _ _ h).trans g
    · rw [if_neg q2] at h
      exact (zJ46_39_kp n zrec4 hrec4 x1 x2 x3 M _ _ h).trans g
set_option maxRecDepth 100000 in
theorem zL46_4_kp (n : Nat) : ∀ (k : Nat) (x1 : Int) (x2 : Int) (x3 : Int) (M : ZM) (r : Int) (m' : ZM), zL46_4 n k x1 x2 x3 M = some (r, m') → m' = M := by
  intro k
  induction k with
  | zero => intro x1 x2 x3 M r m' h; cases h
  | succ k ih =>
    intro x1 x2 x3 M r m' h
    rw [zL46_4] at h
    have g : M = M := rfl
    by_cases q1 : x3 < 0 ∨ 128 ≤ x3
    · rw [if_pos q1] at h
      cases h
    · rw [if_neg q1] at h
      by_cases q2 : (M.1 90 (Int.toNat x3)) = 6
      · rw [if_pos q2] at h
        exact (Prod.mk.inj (Option.some.inj h)).2.symm.trans g
      · rw [if_neg q2] at h
        by_cases q3 : (M.1 90 (Int.toNat x3)) = 3
        · rw [if_pos q3] at h
          exact (zJ46_25_kp n (zL46_4 n k) ih x1 x2 x3 M _ _ h).trans g
        · rw [if_neg q3] at h
          exact (zJ46_39_kp n (zL46_4 n k) ih x1 x2 x3 M _ _ h).trans g
set_option maxRecDepth 100000 in
theorem zF46_kp (n : Nat) (a0 : Int) (M : ZM) (r : Int) (m' : ZM) (h : zF46 n a0 M = some (r, m')) : m' = M := by
  unfold zF46 at h
  have g : M = M := rfl
  exact (zL46_4_kp n n a0 (-1) 0 M _ _ h).trans g
set_option maxRecDepth 100000 in
theorem zJ47_48_kp (n : Nat) (zrec4 : Int → Int → ZM → Option (Int × ZM)) (hrec4 : ∀ (c0 : Int) (c1 : Int) (c2 : ZM) (r : Int) (m' : ZM), zrec4 c0 c1 c2 = some (r, m') → m' = c2) (x2 : Int) (s0 : Int) (M : ZM) (r : Int) (m' : ZM) (h : zJ47_48 n zrec4 x2 s0 M = some (r, m')) : m' = M := by
  unfold zJ47_48 at h
  have g : M = M := rfl
  by_cases q1 : rg (x2 + 1)
  · rw [if_pos q1] at h
    exact (hrec4 s0 (x2 + 1) M _ _ h).trans g
  · rw [if_neg q1] at h
    cases h
set_option maxRecDepth 100000 in
theorem zJ47_47_kp (n : Nat) (zrec4 : Int → Int → ZM → Option (Int × ZM)) (hrec4 : ∀ (c0 : Int) (c1 : Int) (c2 : ZM) (r : Int) (m' : ZM), zrec4 c0 c1 c2 = some (r, m') → m' = c2) (x2 : Int) (M : ZM) (r : Int) (m' : ZM) (h : zJ47_47 n zrec4 x2 M = some (r, m')) : m' = M := by
  unfold zJ47_47 at h
  have g : M = M := rfl
  exact (zJ47_48_kp n zrec4 hrec4 x2 0 M _ _ h).trans g
set_option maxRecDepth 100000 in
theorem zJ47_43_kp (n : Nat) (zrec4 : Int → Int → ZM → Option (Int × ZM)) (hrec4 : ∀ (c0 : Int) (c1 : Int) (c2 : ZM) (r : Int) (m' : ZM), zrec4 c0 c1 c2 = some (r, m') → m' = c2) (x2 : Int) (M : ZM) (r : Int) (m' : ZM) (h : zJ47_43 n zrec4 x2 M = some (r, m')) : m' = M := by
  unfold zJ47_43 at h
  have g : M = M := rfl
  exact (zJ47_48_kp n zrec4 hrec4 x2 1 M _ _ h).trans g
set_option maxRecDepth 100000 in
theorem zJ47_29_kp (n : Nat) (zrec4 : Int → Int → ZM → Option (Int × ZM)) (hrec4 : ∀ (c0 : Int) (c1 : Int) (c2 : ZM) (r : Int) (m' : ZM), zrec4 c0 c1 c2 = some (r, m') → m' = c2) (x2 : Int) (M : ZM) (r : Int) (m' : ZM) (h : zJ47_29 n zrec4 x2 M = some (r, m')) : m' = M := by
  unfold zJ47_29 at h
  have g : M = M := rfl
  by_cases q1 : x2 < 0 ∨ 128 ≤ x2
  · rw [if_pos q1] at h
    cases h
  · rw [if_neg q1] at h
    cases hc2 : zF46 n (M.1 91 (Int.toNat x2)) M with
    | none => rw [hc2] at h; cases h
    | some w =>
      obtain ⟨v8, M9⟩ := w
      rw [hc2] at h
      dsimp only at h
      replace g := (zF46_kp n (M.1 91 (Int.toNat x2)) M _ _ hc2).trans g
      by_cases q3 : v8 = x2
      · rw [if_pos q3] at h
        exact (zJ47_47_kp n zrec4 hrec4 x2 M9 _ _ h).trans g
      · rw [if_neg q3] at h
        exact (zJ47_43_kp n zrec4 hrec4 x2 M9 _ _ h).trans g
set_option maxRecDepth 100000 in
theorem zL47_4_kp (n : Nat) : ∀ (k : Nat) (x1 : Int) (x2 : Int) (M : ZM) (r : Int) (m' : ZM), zL47_4 n k x1 x2 M = some (r, m') → m' = M := by
  intro k
  induction k with
  | zero => intro x1 x2 M r m' h; cases h
  | succ k ih =>
    intro x1 x2 M r m' h
    rw [zL47_4] at h
    have g : M = M := rfl
    by_cases q1 : x2 < 0 ∨ 128 ≤ x2
    · rw [if_pos q1] at h
      cases h
    · rw [if_neg q1] at h
      by_cases q2 : (M.1 90 (Int.toNat x2)) = 6
      · rw [if_pos q2] at h
        by_cases q3 : x1 = 0 ∨ x1 = 1
        · rw [if_pos q3] at h
          exact (Prod.mk.inj (Option.some.inj h)).2.symm.trans g
        · rw [if_neg q3] at h
          cases h
      · rw [if_neg q2] at h
        by_cases q4 : x1 = 0
        · rw [if_pos q4] at h
          by_cases q5 : (M.1 90 (Int.toNat x2)) = 3
          · rw [if_pos q5] at h
            exact (zJ47_29_kp n (zL47_4 n k) ih x2 M _ _ h).trans g
          · rw [if_neg q5] at h
            exact (zJ47_47_kp n (zL47_4 n k) ih x2 M _ _ h).trans g
        · rw [if_neg q4] at h
          exact (zJ47_43_kp n (zL47_4 n k) ih x2 M _ _ h).trans g
set_option maxRecDepth 100000 in
theorem zF47_kp (n : Nat) (M : ZM) (r : Int) (m' : ZM) (h : zF47 n M = some (r, m')) : m' = M := by
  unfold zF47 at h
  have g : M = M := rfl
  exact (zL47_4_kp n n 0 0 M _ _ h).trans g
set_option maxRecDepth 100000 in
theorem zJ48_90_kp (n : Nat) (zrec4 : Int → Int → ZM → Option (Int × ZM)) (hrec4 : ∀ (c0 : Int) (c1 : Int) (c2 : ZM) (r : Int) (m' : ZM), zrec4 c0 c1 c2 = some (r, m') → m' = c2) (x2 : Int) (s0 : Int) (M : ZM) (r : Int) (m' : ZM) (h : zJ48_90 n zrec4 x2 s0 M = some (r, m')) : m' = M := by
  unfold zJ48_90 at h
  have g : M = M := rfl
  by_cases q1 : rg (x2 + 1)
  · rw [if_pos q1] at h
    exact (hrec4 s0 (x2 + 1) M _ _ h).trans g
  · rw [if_neg q1] at h
    cases h
set_option maxRecDepth 100000 in
theorem zJ48_85_kp (n : Nat) (zrec4 : Int → Int → ZM → Option (Int × ZM)) (hrec4 : ∀ (c0 : Int) (c1 : Int) (c2 : ZM) (r : Int) (m' : ZM), zrec4 c0 c1 c2 = some (r, m') → m' = c2) (x2 : Int) (M : ZM) (r : Int) (m' : ZM) (h : zJ48_85 n zrec4 x2 M = some (r, m')) : m' = M := by
  unfold zJ48_85 at h
  have g : M = M := rfl
  exact (zJ48_90_kp n zrec4 hrec4 x2 1 M _ _ h).trans g
set_option maxRecDepth 100000 in
theorem zJ48_89_kp (n : Nat) (zrec4 : Int → Int → ZM → Option (Int × ZM)) (hrec4 : ∀ (c0 : Int) (c1 : Int) (c2 : ZM) (r : Int) (m' : ZM), zrec4 c0 c1 c2 = some (r, m') → m' = c2) (x2 : Int) (M : ZM) (r : Int) (m' : ZM) (h : zJ48_89 n zrec4 x2 M = some (r, m')) : m' = M := by
  unfold zJ48_89 at h
  have g : M = M := rfl
  exact (zJ48_90_kp n zrec4 hrec4 x2 0 M _ _ h).trans g
set_option maxRecDepth 100000 in
theorem zJ48_61_kp (n : Nat) (zrec4 : Int → Int → ZM → Option (Int × ZM)) (hrec4 : ∀ (c0 : Int) (c1 : Int) (c2 : ZM) (r : Int) (m' : ZM), zrec4 c0 c1 c2 = some (r, m') → m' = c2) (x1 : Int) (x2 : Int) (x3 : Int) (M : ZM) (r : Int) (m' : ZM) (h : zJ48_61 n zrec4 x1 x2 x3 M = some (r, m')) : m' = M := by
  unfold zJ48_61 at h
  have g : M = M := rfl
  by_cases q1 : x1 = 0
  · rw [if_pos q1] at h
    by_cases q2 : x2 < 0 ∨ 128 ≤ x2
    · rw [if_pos q2] at h
      cases h
    · rw [if_neg q2] at h
      by_cases q3 : (M.1 90 (Int.toNat x2)) = 4
      · rw [if_pos q3] at h
        by_cases q4 : (M.1 92 (Int.toNat x2)) = x3
        · rw [if_pos q4] at h
          exact (zJ48_85_kp n zrec4 hrec4 x2 M _ _ h).trans g
        · rw [if_neg q4] at h
          exact (zJ48_89_kp n zrec4 hrec4 x2 M _ _ h).trans g
      · rw [if_neg q3] at h
        exact (zJ48_89_kp n zrec4 hrec4 x2 M _ _ h).trans g
  · rw [if_neg q1] at h
    exact (zJ48_85_kp n zrec4 hrec4 x2 M _ _ h).trans g
set_option maxRecDepth 100000 in
theorem zJ48_39_kp (n : Nat) (zrec4 : Int → Int → ZM → Option (Int × ZM)) (hrec4 : ∀ (c0 : Int) (c1 : Int) (c2 : ZM) (r : Int) (m' : ZM), zrec4 c0 c1 c2 = some (r, m') → m' = c2) (zrec19 : Int → Int → Int → ZM → Option (Int × ZM)) (hrec19 : ∀ (c0 : Int) (c1 : Int) (c2 : Int) (c3 : ZM) (r : Int) (m' : ZM), zrec19 c0 c1 c2 c3 = some (r, m') → m' = c3) (x1 : Int) (x2 : Int) (x3 : Int) (M : ZM) (r : Int) (m' : ZM) (h : zJ48_39 n zrec4 zrec19 x1 x2 x3 M = some (r, m')) : m' = M := by
  unfold zJ48_39 at h
  have g : M = M := rfl
  by_cases q1 : x3 < 0 ∨ 128 ≤ x3
  · rw [if_pos q1] at h
    cases h
  · rw [if_neg q1] at h
    by_cases q2 : (M.1 94 (Int.toNat x3)) = 2
    · rw [if_pos q2] at h
      exact (zJ48_61_kp n zrec4 hrec4 x1 x2 x3 M _ _ h).trans g
    · rw [if_neg q2] at h
      by_cases q3 : rg ((M.1 92 (Int.toNat x3)) + 1)
      · rw [if_pos q3] at h
        exact (hrec19 x1 x2 ((M.1 92 (Int.toNat x3)) + 1) M _ _ h).trans g
      · rw [if_neg q3] at h
        cases h
set_option maxRecDepth 100000 in
theorem zL48_19_kp (n : Nat) (zrec4 : Int → Int → ZM → Option (Int × ZM)) (hrec4 : ∀ (c0 : Int) (c1 : Int) (c2 : ZM) (r : Int) (m' : ZM), zrec4 c0 c1 c2 = some (r, m') → m' = c2) : ∀ (k : Nat) (x1 : Int) (x2 : Int) (x3 : Int) (M : ZM) (r : Int) (m' : ZM), zL48_19 n zrec4 k x1 x2 x3 M = some (r, m') → m' = M := by
  intro k
  induction k with
  | zero => intro x1 x2 x3 M r m' h; cases h
  | succ k ih =>
    intro x1 x2 x3 M r m' h
    rw [zL48_19] at h
    have g : M = M := rfl
    by_cases q1 : x2 < 0 ∨ 128 ≤ x2
    · rw [if_pos q1] at h
      cases h
    · rw [if_neg q1] at h
      by_cases q2 : (M.1 90 (Int.toNat x2)) = 4
      · rw [if_pos q2] at h
        by_cases q3 : x3 < 0 ∨ 128 ≤ x3
        · rw [if_pos q3] at h
          cases h
        · rw [if_neg q3] at h
          by_cases q4 : (M.1 90 (Int.toNat x3)) = 4
          · rw [if_pos q4] at h
            exact (zJ48_39_kp n zrec4 hrec4 (zL48_19 n zrec4 k) ih x1 x2 x3 M _ _ h).trans g
          · rw [if_neg q4] at h
            exact (zJ48_61_kp n zrec4 hrec4 x1 x2 x3 M _ _ h).trans g
      · rw [if_neg q2] at h
        exact (zJ48_61_kp n zrec4 hrec4 x1 x2 x3 M _ _ h).trans g
set_option maxRecDepth 100000 in
theorem zL48_4_kp (n : Nat) : ∀ (k : Nat) (x1 : Int) (x2 : Int) (M : ZM) (r : Int) (m' : ZM), zL48_4 n k x1 x2 M = some (r, m') → m' = M := by
  intro k
  induction k with
  | zero => intro x1 x2 M r m' h; cases h
  | succ k ih =>
    intro x1 x2 M r m' h
    rw [zL48_4] at h
    have g : M = M := rfl
    by_cases q1 : x2 < 0 ∨ 128 ≤ x2
    · rw [if_pos q1] at h
      cases h
    · rw [if_neg q1] at h
      by_cases q2 : (M.1 90 (Int.toNat x2)) = 6
      · rw [if_pos q2] at h
        by_cases q3 : x1 = 0 ∨ x1 = 1
        · rw [if_pos q3] at h
          exact (Prod.mk.inj (Option.some.inj h)).2.symm.trans g
        · rw [if_neg q3] at h
          cases h
      · rw [if_neg q2] at h
        by_cases q4 : rg (x2 + 1)
        · rw [if_pos q4] at h
          exact (zL48_19_kp n (zL48_4 n k) ih n x1 x2 (x2 + 1) M _ _ h).trans g
        · rw [if_neg q4] at h
          cases h
set_option maxRecDepth 100000 in
theorem zF48_kp (n : Nat) (M : ZM) (r : Int) (m' : ZM) (h : zF48 n M = some (r, m')) : m' = M := by
  unfold zF48 at h
  have g : M = M := rfl
  exact (zL48_4_kp n n 0 0 M _ _ h).trans g
def w49 : List (Nat × Nat) := [(109, 1000), (110, 1000), (114, 1000)]
set_option maxRecDepth 100000 in
theorem zJ49_253_kp (n : Nat) (zrec10 : Int → Int → Int → ZM → Option (Unit × ZM)) (hrec10 : ∀ (c0 : Int) (c1 : Int) (c2 : Int) (c3 : ZM) (r : Unit) (m' : ZM), zrec10 c0 c1 c2 c3 = some (r, m') → kp (wl w49) c3 m') (x2 : Int) (x3 : Int) (x4 : Int) (M : ZM) (r : Unit) (m' : ZM) (h : zJ49_253 n zrec10 x2 x3 x4 M = some (r, m')) : kp (wl w49) M m' := by
  unfold zJ49_253 at h
  have g := kp_refl (wl w49) M
  exact kp_tr g (hrec10 x2 x3 x4 M _ _ h)
set_option maxRecDepth 100000 in
theorem zJ49_247_kp (n : Nat) (zrec10 : Int → Int → Int → ZM → Option (Unit × ZM)) (hrec10 : ∀ (c0 : Int) (c1 : Int) (c2 : Int) (c3 : ZM) (r : Unit) (m' : ZM), zrec10 c0 c1 c2 c3 = some (r, m') → kp (wl w49) c3 m') (x2 : Int) (x3 : Int) (x4 : Int) (M : ZM) (r : Unit) (m' : ZM) (h : zJ49_247 n zrec10 x2 x3 x4 M = some (r, m')) : kp (wl w49) M m' := by
  unfold zJ49_247 at h
  have g := kp_refl (wl w49) M
  by_cases q1 : rg (x4 + 1)
  · rw [if_pos q1] at h
    exact kp_tr g (zJ49_253_kp n zrec10 hrec10 x2 x3 (x4 + 1) M _ _ h)
  · rw [if_neg q1] at h
    cases h
set_option maxRecDepth 100000 in
theorem zJ49_209_kp (n : Nat) (zrec10 : Int → Int → Int → ZM → Option (Unit × ZM)) (hrec10 : ∀ (c0 : Int) (c1 : Int) (c2 : Int) (c3 : ZM) (r : Unit) (m' : ZM), zrec10 c0 c1 c2 c3 = some (r, m') → kp (wl w49) c3 m') (x2 : Int) (x3 : Int) (x4 : Int) (x5 : Int) (x6 : Int) (x7 : Int) (M : ZM) (r : Unit) (m' : ZM) (h : zJ49_209 n zrec10 x2 x3 x4 x5 x6 x7 M = some (r, m')) : kp (wl w49) M m' := by
  unfold zJ49_209 at h
  have g := kp_refl (wl w49) M
  by_cases q1 : x6 = 5
  · rw [if_pos q1] at h
    by_cases q2 : x7 = 3
    · rw [if_pos q2] at h
      exact kp_tr g (zJ49_253_kp n zrec10 hrec10 x2 x3 x4 M _ _ h)
    · rw [if_neg q2] at h
      by_cases q3 : x5 < 0 ∨ 128 ≤ x5
      · rw [if_pos q3] at h
        cases h
      · rw [if_neg q3] at h
        by_cases q4 : (M.1 93 (Int.toNat x5)) = 0
        · rw [if_pos q4] at h
          by_cases q5 : x4 < 0 ∨ 512 ≤ x4
          · rw [if_pos q5] at h
            cases h
          · rw [if_neg q5] at h
            by_cases q6 : rg ((M.1 92 (Int.toNat x5)) + 1)
            · rw [if_pos q6] at h
              replace g : kp (wl w49) M (z_i M 114 (Int.toNat x4) ((M.1 92 (Int.toNat x5)) + 1)) := kp_ia g (by simp [w49])
              rw [zlet] at h
              generalize z_i M 114 (Int.toNat x4) ((M.1 92 (Int.toNat x5)) + 1) = M22 at h g
              exact kp_tr g (zJ49_247_kp n zrec10 hrec10 x2 x3 x4 M22 _ _ h)
            · rw [if_neg q6] at h
              cases h
        · rw [if_neg q4] at h
          exact kp_tr g (zJ49_253_kp n zrec10 hrec10 x2 x3 x4 M _ _ h)
  · rw [if_neg q1] at h
    exact kp_tr g (zJ49_253_kp n zrec10 hrec10 x2 x3 x4 M _ _ h)
set_option maxRecDepth 100000 in
theorem zJ49_186_kp (n : Nat) (zrec10 : Int → Int → Int → ZM → Option (Unit × ZM)) (hrec10 : ∀ (c0 : Int) (c1 : Int) (c2 : Int) (c3 : ZM) (r : Unit) (m' : ZM), zrec10 c0 c1 c2 c3 = some (r, m') → kp (wl w49) c3 m') (x2 : Int) (x3 : Int) (x4 : Int) (x5 : Int) (x6 : Int) (x7 : Int) (M : ZM) (r : Unit) (m' : ZM) (h : zJ49_186 n zrec10 x2 x3 x4 x5 x6 x7 M = some (r, m')) : kp (wl w49) M m' := by
  unfold zJ49_186 at h
  have g := kp_refl (wl w49) M
  by_cases q1 : x6 = 5
  · rw [if_pos q1] at h
    by_cases q2 : x4 < 0 ∨ 512 ≤ x4
    · rw [if_pos q2] at h
      cases h
    · rw [if_neg q2] at h
      by_cases q3 : rg (x5 + 1)
      · rw [if_pos q3] at h
        replace g : kp (wl w49) M (z_i M 114 (Int.toNat x4) (x5 + 1)) := kp_ia g (by simp [w49])
        rw [zlet] at h
        generalize z_i M 114 (Int.toNat x4) (x5 + 1) = M15 at h g
        by_cases q4 : rg (x4 + 1)
        · rw [if_pos q4] at h
          exact kp_tr g (zJ49_209_kp n zrec10 hrec10 x2 x3 (x4 + 1) x5 x6 x7 M15 _ _ h)
        · rw [if_neg q4] at h
          cases h
      · rw [if_neg q3] at h
        cases h
  · rw [if_neg q1] at h
    exact kp_tr g (zJ49_209_kp n zrec10 hrec10 x2 x3 x4 x5 x6 x7 M _ _ h)
set_option maxRecDepth 100000 in
theorem zJ49_180_kp (n : Nat) (zrec10 : Int → Int → Int → ZM → Option (Unit × ZM)) (hrec10 : ∀ (c0 : Int) (c1 : Int) (c2 : Int) (c3 : ZM) (r : Unit) (m' : ZM), zrec10 c0 c1 c2 c3 = some (r, m') → kp (wl w49) c3 m') (x2 : Int) (x3 : Int) (x4 : Int) (x5 : Int) (x6 : Int) (x7 : Int) (M : ZM) (r : Unit) (m' : ZM) (h : zJ49_180 n zrec10 x2 x3 x4 x5 x6 x7 M = some (r, m')) : kp (wl w49) M m' := by
  unfold zJ49_180 at h
  have g := kp_refl (wl w49) M
  by_cases q1 : rg (x4 + 1)
  · rw [if_pos q1] at h
    exact kp_tr g (zJ49_186_kp n zrec10 hrec10 x2 x3 (x4 + 1) x5 x6 x7 M _ _ h)
  · rw [if_neg q1] at h
    cases h
set_option maxRecDepth 100000 in
theorem zJ49_152_kp (n : Nat) (zrec10 : Int → Int → Int → ZM → Option (Unit × ZM)) (hrec10 : ∀ (c0 : Int) (c1 : Int) (c2 : Int) (c3 : ZM) (r : Unit) (m' : ZM), zrec10 c0 c1 c2 c3 = some (r, m') → kp (wl w49) c3 m') (x2 : Int) (x3 : Int) (x4 : Int) (x5 : Int) (x6 : Int) (x7 : Int) (M : ZM) (r : Unit) (m' : ZM) (h : zJ49_152 n zrec10 x2 x3 x4 x5 x6 x7 M = some (r, m')) : kp (wl w49) M m' := by
  unfold zJ49_152 at h
  have g := kp_refl (wl w49) M
  by_cases q1 : x6 = 4
  · rw [if_pos q1] at h
    by_cases q2 : x7 = 2
    · rw [if_pos q2] at h
      exact kp_tr g (zJ49_186_kp n zrec10 hrec10 x2 x3 x4 x5 x6 x7 M _ _ h)
    · rw [if_neg q2] at h
      by_cases q3 : x5 < 0 ∨ 128 ≤ x5
      · rw [if_pos q3] at h
        cases h
      · rw [if_neg q3] at h
        by_cases q4 : x4 < 0 ∨ 512 ≤ x4
        · rw [if_pos q4] at h
          cases h
        · rw [if_neg q4] at h
          by_cases q5 : rg ((M.1 92 (Int.toNat x5)) + 1)
          · rw [if_pos q5] at h
            replace g : kp (wl w49) M (z_i M 114 (Int.toNat x4) ((M.1 92 (Int.toNat x5)) + 1)) := kp_ia g (by simp [w49])
            rw [zlet] at h
            generalize z_i M 114 (Int.toNat x4) ((M.1 92 (Int.toNat x5)) + 1) = M25 at h g
            exact kp_tr g (zJ49_180_kp n zrec10 hrec10 x2 x3 x4 x5 x6 x7 M25 _ _ h)
          · rw [if_neg q5] at h
            cases h
  · rw [if_neg q1] at h
    exact kp_tr g (zJ49_186_kp n zrec10 hrec10 x2 x3 x4 x5 x6 x7 M _ _ h)
set_option maxRecDepth 100000 in
theorem zJ49_129_kp (n : Nat) (zrec10 : Int → Int → Int → ZM → Option (Unit × ZM)) (hrec10 : ∀ (c0 : Int) (c1 : Int) (c2 : Int) (c3 : ZM) (r : Unit) (m' : ZM), zrec10 c0 c1 c2 c3 = some (r, m') → kp (wl w49) c3 m') (x2 : Int) (x3 : Int) (x4 : Int) (x5 : Int) (x6 : Int) (x7 : Int) (M : ZM) (r : Unit) (m' : ZM) (h : zJ49_129 n zrec10 x2 x3 x4 x5 x6 x7 M = some (r, m')) : kp (wl w49) M m' := by
  unfold zJ49_129 at h
  have g := kp_refl (wl w49) M
  by_cases q1 : x6 = 4
  · rw [if_pos q1] at h
    by_cases q2 : x4 < 0 ∨ 512 ≤ x4
    · rw [if_pos q2] at h
      cases h
    · rw [if_neg q2] at h
      by_cases q3 : rg (x5 + 1)
      · rw [if_pos q3] at h
        replace g : kp (wl w49) M (z_i M 114 (Int.toNat x4) (x5 + 1)) := kp_ia g (by simp [w49])
        rw [zlet] at h
        generalize z_i M 114 (Int.toNat x4) (x5 + 1) = M10 at h g
        by_cases q4 : rg (x4 + 1)
        · rw [if_pos q4] at h
          exact kp_tr g (zJ49_152_kp n zrec10 hrec10 x2 x3 (x4 + 1) x5 x6 x7 M10 _ _ h)
        · rw [if_neg q4] at h
          cases h
      · rw [if_neg q3] at h
        cases h
  · rw [if_neg q1] at h
    exact kp_tr g (zJ49_152_kp n zrec10 hrec10 x2 x3 x4 x5 x6 x7 M _ _ h)
set_option maxRecDepth 100000 in
theorem zJ49_120_kp (n : Nat) (zrec10 : Int → Int → Int → ZM → Option (Unit × ZM)) (hrec10 : ∀ (c0 : Int) (c1 : Int) (c2 : Int) (c3 : ZM) (r : Unit) (m' : ZM), zrec10 c0 c1 c2 c3 = some (r, m') → kp (wl w49) c3 m') (x2 : Int) (x3 : Int) (x4 : Int) (x5 : Int) (x6 : Int) (x7 : Int) (s0 : Int) (s1 : Int) (M : ZM) (r : Unit) (m' : ZM) (h : zJ49_120 n zrec10 x2 x3 x4 x5 x6 x7 s0 s1 M = some (r, m')) : kp (wl w49) M m' := by
  unfold zJ49_120 at h
  have g := kp_refl (wl w49) M
  by_cases q1 : s1 < 0 ∨ 128 ≤ s1
  · rw [if_pos q1] at h
    cases h
  · rw [if_neg q1] at h
    replace g : kp (wl w49) M (z_i M 109 (Int.toNat s1) s0) := kp_ia g (by simp [w49])
    rw [zlet] at h
    generalize z_i M 109 (Int.toNat s1) s0 = M30 at h g
    by_cases q2 : x5 < 0 ∨ 128 ≤ x5
    · rw [if_pos q2] at h
      cases h
    · rw [if_neg q2] at h
      replace g : kp (wl w49) M (z_i M30 110 (Int.toNat x5) x3) := kp_ia g (by simp [w49])
      rw [zlet] at h
      generalize z_i M30 110 (Int.toNat x5) x3 = M32 at h g
      exact kp_tr g (zJ49_129_kp n zrec10 hrec10 x2 x3 x4 x5 x6 x7 M32 _ _ h)
set_option maxRecDepth 100000 in
theorem zJ49_81_kp (n : Nat) (zrec10 : Int → Int → Int → ZM → Option (Unit × ZM)) (hrec10 : ∀ (c0 : Int) (c1 : Int) (c2 : Int) (c3 : ZM) (r : Unit) (m' : ZM), zrec10 c0 c1 c2 c3 = some (r, m') → kp (wl w49) c3 m') (x2 : Int) (x3 : Int) (x4 : Int) (x5 : Int) (x6 : Int) (x7 : Int) (s0 : Int) (M : ZM) (r : Unit) (m' : ZM) (h : zJ49_81 n zrec10 x2 x3 x4 x5 x6 x7 s0 M = some (r, m')) : kp (wl w49) M m' := by
  unfold zJ49_81 at h
  have g := kp_refl (wl w49) M
  by_cases q1 : s0 = 0
  · rw [if_pos q1] at h
    exact kp_tr g (zJ49_129_kp n zrec10 hrec10 x2 x3 x4 x5 x6 x7 M _ _ h)
  · rw [if_neg q1] at h
    by_cases q2 : x5 < 0 ∨ 128 ≤ x5
    · rw [if_pos q2] at h
      cases h
    · rw [if_neg q2] at h
      by_cases q3 : rg ((M.1 109 (Int.toNat x5)) + x2)
      · rw [if_pos q3] at h
        by_cases q4 : ((M.1 109 (Int.toNat x5)) + x2) ≤ 2
        · rw [if_pos q4] at h
          exact kp_tr g (zJ49_120_kp n zrec10 hrec10 x2 x3 x4 x5 x6 x7 ((M.1 109 (Int.toNat x5)) + x2) x5 M _ _ h)
        · rw [if_neg q4] at h
          exact kp_tr g (zJ49_120_kp n zrec10 hrec10 x2 x3 x4 x5 x6 x7 2 x5 M _ _ h)
      · rw [if_neg q3] at h
        cases h
set_option maxRecDepth 100000 in
theorem zJ49_80_kp (n : Nat) (zrec10 : Int → Int → Int → ZM → Option (Unit × ZM)) (hrec10 : ∀ (c0 : Int) (c1 : Int) (c2 : Int) (c3 : ZM) (r : Unit) (m' : ZM), zrec10 c0 c1 c2 c3 = some (r, m') → kp (wl w49) c3 m') (x2 : Int) (x3 : Int) (x4 : Int) (x5 : Int) (x6 : Int) (x7 : Int) (M : ZM) (r : Unit) (m' : ZM) (h : zJ49_80 n zrec10 x2 x3 x4 x5 x6 x7 M = some (r, m')) : kp (wl w49) M m' := by
  unfold zJ49_80 at h
  have g := kp_refl (wl w49) M
  exact kp_tr g (zJ49_81_kp n zrec10 hrec10 x2 x3 x4 x5 x6 x7 0 M _ _ h)
set_option maxRecDepth 100000 in
theorem zJ49_76_kp (n : Nat) (zrec10 : Int → Int → Int → ZM → Option (Unit × ZM)) (hrec10 : ∀ (c0 : Int) (c1 : Int) (c2 : Int) (c3 : ZM) (r : Unit) (m' : ZM), zrec10 c0 c1 c2 c3 = some (r, m') → kp (wl w49) c3 m') (x2 : Int) (x3 : Int) (x4 : Int) (x5 : Int) (x6 : Int) (x7 : Int) (M : ZM) (r : Unit) (m' : ZM) (h : zJ49_76 n zrec10 x2 x3 x4 x5 x6 x7 M = some (r, m')) : kp (wl w49) M m' := by
  unfold zJ49_76 at h
  have g := kp_refl (wl w49) M
  exact kp_tr g (zJ49_81_kp n zrec10 hrec10 x2 x3 x4 x5 x6 x7 1 M _ _ h)
set_option maxRecDepth 100000 in
theorem zJ49_48_kp (n : Nat) (zrec10 : Int → Int → Int → ZM → Option (Unit × ZM)) (hrec10 : ∀ (c0 : Int) (c1 : Int) (c2 : Int) (c3 : ZM) (r : Unit) (m' : ZM), zrec10 c0 c1 c2 c3 = some (r, m') → kp (wl w49) c3 m') (x2 : Int) (x3 : Int) (x4 : Int) (x5 : Int) (x6 : Int) (x7 : Int) (M : ZM) (r : Unit) (m' : ZM) (h : zJ49_48 n zrec10 x2 x3 x4 x5 x6 x7 M = some (r, m')) : kp (wl w49) M m' := by
  unfold zJ49_48 at h
  have g := kp_refl (wl w49) M
  by_cases q1 : x6 = 4
  · rw [if_pos q1] at h
    exact kp_tr g (zJ49_80_kp n zrec10 hrec10 x2 x3 x4 x5 x6 x7 M _ _ h)
  · rw [if_neg q1] at h
    by_cases q2 : x6 = 5
    · rw [if_pos q2] at h
      by_cases q3 : x7 = 3
      · rw [if_pos q3] at h
        exact kp_tr g (zJ49_80_kp n zrec10 hrec10 x2 x3 x4 x5 x6 x7 M _ _ h)
      · rw [if_neg q3] at h
        by_cases q4 : x5 < 0 ∨ 128 ≤ x5
        · rw [if_pos q4] at h
          cases h
        · rw [if_neg q4] at h
          by_cases q5 : (M.1 93 (Int.toNat x5)) = 0
          · rw [if_pos q5] at h
            exact kp_tr g (zJ49_80_kp n zrec10 hrec10 x2 x3 x4 x5 x6 x7 M _ _ h)
          · rw [if_neg q5] at h
            exact kp_tr g (zJ49_76_kp n zrec10 hrec10 x2 x3 x4 x5 x6 x7 M _ _ h)
    · rw [if_neg q2] at h
      exact kp_tr g (zJ49_76_kp n zrec10 hrec10 x2 x3 x4 x5 x6 x7 M _ _ h)
set_option maxRecDepth 100000 in
theorem zL49_10_kp (n : Nat) : ∀ (k : Nat) (x2 : Int) (x3 : Int) (x4 : Int) (M : ZM) (r : Unit) (m' : ZM), zL49_10 n k x2 x3 x4 M = some (r, m') → kp (wl w49) M m' := by
  intro k
  induction k with
  | zero => intro x2 x3 x4 M r m' h; cases h
  | succ k ih =>
    intro x2 x3 x4 M r m' h
    rw [zL49_10] at h
    have g := kp_refl (wl w49) M
    by_cases q1 : x4 ≤ 0
    · rw [if_pos q1] at h
      rw [← (Prod.mk.inj (Option.some.inj h)).2]
      exact g
    · rw [if_neg q1] at h
      by_cases q2 : rg (x4 - 1)
      · rw [if_pos q2] at h
        by_cases q3 : (x4 - 1) < 0 ∨ 512 ≤ (x4 - 1)
        · rw [if_pos q3] at h
          cases h
        · rw [if_neg q3] at h
          by_cases q4 : (M.1 114 (Int.toNat (x4 - 1))) < 0 ∨ 128 ≤ (M.1 114 (Int.toNat (x4 - 1)))
          · rw [if_pos q4] at h
            cases h
          · rw [if_neg q4] at h
            exact kp_tr g (zJ49_48_kp n (zL49_10 n k) ih x2 x3 (x4 - 1) (M.1 114 (Int.toNat (x4 - 1))) (M.1 90 (Int.toNat (M.1 114 (Int.toNat (x4 - 1))))) (M.1 94 (Int.toNat (M.1 114 (Int.toNat (x4 - 1))))) M _ _ h)
      · rw [if_neg q2] at h
        cases h
set_option maxRecDepth 100000 in
theorem zF49_kp (n : Nat) (a0 : Int) (a1 : Int) (a2 : Int) (M : ZM) (r : Unit) (m' : ZM) (h : zF49 n a0 a1 a2 M = some (r, m')) : kp (wl w49) M m' := by
  unfold zF49 at h
  have g := kp_refl (wl w49) M
  replace g : kp (wl w49) M (z_i M 114 0 a0) := kp_ia g (by simp [w49])
  rw [zlet] at h
  generalize z_i M 114 0 a0 = M1 at h g
  exact kp_tr g (zL49_10_kp n n a1 a2 1 M1 _ _ h)
def w50 : List (Nat × Nat) := [(109, 1000), (110, 1000)]
set_option maxRecDepth 100000 in
theorem zJ50_23_kp (n : Nat) (zrec2 : Int → ZM → Option (Unit × ZM)) (hrec2 : ∀ (c0 : Int) (c1 : ZM) (r : Unit) (m' : ZM), zrec2 c0 c1 = some (r, m') → kp (wl w50) c1 m') (x1 : Int) (M : ZM) (r : Unit) (m' : ZM) (h : zJ50_23 n zrec2 x1 M = some (r, m')) : kp (wl w50) M m' := by
  unfold zJ50_23 at h
  have g := kp_refl (wl w50) M
  by_cases q1 : rg (x1 + 1)
  · rw [if_pos q1] at h
    exact kp_tr g (hrec2 (x1 + 1) M _ _ h)
  · rw [if_neg q1] at h
    cases h
set_option maxRecDepth 100000 in
theorem zL50_2_kp (n : Nat) : ∀ (k : Nat) (x1 : Int) (M : ZM) (r : Unit) (m' : ZM), zL50_2 n k x1 M = some (r, m') → kp (wl w50) M m' := by
  intro k
  induction k with
  | zero => intro x1 M r m' h; cases h
  | succ k ih =>
    intro x1 M r m' h
    rw [zL50_2] at h
    have g := kp_refl (wl w50) M
    by_cases q1 : 128 ≤ x1
    · rw [if_pos q1] at h
      rw [← (Prod.mk.inj (Option.some.inj h)).2]
      exact g
    · rw [if_neg q1] at h
      by_cases q2 : x1 < 0 ∨ 128 ≤ x1
      · rw [if_pos q2] at h
        cases h
      · rw [if_neg q2] at h
        replace g : kp (wl w50) M (z_i M 109 (Int.toNat x1) 0) := kp_ia g (by simp [w50])
        rw [zlet] at h
        generalize z_i M 109 (Int.toNat x1) 0 = M3 at h g
        replace g : kp (wl w50) M (z_i M3 110 (Int.toNat x1) 0) := kp_ia g (by simp [w50])
        rw [zlet] at h
        generalize z_i M3 110 (Int.toNat x1) 0 = M5 at h g
        exact kp_tr g (zJ50_23_kp n (zL50_2 n k) ih x1 M5 _ _ h)
set_option maxRecDepth 100000 in
theorem zF50_kp (n : Nat) (M : ZM) (r : Unit) (m' : ZM) (h : zF50 n M = some (r, m')) : kp (wl w50) M m' := by
  unfold zF50 at h
  have g := kp_refl (wl w50) M
  exact kp_tr g (zL50_2_kp n n 0 M _ _ h)
set_option maxRecDepth 100000 in
theorem zF52_kp (n : Nat) (a0 : Int) (a1 : Int) (M : ZM) (r : Int) (m' : ZM) (h : zF52 n a0 a1 M = some (r, m')) : m' = M := by
  unfold zF52 at h
  have g : M = M := rfl
  by_cases q1 : rg ((20 * a0) + (Int.tdiv a1 7))
  · rw [if_pos q1] at h
    by_cases q2 : ((20 * a0) + (Int.tdiv a1 7)) < 0 ∨ 3220 ≤ ((20 * a0) + (Int.tdiv a1 7))
    · rw [if_pos q2] at h
      cases h
    · rw [if_neg q2] at h
      by_cases q3 : rg (9 * (a1 - ((Int.tdiv a1 7) * 7)))
      · rw [if_pos q3] at h
        exact (Prod.mk.inj (Option.some.inj h)).2.symm.trans g
      · rw [if_neg q3] at h
        cases h
  · rw [if_neg q1] at h
    cases h
set_option maxRecDepth 100000 in
theorem zJ53_50_kp (n : Nat) (s0 : Int) (M : ZM) (r : Int) (m' : ZM) (h : zJ53_50 n s0 M = some (r, m')) : m' = M := by
  unfold zJ53_50 at h
  have g : M = M := rfl
  exact (Prod.mk.inj (Option.some.inj h)).2.symm.trans g
set_option maxRecDepth 100000 in
theorem zJ53_40_kp (n : Nat) (M : ZM) (r : Int) (m' : ZM) (h : zJ53_40 n M = some (r, m')) : m' = M := by
  unfold zJ53_40 at h
  have g : M = M := rfl
  exact (zJ53_50_kp n 0 M _ _ h).trans g
set_option maxRecDepth 100000 in
theorem zJ53_29_kp (n : Nat) (x1 : Int) (M : ZM) (r : Int) (m' : ZM) (h : zJ53_29 n x1 M = some (r, m')) : m' = M := by
  unfold zJ53_29 at h
  have g : M = M := rfl
  by_cases q1 : x1 < 0 ∨ 128 ≤ x1
  · rw [if_pos q1] at h
    cases h
  · rw [if_neg q1] at h
    by_cases q2 : (M.1 90 (Int.toNat x1)) = 6
    · rw [if_pos q2] at h
      exact (zJ53_40_kp n M _ _ h).trans g
    · rw [if_neg q2] at h
      exact (zJ53_50_kp n (M.1 91 (Int.toNat x1)) M _ _ h).trans g
set_option maxRecDepth 100000 in
theorem zF53_kp (n : Nat) (a0 : Int) (M : ZM) (r : Int) (m' : ZM) (h : zF53 n a0 M = some (r, m')) : m' = M := by
  unfold zF53 at h
  have g : M = M := rfl
  by_cases q1 : a0 < 0 ∨ 128 ≤ a0
  · rw [if_pos q1] at h
    cases h
  · rw [if_neg q1] at h
    by_cases q2 : (M.1 90 (Int.toNat a0)) = 5
    · rw [if_pos q2] at h
      exact (zJ53_50_kp n (M.1 93 (Int.toNat a0)) M _ _ h).trans g
    · rw [if_neg q2] at h
      by_cases q3 : (M.1 90 (Int.toNat a0)) = 3
      · rw [if_pos q3] at h
        exact (zJ53_40_kp n M _ _ h).trans g
      · rw [if_neg q3] at h
        exact (zJ53_29_kp n a0 M _ _ h).trans g
def w54 : List (Nat × Nat) := [(109, 1000), (110, 1000), (114, 1000)]
set_option maxRecDepth 100000 in
theorem zJ54_147_kp (n : Nat) (zrec4 : Int → Int → ZM → Option (Int × ZM)) (hrec4 : ∀ (c0 : Int) (c1 : Int) (c2 : ZM) (r : Int) (m' : ZM), zrec4 c0 c1 c2 = some (r, m') → kp (wl w54) c2 m') (x1 : Int) (x2 : Int) (M : ZM) (r : Int) (m' : ZM) (h : zJ54_147 n zrec4 x1 x2 M = some (r, m')) : kp (wl w54) M m' := by
  unfold zJ54_147 at h
  have g := kp_refl (wl w54) M
  by_cases q1 : rg (x2 + 1)
  · rw [if_pos q1] at h
    exact kp_tr g (hrec4 x1 (x2 + 1) M _ _ h)
  · rw [if_neg q1] at h
    cases h
set_option maxRecDepth 100000 in
theorem zJ54_140_kp (n : Nat) (zrec4 : Int → Int → ZM → Option (Int × ZM)) (hrec4 : ∀ (c0 : Int) (c1 : Int) (c2 : ZM) (r : Int) (m' : ZM), zrec4 c0 c1 c2 = some (r, m') → kp (wl w54) c2 m') (zrec50 : Int → Int → Int → ZM → Option (Int × ZM)) (hrec50 : ∀ (c0 : Int) (c1 : Int) (c2 : Int) (c3 : ZM) (r : Int) (m' : ZM), zrec50 c0 c1 c2 c3 = some (r, m') → kp (wl w54) c3 m') (x2 : Int) (x3 : Int) (s0 : Int) (M : ZM) (r : Int) (m' : ZM) (h : zJ54_140 n zrec4 zrec50 x2 x3 s0 M = some (r, m')) : kp (wl w54) M m' := by
  unfold zJ54_140 at h
  have g := kp_refl (wl w54) M
  by_cases q1 : rg (x3 + 1)
  · rw [if_pos q1] at h
    exact kp_tr g (hrec50 s0 x2 (x3 + 1) M _ _ h)
  · rw [if_neg q1] at h
    cases h
set_option maxRecDepth 100000 in
theorem zJ54_139_kp (n : Nat) (zrec4 : Int → Int → ZM → Option (Int × ZM)) (hrec4 : ∀ (c0 : Int) (c1 : Int) (c2 : ZM) (r : Int) (m' : ZM), zrec4 c0 c1 c2 = some (r, m') → kp (wl w54) c2 m') (zrec50 : Int → Int → Int → ZM → Option (Int × ZM)) (hrec50 : ∀ (c0 : Int) (c1 : Int) (c2 : Int) (c3 : ZM) (r : Int) (m' : ZM), zrec50 c0 c1 c2 c3 = some (r, m') → kp (wl w54) c3 m') (x2 : Int) (x3 : Int) (M : ZM) (r : Int) (m' : ZM) (h : zJ54_139 n zrec4 zrec50 x2 x3 M = some (r, m')) : kp (wl w54) M m' := by
  unfold zJ54_139 at h
  have g := kp_refl (wl w54) M
  exact kp_tr g (zJ54_140_kp n zrec4 hrec4 zrec50 hrec50 x2 x3 0 M _ _ h)
set_option maxRecDepth 100000 in
theorem zJ54_124_kp (n : Nat) (zrec4 : Int → Int → ZM → Option (Int × ZM)) (hrec4 : ∀ (c0 : Int) (c1 : Int) (c2 : ZM) (r : Int) (m' : ZM), zrec4 c0 c1 c2 = some (r, m') → kp (wl w54) c2 m') (zrec50 : Int → Int → Int → ZM → Option (Int × ZM)) (hrec50 : ∀ (c0 : Int) (c1 : Int) (c2 : Int) (c3 : ZM) (r : Int) (m' : ZM), zrec50 c0 c1 c2 c3 = some (r, m') → kp (wl w54) c3 m') (x1 : Int) (x2 : Int) (x3 : Int) (s0 : Int) (M : ZM) (r : Int) (m' : ZM) (h : zJ54_124 n zrec4 zrec50 x1 x2 x3 s0 M = some (r, m')) : kp (wl w54) M m' := by
  unfold zJ54_124 at h
  have g := kp_refl (wl w54) M
  by_cases q1 : x1 = 0
  · rw [if_pos q1] at h
    exact kp_tr g (zJ54_139_kp n zrec4 hrec4 zrec50 hrec50 x2 x3 M _ _ h)
  · rw [if_neg q1] at h
    by_cases q2 : s0 = 0
    · rw [if_pos q2] at h
      exact kp_tr g (zJ54_139_kp n zrec4 hrec4 zrec50 hrec50 x2 x3 M _ _ h)
    · rw [if_neg q2] at h
      exact kp_tr g (zJ54_140_kp n zrec4 hrec4 zrec50 hrec50 x2 x3 1 M _ _ h)
set_option maxRecDepth 100000 in
theorem zJ54_119_kp (n : Nat) (zrec4 : Int → Int → ZM → Option (Int × ZM)) (hrec4 : ∀ (c0 : Int) (c1 : Int) (c2 : ZM) (r : Int) (m' : ZM), zrec4 c0 c1 c2 = some (r, m') → kp (wl w54) c2 m') (zrec50 : Int → Int → Int → ZM → Option (Int × ZM)) (hrec50 : ∀ (c0 : Int) (c1 : Int) (c2 : Int) (c3 : ZM) (r : Int) (m' : ZM), zrec50 c0 c1 c2 c3 = some (r, m') → kp (wl w54) c3 m') (x1 : Int) (x2 : Int) (x3 : Int) (M : ZM) (r : Int) (m' : ZM) (h : zJ54_119 n zrec4 zrec50 x1 x2 x3 M = some (r, m')) : kp (wl w54) M m' := by
  unfold zJ54_119 at h
  have g := kp_refl (wl w54) M
  exact kp_tr g (zJ54_124_kp n zrec4 hrec4 zrec50 hrec50 x1 x2 x3 1 M _ _ h)
set_option maxRecDepth 100000 in
theorem zJ54_123_kp (n : Nat) (zrec4 : Int → Int → ZM → Option (Int × ZM)) (hrec4 : ∀ (c0 : Int) (c1 : Int) (c2 : ZM) (r : Int) (m' : ZM), zrec4 c0 c1 c2 = some (r, m') → kp (wl w54) c2 m') (zrec50 : Int → Int → Int → ZM → Option (Int × ZM)) (hrec50 : ∀ (c0 : Int) (c1 : Int) (c2 : Int) (c3 : ZM) (r : Int) (m' : ZM), zrec50 c0 c1 c2 c3 = some (r, m') → kp (wl w54) c3 m') (x1 : Int) (x2 : Int) (x3 : Int) (M : ZM) (r : Int) (m' : ZM) (h : zJ54_123 n zrec4 zrec50 x1 x2 x3 M = some (r, m')) : kp (wl w54) M m' := by
  unfold zJ54_123 at h
  have g := kp_refl (wl w54) M
  exact kp_tr g (zJ54_124_kp n zrec4 hrec4 zrec50 hrec50 x1 x2 x3 0 M _ _ h)
set_option maxRecDepth 100000 in
theorem zJ54_97_kp (n : Nat) (zrec4 : Int → Int → ZM → Option (Int × ZM)) (hrec4 : ∀ (c0 : Int) (c1 : Int) (c2 : ZM) (r : Int) (m' : ZM), zrec4 c0 c1 c2 = some (r, m') → kp (wl w54) c2 m') (zrec50 : Int → Int → Int → ZM → Option (Int × ZM)) (hrec50 : ∀ (c0 : Int) (c1 : Int) (c2 : Int) (c3 : ZM) (r : Int) (m' : ZM), zrec50 c0 c1 c2 c3 = some (r, m') → kp (wl w54) c3 m') (x1 : Int) (x2 : Int) (x3 : Int) (x4 : Int) (M : ZM) (r : Int) (m' : ZM) (h : zJ54_97 n zrec4 zrec50 x1 x2 x3 x4 M = some (r, m')) : kp (wl w54) M m' := by
  unfold zJ54_97 at h
  have g := kp_refl (wl w54) M
  cases hc1 : zF22 n x4 M with
  | none => rw [hc1] at h; cases h
  | some w =>
    obtain ⟨v23, M24⟩ := w
    rw [hc1] at h
    dsimp only at h
    replace g := kp_tr g (kp_eq _ (zF22_kp n x4 M _ _ hc1))
    by_cases q2 : v23 = 0
    · rw [if_pos q2] at h
      by_cases q3 : x4 = 44
      · rw [if_pos q3] at h
        exact kp_tr g (zJ54_119_kp n zrec4 hrec4 zrec50 hrec50 x1 x2 x3 M24 _ _ h)
      · rw [if_neg q3] at h
        by_cases q4 : x4 = 59
        · rw [if_pos q4] at h
          exact kp_tr g (zJ54_119_kp n zrec4 hrec4 zrec50 hrec50 x1 x2 x3 M24 _ _ h)
        · rw [if_neg q4] at h
          exact kp_tr g (zJ54_123_kp n zrec4 hrec4 zrec50 hrec50 x1 x2 x3 M24 _ _ h)
    · rw [if_neg q2] at h
      exact kp_tr g (zJ54_119_kp n zrec4 hrec4 zrec50 hrec50 x1 x2 x3 M24 _ _ h)
set_option maxRecDepth 100000 in
theorem zJ54_75_kp (n : Nat) (zrec4 : Int → Int → ZM → Option (Int × ZM)) (hrec4 : ∀ (c0 : Int) (c1 : Int) (c2 : ZM) (r : Int) (m' : ZM), zrec4 c0 c1 c2 = some (r, m') → kp (wl w54) c2 m') (zrec50 : Int → Int → Int → ZM → Option (Int × ZM)) (hrec50 : ∀ (c0 : Int) (c1 : Int) (c2 : Int) (c3 : ZM) (r : Int) (m' : ZM), zrec50 c0 c1 c2 c3 = some (r, m') → kp (wl w54) c3 m') (x1 : Int) (x2 : Int) (x3 : Int) (s0 : Int) (M : ZM) (r : Int) (m' : ZM) (h : zJ54_75 n zrec4 zrec50 x1 x2 x3 s0 M = some (r, m')) : kp (wl w54) M m' := by
  unfold zJ54_75 at h
  have g := kp_refl (wl w54) M
  by_cases q1 : x3 < 0 ∨ 128 ≤ x3
  · rw [if_pos q1] at h
    cases h
  · rw [if_neg q1] at h
    by_cases q2 : (M.1 109 (Int.toNat x3)) = 0
    · rw [if_pos q2] at h
      exact kp_tr g (zJ54_119_kp n zrec4 hrec4 zrec50 hrec50 x1 x2 x3 M _ _ h)
    · rw [if_neg q2] at h
      by_cases q3 : (M.1 90 (Int.toNat x3)) = 6
      · rw [if_pos q3] at h
        exact kp_tr g (zJ54_119_kp n zrec4 hrec4 zrec50 hrec50 x1 x2 x3 M _ _ h)
      · rw [if_neg q3] at h
        exact kp_tr g (zJ54_97_kp n zrec4 hrec4 zrec50 hrec50 x1 x2 x3 s0 M _ _ h)
set_option maxRecDepth 100000 in
theorem zL54_50_kp (n : Nat) (zrec4 : Int → Int → ZM → Option (Int × ZM)) (hrec4 : ∀ (c0 : Int) (c1 : Int) (c2 : ZM) (r : Int) (m' : ZM), zrec4 c0 c1 c2 = some (r, m') → kp (wl w54) c2 m') : ∀ (k : Nat) (x1 : Int) (x2 : Int) (x3 : Int) (M : ZM) (r : Int) (m' : ZM), zL54_50 n zrec4 k x1 x2 x3 M = some (r, m') → kp (wl w54) M m' := by
  intro k
  induction k with
  | zero => intro x1 x2 x3 M r m' h; cases h
  | succ k ih =>
    intro x1 x2 x3 M r m' h
    rw [zL54_50] at h
    have g := kp_refl (wl w54) M
    by_cases q1 : 128 ≤ x3
    · rw [if_pos q1] at h
      exact kp_tr g (zJ54_147_kp n zrec4 hrec4 x1 x2 M _ _ h)
    · rw [if_neg q1] at h
      by_cases q2 : x3 < 0 ∨ 128 ≤ x3
      · rw [if_pos q2] at h
        cases h
      · rw [if_neg q2] at h
        by_cases q3 : (M.1 109 (Int.toNat x3)) ≤ 0
        · rw [if_pos q3] at h
          exact kp_tr g (zJ54_75_kp n zrec4 hrec4 (zL54_50 n zrec4 k) ih x1 x2 x3 0 M _ _ h)
        · rw [if_neg q3] at h
          cases hc4 : zF53 n x3 M with
          | none => rw [hc4] at h; cases h
          | some w =>
            obtain ⟨v29, M30⟩ := w
            rw [hc4] at h
            dsimp only at h
            replace g := kp_tr g (kp_eq _ (zF53_kp n x3 M _ _ hc4))
            exact kp_tr g (zJ54_75_kp n zrec4 hrec4 (zL54_50 n zrec4 k) ih x1 x2 x3 v29 M30 _ _ h)
set_option maxRecDepth 100000 in
theorem zJ54_39_kp (n : Nat) (zrec4 : Int → Int → ZM → Option (Int × ZM)) (hrec4 : ∀ (c0 : Int) (c1 : Int) (c2 : ZM) (r : Int) (m' : ZM), zrec4 c0 c1 c2 = some (r, m') → kp (wl w54) c2 m') (x1 : Int) (x2 : Int) (M : ZM) (r : Int) (m' : ZM) (h : zJ54_39 n zrec4 x1 x2 M = some (r, m')) : kp (wl w54) M m' := by
  unfold zJ54_39 at h
  have g := kp_refl (wl w54) M
  by_cases q1 : rg (x2 + 1)
  · rw [if_pos q1] at h
    cases hc2 : zF49 n (x2 + 1) 1 0 M with
    | none => rw [hc2] at h; cases h
    | some w =>
      obtain ⟨v11, M12⟩ := w
      rw [hc2] at h
      dsimp only at h
      replace g := kp_tr g (kp_sub (by simp [w49, w54]) (zF49_kp n (x2 + 1) 1 0 M _ _ hc2))
      exact kp_tr g (zL54_50_kp n zrec4 hrec4 n x1 x2 0 M12 _ _ h)
  · rw [if_neg q1] at h
    cases h
set_option maxRecDepth 100000 in
theorem zJ54_25_kp (n : Nat) (zrec4 : Int → Int → ZM → Option (Int × ZM)) (hrec4 : ∀ (c0 : Int) (c1 : Int) (c2 : ZM) (r : Int) (m' : ZM), zrec4 c0 c1 c2 = some (r, m') → kp (wl w54) c2 m') (x1 : Int) (x2 : Int) (M : ZM) (r : Int) (m' : ZM) (h : zJ54_25 n zrec4 x1 x2 M = some (r, m')) : kp (wl w54) M m' := by
  unfold zJ54_25 at h
  have g := kp_refl (wl w54) M
  by_cases q1 : x2 < 0 ∨ 128 ≤ x2
  · rw [if_pos q1] at h
    cases h
  · rw [if_neg q1] at h
    by_cases q2 : (M.1 94 (Int.toNat x2)) = 4
    · rw [if_pos q2] at h
      cases hc3 : zF50 n M with
      | none => rw [hc3] at h; cases h
      | some w =>
        obtain ⟨v8, M9⟩ := w
        rw [hc3] at h
        dsimp only at h
        replace g := kp_tr g (kp_sub (by simp [w50, w54]) (zF50_kp n M _ _ hc3))
        exact kp_tr g (zJ54_39_kp n zrec4 hrec4 x1 x2 M9 _ _ h)
    · rw [if_neg q2] at h
      exact kp_tr g (zJ54_147_kp n zrec4 hrec4 x1 x2 M _ _ h)
set_option maxRecDepth 100000 in
theorem zL54_4_kp (n : Nat) : ∀ (k : Nat) (x1 : Int) (x2 : Int) (M : ZM) (r : Int) (m' : ZM), zL54_4 n k x1 x2 M = some (r, m') → kp (wl w54) M m' := by
  intro k
  induction k with
  | zero => intro x1 x2 M r m' h; cases h
  | succ k ih =>
    intro x1 x2 M r m' h
    rw [zL54_4] at h
    have g := kp_refl (wl w54) M
    by_cases q1 : x2 < 0 ∨ 128 ≤ x2
    · rw [if_pos q1] at h
      cases h
    · rw [if_neg q1] at h
      by_cases q2 : (M.1 90 (Int.toNat x2)) = 6
      · rw [if_pos q2] at h
        by_cases q3 : x1 = 0 ∨ x1 = 1
        · rw [if_pos q3] at h
          rw [← (Prod.mk.inj (Option.some.inj h)).2]
          exact g
        · rw [if_neg q3] at h
          cases h
      · rw [if_neg q2] at h
        by_cases q4 : (M.1 90 (Int.toNat x2)) = 3
        · rw [if_pos q4] at h
          exact kp_tr g (zJ54_25_kp n (zL54_4 n k) ih x1 x2 M _ _ h)
        · rw [if_neg q4] at h
          exact kp_tr g (zJ54_147_kp n (zL54_4 n k) ih x1 x2 M _ _ h)
set_option maxRecDepth 100000 in
theorem zF54_kp (n : Nat) (M : ZM) (r : Int) (m' : ZM) (h : zF54 n M = some (r, m')) : kp (wl w54) M m' := by
  unfold zF54 at h
  have g := kp_refl (wl w54) M
  exact kp_tr g (zL54_4_kp n n 1 0 M _ _ h)
