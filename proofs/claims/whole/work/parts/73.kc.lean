/-! What each method may write; written by program. -/
set_option maxRecDepth 100000 in
theorem zJ86_163_kp (n : Nat) (zrec47 : Int → Int → Int → Int → ZM → Option (Int × ZM)) (hrec47 : ∀ (c0 : Int) (c1 : Int) (c2 : Int) (c3 : Int) (c4 : ZM) (r : Int) (m' : ZM), zrec47 c0 c1 c2 c3 c4 = some (r, m') → m' = c4) (x1 : Int) (x3 : Int) (x4 : Int) (s0 : Int) (M : ZM) (r : Int) (m' : ZM) (h : zJ86_163 n zrec47 x1 x3 x4 s0 M = some (r, m')) : m' = M := by
  unfold zJ86_163 at h
  have g : M = M := rfl
  by_cases q1 : rg (x4 + (-1))
  · rw [if_pos q1] at h
    exact (hrec47 x1 s0 x3 (x4 + (-1)) M _ _ h).trans g
  · rw [if_neg q1] at h
    cases h
set_option maxRecDepth 100000 in
theorem zJ86_150_kp (n : Nat) (zrec47 : Int → Int → Int → Int → ZM → Option (Int × ZM)) (hrec47 : ∀ (c0 : Int) (c1 : Int) (c2 : Int) (c3 : Int) (c4 : ZM) (r : Int) (m' : ZM), zrec47 c0 c1 c2 c3 c4 = some (r, m') → m' = c4) (x1 : Int) (x2 : Int) (x3 : Int) (x4 : Int) (s0 : Int) (M : ZM) (r : Int) (m' : ZM) (h : zJ86_150 n zrec47 x1 x2 x3 x4 s0 M = some (r, m')) : m' = M := by
  unfold zJ86_150 at h
  have g : M = M := rfl
  by_cases q1 : s0 = 0
  · rw [if_pos q1] at h
    exact (zJ86_163_kp n zrec47 hrec47 x1 x3 x4 x2 M _ _ h).trans g
  · rw [if_neg q1] at h
    exact (zJ86_163_kp n zrec47 hrec47 x1 x3 x4 x4 M _ _ h).trans g
set_option maxRecDepth 100000 in
theorem zJ86_149_kp (n : Nat) (zrec47 : Int → Int → Int → Int → ZM → Option (Int × ZM)) (hrec47 : ∀ (c0 : Int) (c1 : Int) (c2 : Int) (c3 : Int) (c4 : ZM) (r : Int) (m' : ZM), zrec47 c0 c1 c2 c3 c4 = some (r, m') → m' = c4) (x1 : Int) (x2 : Int) (x3 : Int) (x4 : Int) (M : ZM) (r : Int) (m' : ZM) (h : zJ86_149 n zrec47 x1 x2 x3 x4 M = some (r, m')) : m' = M := by
  unfold zJ86_149 at h
  have g : M = M := rfl
  exact (zJ86_150_kp n zrec47 hrec47 x1 x2 x3 x4 0 M _ _ h).trans g
set_option maxRecDepth 100000 in
theorem zJ86_129_kp (n : Nat) (zrec47 : Int → Int → Int → Int → ZM → Option (Int × ZM)) (hrec47 : ∀ (c0 : Int) (c1 : Int) (c2 : Int) (c3 : Int) (c4 : ZM) (r : Int) (m' : ZM), zrec47 c0 c1 c2 c3 c4 = some (r, m') → m' = c4) (x1 : Int) (x2 : Int) (x3 : Int) (x4 : Int) (M : ZM) (r : Int) (m' : ZM) (h : zJ86_129 n zrec47 x1 x2 x3 x4 M = some (r, m')) : m' = M := by
  unfold zJ86_129 at h
  have g : M = M := rfl
  by_cases q1 : x4 < 0 ∨ 320 ≤ x4
  · rw [if_pos q1] at h
    cases h
  · rw [if_neg q1] at h
    by_cases q2 : x1 < 0 ∨ 320 ≤ x1
    · rw [if_pos q2] at h
      cases h
    · rw [if_neg q2] at h
      by_cases q3 : (M.1 106 (Int.toNat x4)) = (M.1 106 (Int.toNat x1))
      · rw [if_pos q3] at h
        exact (zJ86_150_kp n zrec47 hrec47 x1 x2 x3 x4 1 M _ _ h).trans g
      · rw [if_neg q3] at h
        exact (zJ86_149_kp n zrec47 hrec47 x1 x2 x3 x4 M _ _ h).trans g
set_option maxRecDepth 100000 in
theorem zJ86_99_kp (n : Nat) (zrec47 : Int → Int → Int → Int → ZM → Option (Int × ZM)) (hrec47 : ∀ (c0 : Int) (c1 : Int) (c2 : Int) (c3 : Int) (c4 : ZM) (r : Int) (m' : ZM), zrec47 c0 c1 c2 c3 c4 = some (r, m') → m' = c4) (x1 : Int) (x2 : Int) (x4 : Int) (s0 : Int) (M : ZM) (r : Int) (m' : ZM) (h : zJ86_99 n zrec47 x1 x2 x4 s0 M = some (r, m')) : m' = M := by
  unfold zJ86_99 at h
  have g : M = M := rfl
  by_cases q1 : s0 = 0
  · rw [if_pos q1] at h
    cases hc2 : zF85 n x4 M with
    | none => rw [hc2] at h; cases h
    | some w =>
      obtain ⟨v24, M25⟩ := w
      rw [hc2] at h
      dsimp only at h
      replace g := (zF85_kp n x4 M _ _ hc2).trans g
      by_cases q3 : v24 = 0
      · rw [if_pos q3] at h
        exact (zJ86_149_kp n zrec47 hrec47 x1 x2 s0 x4 M25 _ _ h).trans g
      · rw [if_neg q3] at h
        by_cases q4 : x4 < 0 ∨ 320 ≤ x4
        · rw [if_pos q4] at h
          cases h
        · rw [if_neg q4] at h
          by_cases q5 : x1 < 0 ∨ 320 ≤ x1
          · rw [if_pos q5] at h
            cases h
          · rw [if_neg q5] at h
            by_cases q6 : (M25.1 105 (Int.toNat x4)) = (M25.1 105 (Int.toNat x1))
            · rw [if_pos q6] at h
              exact (zJ86_129_kp n zrec47 hrec47 x1 x2 s0 x4 M25 _ _ h).trans g
            · rw [if_neg q6] at h
              exact (zJ86_149_kp n zrec47 hrec47 x1 x2 s0 x4 M25 _ _ h).trans g
  · rw [if_neg q1] at h
    exact (zJ86_149_kp n zrec47 hrec47 x1 x2 s0 x4 M _ _ h).trans g
set_option maxRecDepth 100000 in
theorem zJ86_98_kp (n : Nat) (zrec47 : Int → Int → Int → Int → ZM → Option (Int × ZM)) (hrec47 : ∀ (c0 : Int) (c1 : Int) (c2 : Int) (c3 : Int) (c4 : ZM) (r : Int) (m' : ZM), zrec47 c0 c1 c2 c3 c4 = some (r, m') → m' = c4) (x1 : Int) (x2 : Int) (x3 : Int) (x4 : Int) (M : ZM) (r : Int) (m' : ZM) (h : zJ86_98 n zrec47 x1 x2 x3 x4 M = some (r, m')) : m' = M := by
  unfold zJ86_98 at h
  have g : M = M := rfl
  exact (zJ86_99_kp n zrec47 hrec47 x1 x2 x4 x3 M _ _ h).trans g
set_option maxRecDepth 100000 in
theorem zJ86_92_kp (n : Nat) (zrec47 : Int → Int → Int → Int → ZM → Option (Int × ZM)) (hrec47 : ∀ (c0 : Int) (c1 : Int) (c2 : Int) (c3 : Int) (c4 : ZM) (r : Int) (m' : ZM), zrec47 c0 c1 c2 c3 c4 = some (r, m') → m' = c4) (x1 : Int) (x2 : Int) (x3 : Int) (x4 : Int) (M : ZM) (r : Int) (m' : ZM) (h : zJ86_92 n zrec47 x1 x2 x3 x4 M = some (r, m')) : m' = M := by
  unfold zJ86_92 at h
  have g : M = M := rfl
  by_cases q1 : rg (x3 - 1)
  · rw [if_pos q1] at h
    exact (zJ86_99_kp n zrec47 hrec47 x1 x2 x4 (x3 - 1) M _ _ h).trans g
  · rw [if_neg q1] at h
    cases h
set_option maxRecDepth 100000 in
theorem zJ86_75_kp (n : Nat) (zrec47 : Int → Int → Int → Int → ZM → Option (Int × ZM)) (hrec47 : ∀ (c0 : Int) (c1 : Int) (c2 : Int) (c3 : Int) (c4 : ZM) (r : Int) (m' : ZM), zrec47 c0 c1 c2 c3 c4 = some (r, m') → m' = c4) (x1 : Int) (x2 : Int) (x3 : Int) (x4 : Int) (M : ZM) (r : Int) (m' : ZM) (h : zJ86_75 n zrec47 x1 x2 x3 x4 M = some (r, m')) : m' = M := by
  unfold zJ86_75 at h
  have g : M = M := rfl
  by_cases q1 : x4 < 0 ∨ 320 ≤ x4
  · rw [if_pos q1] at h
    cases h
  · rw [if_neg q1] at h
    cases hc2 : zF21 n (M.1 105 (Int.toNat x4)) M with
    | none => rw [hc2] at h; cases h
    | some w =>
      obtain ⟨v19, M20⟩ := w
      rw [hc2] at h
      dsimp only at h
      replace g := (zF21_kp n (M.1 105 (Int.toNat x4)) M _ _ hc2).trans g
      by_cases q3 : v19 = 0
      · rw [if_pos q3] at h
        exact (zJ86_98_kp n zrec47 hrec47 x1 x2 x3 x4 M20 _ _ h).trans g
      · rw [if_neg q3] at h
        by_cases q4 : x3 ≤ 0
        · rw [if_pos q4] at h
          exact (zJ86_98_kp n zrec47 hrec47 x1 x2 x3 x4 M20 _ _ h).trans g
        · rw [if_neg q4] at h
          exact (zJ86_92_kp n zrec47 hrec47 x1 x2 x3 x4 M20 _ _ h).trans g
set_option maxRecDepth 100000 in
theorem zJ86_69_kp (n : Nat) (zrec47 : Int → Int → Int → Int → ZM → Option (Int × ZM)) (hrec47 : ∀ (c0 : Int) (c1 : Int) (c2 : Int) (c3 : Int) (c4 : ZM) (r : Int) (m' : ZM), zrec47 c0 c1 c2 c3 c4 = some (r, m') → m' = c4) (x1 : Int) (x2 : Int) (x3 : Int) (x4 : Int) (M : ZM) (r : Int) (m' : ZM) (h : zJ86_69 n zrec47 x1 x2 x3 x4 M = some (r, m')) : m' = M := by
  unfold zJ86_69 at h
  have g : M = M := rfl
  by_cases q1 : rg (x3 + 1)
  · rw [if_pos q1] at h
    exact (zJ86_99_kp n zrec47 hrec47 x1 x2 x4 (x3 + 1) M _ _ h).trans g
  · rw [if_neg q1] at h
    cases h
set_option maxRecDepth 100000 in
theorem zL86_47_kp (n : Nat) : ∀ (k : Nat) (x1 : Int) (x2 : Int) (x3 : Int) (x4 : Int) (M : ZM) (r : Int) (m' : ZM), zL86_47 n k x1 x2 x3 x4 M = some (r, m') → m' = M := by
  intro k
  induction k with
  | zero => intro x1 x2 x3 x4 M r m' h; cases h
  | succ k ih =>
    intro x1 x2 x3 x4 M r m' h
    rw [zL86_47] at h
    have g : M = M := rfl
    by_cases q1 : x4 < 0
    · rw [if_pos q1] at h
      exact (zJ86_170_kp n x2 M _ _ h).trans g
    · rw [if_neg q1] at h
      by_cases q2 : 0 ≤ x2
      · rw [if_pos q2] at h
        exact (zJ86_170_kp n x2 M _ _ h).trans g
      · rw [if_neg q2] at h
        by_cases q3 : x4 < 0 ∨ 320 ≤ x4
        · rw [if_pos q3] at h
          cases h
        · rw [if_neg q3] at h
          cases hc4 : zF22 n (M.1 105 (Int.toNat x4)) M with
          | none => rw [hc4] at h; cases h
          | some w =>
            obtain ⟨v14, M15⟩ := w
            rw [hc4] at h
            dsimp only at h
            replace g := (zF22_kp n (M.1 105 (Int.toNat x4)) M _ _ hc4).trans g
            by_cases q5 : v14 = 0
            · rw [if_pos q5] at h
              exact (zJ86_75_kp n (zL86_47 n k) ih x1 x2 x3 x4 M15 _ _ h).trans g
            · rw [if_neg q5] at h
              exact (zJ86_69_kp n (zL86_47 n k) ih x1 x2 x3 x4 M15 _ _ h).trans g
set_option maxRecDepth 100000 in
theorem zJ86_28_kp (n : Nat) (x1 : Int) (M : ZM) (r : Int) (m' : ZM) (h : zJ86_28 n x1 M = some (r, m')) : m' = M := by
  unfold zJ86_28 at h
  have g : M = M := rfl
  cases hc1 : zF85 n x1 M with
  | none => rw [hc1] at h; cases h
  | some w =>
    obtain ⟨v7, M8⟩ := w
    rw [hc1] at h
    dsimp only at h
    replace g := (zF85_kp n x1 M _ _ hc1).trans g
    by_cases q2 : v7 = 0
    · rw [if_pos q2] at h
      by_cases q3 : rg (x1 - 1)
      · rw [if_pos q3] at h
        exact (zL86_47_kp n n x1 (-1) 0 (x1 - 1) M8 _ _ h).trans g
      · rw [if_neg q3] at h
        cases h
    · rw [if_neg q2] at h
      exact (Prod.mk.inj (Option.some.inj h)).2.symm.trans g
set_option maxRecDepth 100000 in
theorem zF86_kp (n : Nat) (a0 : Int) (M : ZM) (r : Int) (m' : ZM) (h : zF86 n a0 M = some (r, m')) : m' = M := by
  unfold zF86 at h
  have g : M = M := rfl
  by_cases q1 : rg ((M.1 83 37) - 1)
  · rw [if_pos q1] at h
    cases hc2 : zF19 n a0 0 ((M.1 83 37) - 1) M with
    | none => rw [hc2] at h; cases h
    | some w =>
      obtain ⟨v1, M2⟩ := w
      rw [hc2] at h
      dsimp only at h
      replace g := (zF19_kp n a0 0 ((M.1 83 37) - 1) M _ _ hc2).trans g
      by_cases q3 : v1 = 0
      · rw [if_pos q3] at h
        exact (zJ86_26_kp n M2 _ _ h).trans g
      · rw [if_neg q3] at h
        by_cases q4 : a0 < 0 ∨ 320 ≤ a0
        · rw [if_pos q4] at h
          cases h
        · rw [if_neg q4] at h
          by_cases q5 : 1000 ≤ (M2.1 105 (Int.toNat a0))
          · rw [if_pos q5] at h
            exact (zJ86_28_kp n a0 M2 _ _ h).trans g
          · rw [if_neg q5] at h
            exact (zJ86_26_kp n M2 _ _ h).trans g
  · rw [if_neg q1] at h
    cases h
set_option maxRecDepth 100000 in
theorem zF87_kp (n : Nat) (M : ZM) (r : Int) (m' : ZM) (h : zF87 n M = some (r, m')) : m' = M := by
  unfold zF87 at h
  have g : M = M := rfl
  exact (Prod.mk.inj (Option.some.inj h)).2.symm.trans g
set_option maxRecDepth 100000 in
theorem zJ88_22_kp (n : Nat) (s0 : Int) (M : ZM) (r : Int) (m' : ZM) (h : zJ88_22 n s0 M = some (r, m')) : m' = M := by
  unfold zJ88_22 at h
  have g : M = M := rfl
  exact (Prod.mk.inj (Option.some.inj h)).2.symm.trans g
set_option maxRecDepth 100000 in
theorem zF88_kp (n : Nat) (a0 : Int) (M : ZM) (r : Int) (m' : ZM) (h : zF88 n a0 M = some (r, m')) : m' = M := by
  unfold zF88 at h
  have g : M = M := rfl
  cases hc1 : zF19 n a0 1 (M.1 83 38) M with
  | none => rw [hc1] at h; cases h
  | some w =>
    obtain ⟨v1, M2⟩ := w
    rw [hc1] at h
    dsimp only at h
    replace g := (zF19_kp n a0 1 (M.1 83 38) M _ _ hc1).trans g
    by_cases q2 : v1 = 0
    · rw [if_pos q2] at h
      exact (zJ88_22_kp n (-1) M2 _ _ h).trans g
    · rw [if_neg q2] at h
      by_cases q3 : a0 < 0 ∨ 12 ≤ a0
      · rw [if_pos q3] at h
        cases h
      · rw [if_neg q3] at h
        exact (zJ88_22_kp n (M2.1 107 (Int.toNat a0)) M2 _ _ h).trans g
def w101 (b : Nat) : List (Nat × Nat) := [(b, 6), (b, 7)]
set_option maxRecDepth 100000 in
theorem zF101_kp (n : Nat) (b : Nat) (M : ZM) (r : Unit) (m' : ZM) (h : zF101 n b M = some (r, m')) : kp (wl (w101 b)) M m' := by
  unfold zF101 at h
  have g := kp_refl (wl (w101 b)) M
  replace g : kp (wl (w101 b)) M (z_i M b 6 0) := kp_i g (by simp [w101])
  rw [zlet] at h
  generalize z_i M b 6 0 = M1 at h g
  replace g : kp (wl (w101 b)) M (z_i M1 b 7 0) := kp_i g (by simp [w101])
  rw [zlet] at h
  generalize z_i M1 b 7 0 = M2 at h g
  rw [← (Prod.mk.inj (Option.some.inj h)).2]
  exact g
def w102 (b : Nat) : List (Nat × Nat) := [(b, 6), (b + 1, 1000), (b + 2, 1000), (b + 3, 1000), (b + 4, 1000), (b + 5, 1000)]
set_option maxRecDepth 100000 in
theorem zJ102_69_kp (n : Nat) (b : Nat) (M : ZM) (r : Unit) (m' : ZM) (h : zJ102_69 n b M = some (r, m')) : kp (wl (w102 b)) M m' := by
  unfold zJ102_69 at h
  have g := kp_refl (wl (w102 b)) M
  rw [← (Prod.mk.inj (Option.some.inj h)).2]
  exact g
set_option maxRecDepth 100000 in
theorem zJ102_59_kp (n : Nat) (b : Nat) (M : ZM) (r : Unit) (m' : ZM) (h : zJ102_59 n b M = some (r, m')) : kp (wl (w102 b)) M m' := by
  unfold zJ102_59 at h
  have g := kp_refl (wl (w102 b)) M
  by_cases q1 : rg ((M.1 b 6) + 1)
  · rw [if_pos q1] at h
    replace g : kp (wl (w102 b)) M (z_i M b 6 ((M.1 b 6) + 1)) := kp_i g (by simp [w102])
    rw [zlet] at h
    generalize z_i M b 6 ((M.1 b 6) + 1) = M12 at h g
    exact kp_tr g (zJ102_69_kp n b M12 _ _ h)
  · rw [if_neg q1] at h
    cases h
set_option maxRecDepth 100000 in
theorem zJ102_39_kp (n : Nat) (b : Nat) (M : ZM) (r : Unit) (m' : ZM) (h : zJ102_39 n b M = some (r, m')) : kp (wl (w102 b)) M m' := by
  unfold zJ102_39 at h
  have g := kp_refl (wl (w102 b)) M
  by_cases q1 : (M.1 b 6) < 0 ∨ 120 ≤ (M.1 b 6)
  · rw [if_pos q1] at h
    cases h
  · rw [if_neg q1] at h
    replace g : kp (wl (w102 b)) M (z_i M (b + 4) (Int.toNat (M.1 b 6)) (-1)) := kp_ia g (by simp [w102])
    rw [zlet] at h
    generalize z_i M (b + 4) (Int.toNat (M.1 b 6)) (-1) = M9 at h g
    by_cases q2 : (M9.1 b 6) < 0 ∨ 120 ≤ (M9.1 b 6)
    · rw [if_pos q2] at h
      cases h
    · rw [if_neg q2] at h
      replace g : kp (wl (w102 b)) M (z_i M9 (b + 5) (Int.toNat (M9.1 b 6)) (-1)) := kp_ia g (by simp [w102])
      rw [zlet] at h
      generalize z_i M9 (b + 5) (Int.toNat (M9.1 b 6)) (-1) = M11 at h g
      exact kp_tr g (zJ102_59_kp n b M11 _ _ h)
set_option maxRecDepth 100000 in
theorem zJ102_19_kp (n : Nat) (b : Nat) (x2 : Int) (M : ZM) (r : Unit) (m' : ZM) (h : zJ102_19 n b x2 M = some (r, m')) : kp (wl (w102 b)) M m' := by
  unfold zJ102_19 at h
  have g := kp_refl (wl (w102 b)) M
  by_cases q1 : (M.1 b 6) < 0 ∨ 120 ≤ (M.1 b 6)
  · rw [if_pos q1] at h
    cases h
  · rw [if_neg q1] at h
    replace g : kp (wl (w102 b)) M (z_i M (b + 2) (Int.toNat (M.1 b 6)) (-1)) := kp_ia g (by simp [w102])
    rw [zlet] at h
    generalize z_i M (b + 2) (Int.toNat (M.1 b 6)) (-1) = M5 at h g
    by_cases q2 : (M5.1 b 6) < 0 ∨ 120 ≤ (M5.1 b 6)
    · rw [if_pos q2] at h
      cases h
    · rw [if_neg q2] at h
      replace g : kp (wl (w102 b)) M (z_i M5 (b + 3) (Int.toNat (M5.1 b 6)) x2) := kp_ia g (by simp [w102])
      rw [zlet] at h
      generalize z_i M5 (b + 3) (Int.toNat (M5.1 b 6)) x2 = M7 at h g
      exact kp_tr g (zJ102_39_kp n b M7 _ _ h)
set_option maxRecDepth 100000 in
theorem zF102_kp (n : Nat) (b : Nat) (a0 : Int) (a1 : Int) (M : ZM) (r : Unit) (m' : ZM) (h : zF102 n b a0 a1 M = some (r, m')) : kp (wl (w102 b)) M m' := by
  unfold zF102 at h
  have g := kp_refl (wl (w102 b)) M
  by_cases q1 : 120 ≤ (M.1 b 6)
  · rw [if_pos q1] at h
    exact kp_tr g (zJ102_69_kp n b M _ _ h)
  · rw [if_neg q1] at h
    by_cases q2 : (M.1 b 6) < 0 ∨ 120 ≤ (M.1 b 6)
    · rw [if_pos q2] at h
      cases h
    · rw [if_neg q2] at h
      replace g : kp (wl (w102 b)) M (z_i M (b + 1) (Int.toNat (M.1 b 6)) a0) := kp_ia g (by simp [w102])
      rw [zlet] at h
      generalize z_i M (b + 1) (Int.toNat (M.1 b 6)) a0 = M3 at h g
      exact kp_tr g (zJ102_19_kp n b a1 M3 _ _ h)
def w103 (b : Nat) : List (Nat × Nat) := [(b, 7), (b + 6, 1000)]
set_option maxRecDepth 100000 in
theorem zJ103_28_kp (n : Nat) (b : Nat) (M : ZM) (r : Unit) (m' : ZM) (h : zJ103_28 n b M = some (r, m')) : kp (wl (w103 b)) M m' := by
  unfold zJ103_28 at h
  have g := kp_refl (wl (w103 b)) M
  rw [← (Prod.mk.inj (Option.some.inj h)).2]
  exact g
set_option maxRecDepth 100000 in
theorem zJ103_18_kp (n : Nat) (b : Nat) (M : ZM) (r : Unit) (m' : ZM) (h : zJ103_18 n b M = some (r, m')) : kp (wl (w103 b)) M m' := by
  unfold zJ103_18 at h
  have g := kp_refl (wl (w103 b)) M
  by_cases q1 : rg ((M.1 b 7) + 1)
  · rw [if_pos q1] at h
    replace g : kp (wl (w103 b)) M (z_i M b 7 ((M.1 b 7) + 1)) := kp_i g (by simp [w103])
    rw [zlet] at h
    generalize z_i M b 7 ((M.1 b 7) + 1) = M4 at h g
    exact kp_tr g (zJ103_28_kp n b M4 _ _ h)
  · rw [if_neg q1] at h
    cases h
set_option maxRecDepth 100000 in
theorem zF103_kp (n : Nat) (b : Nat) (a0 : Int) (M : ZM) (r : Unit) (m' : ZM) (h : zF103 n b a0 M = some (r, m')) : kp (wl (w103 b)) M m' := by
  unfold zF103 at h
  have g := kp_refl (wl (w103 b)) M
  by_cases q1 : 3 ≤ (M.1 b 7)
  · rw [if_pos q1] at h
    exact kp_tr g (zJ103_28_kp n b M _ _ h)
  · rw [if_neg q1] at h
    by_cases q2 : (M.1 b 7) < 0 ∨ 3 ≤ (M.1 b 7)
    · rw [if_pos q2] at h
      cases h
    · rw [if_neg q2] at h
      replace g : kp (wl (w103 b)) M (z_i M (b + 6) (Int.toNat (M.1 b 7)) a0) := kp_ia g (by simp [w103])
      rw [zlet] at h
      generalize z_i M (b + 6) (Int.toNat (M.1 b 7)) a0 = M3 at h g
      exact kp_tr g (zJ103_18_kp n b M3 _ _ h)
def w104 (b : Nat) : List (Nat × Nat) := [(b + 2, 1000)]
set_option maxRecDepth 100000 in
theorem zJ104_38_kp (n : Nat) (b : Nat) (M : ZM) (r : Unit) (m' : ZM) (h : zJ104_38 n b M = some (r, m')) : kp (wl (w104 b)) M m' := by
  unfold zJ104_38 at h
  have g := kp_refl (wl (w104 b)) M
  rw [← (Prod.mk.inj (Option.some.inj h)).2]
  exact g
set_option maxRecDepth 100000 in
theorem zJ104_24_kp (n : Nat) (b : Nat) (x1 : Int) (x2 : Int) (M : ZM) (r : Unit) (m' : ZM) (h : zJ104_24 n b x1 x2 M = some (r, m')) : kp (wl (w104 b)) M m' := by
  unfold zJ104_24 at h
  have g := kp_refl (wl (w104 b)) M
  by_cases q1 : x1 < 0 ∨ 120 ≤ x1
  · rw [if_pos q1] at h
    cases h
  · rw [if_neg q1] at h
    replace g : kp (wl (w104 b)) M (z_i M (b + 2) (Int.toNat x1) x2) := kp_ia g (by simp [w104])
    rw [zlet] at h
    generalize z_i M (b + 2) (Int.toNat x1) x2 = M6 at h g
    by_cases q2 : x2 < 0 ∨ 120 ≤ x2
    · rw [if_pos q2] at h
      cases h
    · rw [if_neg q2] at h
      replace g : kp (wl (w104 b)) M (z_i M6 (b + 2) (Int.toNat x2) x1) := kp_ia g (by simp [w104])
      rw [zlet] at h
      generalize z_i M6 (b + 2) (Int.toNat x2) x1 = M8 at h g
      exact kp_tr g (zJ104_38_kp n b M8 _ _ h)
set_option maxRecDepth 100000 in
theorem zF104_kp (n : Nat) (b : Nat) (a0 : Int) (a1 : Int) (M : ZM) (r : Unit) (m' : ZM) (h : zF104 n b a0 a1 M = some (r, m')) : kp (wl (w104 b)) M m' := by
  unfold zF104 at h
  have g := kp_refl (wl (w104 b)) M
  by_cases q1 : a0 < 0
  · rw [if_pos q1] at h
    exact kp_tr g (zJ104_38_kp n b M _ _ h)
  · rw [if_neg q1] at h
    by_cases q2 : (M.1 b 6) ≤ a0
    · rw [if_pos q2] at h
      exact kp_tr g (zJ104_38_kp n b M _ _ h)
    · rw [if_neg q2] at h
      by_cases q3 : a1 < 0
      · rw [if_pos q3] at h
        exact kp_tr g (zJ104_38_kp n b M _ _ h)
      · rw [if_neg q3] at h
        by_cases q4 : (M.1 b 6) ≤ a1
        · rw [if_pos q4] at h
          exact kp_tr g (zJ104_38_kp n b M _ _ h)
        · rw [if_neg q4] at h
          exact kp_tr g (zJ104_24_kp n b a0 a1 M _ _ h)
def w105 (b : Nat) : List (Nat × Nat) := [(b + 4, 1000)]
set_option maxRecDepth 100000 in
theorem zJ105_31_kp (n : Nat) (b : Nat) (M : ZM) (r : Unit) (m' : ZM) (h : zJ105_31 n b M = some (r, m')) : kp (wl (w105 b)) M m' := by
  unfold zJ105_31 at h
  have g := kp_refl (wl (w105 b)) M
  rw [← (Prod.mk.inj (Option.some.inj h)).2]
  exact g
set_option maxRecDepth 100000 in
theorem zJ105_24_kp (n : Nat) (b : Nat) (x1 : Int) (x2 : Int) (M : ZM) (r : Unit) (m' : ZM) (h : zJ105_24 n b x1 x2 M = some (r, m')) : kp (wl (w105 b)) M m' := by
  unfold zJ105_24 at h
  have g := kp_refl (wl (w105 b)) M
  by_cases q1 : x1 < 0 ∨ 120 ≤ x1
  · rw [if_pos q1] at h
    cases h
  · rw [if_neg q1] at h
    replace g : kp (wl (w105 b)) M (z_i M (b + 4) (Int.toNat x1) x2) := kp_ia g (by simp [w105])
    rw [zlet] at h
    generalize z_i M (b + 4) (Int.toNat x1) x2 = M6 at h g
    exact kp_tr g (zJ105_31_kp n b M6 _ _ h)
set_option maxRecDepth 100000 in
theorem zF105_kp (n : Nat) (b : Nat) (a0 : Int) (a1 : Int) (M : ZM) (r : Unit) (m' : ZM) (h : zF105 n b a0 a1 M = some (r, m')) : kp (wl (w105 b)) M m' := by
  unfold zF105 at h
  have g := kp_refl (wl (w105 b)) M
  by_cases q1 : a0 < 0
  · rw [if_pos q1] at h
    exact kp_tr g (zJ105_31_kp n b M _ _ h)
  · rw [if_neg q1] at h
    by_cases q2 : (M.1 b 6) ≤ a0
    · rw [if_pos q2] at h
      exact kp_tr g (zJ105_31_kp n b M _ _ h)
    · rw [if_neg q2] at h
      by_cases q3 : a1 < 0
      · rw [if_pos q3] at h
        exact kp_tr g (zJ105_31_kp n b M _ _ h)
      · rw [if_neg q3] at h
        by_cases q4 : (M.1 b 6) ≤ a1
        · rw [if_pos q4] at h
          exact kp_tr g (zJ105_31_kp n b M _ _ h)
        · rw [if_neg q4] at h
          exact kp_tr g (zJ105_24_kp n b a0 a1 M _ _ h)
def w106 (b : Nat) : List (Nat × Nat) := [(b + 5, 1000)]
set_option maxRecDepth 100000 in
theorem zJ106_19_kp (n : Nat) (b : Nat) (M : ZM) (r : Unit) (m' : ZM) (h : zJ106_19 n b M = some (r, m')) : kp (wl (w106 b)) M m' := by
  unfold zJ106_19 at h
  have g := kp_refl (wl (w106 b)) M
  rw [← (Prod.mk.inj (Option.some.inj h)).2]
  exact g
set_option maxRecDepth 100000 in
theorem zF106_kp (n : Nat) (b : Nat) (a0 : Int) (a1 : Int) (M : ZM) (r : Unit) (m' : ZM) (h : zF106 n b a0 a1 M = some (r, m')) : kp (wl (w106 b)) M m' := by
  unfold zF106 at h
  have g := kp_refl (wl (w106 b)) M
  by_cases q1 : a0 < 0
  · rw [if_pos q1] at h
    exact kp_tr g (zJ106_19_kp n b M _ _ h)
  · rw [if_neg q1] at h
    by_cases q2 : (M.1 b 6) ≤ a0
    · rw [if_pos q2] at h
      exact kp_tr g (zJ106_19_kp n b M _ _ h)
    · rw [if_neg q2] at h
      by_cases q3 : a0 < 0 ∨ 120 ≤ a0
      · rw [if_pos q3] at h
        cases h
      · rw [if_neg q3] at h
        replace g : kp (wl (w106 b)) M (z_i M (b + 5) (Int.toNat a0) a1) := kp_ia g (by simp [w106])
        rw [zlet] at h
        generalize z_i M (b + 5) (Int.toNat a0) a1 = M4 at h g
        exact kp_tr g (zJ106_19_kp n b M4 _ _ h)
set_option maxRecDepth 100000 in
theorem zJ107_17_kp (n : Nat) (b : Nat) (s0 : Int) (M : ZM) (r : Int) (m' : ZM) (h : zJ107_17 n b s0 M = some (r, m')) : m' = M := by
  unfold zJ107_17 at h
  have g : M = M := rfl
  exact (Prod.mk.inj (Option.some.inj h)).2.symm.trans g
set_option maxRecDepth 100000 in
theorem zF107_kp (n : Nat) (b : Nat) (M : ZM) (r : Int) (m' : ZM) (h : zF107 n b M = some (r, m')) : m' = M := by
  unfold zF107 at h
  have g : M = M := rfl
  by_cases q1 : (M.1 b 6) ≤ 0
  · rw [if_pos q1] at h
    exact (zJ107_17_kp n b (-1) M _ _ h).trans g
  · rw [if_neg q1] at h
    exact (zJ107_17_kp n b (M.1 (b + 1) 0) M _ _ h).trans g
set_option maxRecDepth 100000 in
theorem zF108_kp (n : Nat) (b : Nat) (M : ZM) (r : Int) (m' : ZM) (h : zF108 n b M = some (r, m')) : m' = M := by
  unfold zF108 at h
  have g : M = M := rfl
  exact (Prod.mk.inj (Option.some.inj h)).2.symm.trans g
set_option maxRecDepth 100000 in
theorem zJ109_22_kp (n : Nat) (b : Nat) (s0 : Int) (M : ZM) (r : Int) (m' : ZM) (h : zJ109_22 n b s0 M = some (r, m')) : m' = M := by
  unfold zJ109_22 at h
  have g : M = M := rfl
  exact (Prod.mk.inj (Option.some.inj h)).2.symm.trans g
set_option maxRecDepth 100000 in
theorem zJ109_21_kp (n : Nat) (b : Nat) (M : ZM) (r : Int) (m' : ZM) (h : zJ109_21 n b M = some (r, m')) : m' = M := by
  unfold zJ109_21 at h
  have g : M = M := rfl
  exact (zJ109_22_kp n b (-1) M _ _ h).trans g
set_option maxRecDepth 100000 in
theorem zF109_kp (n : Nat) (b : Nat) (a0 : Int) (M : ZM) (r : Int) (m' : ZM) (h : zF109 n b a0 M = some (r, m')) : m' = M := by
  unfold zF109 at h
  have g : M = M := rfl
  by_cases q1 : a0 < 0
  · rw [if_pos q1] at h
    exact (zJ109_21_kp n b M _ _ h).trans g
  · rw [if_neg q1] at h
    by_cases q2 : (M.1 b 6) ≤ a0
    · rw [if_pos q2] at h
      exact (zJ109_21_kp n b M _ _ h).trans g
    · rw [if_neg q2] at h
      by_cases q3 : a0 < 0 ∨ 120 ≤ a0
      · rw [if_pos q3] at h
        cases h
      · rw [if_neg q3] at h
        exact (zJ109_22_kp n b (M.1 (b + 1) (Int.toNat a0)) M _ _ h).trans g
set_option maxRecDepth 100000 in
theorem zJ110_22_kp (n : Nat) (b : Nat) (s0 : Int) (M : ZM) (r : Int) (m' : ZM) (h : zJ110_22 n b s0 M = some (r, m')) : m' = M := by
  unfold zJ110_22 at h
  have g : M = M := rfl
  exact (Prod.mk.inj (Option.some.inj h)).2.symm.trans g
set_option maxRecDepth 100000 in
theorem zJ110_21_kp (n : Nat) (b : Nat) (M : ZM) (r : Int) (m' : ZM) (h : zJ110_21 n b M = some (r, m')) : m' = M := by
  unfold zJ110_21 at h
  have g : M = M := rfl
  exact (zJ110_22_kp n b (-1) M _ _ h).trans g
set_option maxRecDepth 100000 in
theorem zF110_kp (n : Nat) (b : Nat) (a0 : Int) (M : ZM) (r : Int) (m' : ZM) (h : zF110 n b a0 M = some (r, m')) : m' = M := by
  unfold zF110 at h
  have g : M = M := rfl
  by_cases q1 : a0 < 0
  · rw [if_pos q1] at h
    exact (zJ110_21_kp n b M _ _ h).trans g
  · rw [if_neg q1] at h
    by_cases q2 : (M.1 b 6) ≤ a0
    · rw [if_pos q2] at h
      exact (zJ110_21_kp n b M _ _ h).trans g
    · rw [if_neg q2] at h
      by_cases q3 : a0 < 0 ∨ 120 ≤ a0
      · rw [if_pos q3] at h
        cases h
      · rw [if_neg q3] at h
        exact (zJ110_22_kp n b (M.1 (b + 2) (Int.toNat a0)) M _ _ h).trans g
set_option maxRecDepth 100000 in
theorem zJ111_24_kp (n : Nat) (b : Nat) (s0 : Int) (M : ZM) (r : Int) (m' : ZM) (h : zJ111_24 n b s0 M = some (r, m')) : m' = M := by
  unfold zJ111_24 at h
  have g : M = M := rfl
  exact (Prod.mk.inj (Option.some.inj h)).2.symm.trans g
set_option maxRecDepth 100000 in
theorem zJ111_23_kp (n : Nat) (b : Nat) (M : ZM) (r : Int) (m' : ZM) (h : zJ111_23 n b M = some (r, m')) : m' = M := by
  unfold zJ111_23 at h
  have g : M = M := rfl
  exact (zJ111_24_kp n b 0 M _ _ h).trans g
set_option maxRecDepth 100000 in
theorem zF111_kp (n : Nat) (b : Nat) (a0 : Int) (M : ZM) (r : Int) (m' : ZM) (h : zF111 n b a0 M = some (r, m')) : m' = M := by
  unfold zF111 at h
  have g : M = M := rfl
  by_cases q1 : a0 < 0
  · rw [if_pos q1] at h
    exact (zJ111_23_kp n b M _ _ h).trans g
  · rw [if_neg q1] at h
    by_cases q2 : (M.1 b 7) ≤ a0
    · rw [if_pos q2] at h
      exact (zJ111_23_kp n b M _ _ h).trans g
    · rw [if_neg q2] at h
      by_cases q3 : a0 < 0 ∨ 3 ≤ a0
      · rw [if_pos q3] at h
        cases h
      · rw [if_neg q3] at h
        by_cases q4 : rg ((M.1 (b + 6) (Int.toNat a0)) + 1)
        · rw [if_pos q4] at h
          exact (zJ111_24_kp n b ((M.1 (b + 6) (Int.toNat a0)) + 1) M _ _ h).trans g
        · rw [if_neg q4] at h
          cases h
set_option maxRecDepth 100000 in
theorem zJ112_27_kp (n : Nat) (b : Nat) (s0 : Int) (M : ZM) (r : Int) (m' : ZM) (h : zJ112_27 n b s0 M = some (r, m')) : m' = M := by
  unfold zJ112_27 at h
  have g : M = M := rfl
  exact (Prod.mk.inj (Option.some.inj h)).2.symm.trans g
set_option maxRecDepth 100000 in
theorem zJ112_26_kp (n : Nat) (b : Nat) (M : ZM) (r : Int) (m' : ZM) (h : zJ112_26 n b M = some (r, m')) : m' = M := by
  unfold zJ112_26 at h
  have g : M = M := rfl
  exact (zJ112_27_kp n b 0 M _ _ h).trans g
set_option maxRecDepth 100000 in
theorem zF112_kp (n : Nat) (b : Nat) (a0 : Int) (M : ZM) (r : Int) (m' : ZM) (h : zF112 n b a0 M = some (r, m')) : m' = M := by
  unfold zF112 at h
  have g : M = M := rfl
  by_cases q1 : a0 < 0
  · rw [if_pos q1] at h
    exact (zJ112_26_kp n b M _ _ h).trans g
  · rw [if_neg q1] at h
    by_cases q2 : (M.1 b 7) ≤ a0
    · rw [if_pos q2] at h
      exact (zJ112_26_kp n b M _ _ h).trans g
    · rw [if_neg q2] at h
      by_cases q3 : a0 < 0 ∨ 3 ≤ a0
      · rw [if_pos q3] at h
        cases h
      · rw [if_neg q3] at h
        by_cases q4 : (M.1 (b + 6) (Int.toNat a0)) < 0 ∨ 120 ≤ (M.1 (b + 6) (Int.toNat a0))
        · rw [if_pos q4] at h
          cases h
        · rw [if_neg q4] at h
          exact (zJ112_27_kp n b (M.1 (b + 2) (Int.toNat (M.1 (b + 6) (Int.toNat a0)))) M _ _ h).trans g
set_option maxRecDepth 100000 in
theorem zF113_kp (n : Nat) (b : Nat) (a0 : Int) (M : ZM) (r : Int) (m' : ZM) (h : zF113 n b a0 M = some (r, m')) : m' = M := by
  unfold zF113 at h
  have g : M = M := rfl
  cases hc1 : zF112 n b a0 M with
  | none => rw [hc1] at h; cases h
  | some w =>
    obtain ⟨v1, M2⟩ := w
    rw [hc1] at h
    dsimp only at h
    replace g := (zF112_kp n b a0 M _ _ hc1).trans g
    by_cases q2 : rg (v1 + 2)
    · rw [if_pos q2] at h
      exact (Prod.mk.inj (Option.some.inj h)).2.symm.trans g
    · rw [if_neg q2] at h
      cases h
set_option maxRecDepth 100000 in
theorem zF114_kp (n : Nat) (b : Nat) (a0 : Int) (M : ZM) (r : Int) (m' : ZM) (h : zF114 n b a0 M = some (r, m')) : m' = M := by
  unfold zF114 at h
  have g : M = M := rfl
  cases hc1 : zF112 n b a0 M with
  | none => rw [hc1] at h; cases h
  | some w =>
    obtain ⟨v1, M2⟩ := w
    rw [hc1] at h
    dsimp only at h
    replace g := (zF112_kp n b a0 M _ _ hc1).trans g
    by_cases q2 : rg (v1 + 1)
    · rw [if_pos q2] at h
      cases hc3 : zF110 n b (v1 + 1) M2 with
      | none => rw [hc3] at h; cases h
      | some w =>
        obtain ⟨v4, M5⟩ := w
        rw [hc3] at h
        dsimp only at h
        replace g := (zF110_kp n b (v1 + 1) M2 _ _ hc3).trans g
        exact (Prod.mk.inj (Option.some.inj h)).2.symm.trans g
    · rw [if_neg q2] at h
      cases h
set_option maxRecDepth 100000 in
theorem zJ115_43_kp (n : Nat) (b : Nat) (s0 : Int) (M : ZM) (r : Int) (m' : ZM) (h : zJ115_43 n b s0 M = some (r, m')) : m' = M := by
  unfold zJ115_43 at h
  have g : M = M := rfl
  by_cases q1 : s0 = 0 ∨ s0 = 1
  · rw [if_pos q1] at h
    exact (Prod.mk.inj (Option.some.inj h)).2.symm.trans g
  · rw [if_neg q1] at h
    cases h
set_option maxRecDepth 100000 in
theorem zJ115_42_kp (n : Nat) (b : Nat) (M : ZM) (r : Int) (m' : ZM) (h : zJ115_42 n b M = some (r, m')) : m' = M := by
  unfold zJ115_42 at h
  have g : M = M := rfl
  exact (zJ115_43_kp n b 0 M _ _ h).trans g
set_option maxRecDepth 100000 in
theorem zJ115_25_kp (n : Nat) (b : Nat) (x1 : Int) (M : ZM) (r : Int) (m' : ZM) (h : zJ115_25 n b x1 M = some (r, m')) : m' = M := by
  unfold zJ115_25 at h
  have g : M = M := rfl
  by_cases q1 : rg (x1 + 1)
  · rw [if_pos q1] at h
    by_cases q2 : (x1 + 1) < 0 ∨ 120 ≤ (x1 + 1)
    · rw [if_pos q2] at h
      cases h
    · rw [if_neg q2] at h
      by_cases q3 : (M.1 (b + 1) (Int.toNat (x1 + 1))) = 40
      · rw [if_pos q3] at h
        exact (zJ115_42_kp n b M _ _ h).trans g
      · rw [if_neg q3] at h
        exact (zJ115_43_kp n b 1 M _ _ h).trans g
  · rw [if_neg q1] at h
    cases h
set_option maxRecDepth 100000 in
theorem zF115_kp (n : Nat) (b : Nat) (a0 : Int) (M : ZM) (r : Int) (m' : ZM) (h : zF115 n b a0 M = some (r, m')) : m' = M := by
  unfold zF115 at h
  have g : M = M := rfl
  by_cases q1 : a0 < 0
  · rw [if_pos q1] at h
    exact (zJ115_42_kp n b M _ _ h).trans g
  · rw [if_neg q1] at h
    by_cases q2 : rg (a0 + 1)
    · rw [if_pos q2] at h
      by_cases q3 : (M.1 b 6) ≤ (a0 + 1)
      · rw [if_pos q3] at h
        exact (zJ115_42_kp n b M _ _ h).trans g
      · rw [if_neg q3] at h
        by_cases q4 : a0 < 0 ∨ 120 ≤ a0
        · rw [if_pos q4] at h
          cases h
        · rw [if_neg q4] at h
          by_cases q5 : (M.1 (b + 1) (Int.toNat a0)) = 36
          · rw [if_pos q5] at h
            exact (zJ115_25_kp n b a0 M _ _ h).trans g
          · rw [if_neg q5] at h
            exact (zJ115_42_kp n b M _ _ h).trans g
    · rw [if_neg q2] at h
      cases h
set_option maxRecDepth 100000 in
theorem zJ116_43_kp (n : Nat) (b : Nat) (s0 : Int) (M : ZM) (r : Int) (m' : ZM) (h : zJ116_43 n b s0 M = some (r, m')) : m' = M := by
  unfold zJ116_43 at h
  have g : M = M := rfl
  by_cases q1 : s0 = 0 ∨ s0 = 1
  · rw [if_pos q1] at h
    exact (Prod.mk.inj (Option.some.inj h)).2.symm.trans g
  · rw [if_neg q1] at h
    cases h
set_option maxRecDepth 100000 in
theorem zJ116_42_kp (n : Nat) (b : Nat) (M : ZM) (r : Int) (m' : ZM) (h : zJ116_42 n b M = some (r, m')) : m' = M := by
  unfold zJ116_42 at h
  have g : M = M := rfl
  exact (zJ116_43_kp n b 0 M _ _ h).trans g
set_option maxRecDepth 100000 in
theorem zJ116_25_kp (n : Nat) (b : Nat) (x1 : Int) (M : ZM) (r : Int) (m' : ZM) (h : zJ116_25 n b x1 M = some (r, m')) : m' = M := by
  unfold zJ116_25 at h
  have g : M = M := rfl
  by_cases q1 : rg (x1 + 1)
  · rw [if_pos q1] at h
    by_cases q2 : (x1 + 1) < 0 ∨ 120 ≤ (x1 + 1)
    · rw [if_pos q2] at h
      cases h
    · rw [if_neg q2] at h
      by_cases q3 : (M.1 (b + 1) (Int.toNat (x1 + 1))) = 40
      · rw [if_pos q3] at h
        exact (zJ116_43_kp n b 1 M _ _ h).trans g
      · rw [if_neg q3] at h
        exact (zJ116_42_kp n b M _ _ h).trans g
  · rw [if_neg q1] at h
    cases h
set_option maxRecDepth 100000 in
theorem zF116_kp (n : Nat) (b : Nat) (a0 : Int) (M : ZM) (r : Int) (m' : ZM) (h : zF116 n b a0 M = some (r, m')) : m' = M := by
  unfold zF116 at h
  have g : M = M := rfl
  by_cases q1 : a0 < 0
  · rw [if_pos q1] at h
    exact (zJ116_42_kp n b M _ _ h).trans g
  · rw [if_neg q1] at h
    by_cases q2 : rg (a0 + 1)
    · rw [if_pos q2] at h
      by_cases q3 : (M.1 b 6) ≤ (a0 + 1)
      · rw [if_pos q3] at h
        exact (zJ116_42_kp n b M _ _ h).trans g
      · rw [if_neg q3] at h
        by_cases q4 : a0 < 0 ∨ 120 ≤ a0
        · rw [if_pos q4] at h
          cases h
        · rw [if_neg q4] at h
          by_cases q5 : (M.1 (b + 1) (Int.toNat a0)) = 36
          · rw [if_pos q5] at h
            exact (zJ116_25_kp n b a0 M _ _ h).trans g
          · rw [if_neg q5] at h
            exact (zJ116_42_kp n b M _ _ h).trans g
    · rw [if_neg q2] at h
      cases h
set_option maxRecDepth 100000 in
theorem zJ117_23_kp (n : Nat) (b : Nat) (M : ZM) (r : Int) (m' : ZM) (h : zJ117_23 n b M = some (r, m')) : m' = M := by
  unfold zJ117_23 at h
  have g : M = M := rfl
  exact (Prod.mk.inj (Option.some.inj h)).2.symm.trans g
set_option maxRecDepth 100000 in
theorem zJ117_54_kp (n : Nat) (b : Nat) (s0 : Int) (M : ZM) (r : Int) (m' : ZM) (h : zJ117_54 n b s0 M = some (r, m')) : m' = M := by
  unfold zJ117_54 at h
  have g : M = M := rfl
  exact (Prod.mk.inj (Option.some.inj h)).2.symm.trans g
set_option maxRecDepth 100000 in
theorem zJ117_53_kp (n : Nat) (b : Nat) (M : ZM) (r : Int) (m' : ZM) (h : zJ117_53 n b M = some (r, m')) : m' = M := by
  unfold zJ117_53 at h
  have g : M = M := rfl
  exact (zJ117_54_kp n b (-1) M _ _ h).trans g
set_option maxRecDepth 100000 in
theorem zJ117_49_kp (n : Nat) (b : Nat) (x2 : Int) (M : ZM) (r : Int) (m' : ZM) (h : zJ117_49 n b x2 M = some (r, m')) : m' = M := by
  unfold zJ117_49 at h
  have g : M = M := rfl
  exact (zJ117_54_kp n b x2 M _ _ h).trans g
set_option maxRecDepth 100000 in
theorem zJ117_25_kp (n : Nat) (b : Nat) (x1 : Int) (M : ZM) (r : Int) (m' : ZM) (h : zJ117_25 n b x1 M = some (r, m')) : m' = M := by
  unfold zJ117_25 at h
  have g : M = M := rfl
  by_cases q1 : x1 < 0 ∨ 120 ≤ x1
  · rw [if_pos q1] at h
    cases h
  · rw [if_neg q1] at h
    by_cases q2 : rg ((M.1 (b + 2) (Int.toNat x1)) - 1)
    · rw [if_pos q2] at h
      by_cases q3 : ((M.1 (b + 2) (Int.toNat x1)) - 1) < 0
      · rw [if_pos q3] at h
        exact (zJ117_53_kp n b M _ _ h).trans g
      · rw [if_neg q3] at h
        by_cases q4 : ((M.1 (b + 2) (Int.toNat x1)) - 1) < 0 ∨ 120 ≤ ((M.1 (b + 2) (Int.toNat x1)) - 1)
        · rw [if_pos q4] at h
          cases h
        · rw [if_neg q4] at h
          by_cases q5 : (M.1 (b + 1) (Int.toNat ((M.1 (b + 2) (Int.toNat x1)) - 1))) = 36
          · rw [if_pos q5] at h
            exact (zJ117_49_kp n b ((M.1 (b + 2) (Int.toNat x1)) - 1) M _ _ h).trans g
          · rw [if_neg q5] at h
            exact (zJ117_53_kp n b M _ _ h).trans g
    · rw [if_neg q2] at h
      cases h
set_option maxRecDepth 100000 in
theorem zF117_kp (n : Nat) (b : Nat) (a0 : Int) (M : ZM) (r : Int) (m' : ZM) (h : zF117 n b a0 M = some (r, m')) : m' = M := by
  unfold zF117 at h
  have g : M = M := rfl
  by_cases q1 : a0 < 0
  · rw [if_pos q1] at h
    exact (zJ117_23_kp n b M _ _ h).trans g
  · rw [if_neg q1] at h
    by_cases q2 : (M.1 b 6) ≤ a0
    · rw [if_pos q2] at h
      exact (zJ117_23_kp n b M _ _ h).trans g
    · rw [if_neg q2] at h
      by_cases q3 : a0 < 0 ∨ 120 ≤ a0
      · rw [if_pos q3] at h
        cases h
      · rw [if_neg q3] at h
        by_cases q4 : (M.1 (b + 1) (Int.toNat a0)) = 41
        · rw [if_pos q4] at h
          exact (zJ117_25_kp n b a0 M _ _ h).trans g
        · rw [if_neg q4] at h
          exact (zJ117_23_kp n b M _ _ h).trans g
set_option maxRecDepth 100000 in
theorem zJ118_21_kp (n : Nat) (b : Nat) (M : ZM) (r : Int) (m' : ZM) (h : zJ118_21 n b M = some (r, m')) : m' = M := by
  unfold zJ118_21 at h
  have g : M = M := rfl
  exact (Prod.mk.inj (Option.some.inj h)).2.symm.trans g
set_option maxRecDepth 100000 in
theorem zJ118_23_kp (n : Nat) (b : Nat) (x1 : Int) (M : ZM) (r : Int) (m' : ZM) (h : zJ118_23 n b x1 M = some (r, m')) : m' = M := by
  unfold zJ118_23 at h
  have g : M = M := rfl
  by_cases q1 : x1 < 0 ∨ 120 ≤ x1
  · rw [if_pos q1] at h
    cases h
  · rw [if_neg q1] at h
    by_cases q2 : (M.1 (b + 4) (Int.toNat x1)) < 0 ∨ 120 ≤ (M.1 (b + 4) (Int.toNat x1))
    · rw [if_pos q2] at h
      cases h
    · rw [if_neg q2] at h
      exact (Prod.mk.inj (Option.some.inj h)).2.symm.trans g
set_option maxRecDepth 100000 in
theorem zF118_kp (n : Nat) (b : Nat) (a0 : Int) (M : ZM) (r : Int) (m' : ZM) (h : zF118 n b a0 M = some (r, m')) : m' = M := by
  unfold zF118 at h
  have g : M = M := rfl
  by_cases q1 : a0 < 0
  · rw [if_pos q1] at h
    exact (zJ118_21_kp n b M _ _ h).trans g
  · rw [if_neg q1] at h
    by_cases q2 : (M.1 b 6) ≤ a0
    · rw [if_pos q2] at h
      exact (zJ118_21_kp n b M _ _ h).trans g
    · rw [if_neg q2] at h
      by_cases q3 : a0 < 0 ∨ 120 ≤ a0
      · rw [if_pos q3] at h
        cases h
      · rw [if_neg q3] at h
        by_cases q4 : 0 ≤ (M.1 (b + 4) (Int.toNat a0))
        · rw [if_pos q4] at h
          exact (zJ118_23_kp n b a0 M _ _ h).trans g
        · rw [if_neg q4] at h
          exact (zJ118_21_kp n b M _ _ h).trans g
set_option maxRecDepth 100000 in
theorem zJ119_21_kp (n : Nat) (b : Nat) (M : ZM) (r : Int) (m' : ZM) (h : zJ119_21 n b M = some (r, m')) : m' = M := by
  unfold zJ119_21 at h
  have g : M = M := rfl
  exact (Prod.mk.inj (Option.some.inj h)).2.symm.trans g
set_option maxRecDepth 100000 in
theorem zJ119_26_kp (n : Nat) (b : Nat) (x1 : Int) (M : ZM) (r : Int) (m' : ZM) (h : zJ119_26 n b x1 M = some (r, m')) : m' = M := by
  unfold zJ119_26 at h
  have g : M = M := rfl
  by_cases q1 : x1 < 0 ∨ 120 ≤ x1
  · rw [if_pos q1] at h
    cases h
  · rw [if_neg q1] at h
    by_cases q2 : rg ((M.1 (b + 4) (Int.toNat x1)) + 1)
    · rw [if_pos q2] at h
      exact (Prod.mk.inj (Option.some.inj h)).2.symm.trans g
    · rw [if_neg q2] at h
      cases h
set_option maxRecDepth 100000 in
theorem zF119_kp (n : Nat) (b : Nat) (a0 : Int) (M : ZM) (r : Int) (m' : ZM) (h : zF119 n b a0 M = some (r, m')) : m' = M := by
  unfold zF119 at h
  have g : M = M := rfl
  by_cases q1 : a0 < 0
  · rw [if_pos q1] at h
    exact (zJ119_21_kp n b M _ _ h).trans g
  · rw [if_neg q1] at h
    by_cases q2 : (M.1 b 6) ≤ a0
    · rw [if_pos q2] at h
      exact (zJ119_21_kp n b M _ _ h).trans g
    · rw [if_neg q2] at h
      by_cases q3 : a0 < 0 ∨ 120 ≤ a0
      · rw [if_pos q3] at h
        cases h
      · rw [if_neg q3] at h
        by_cases q4 : 0 ≤ (M.1 (b + 4) (Int.toNat a0))
        · rw [if_pos q4] at h
          exact (zJ119_26_kp n b a0 M _ _ h).trans g
        · rw [if_neg q4] at h
          exact (zJ119_21_kp n b M _ _ h).trans g
set_option maxRecDepth 100000 in
theorem zJ120_14_kp (n : Nat) (b : Nat) (M : ZM) (r : Int) (m' : ZM) (h : zJ120_14 n b M = some (r, m')) : m' = M := by
  unfold zJ120_14 at h
  have g : M = M := rfl
  exact (Prod.mk.inj (Option.some.inj h)).2.symm.trans g
set_option maxRecDepth 100000 in
theorem zJ120_44_kp (n : Nat) (b : Nat) (s0 : Int) (M : ZM) (r : Int) (m' : ZM) (h : zJ120_44 n b s0 M = some (r, m')) : m' = M := by
  unfold zJ120_44 at h
  have g : M = M := rfl
  exact (Prod.mk.inj (Option.some.inj h)).2.symm.trans g
set_option maxRecDepth 100000 in
theorem zJ120_37_kp (n : Nat) (b : Nat) (x2 : Int) (M : ZM) (r : Int) (m' : ZM) (h : zJ120_37 n b x2 M = some (r, m')) : m' = M := by
  unfold zJ120_37 at h
  have g : M = M := rfl
  by_cases q1 : rg (x2 + 1)
  · rw [if_pos q1] at h
    exact (zJ120_44_kp n b (x2 + 1) M _ _ h).trans g
  · rw [if_neg q1] at h
    cases h
set_option maxRecDepth 100000 in
theorem zJ120_43_kp (n : Nat) (b : Nat) (M : ZM) (r : Int) (m' : ZM) (h : zJ120_43 n b M = some (r, m')) : m' = M := by
  unfold zJ120_43 at h
  have g : M = M := rfl
  exact (zJ120_44_kp n b (-1) M _ _ h).trans g
set_option maxRecDepth 100000 in
theorem zF120_kp (n : Nat) (b : Nat) (a0 : Int) (M : ZM) (r : Int) (m' : ZM) (h : zF120 n b a0 M = some (r, m')) : m' = M := by
  unfold zF120 at h
  have g : M = M := rfl
  by_cases q1 : a0 < 0
  · rw [if_pos q1] at h
    exact (zJ120_14_kp n b M _ _ h).trans g
  · rw [if_neg q1] at h
    by_cases q2 : rg (a0 + 1)
    · rw [if_pos q2] at h
      by_cases q3 : (a0 + 1) < (M.1 b 6)
      · rw [if_pos q3] at h
        by_cases q4 : (a0 + 1) < 0 ∨ 120 ≤ (a0 + 1)
        · rw [if_pos q4] at h
          cases h
        · rw [if_neg q4] at h
          by_cases q5 : a0 < 0 ∨ 120 ≤ a0
          · rw [if_pos q5] at h
            cases h
          · rw [if_neg q5] at h
            by_cases q6 : rg ((M.1 (b + 2) (Int.toNat (a0 + 1))) + 2)
            · rw [if_pos q6] at h
              by_cases q7 : (M.1 (b + 4) (Int.toNat a0)) = ((M.1 (b + 2) (Int.toNat (a0 + 1))) + 2)
              · rw [if_pos q7] at h
                exact (zJ120_37_kp n b (M.1 (b + 2) (Int.toNat (a0 + 1))) M _ _ h).trans g
              · rw [if_neg q7] at h
                exact (zJ120_43_kp n b M _ _ h).trans g
            · rw [if_neg q6] at h
              cases h
      · rw [if_neg q3] at h
        exact (zJ120_14_kp n b M _ _ h).trans g
    · rw [if_neg q2] at h
      cases h
set_option maxRecDepth 100000 in
theorem zJ121_22_kp (n : Nat) (b : Nat) (s0 : Int) (M : ZM) (r : Int) (m' : ZM) (h : zJ121_22 n b s0 M = some (r, m')) : m' = M := by
  unfold zJ121_22 at h
  have g : M = M := rfl
  exact (Prod.mk.inj (Option.some.inj h)).2.symm.trans g
set_option maxRecDepth 100000 in
theorem zJ121_21_kp (n : Nat) (b : Nat) (M : ZM) (r : Int) (m' : ZM) (h : zJ121_21 n b M = some (r, m')) : m' = M := by
  unfold zJ121_21 at h
  have g : M = M := rfl
  exact (zJ121_22_kp n b (-1) M _ _ h).trans g
set_option maxRecDepth 100000 in
theorem zF121_kp (n : Nat) (b : Nat) (a0 : Int) (M : ZM) (r : Int) (m' : ZM) (h : zF121 n b a0 M = some (r, m')) : m' = M := by
  unfold zF121 at h
  have g : M = M := rfl
  by_cases q1 : a0 < 0
  · rw [if_pos q1] at h
    exact (zJ121_21_kp n b M _ _ h).trans g
  · rw [if_neg q1] at h
    by_cases q2 : (M.1 b 6) ≤ a0
    · rw [if_pos q2] at h
      exact (zJ121_21_kp n b M _ _ h).trans g
    · rw [if_neg q2] at h
      by_cases q3 : a0 < 0 ∨ 120 ≤ a0
      · rw [if_pos q3] at h
        cases h
      · rw [if_neg q3] at h
        exact (zJ121_22_kp n b (M.1 (b + 3) (Int.toNat a0)) M _ _ h).trans g
set_option maxRecDepth 100000 in
theorem zJ122_29_kp (n : Nat) (b : Nat) (s0 : Int) (M : ZM) (r : Int) (m' : ZM) (h : zJ122_29 n b s0 M = some (r, m')) : m' = M := by
  unfold zJ122_29 at h
  have g : M = M := rfl
  exact (Prod.mk.inj (Option.some.inj h)).2.symm.trans g
set_option maxRecDepth 100000 in
theorem zJ122_24_kp (n : Nat) (b : Nat) (M : ZM) (r : Int) (m' : ZM) (h : zJ122_24 n b M = some (r, m')) : m' = M := by
  unfold zJ122_24 at h
  have g : M = M := rfl
  exact (zJ122_29_kp n b 1 M _ _ h).trans g
set_option maxRecDepth 100000 in
theorem zJ122_28_kp (n : Nat) (b : Nat) (M : ZM) (r : Int) (m' : ZM) (h : zJ122_28 n b M = some (r, m')) : m' = M := by
  unfold zJ122_28 at h
  have g : M = M := rfl
  exact (zJ122_29_kp n b 2 M _ _ h).trans g
set_option maxRecDepth 100000 in
theorem zF122_kp (n : Nat) (b : Nat) (a0 : Int) (M : ZM) (r : Int) (m' : ZM) (h : zF122 n b a0 M = some (r, m')) : m' = M := by
  unfold zF122 at h
  have g : M = M := rfl
  cases hc1 : zF121 n b a0 M with
  | none => rw [hc1] at h; cases h
  | some w =>
    obtain ⟨v1, M2⟩ := w
    rw [hc1] at h
    dsimp only at h
    replace g := (zF121_kp n b a0 M _ _ hc1).trans g
    by_cases q2 : v1 = (-1)
    · rw [if_pos q2] at h
      exact (zJ122_29_kp n b 0 M2 _ _ h).trans g
    · rw [if_neg q2] at h
      cases hc3 : zF121 n b v1 M2 with
      | none => rw [hc3] at h; cases h
      | some w =>
        obtain ⟨v5, M6⟩ := w
        rw [hc3] at h
        dsimp only at h
        replace g := (zF121_kp n b v1 M2 _ _ hc3).trans g
        by_cases q4 : v5 = (-1)
        · rw [if_pos q4] at h
          exact (zJ122_24_kp n b M6 _ _ h).trans g
        · rw [if_neg q4] at h
          exact (zJ122_28_kp n b M6 _ _ h).trans g
set_option maxRecDepth 100000 in
theorem zJ123_22_kp (n : Nat) (b : Nat) (M : ZM) (r : Int) (m' : ZM) (h : zJ123_22 n b M = some (r, m')) : m' = M := by
  unfold zJ123_22 at h
  have g : M = M := rfl
  exact (Prod.mk.inj (Option.some.inj h)).2.symm.trans g
set_option maxRecDepth 100000 in
theorem zJ123_24_kp (n : Nat) (b : Nat) (x1 : Int) (M : ZM) (r : Int) (m' : ZM) (h : zJ123_24 n b x1 M = some (r, m')) : m' = M := by
  unfold zJ123_24 at h
  have g : M = M := rfl
  by_cases q1 : x1 < 0 ∨ 120 ≤ x1
  · rw [if_pos q1] at h
    cases h
  · rw [if_neg q1] at h
    exact (Prod.mk.inj (Option.some.inj h)).2.symm.trans g
set_option maxRecDepth 100000 in
theorem zF123_kp (n : Nat) (b : Nat) (a0 : Int) (M : ZM) (r : Int) (m' : ZM) (h : zF123 n b a0 M = some (r, m')) : m' = M := by
  unfold zF123 at h
  have g : M = M := rfl
  by_cases q1 : a0 < 0
  · rw [if_pos q1] at h
    exact (zJ123_22_kp n b M _ _ h).trans g
  · rw [if_neg q1] at h
    by_cases q2 : (M.1 b 6) ≤ a0
    · rw [if_pos q2] at h
      exact (zJ123_22_kp n b M _ _ h).trans g
    · rw [if_neg q2] at h
      by_cases q3 : a0 < 0 ∨ 120 ≤ a0
      · rw [if_pos q3] at h
        cases h
      · rw [if_neg q3] at h
        by_cases q4 : (M.1 (b + 3) (Int.toNat a0)) = (-1)
        · rw [if_pos q4] at h
          exact (zJ123_24_kp n b a0 M _ _ h).trans g
        · rw [if_neg q4] at h
          exact (zJ123_22_kp n b M _ _ h).trans g
set_option maxRecDepth 100000 in
theorem zJ124_21_kp (n : Nat) (b : Nat) (M : ZM) (r : Int) (m' : ZM) (h : zJ124_21 n b M = some (r, m')) : m' = M := by
  unfold zJ124_21 at h
  have g : M = M := rfl
  exact (Prod.mk.inj (Option.some.inj h)).2.symm.trans g
set_option maxRecDepth 100000 in
theorem zJ124_59_kp (n : Nat) (b : Nat) (s0 : Int) (M : ZM) (r : Int) (m' : ZM) (h : zJ124_59 n b s0 M = some (r, m')) : m' = M := by
  unfold zJ124_59 at h
  have g : M = M := rfl
  exact (Prod.mk.inj (Option.some.inj h)).2.symm.trans g
set_option maxRecDepth 100000 in
theorem zJ124_23_kp (n : Nat) (b : Nat) (x1 : Int) (M : ZM) (r : Int) (m' : ZM) (h : zJ124_23 n b x1 M = some (r, m')) : m' = M := by
  unfold zJ124_23 at h
  have g : M = M := rfl
  by_cases q1 : x1 < 0 ∨ 120 ≤ x1
  · rw [if_pos q1] at h
    cases h
  · rw [if_neg q1] at h
    by_cases q2 : (M.1 (b + 3) (Int.toNat x1)) < 0 ∨ 120 ≤ (M.1 (b + 3) (Int.toNat x1))
    · rw [if_pos q2] at h
      cases h
    · rw [if_neg q2] at h
      by_cases q3 : 0 ≤ (M.1 (b + 3) (Int.toNat (M.1 (b + 3) (Int.toNat x1))))
      · rw [if_pos q3] at h
        by_cases q4 : (M.1 (b + 3) (Int.toNat (M.1 (b + 3) (Int.toNat x1)))) < 0 ∨ 120 ≤ (M.1 (b + 3) (Int.toNat (M.1 (b + 3) (Int.toNat x1))))
        · rw [if_pos q4] at h
          cases h
        · rw [if_neg q4] at h
          exact (zJ124_59_kp n b (M.1 (b + 5) (Int.toNat (M.1 (b + 3) (Int.toNat (M.1 (b + 3) (Int.toNat x1)))))) M _ _ h).trans g
      · rw [if_neg q3] at h
        exact (zJ124_59_kp n b (M.1 (b + 5) (Int.toNat (M.1 (b + 3) (Int.toNat x1)))) M _ _ h).trans g
set_option maxRecDepth 100000 in
theorem zF124_kp (n : Nat) (b : Nat) (a0 : Int) (M : ZM) (r : Int) (m' : ZM) (h : zF124 n b a0 M = some (r, m')) : m' = M := by
  unfold zF124 at h
  have g : M = M := rfl
  by_cases q1 : a0 < 0
  · rw [if_pos q1] at h
    exact (zJ124_21_kp n b M _ _ h).trans g
  · rw [if_neg q1] at h
    by_cases q2 : (M.1 b 6) ≤ a0
    · rw [if_pos q2] at h
      exact (zJ124_21_kp n b M _ _ h).trans g
    · rw [if_neg q2] at h
      by_cases q3 : a0 < 0 ∨ 120 ≤ a0
      · rw [if_pos q3] at h
        cases h
      · rw [if_neg q3] at h
        by_cases q4 : 0 ≤ (M.1 (b + 3) (Int.toNat a0))
        · rw [if_pos q4] at h
          exact (zJ124_23_kp n b a0 M _ _ h).trans g
        · rw [if_neg q4] at h
          exact (zJ124_21_kp n b M _ _ h).trans g
set_option maxRecDepth 100000 in
theorem zJ125_12_kp (n : Nat) (b : Nat) (M : ZM) (r : Int) (m' : ZM) (h : zJ125_12 n b M = some (r, m')) : m' = M := by
  unfold zJ125_12 at h
  have g : M = M := rfl
  exact (Prod.mk.inj (Option.some.inj h)).2.symm.trans g
set_option maxRecDepth 100000 in
theorem zJ125_85_kp (n : Nat) (b : Nat) (M : ZM) (r : Int) (m' : ZM) (h : zJ125_85 n b M = some (r, m')) : m' = M := by
  unfold zJ125_85 at h
  have g : M = M := rfl
  exact (Prod.mk.inj (Option.some.inj h)).2.symm.trans g
set_option maxRecDepth 100000 in
theorem zJ125_79_kp (n : Nat) (b : Nat) (zrec34 : Int → Int → Int → ZM → Option (Int × ZM)) (hrec34 : ∀ (c0 : Int) (c1 : Int) (c2 : Int) (c3 : ZM) (r : Int) (m' : ZM), zrec34 c0 c1 c2 c3 = some (r, m') → m' = c3) (x2 : Int) (x3 : Int) (x4 : Int) (M : ZM) (r : Int) (m' : ZM) (h : zJ125_79 n b zrec34 x2 x3 x4 M = some (r, m')) : m' = M := by
  unfold zJ125_79 at h
  have g : M = M := rfl
  by_cases q1 : rg (x4 + 1)
  · rw [if_pos q1] at h
    exact (hrec34 x2 x3 (x4 + 1) M _ _ h).trans g
  · rw [if_neg q1] at h
    cases h
set_option maxRecDepth 100000 in
theorem zJ125_63_kp (n : Nat) (b : Nat) (zrec34 : Int → Int → Int → ZM → Option (Int × ZM)) (hrec34 : ∀ (c0 : Int) (c1 : Int) (c2 : Int) (c3 : ZM) (r : Int) (m' : ZM), zrec34 c0 c1 c2 c3 = some (r, m') → m' = c3) (x2 : Int) (x3 : Int) (x4 : Int) (M : ZM) (r : Int) (m' : ZM) (h : zJ125_63 n b zrec34 x2 x3 x4 M = some (r, m')) : m' = M := by
  unfold zJ125_63 at h
  have g : M = M := rfl
  by_cases q1 : rg (x4 + 1)
  · rw [if_pos q1] at h
    by_cases q2 : (x4 + 1) < 0 ∨ 120 ≤ (x4 + 1)
    · rw [if_pos q2] at h
      cases h
    · rw [if_neg q2] at h
      by_cases q3 : (M.1 (b + 1) (Int.toNat (x4 + 1))) = x2
      · rw [if_pos q3] at h
        exact (Prod.mk.inj (Option.some.inj h)).2.symm.trans g
      · rw [if_neg q3] at h
        exact (zJ125_79_kp n b zrec34 hrec34 x2 x3 x4 M _ _ h).trans g
  · rw [if_neg q1] at h
    cases h
set_option maxRecDepth 100000 in
theorem zL125_34_kp (n : Nat) (b : Nat) : ∀ (k : Nat) (x2 : Int) (x3 : Int) (x4 : Int) (M : ZM) (r : Int) (m' : ZM), zL125_34 n b k x2 x3 x4 M = some (r, m') → m' = M := by
  intro k
  induction k with
  | zero => intro x2 x3 x4 M r m' h; cases h
  | succ k ih =>
    intro x2 x3 x4 M r m' h
    rw [zL125_34] at h
    have g : M = M := rfl
    by_cases q1 : x3 ≤ x4
    · rw [if_pos q1] at h
      exact (zJ125_85_kp n b M _ _ h).trans g
    · rw [if_neg q1] at h
      by_cases q2 : rg (x4 + 1)
      · rw [if_pos q2] at h
        by_cases q3 : (M.1 b 6) ≤ (x4 + 1)
        · rw [if_pos q3] at h
          exact (zJ125_85_kp n b M _ _ h).trans g
        · rw [if_neg q3] at h
          by_cases q4 : x4 < 0 ∨ 120 ≤ x4
          · rw [if_pos q4] at h
            cases h
          · rw [if_neg q4] at h
            by_cases q5 : (M.1 (b + 1) (Int.toNat x4)) = 36
            · rw [if_pos q5] at h
              exact (zJ125_63_kp n b (zL125_34 n b k) ih x2 x3 x4 M _ _ h).trans g
            · rw [if_neg q5] at h
              exact (zJ125_79_kp n b (zL125_34 n b k) ih x2 x3 x4 M _ _ h).trans g
      · rw [if_neg q2] at h
        cases h
set_option maxRecDepth 100000 in
theorem zJ125_26_kp (n : Nat) (b : Nat) (x1 : Int) (x2 : Int) (x3 : Int) (M : ZM) (r : Int) (m' : ZM) (h : zJ125_26 n b x1 x2 x3 M = some (r, m')) : m' = M := by
  unfold zJ125_26 at h
  have g : M = M := rfl
  by_cases q1 : x1 < 0 ∨ 3 ≤ x1
  · rw [if_pos q1] at h
    cases h
  · rw [if_neg q1] at h
    exact (zL125_34_kp n b n x2 x3 (M.1 (b + 6) (Int.toNat x1)) M _ _ h).trans g
set_option maxRecDepth 100000 in
theorem zF125_kp (n : Nat) (b : Nat) (a0 : Int) (a1 : Int) (M : ZM) (r : Int) (m' : ZM) (h : zF125 n b a0 a1 M = some (r, m')) : m' = M := by
  unfold zF125 at h
  have g : M = M := rfl
  by_cases q1 : a0 < 0
  · rw [if_pos q1] at h
    exact (zJ125_12_kp n b M _ _ h).trans g
  · rw [if_neg q1] at h
    by_cases q2 : a0 < (M.1 b 7)
    · rw [if_pos q2] at h
      by_cases q3 : a0 < 0 ∨ 3 ≤ a0
      · rw [if_pos q3] at h
        cases h
      · rw [if_neg q3] at h
        by_cases q4 : (M.1 (b + 6) (Int.toNat a0)) < 0 ∨ 120 ≤ (M.1 (b + 6) (Int.toNat a0))
        · rw [if_pos q4] at h
          cases h
        · rw [if_neg q4] at h
          exact (zJ125_26_kp n b a0 a1 (M.1 (b + 2) (Int.toNat (M.1 (b + 6) (Int.toNat a0)))) M _ _ h).trans g
    · rw [if_neg q2] at h
      exact (zJ125_12_kp n b M _ _ h).trans g
def w129 : List (Nat × Nat) := [(3, 2)]
set_option maxRecDepth 100000 in
theorem zF129_kp (n : Nat) (a0 : Int) (a1 : Int) (M : ZM) (r : Int) (m' : ZM) (h : zF129 n a0 a1 M = some (r, m')) : kp (wl w129) M m' := by
  unfold zF129 at h
  have g := kp_refl (wl w129) M
  replace g : kp (wl w129) M (z_i M 3 2 a1) := kp_i g (by simp [w129])
  rw [zlet] at h
  generalize z_i M 3 2 a1 = M1 at h g
  by_cases q1 : a0 = 0 ∨ a0 = 1
  · rw [if_pos q1] at h
    rw [← (Prod.mk.inj (Option.some.inj h)).2]
    exact g
  · rw [if_neg q1] at h
    cases h
set_option maxRecDepth 100000 in
theorem zF137_kp (n : Nat) (M : ZM) (r : Int) (m' : ZM) (h : zF137 n M = some (r, m')) : m' = M := by
  unfold zF137 at h
  have g : M = M := rfl
  exact (Prod.mk.inj (Option.some.inj h)).2.symm.trans g
set_option maxRecDepth 100000 in
theorem zJ138_25_kp (n : Nat) (s0 : Int) (M : ZM) (r : Int) (m' : ZM) (h : zJ138_25 n s0 M = some (r, m')) : m' = M := by
  unfold zJ138_25 at h
  have g : M = M := rfl
  exact (Prod.mk.inj (Option.some.inj h)).2.symm.trans g
set_option maxRecDepth 100000 in
theorem zJ138_24_kp (n : Nat) (M : ZM) (r : Int) (m' : ZM) (h : zJ138_24 n M = some (r, m')) : m' = M := by
  unfold zJ138_24 at h
  have g : M = M := rfl
  exact (zJ138_25_kp n (-1) M _ _ h).trans g
set_option maxRecDepth 100000 in
theorem zF138_kp (n : Nat) (a0 : Int) (M : ZM) (r : Int) (m' : ZM) (h : zF138 n a0 M = some (r, m')) : m' = M := by
  unfold zF138 at h
  have g : M = M := rfl
  by_cases q1 : a0 < 1
  · rw [if_pos q1] at h
    exact (zJ138_24_kp n M _ _ h).trans g
  · rw [if_neg q1] at h
    by_cases q2 : (M.1 12 6) < a0
    · rw [if_pos q2] at h
      exact (zJ138_24_kp n M _ _ h).trans g
    · rw [if_neg q2] at h
      by_cases q3 : rg (a0 - 1)
      · rw [if_pos q3] at h
        by_cases q4 : (a0 - 1) < 0 ∨ 10 ≤ (a0 - 1)
        · rw [if_pos q4] at h
          cases h
        · rw [if_neg q4] at h
          exact (zJ138_25_kp n (M.1 33 (Int.toNat (a0 - 1))) M _ _ h).trans g
      · rw [if_neg q3] at h
        cases h
def w160 (b : Nat) : List (Nat × Nat) := [(b, 2)]
set_option maxRecDepth 100000 in
theorem zF160_kp (n : Nat) (b : Nat) (M : ZM) (r : Unit) (m' : ZM) (h : zF160 n b M = some (r, m')) : kp (wl (w160 b)) M m' := by
  unfold zF160 at h
  have g := kp_refl (wl (w160 b)) M
  replace g : kp (wl (w160 b)) M (z_i M b 2 0) := kp_i g (by simp [w160])
  rw [zlet] at h
  generalize z_i M b 2 0 = M1 at h g
  rw [← (Prod.mk.inj (Option.some.inj h)).2]
  exact g
set_option maxRecDepth 100000 in
theorem zJ161_12_kp (n : Nat) (b : Nat) (s0 : Int) (M : ZM) (r : Int) (m' : ZM) (h : zJ161_12 n b s0 M = some (r, m')) : m' = M := by
  unfold zJ161_12 at h
  have g : M = M := rfl
  by_cases q1 : s0 = 0 ∨ s0 = 1
  · rw [if_pos q1] at h
    exact (Prod.mk.inj (Option.some.inj h)).2.symm.trans g
  · rw [if_neg q1] at h
    cases h
set_option maxRecDepth 100000 in
theorem zF161_kp (n : Nat) (b : Nat) (M : ZM) (r : Int) (m' : ZM) (h : zF161 n b M = some (r, m')) : m' = M := by
  unfold zF161 at h
  have g : M = M := rfl
  by_cases q1 : (M.1 b 2) = 0
  · rw [if_pos q1] at h
    exact (zJ161_12_kp n b 1 M _ _ h).trans g
  · rw [if_neg q1] at h
    exact (zJ161_12_kp n b 0 M _ _ h).trans g
def w162 (b : Nat) : List (Nat × Nat) := [(b, 2), (b + 1, 1000), (b + 2, 1000)]
set_option maxRecDepth 100000 in
theorem zJ162_34_kp (n : Nat) (b : Nat) (M : ZM) (r : Int) (m' : ZM) (h : zJ162_34 n b M = some (r, m')) : kp (wl (w162 b)) M m' := by
  unfold zJ162_34 at h
  have g := kp_refl (wl (w162 b)) M
  by_cases q1 : rg ((M.1 b 2) + 1)
  · rw [if_pos q1] at h
    replace g : kp (wl (w162 b)) M (z_i M b 2 ((M.1 b 2) + 1)) := kp_i g (by simp [w162])
    rw [zlet] at h
    generalize z_i M b 2 ((M.1 b 2) + 1) = M9 at h g
    rw [← (Prod.mk.inj (Option.some.inj h)).2]
    exact g
  · rw [if_neg q1] at h
    cases h
set_option maxRecDepth 100000 in
theorem zJ162_21_kp (n : Nat) (b : Nat) (x2 : Int) (M : ZM) (r : Int) (m' : ZM) (h : zJ162_21 n b x2 M = some (r, m')) : kp (wl (w162 b)) M m' := by
  unfold zJ162_21 at h
  have g := kp_refl (wl (w162 b)) M
  cases hc1 : zF17 n x2 M with
  | none => rw [hc1] at h; cases h
  | some w =>
    obtain ⟨v4, M5⟩ := w
    rw [hc1] at h
    dsimp only at h
    replace g := kp_tr g (kp_eq _ (zF17_kp n x2 M _ _ hc1))
    by_cases q2 : (M.1 b 2) < 0 ∨ 10 ≤ (M.1 b 2)
    · rw [if_pos q2] at h
      cases h
    · rw [if_neg q2] at h
      replace g : kp (wl (w162 b)) M (z_i M5 (b + 2) (Int.toNat (M.1 b 2)) v4) := kp_ia g (by simp [w162])
      rw [zlet] at h
      generalize z_i M5 (b + 2) (Int.toNat (M.1 b 2)) v4 = M8 at h g
      exact kp_tr g (zJ162_34_kp n b M8 _ _ h)
set_option maxRecDepth 100000 in
theorem zF162_kp (n : Nat) (b : Nat) (a0 : Int) (a1 : Int) (M : ZM) (r : Int) (m' : ZM) (h : zF162 n b a0 a1 M = some (r, m')) : kp (wl (w162 b)) M m' := by
  unfold zF162 at h
  have g := kp_refl (wl (w162 b)) M
  by_cases q1 : (M.1 b 2) < 10
  · rw [if_pos q1] at h
    by_cases q2 : (M.1 b 2) < 0 ∨ 10 ≤ (M.1 b 2)
    · rw [if_pos q2] at h
      cases h
    · rw [if_neg q2] at h
      replace g : kp (wl (w162 b)) M (z_i M (b + 1) (Int.toNat (M.1 b 2)) a0) := kp_ia g (by simp [w162])
      rw [zlet] at h
      generalize z_i M (b + 1) (Int.toNat (M.1 b 2)) a0 = M3 at h g
      exact kp_tr g (zJ162_21_kp n b a1 M3 _ _ h)
  · rw [if_neg q1] at h
    rw [← (Prod.mk.inj (Option.some.inj h)).2]
    exact g
def w163 (b : Nat) : List (Nat × Nat) := [(b, 2)]
set_option maxRecDepth 100000 in
theorem zJ163_22_kp (n : Nat) (b : Nat) (M : ZM) (r : Int) (m' : ZM) (h : zJ163_22 n b M = some (r, m')) : kp (wl (w163 b)) M m' := by
  unfold zJ163_22 at h
  have g := kp_refl (wl (w163 b)) M
  rw [← (Prod.mk.inj (Option.some.inj h)).2]
  exact g
set_option maxRecDepth 100000 in
theorem zJ163_24_kp (n : Nat) (b : Nat) (M : ZM) (r : Int) (m' : ZM) (h : zJ163_24 n b M = some (r, m')) : kp (wl (w163 b)) M m' := by
  unfold zJ163_24 at h
  have g := kp_refl (wl (w163 b)) M
  by_cases q1 : rg ((M.1 b 2) - 1)
  · rw [if_pos q1] at h
    replace g : kp (wl (w163 b)) M (z_i M b 2 ((M.1 b 2) - 1)) := kp_i g (by simp [w163])
    rw [zlet] at h
    generalize z_i M b 2 ((M.1 b 2) - 1) = M4 at h g
    by_cases q2 : (M4.1 b 2) < 0 ∨ 10 ≤ (M4.1 b 2)
    · rw [if_pos q2] at h
      cases h
    · rw [if_neg q2] at h
      rw [← (Prod.mk.inj (Option.some.inj h)).2]
      exact g
  · rw [if_neg q1] at h
    cases h
set_option maxRecDepth 100000 in
theorem zF163_kp (n : Nat) (b : Nat) (a0 : Int) (M : ZM) (r : Int) (m' : ZM) (h : zF163 n b a0 M = some (r, m')) : kp (wl (w163 b)) M m' := by
  unfold zF163 at h
  have g := kp_refl (wl (w163 b)) M
  by_cases q1 : (M.1 b 2) ≤ 0
  · rw [if_pos q1] at h
    exact kp_tr g (zJ163_22_kp n b M _ _ h)
  · rw [if_neg q1] at h
    by_cases q2 : rg ((M.1 b 2) - 1)
    · rw [if_pos q2] at h
      by_cases q3 : ((M.1 b 2) - 1) < 0 ∨ 10 ≤ ((M.1 b 2) - 1)
      · rw [if_pos q3] at h
        cases h
      · rw [if_neg q3] at h
        by_cases q4 : (M.1 (b + 2) (Int.toNat ((M.1 b 2) - 1))) = a0
        · rw [if_pos q4] at h
          exact kp_tr g (zJ163_24_kp n b M _ _ h)
        · rw [if_neg q4] at h
          exact kp_tr g (zJ163_22_kp n b M _ _ h)
    · rw [if_neg q2] at h
      cases h
def w165 (b : Nat) : List (Nat × Nat) := [(b, 2), (b, 3)]
set_option maxRecDepth 100000 in
theorem zF165_kp (n : Nat) (b : Nat) (M : ZM) (r : Unit) (m' : ZM) (h : zF165 n b M = some (r, m')) : kp (wl (w165 b)) M m' := by
  unfold zF165 at h
  have g := kp_refl (wl (w165 b)) M
  replace g : kp (wl (w165 b)) M (z_i M b 2 0) := kp_i g (by simp [w165])
  rw [zlet] at h
  generalize z_i M b 2 0 = M1 at h g
  replace g : kp (wl (w165 b)) M (z_i M1 b 3 0) := kp_i g (by simp [w165])
  rw [zlet] at h
  generalize z_i M1 b 3 0 = M2 at h g
  rw [← (Prod.mk.inj (Option.some.inj h)).2]
  exact g
set_option maxRecDepth 100000 in
theorem zF166_kp (n : Nat) (b : Nat) (M : ZM) (r : Int) (m' : ZM) (h : zF166 n b M = some (r, m')) : m' = M := by
  unfold zF166 at h
  have g : M = M := rfl
  exact (Prod.mk.inj (Option.some.inj h)).2.symm.trans g
set_option maxRecDepth 100000 in
theorem zF167_kp (n : Nat) (b : Nat) (M : ZM) (r : Int) (m' : ZM) (h : zF167 n b M = some (r, m')) : m' = M := by
  unfold zF167 at h
  have g : M = M := rfl
  by_cases q1 : (M.1 b 3) = 0 ∨ (M.1 b 3) = 1
  · rw [if_pos q1] at h
    exact (Prod.mk.inj (Option.some.inj h)).2.symm.trans g
  · rw [if_neg q1] at h
    cases h
def w168 (b : Nat) : List (Nat × Nat) := [(b, 2), (b, 3), (b + 1, 1000), (b + 2, 1000)]
set_option maxRecDepth 100000 in
theorem zJ168_26_kp (n : Nat) (b : Nat) (x2 : Int) (M : ZM) (r : Unit) (m' : ZM) (h : zJ168_26 n b x2 M = some (r, m')) : kp (wl (w168 b)) M m' := by
  unfold zJ168_26 at h
  have g := kp_refl (wl (w168 b)) M
  by_cases q1 : (M.1 b 2) < 0 ∨ 150 ≤ (M.1 b 2)
  · rw [if_pos q1] at h
    cases h
  · rw [if_neg q1] at h
    replace g : kp (wl (w168 b)) M (z_i M (b + 2) (Int.toNat (M.1 b 2)) x2) := kp_ia g (by simp [w168])
    rw [zlet] at h
    generalize z_i M (b + 2) (Int.toNat (M.1 b 2)) x2 = M5 at h g
    by_cases q2 : rg ((M5.1 b 2) + 1)
    · rw [if_pos q2] at h
      replace g : kp (wl (w168 b)) M (z_i M5 b 2 ((M5.1 b 2) + 1)) := kp_i g (by simp [w168])
      rw [zlet] at h
      generalize z_i M5 b 2 ((M5.1 b 2) + 1) = M6 at h g
      rw [← (Prod.mk.inj (Option.some.inj h)).2]
      exact g
    · rw [if_neg q2] at h
      cases h
set_option maxRecDepth 100000 in
theorem zF168_kp (n : Nat) (b : Nat) (a0 : Int) (a1 : Int) (M : ZM) (r : Unit) (m' : ZM) (h : zF168 n b a0 a1 M = some (r, m')) : kp (wl (w168 b)) M m' := by
  unfold zF168 at h
  have g := kp_refl (wl (w168 b)) M
  by_cases q1 : (M.1 b 2) < 150
  · rw [if_pos q1] at h
    by_cases q2 : (M.1 b 2) < 0 ∨ 150 ≤ (M.1 b 2)
    · rw [if_pos q2] at h
      cases h
    · rw [if_neg q2] at h
      replace g : kp (wl (w168 b)) M (z_i M (b + 1) (Int.toNat (M.1 b 2)) a0) := kp_ia g (by simp [w168])
      rw [zlet] at h
      generalize z_i M (b + 1) (Int.toNat (M.1 b 2)) a0 = M3 at h g
      exact kp_tr g (zJ168_26_kp n b a1 M3 _ _ h)
  · rw [if_neg q1] at h
    replace g : kp (wl (w168 b)) M (z_i M b 3 1) := kp_i g (by simp [w168])
    rw [zlet] at h
    generalize z_i M b 3 1 = M7 at h g
    rw [← (Prod.mk.inj (Option.some.inj h)).2]
    exact g
set_option maxRecDepth 100000 in
theorem zJ170_22_kp (n : Nat) (b : Nat) (s0 : Int) (M : ZM) (r : Int) (m' : ZM) (h : zJ170_22 n b s0 M = some (r, m')) : m' = M := by
  unfold zJ170_22 at h
  have g : M = M := rfl
  exact (Prod.mk.inj (Option.some.inj h)).2.symm.trans g
set_option maxRecDepth 100000 in
theorem zJ170_21_kp (n : Nat) (b : Nat) (M : ZM) (r : Int) (m' : ZM) (h : zJ170_21 n b M = some (r, m')) : m' = M := by
  unfold zJ170_21 at h
  have g : M = M := rfl
  exact (zJ170_22_kp n b (-1) M _ _ h).trans g
set_option maxRecDepth 100000 in
theorem zF170_kp (n : Nat) (b : Nat) (a0 : Int) (M : ZM) (r : Int) (m' : ZM) (h : zF170 n b a0 M = some (r, m')) : m' = M := by
  unfold zF170 at h
  have g : M = M := rfl
  by_cases q1 : a0 < 0
  · rw [if_pos q1] at h
    exact (zJ170_21_kp n b M _ _ h).trans g
  · rw [if_neg q1] at h
    by_cases q2 : (M.1 b 2) ≤ a0
    · rw [if_pos q2] at h
      exact (zJ170_21_kp n b M _ _ h).trans g
    · rw [if_neg q2] at h
      by_cases q3 : a0 < 0 ∨ 150 ≤ a0
      · rw [if_pos q3] at h
        cases h
      · rw [if_neg q3] at h
        exact (zJ170_22_kp n b (M.1 (b + 1) (Int.toNat a0)) M _ _ h).trans g
set_option maxRecDepth 100000 in
theorem zJ171_22_kp (n : Nat) (b : Nat) (s0 : Int) (M : ZM) (r : Int) (m' : ZM) (h : zJ171_22 n b s0 M = some (r, m')) : m' = M := by
  unfold zJ171_22 at h
  have g : M = M := rfl
  exact (Prod.mk.inj (Option.some.inj h)).2.symm.trans g
set_option maxRecDepth 100000 in
theorem zJ171_21_kp (n : Nat) (b : Nat) (M : ZM) (r : Int) (m' : ZM) (h : zJ171_21 n b M = some (r, m')) : m' = M := by
  unfold zJ171_21 at h
  have g : M = M := rfl
  exact (zJ171_22_kp n b (-1) M _ _ h).trans g
set_option maxRecDepth 100000 in
theorem zF171_kp (n : Nat) (b : Nat) (a0 : Int) (M : ZM) (r : Int) (m' : ZM) (h : zF171 n b a0 M = some (r, m')) : m' = M := by
  unfold zF171 at h
  have g : M = M := rfl
  by_cases q1 : a0 < 0
  · rw [if_pos q1] at h
    exact (zJ171_21_kp n b M _ _ h).trans g
  · rw [if_neg q1] at h
    by_cases q2 : (M.1 b 2) ≤ a0
    · rw [if_pos q2] at h
      exact (zJ171_21_kp n b M _ _ h).trans g
    · rw [if_neg q2] at h
      by_cases q3 : a0 < 0 ∨ 150 ≤ a0
      · rw [if_pos q3] at h
        cases h
      · rw [if_neg q3] at h
        exact (zJ171_22_kp n b (M.1 (b + 2) (Int.toNat a0)) M _ _ h).trans g
set_option maxRecDepth 100000 in
theorem zJ172_55_kp (n : Nat) (b : Nat) (zrec8 : Int → Int → ZM → Option (Int × ZM)) (hrec8 : ∀ (c0 : Int) (c1 : Int) (c2 : ZM) (r : Int) (m' : ZM), zrec8 c0 c1 c2 = some (r, m') → m' = c2) (x2 : Int) (x3 : Int) (M : ZM) (r : Int) (m' : ZM) (h : zJ172_55 n b zrec8 x2 x3 M = some (r, m')) : m' = M := by
  unfold zJ172_55 at h
  have g : M = M := rfl
  by_cases q1 : rg (x3 + 1)
  · rw [if_pos q1] at h
    exact (hrec8 x2 (x3 + 1) M _ _ h).trans g
  · rw [if_neg q1] at h
    cases h
set_option maxRecDepth 100000 in
theorem zJ172_53_kp (n : Nat) (b : Nat) (x3 : Int) (M : ZM) (r : Int) (m' : ZM) (h : zJ172_53 n b x3 M = some (r, m')) : m' = M := by
  unfold zJ172_53 at h
  have g : M = M := rfl
  exact (Prod.mk.inj (Option.some.inj h)).2.symm.trans g
set_option maxRecDepth 100000 in
theorem zJ172_34_kp (n : Nat) (b : Nat) (zrec8 : Int → Int → ZM → Option (Int × ZM)) (hrec8 : ∀ (c0 : Int) (c1 : Int) (c2 : ZM) (r : Int) (m' : ZM), zrec8 c0 c1 c2 = some (r, m') → m' = c2) (x2 : Int) (x3 : Int) (M : ZM) (r : Int) (m' : ZM) (h : zJ172_34 n b zrec8 x2 x3 M = some (r, m')) : m' = M := by
  unfold zJ172_34 at h
  have g : M = M := rfl
  by_cases q1 : x3 < 0 ∨ 150 ≤ x3
  · rw [if_pos q1] at h
    cases h
  · rw [if_neg q1] at h
    cases hc2 : zF14 n (M.1 (b + 1) (Int.toNat x3)) M with
    | none => rw [hc2] at h; cases h
    | some w =>
      obtain ⟨v8, M9⟩ := w
      rw [hc2] at h
      dsimp only at h
      replace g := (zF14_kp n (M.1 (b + 1) (Int.toNat x3)) M _ _ hc2).trans g
      by_cases q3 : v8 = 0
      · rw [if_pos q3] at h
        exact (zJ172_55_kp n b zrec8 hrec8 x2 x3 M9 _ _ h).trans g
      · rw [if_neg q3] at h
        by_cases q4 : rg (x2 + (-1))
        · rw [if_pos q4] at h
          by_cases q5 : (x2 + (-1)) = 0
          · rw [if_pos q5] at h
            exact (zJ172_53_kp n b x3 M9 _ _ h).trans g
          · rw [if_neg q5] at h
            exact (zJ172_55_kp n b zrec8 hrec8 (x2 + (-1)) x3 M9 _ _ h).trans g
        · rw [if_neg q4] at h
          cases h
set_option maxRecDepth 100000 in
theorem zJ172_28_kp (n : Nat) (b : Nat) (zrec8 : Int → Int → ZM → Option (Int × ZM)) (hrec8 : ∀ (c0 : Int) (c1 : Int) (c2 : ZM) (r : Int) (m' : ZM), zrec8 c0 c1 c2 = some (r, m') → m' = c2) (x2 : Int) (x3 : Int) (M : ZM) (r : Int) (m' : ZM) (h : zJ172_28 n b zrec8 x2 x3 M = some (r, m')) : m' = M := by
  unfold zJ172_28 at h
  have g : M = M := rfl
  by_cases q1 : rg (x2 + 1)
  · rw [if_pos q1] at h
    exact (zJ172_55_kp n b zrec8 hrec8 (x2 + 1) x3 M _ _ h).trans g
  · rw [if_neg q1] at h
    cases h
set_option maxRecDepth 100000 in
theorem zL172_8_kp (n : Nat) (b : Nat) : ∀ (k : Nat) (x2 : Int) (x3 : Int) (M : ZM) (r : Int) (m' : ZM), zL172_8 n b k x2 x3 M = some (r, m') → m' = M := by
  intro k
  induction k with
  | zero => intro x2 x3 M r m' h; cases h
  | succ k ih =>
    intro x2 x3 M r m' h
    rw [zL172_8] at h
    have g : M = M := rfl
    by_cases q1 : (M.1 b 2) ≤ x3
    · rw [if_pos q1] at h
      exact (Prod.mk.inj (Option.some.inj h)).2.symm.trans g
    · rw [if_neg q1] at h
      by_cases q2 : x3 < 0 ∨ 150 ≤ x3
      · rw [if_pos q2] at h
        cases h
      · rw [if_neg q2] at h
        cases hc3 : zF13 n (M.1 (b + 1) (Int.toNat x3)) M with
        | none => rw [hc3] at h; cases h
        | some w =>
          obtain ⟨v3, M4⟩ := w
          rw [hc3] at h
          dsimp only at h
          replace g := (zF13_kp n (M.1 (b + 1) (Int.toNat x3)) M _ _ hc3).trans g
          by_cases q4 : v3 = 0
          · rw [if_pos q4] at h
            exact (zJ172_34_kp n b (zL172_8 n b k) ih x2 x3 M4 _ _ h).trans g
          · rw [if_neg q4] at h
            exact (zJ172_28_kp n b (zL172_8 n b k) ih x2 x3 M4 _ _ h).trans g
set_option maxRecDepth 100000 in
theorem zF172_kp (n : Nat) (b : Nat) (a0 : Int) (M : ZM) (r : Int) (m' : ZM) (h : zF172 n b a0 M = some (r, m')) : m' = M := by
  unfold zF172 at h
  have g : M = M := rfl
  exact (zL172_8_kp n b n 0 (if 0 < a0 then a0 else 0) M _ _ h).trans g
set_option maxRecDepth 100000 in
theorem zJ173_57_kp (n : Nat) (b : Nat) (zrec6 : Int → ZM → Option (Int × ZM)) (hrec6 : ∀ (c0 : Int) (c1 : ZM) (r : Int) (m' : ZM), zrec6 c0 c1 = some (r, m') → m' = c1) (x2 : Int) (M : ZM) (r : Int) (m' : ZM) (h : zJ173_57 n b zrec6 x2 M = some (r, m')) : m' = M := by
  unfold zJ173_57 at h
  have g : M = M := rfl
  by_cases q1 : rg (x2 + 1)
  · rw [if_pos q1] at h
    exact (hrec6 (x2 + 1) M _ _ h).trans g
  · rw [if_neg q1] at h
    cases h
set_option maxRecDepth 100000 in
theorem zJ173_55_kp (n : Nat) (b : Nat) (x2 : Int) (M : ZM) (r : Int) (m' : ZM) (h : zJ173_55 n b x2 M = some (r, m')) : m' = M := by
  unfold zJ173_55 at h
  have g : M = M := rfl
  exact (Prod.mk.inj (Option.some.inj h)).2.symm.trans g
set_option maxRecDepth 100000 in
theorem zJ173_28_kp (n : Nat) (b : Nat) (zrec6 : Int → ZM → Option (Int × ZM)) (hrec6 : ∀ (c0 : Int) (c1 : ZM) (r : Int) (m' : ZM), zrec6 c0 c1 = some (r, m') → m' = c1) (x2 : Int) (M : ZM) (r : Int) (m' : ZM) (h : zJ173_28 n b zrec6 x2 M = some (r, m')) : m' = M := by
  unfold zJ173_28 at h
  have g : M = M := rfl
  by_cases q1 : rg (x2 + 1)
  · rw [if_pos q1] at h
    by_cases q2 : (x2 + 1) < 0 ∨ 150 ≤ (x2 + 1)
    · rw [if_pos q2] at h
      cases h
    · rw [if_neg q2] at h
      by_cases q3 : (M.1 (b + 1) (Int.toNat (x2 + 1))) = 33
      · rw [if_pos q3] at h
        by_cases q4 : rg (x2 + 2)
        · rw [if_pos q4] at h
          by_cases q5 : (x2 + 2) < 0 ∨ 150 ≤ (x2 + 2)
          · rw [if_pos q5] at h
            cases h
          · rw [if_neg q5] at h
            cases hc6 : zF13 n (M.1 (b + 1) (Int.toNat (x2 + 2))) M with
            | none => rw [hc6] at h; cases h
            | some w =>
              obtain ⟨v10, M11⟩ := w
              rw [hc6] at h
              dsimp only at h
              replace g := (zF13_kp n (M.1 (b + 1) (Int.toNat (x2 + 2))) M _ _ hc6).trans g
              by_cases q7 : v10 = 0
              · rw [if_pos q7] at h
                exact (zJ173_57_kp n b zrec6 hrec6 x2 M11 _ _ h).trans g
              · rw [if_neg q7] at h
                exact (zJ173_55_kp n b x2 M11 _ _ h).trans g
        · rw [if_neg q4] at h
          cases h
      · rw [if_neg q3] at h
        exact (zJ173_57_kp n b zrec6 hrec6 x2 M _ _ h).trans g
  · rw [if_neg q1] at h
    cases h
set_option maxRecDepth 100000 in
theorem zL173_6_kp (n : Nat) (b : Nat) : ∀ (k : Nat) (x2 : Int) (M : ZM) (r : Int) (m' : ZM), zL173_6 n b k x2 M = some (r, m') → m' = M := by
  intro k
  induction k with
  | zero => intro x2 M r m' h; cases h
  | succ k ih =>
    intro x2 M r m' h
    rw [zL173_6] at h
    have g : M = M := rfl
    by_cases q1 : rg (x2 + 2)
    · rw [if_pos q1] at h
      by_cases q2 : (M.1 b 2) ≤ (x2 + 2)
      · rw [if_pos q2] at h
        exact (Prod.mk.inj (Option.some.inj h)).2.symm.trans g
      · rw [if_neg q2] at h
        by_cases q3 : x2 < 0 ∨ 150 ≤ x2
        · rw [if_pos q3] at h
          cases h
        · rw [if_neg q3] at h
          cases hc4 : zF11 n (M.1 (b + 1) (Int.toNat x2)) M with
          | none => rw [hc4] at h; cases h
          | some w =>
            obtain ⟨v3, M4⟩ := w
            rw [hc4] at h
            dsimp only at h
            replace g := (zF11_kp n (M.1 (b + 1) (Int.toNat x2)) M _ _ hc4).trans g
            by_cases q5 : v3 = 0
            · rw [if_pos q5] at h
              exact (zJ173_57_kp n b (zL173_6 n b k) ih x2 M4 _ _ h).trans g
            · rw [if_neg q5] at h
              exact (zJ173_28_kp n b (zL173_6 n b k) ih x2 M4 _ _ h).trans g
    · rw [if_neg q1] at h
      cases h
set_option maxRecDepth 100000 in
theorem zF173_kp (n : Nat) (b : Nat) (a0 : Int) (M : ZM) (r : Int) (m' : ZM) (h : zF173 n b a0 M = some (r, m')) : m' = M := by
  unfold zF173 at h
  have g : M = M := rfl
  exact (zL173_6_kp n b n (if 0 < a0 then a0 else 0) M _ _ h).trans g
set_option maxRecDepth 100000 in
theorem zJ175_29_kp (n : Nat) (b : Nat) (s0 : Int) (M : ZM) (r : Int) (m' : ZM) (h : zJ175_29 n b s0 M = some (r, m')) : m' = M := by
  unfold zJ175_29 at h
  have g : M = M := rfl
  by_cases q1 : s0 = 0 ∨ s0 = 1
  · rw [if_pos q1] at h
    exact (Prod.mk.inj (Option.some.inj h)).2.symm.trans g
  · rw [if_neg q1] at h
    cases h
set_option maxRecDepth 100000 in
theorem zJ175_28_kp (n : Nat) (b : Nat) (M : ZM) (r : Int) (m' : ZM) (h : zJ175_28 n b M = some (r, m')) : m' = M := by
  unfold zJ175_28 at h
  have g : M = M := rfl
  exact (zJ175_29_kp n b 0 M _ _ h).trans g
set_option maxRecDepth 100000 in
theorem zJ175_24_kp (n : Nat) (b : Nat) (M : ZM) (r : Int) (m' : ZM) (h : zJ175_24 n b M = some (r, m')) : m' = M := by
  unfold zJ175_24 at h
  have g : M = M := rfl
  exact (zJ175_29_kp n b 1 M _ _ h).trans g
set_option maxRecDepth 100000 in
theorem zF175_kp (n : Nat) (b : Nat) (a0 : Int) (M : ZM) (r : Int) (m' : ZM) (h : zF175 n b a0 M = some (r, m')) : m' = M := by
  unfold zF175 at h
  have g : M = M := rfl
  cases hc1 : zF170 n b a0 M with
  | none => rw [hc1] at h; cases h
  | some w =>
    obtain ⟨v1, M2⟩ := w
    rw [hc1] at h
    dsimp only at h
    replace g := (zF170_kp n b a0 M _ _ hc1).trans g
    cases hc2 : zF11 n v1 M2 with
    | none => rw [hc2] at h; cases h
    | some w =>
      obtain ⟨v4, M5⟩ := w
      rw [hc2] at h
      dsimp only at h
      replace g := (zF11_kp n v1 M2 _ _ hc2).trans g
      by_cases q3 : v4 = 0
      · rw [if_pos q3] at h
        exact (zJ175_28_kp n b M5 _ _ h).trans g
      · rw [if_neg q3] at h
        by_cases q4 : rg (a0 - 1)
        · rw [if_pos q4] at h
          cases hc5 : zF170 n b (a0 - 1) M5 with
          | none => rw [hc5] at h; cases h
          | some w =>
            obtain ⟨v9, M10⟩ := w
            rw [hc5] at h
            dsimp only at h
            replace g := (zF170_kp n b (a0 - 1) M5 _ _ hc5).trans g
            by_cases q6 : v9 = 9903
            · rw [if_pos q6] at h
              exact (zJ175_24_kp n b M10 _ _ h).trans g
            · rw [if_neg q6] at h
              exact (zJ175_28_kp n b M10 _ _ h).trans g
        · rw [if_neg q4] at h
          cases h
set_option maxRecDepth 100000 in
theorem zJ176_31_kp (n : Nat) (b : Nat) (s0 : Int) (M : ZM) (r : Int) (m' : ZM) (h : zJ176_31 n b s0 M = some (r, m')) : m' = M := by
  unfold zJ176_31 at h
  have g : M = M := rfl
  by_cases q1 : s0 = 0 ∨ s0 = 1
  · rw [if_pos q1] at h
    exact (Prod.mk.inj (Option.some.inj h)).2.symm.trans g
  · rw [if_neg q1] at h
    cases h
set_option maxRecDepth 100000 in
theorem zJ176_26_kp (n : Nat) (b : Nat) (M : ZM) (r : Int) (m' : ZM) (h : zJ176_26 n b M = some (r, m')) : m' = M := by
  unfold zJ176_26 at h
  have g : M = M := rfl
  exact (zJ176_31_kp n b 1 M _ _ h).trans g
set_option maxRecDepth 100000 in
theorem zJ176_30_kp (n : Nat) (b : Nat) (M : ZM) (r : Int) (m' : ZM) (h : zJ176_30 n b M = some (r, m')) : m' = M := by
  unfold zJ176_30 at h
  have g : M = M := rfl
  exact (zJ176_31_kp n b 0 M _ _ h).trans g
set_option maxRecDepth 100000 in
theorem zJ176_13_kp (n : Nat) (b : Nat) (x1 : Int) (x2 : Int) (M : ZM) (r : Int) (m' : ZM) (h : zJ176_13 n b x1 x2 M = some (r, m')) : m' = M := by
  unfold zJ176_13 at h
  have g : M = M := rfl
  cases hc1 : zF171 n b x1 M with
  | none => rw [hc1] at h; cases h
  | some w =>
    obtain ⟨v8, M9⟩ := w
    rw [hc1] at h
    dsimp only at h
    replace g := (zF171_kp n b x1 M _ _ hc1).trans g
    cases hc2 : zF171 n b x2 M9 with
    | none => rw [hc2] at h; cases h
    | some w =>
      obtain ⟨v11, M12⟩ := w
      rw [hc2] at h
      dsimp only at h
      replace g := (zF171_kp n b x2 M9 _ _ hc2).trans g
      by_cases q3 : v8 = v11
      · rw [if_pos q3] at h
        exact (zJ176_26_kp n b M12 _ _ h).trans g
      · rw [if_neg q3] at h
        exact (zJ176_30_kp n b M12 _ _ h).trans g
set_option maxRecDepth 100000 in
theorem zF176_kp (n : Nat) (b : Nat) (a0 : Int) (a1 : Int) (M : ZM) (r : Int) (m' : ZM) (h : zF176 n b a0 a1 M = some (r, m')) : m' = M := by
  unfold zF176 at h
  have g : M = M := rfl
  cases hc1 : zF170 n b a0 M with
  | none => rw [hc1] at h; cases h
  | some w =>
    obtain ⟨v1, M2⟩ := w
    rw [hc1] at h
    dsimp only at h
    replace g := (zF170_kp n b a0 M _ _ hc1).trans g
    cases hc2 : zF170 n b a1 M2 with
    | none => rw [hc2] at h; cases h
    | some w =>
      obtain ⟨v4, M5⟩ := w
      rw [hc2] at h
      dsimp only at h
      replace g := (zF170_kp n b a1 M2 _ _ hc2).trans g
      by_cases q3 : v1 = v4
      · rw [if_pos q3] at h
        exact (zJ176_13_kp n b a0 a1 M5 _ _ h).trans g
      · rw [if_neg q3] at h
        exact (zJ176_30_kp n b M5 _ _ h).trans g
def w178 : List (Nat × Nat) := [(17, 5)]
set_option maxRecDepth 100000 in
theorem zF178_kp (n : Nat) (M : ZM) (r : Unit) (m' : ZM) (h : zF178 n M = some (r, m')) : kp (wl w178) M m' := by
  unfold zF178 at h
  have g := kp_refl (wl w178) M
  replace g : kp (wl w178) M (z_i M 17 5 0) := kp_i g (by simp [w178])
  rw [zlet] at h
  generalize z_i M 17 5 0 = M1 at h g
  rw [← (Prod.mk.inj (Option.some.inj h)).2]
  exact g
def w179 : List (Nat × Nat) := [(17, 5), (18, 1000), (19, 1000), (20, 1000), (21, 1000)]
set_option maxRecDepth 100000 in
theorem zJ179_61_kp (n : Nat) (M : ZM) (r : Unit) (m' : ZM) (h : zJ179_61 n M = some (r, m')) : kp (wl w179) M m' := by
  unfold zJ179_61 at h
  have g := kp_refl (wl w179) M
  rw [← (Prod.mk.inj (Option.some.inj h)).2]
  exact g
set_option maxRecDepth 100000 in
theorem zJ179_40_kp (n : Nat) (x4 : Int) (M : ZM) (r : Unit) (m' : ZM) (h : zJ179_40 n x4 M = some (r, m')) : kp (wl w179) M m' := by
  unfold zJ179_40 at h
  have g := kp_refl (wl w179) M
  by_cases q1 : (M.1 17 5) < 0 ∨ 150 ≤ (M.1 17 5)
  · rw [if_pos q1] at h
    cases h
  · rw [if_neg q1] at h
    replace g : kp (wl w179) M (z_i M 21 (Int.toNat (M.1 17 5)) x4) := kp_ia g (by simp [w179])
    rw [zlet] at h
    generalize z_i M 21 (Int.toNat (M.1 17 5)) x4 = M9 at h g
    by_cases q2 : rg ((M9.1 17 5) + 1)
    · rw [if_pos q2] at h
      replace g : kp (wl w179) M (z_i M9 17 5 ((M9.1 17 5) + 1)) := kp_i g (by simp [w179])
      rw [zlet] at h
      generalize z_i M9 17 5 ((M9.1 17 5) + 1) = M10 at h g
      exact kp_tr g (zJ179_61_kp n M10 _ _ h)
    · rw [if_neg q2] at h
      cases h
set_option maxRecDepth 100000 in
theorem zJ179_20_kp (n : Nat) (x2 : Int) (x3 : Int) (x4 : Int) (M : ZM) (r : Unit) (m' : ZM) (h : zJ179_20 n x2 x3 x4 M = some (r, m')) : kp (wl w179) M m' := by
  unfold zJ179_20 at h
  have g := kp_refl (wl w179) M
  by_cases q1 : (M.1 17 5) < 0 ∨ 150 ≤ (M.1 17 5)
  · rw [if_pos q1] at h
    cases h
  · rw [if_neg q1] at h
    replace g : kp (wl w179) M (z_i M 19 (Int.toNat (M.1 17 5)) x2) := kp_ia g (by simp [w179])
    rw [zlet] at h
    generalize z_i M 19 (Int.toNat (M.1 17 5)) x2 = M5 at h g
    by_cases q2 : (M5.1 17 5) < 0 ∨ 150 ≤ (M5.1 17 5)
    · rw [if_pos q2] at h
      cases h
    · rw [if_neg q2] at h
      replace g : kp (wl w179) M (z_i M5 20 (Int.toNat (M5.1 17 5)) x3) := kp_ia g (by simp [w179])
      rw [zlet] at h
      generalize z_i M5 20 (Int.toNat (M5.1 17 5)) x3 = M7 at h g
      exact kp_tr g (zJ179_40_kp n x4 M7 _ _ h)
set_option maxRecDepth 100000 in
theorem zF179_kp (n : Nat) (a0 : Int) (a1 : Int) (a2 : Int) (a3 : Int) (M : ZM) (r : Unit) (m' : ZM) (h : zF179 n a0 a1 a2 a3 M = some (r, m')) : kp (wl w179) M m' := by
  unfold zF179 at h
  have g := kp_refl (wl w179) M
  by_cases q1 : 150 ≤ (M.1 17 5)
  · rw [if_pos q1] at h
    exact kp_tr g (zJ179_61_kp n M _ _ h)
  · rw [if_neg q1] at h
    by_cases q2 : (M.1 17 5) < 0 ∨ 150 ≤ (M.1 17 5)
    · rw [if_pos q2] at h
      cases h
    · rw [if_neg q2] at h
      replace g : kp (wl w179) M (z_i M 18 (Int.toNat (M.1 17 5)) a0) := kp_ia g (by simp [w179])
      rw [zlet] at h
      generalize z_i M 18 (Int.toNat (M.1 17 5)) a0 = M3 at h g
      exact kp_tr g (zJ179_20_kp n a1 a2 a3 M3 _ _ h)
def w180 : List (Nat × Nat) := [(22, 1000)]
set_option maxRecDepth 100000 in
theorem zJ180_16_kp (n : Nat) (M : ZM) (r : Unit) (m' : ZM) (h : zJ180_16 n M = some (r, m')) : kp (wl w180) M m' := by
  unfold zJ180_16 at h
  have g := kp_refl (wl w180) M
  rw [← (Prod.mk.inj (Option.some.inj h)).2]
  exact g
set_option maxRecDepth 100000 in
theorem zF180_kp (n : Nat) (a0 : Int) (a1 : Int) (M : ZM) (r : Unit) (m' : ZM) (h : zF180 n a0 a1 M = some (r, m')) : kp (wl w180) M m' := by
  unfold zF180 at h
  have g := kp_refl (wl w180) M
  by_cases q1 : a0 < 0
  · rw [if_pos q1] at h
    exact kp_tr g (zJ180_16_kp n M _ _ h)
  · rw [if_neg q1] at h
    by_cases q2 : 4 ≤ a0
    · rw [if_pos q2] at h
      exact kp_tr g (zJ180_16_kp n M _ _ h)
    · rw [if_neg q2] at h
      by_cases q3 : a0 < 0 ∨ 4 ≤ a0
      · rw [if_pos q3] at h
        cases h
      · rw [if_neg q3] at h
        replace g : kp (wl w180) M (z_i M 22 (Int.toNat a0) a1) := kp_ia g (by simp [w180])
        rw [zlet] at h
        generalize z_i M 22 (Int.toNat a0) a1 = M4 at h g
        exact kp_tr g (zJ180_16_kp n M4 _ _ h)
set_option maxRecDepth 100000 in
theorem zJ181_19_kp (n : Nat) (s0 : Int) (M : ZM) (r : Int) (m' : ZM) (h : zJ181_19 n s0 M = some (r, m')) : m' = M := by
  unfold zJ181_19 at h
  have g : M = M := rfl
  exact (Prod.mk.inj (Option.some.inj h)).2.symm.trans g
set_option maxRecDepth 100000 in
theorem zJ181_18_kp (n : Nat) (M : ZM) (r : Int) (m' : ZM) (h : zJ181_18 n M = some (r, m')) : m' = M := by
  unfold zJ181_18 at h
  have g : M = M := rfl
  exact (zJ181_19_kp n 0 M _ _ h).trans g
set_option maxRecDepth 100000 in
theorem zF181_kp (n : Nat) (a0 : Int) (M : ZM) (r : Int) (m' : ZM) (h : zF181 n a0 M = some (r, m')) : m' = M := by
  unfold zF181 at h
  have g : M = M := rfl
  by_cases q1 : a0 < 0
  · rw [if_pos q1] at h
    exact (zJ181_18_kp n M _ _ h).trans g
  · rw [if_neg q1] at h
    by_cases q2 : 4 ≤ a0
    · rw [if_pos q2] at h
      exact (zJ181_18_kp n M _ _ h).trans g
    · rw [if_neg q2] at h
      by_cases q3 : a0 < 0 ∨ 4 ≤ a0
      · rw [if_pos q3] at h
        cases h
      · rw [if_neg q3] at h
        exact (zJ181_19_kp n (M.1 22 (Int.toNat a0)) M _ _ h).trans g
set_option maxRecDepth 100000 in
theorem zJ182_39_kp (n : Nat) (zrec5 : Int → Int → Int → Int → ZM → Option (Int × ZM)) (hrec5 : ∀ (c0 : Int) (c1 : Int) (c2 : Int) (c3 : Int) (c4 : ZM) (r : Int) (m' : ZM), zrec5 c0 c1 c2 c3 c4 = some (r, m') → m' = c4) (x1 : Int) (x2 : Int) (x3 : Int) (x4 : Int) (M : ZM) (r : Int) (m' : ZM) (h : zJ182_39 n zrec5 x1 x2 x3 x4 M = some (r, m')) : m' = M := by
  unfold zJ182_39 at h
  have g : M = M := rfl
  by_cases q1 : rg (x4 + 1)
  · rw [if_pos q1] at h
    exact (hrec5 x1 x2 x3 (x4 + 1) M _ _ h).trans g
  · rw [if_neg q1] at h
    cases h
set_option maxRecDepth 100000 in
theorem zJ182_36_kp (n : Nat) (zrec5 : Int → Int → Int → Int → ZM → Option (Int × ZM)) (hrec5 : ∀ (c0 : Int) (c1 : Int) (c2 : Int) (c3 : Int) (c4 : ZM) (r : Int) (m' : ZM), zrec5 c0 c1 c2 c3 c4 = some (r, m') → m' = c4) (x1 : Int) (x2 : Int) (x3 : Int) (x4 : Int) (M : ZM) (r : Int) (m' : ZM) (h : zJ182_36 n zrec5 x1 x2 x3 x4 M = some (r, m')) : m' = M := by
  unfold zJ182_36 at h
  have g : M = M := rfl
  by_cases q1 : rg (x3 + 1)
  · rw [if_pos q1] at h
    exact (zJ182_39_kp n zrec5 hrec5 x1 x2 (x3 + 1) x4 M _ _ h).trans g
  · rw [if_neg q1] at h
    cases h
set_option maxRecDepth 100000 in
theorem zL182_5_kp (n : Nat) : ∀ (k : Nat) (x1 : Int) (x2 : Int) (x3 : Int) (x4 : Int) (M : ZM) (r : Int) (m' : ZM), zL182_5 n k x1 x2 x3 x4 M = some (r, m') → m' = M := by
  intro k
  induction k with
  | zero => intro x1 x2 x3 x4 M r m' h; cases h
  | succ k ih =>
    intro x1 x2 x3 x4 M r m' h
    rw [zL182_5] at h
    have g : M = M := rfl
    by_cases q1 : (M.1 17 5) ≤ x4
    · rw [if_pos q1] at h
      exact (Prod.mk.inj (Option.some.inj h)).2.symm.trans g
    · rw [if_neg q1] at h
      by_cases q2 : x4 < 0 ∨ 150 ≤ x4
      · rw [if_pos q2] at h
        cases h
      · rw [if_neg q2] at h
        by_cases q3 : (M.1 18 (Int.toNat x4)) = x1
        · rw [if_pos q3] at h
          by_cases q4 : (M.1 19 (Int.toNat x4)) = x2
          · rw [if_pos q4] at h
            exact (zJ182_36_kp n (zL182_5 n k) ih x1 x2 x3 x4 M _ _ h).trans g
          · rw [if_neg q4] at h
            exact (zJ182_39_kp n (zL182_5 n k) ih x1 x2 x3 x4 M _ _ h).trans g
        · rw [if_neg q3] at h
          exact (zJ182_39_kp n (zL182_5 n k) ih x1 x2 x3 x4 M _ _ h).trans g
set_option maxRecDepth 100000 in
theorem zF182_kp (n : Nat) (a0 : Int) (a1 : Int) (M : ZM) (r : Int) (m' : ZM) (h : zF182 n a0 a1 M = some (r, m')) : m' = M := by
  unfold zF182 at h
  have g : M = M := rfl
  exact (zL182_5_kp n n a0 a1 0 0 M _ _ h).trans g
set_option maxRecDepth 100000 in
theorem zJ183_49_kp (n : Nat) (zrec6 : Int → Int → Int → Int → Int → ZM → Option (Int × ZM)) (hrec6 : ∀ (c0 : Int) (c1 : Int) (c2 : Int) (c3 : Int) (c4 : Int) (c5 : ZM) (r : Int) (m' : ZM), zrec6 c0 c1 c2 c3 c4 c5 = some (r, m') → m' = c5) (x1 : Int) (x2 : Int) (x3 : Int) (x4 : Int) (x5 : Int) (M : ZM) (r : Int) (m' : ZM) (h : zJ183_49 n zrec6 x1 x2 x3 x4 x5 M = some (r, m')) : m' = M := by
  unfold zJ183_49 at h
  have g : M = M := rfl
  by_cases q1 : rg (x5 + 1)
  · rw [if_pos q1] at h
    exact (hrec6 x1 x2 x3 x4 (x5 + 1) M _ _ h).trans g
  · rw [if_neg q1] at h
    cases h
set_option maxRecDepth 100000 in
theorem zJ183_37_kp (n : Nat) (zrec6 : Int → Int → Int → Int → Int → ZM → Option (Int × ZM)) (hrec6 : ∀ (c0 : Int) (c1 : Int) (c2 : Int) (c3 : Int) (c4 : Int) (c5 : ZM) (r : Int) (m' : ZM), zrec6 c0 c1 c2 c3 c4 c5 = some (r, m') → m' = c5) (x1 : Int) (x2 : Int) (x3 : Int) (x4 : Int) (x5 : Int) (M : ZM) (r : Int) (m' : ZM) (h : zJ183_37 n zrec6 x1 x2 x3 x4 x5 M = some (r, m')) : m' = M := by
  unfold zJ183_37 at h
  have g : M = M := rfl
  by_cases q1 : x4 = x3
  · rw [if_pos q1] at h
    exact (Prod.mk.inj (Option.some.inj h)).2.symm.trans g
  · rw [if_neg q1] at h
    by_cases q2 : rg (x4 + 1)
    · rw [if_pos q2] at h
      exact (zJ183_49_kp n zrec6 hrec6 x1 x2 x3 (x4 + 1) x5 M _ _ h).trans g
    · rw [if_neg q2] at h
      cases h
set_option maxRecDepth 100000 in
theorem zL183_6_kp (n : Nat) : ∀ (k : Nat) (x1 : Int) (x2 : Int) (x3 : Int) (x4 : Int) (x5 : Int) (M : ZM) (r : Int) (m' : ZM), zL183_6 n k x1 x2 x3 x4 x5 M = some (r, m') → m' = M := by
  intro k
  induction k with
  | zero => intro x1 x2 x3 x4 x5 M r m' h; cases h
  | succ k ih =>
    intro x1 x2 x3 x4 x5 M r m' h
    rw [zL183_6] at h
    have g : M = M := rfl
    by_cases q1 : (M.1 17 5) ≤ x5
    · rw [if_pos q1] at h
      exact (Prod.mk.inj (Option.some.inj h)).2.symm.trans g
    · rw [if_neg q1] at h
      by_cases q2 : x5 < 0 ∨ 150 ≤ x5
      · rw [if_pos q2] at h
        cases h
      · rw [if_neg q2] at h
        by_cases q3 : (M.1 18 (Int.toNat x5)) = x1
        · rw [if_pos q3] at h
          by_cases q4 : (M.1 19 (Int.toNat x5)) = x2
          · rw [if_pos q4] at h
            exact (zJ183_37_kp n (zL183_6 n k) ih x1 x2 x3 x4 x5 M _ _ h).trans g
          · rw [if_neg q4] at h
            exact (zJ183_49_kp n (zL183_6 n k) ih x1 x2 x3 x4 x5 M _ _ h).trans g
        · rw [if_neg q3] at h
          exact (zJ183_49_kp n (zL183_6 n k) ih x1 x2 x3 x4 x5 M _ _ h).trans g
set_option maxRecDepth 100000 in
theorem zF183_kp (n : Nat) (a0 : Int) (a1 : Int) (a2 : Int) (M : ZM) (r : Int) (m' : ZM) (h : zF183 n a0 a1 a2 M = some (r, m')) : m' = M := by
  unfold zF183 at h
  have g : M = M := rfl
  exact (zL183_6_kp n n a0 a1 a2 0 0 M _ _ h).trans g
set_option maxRecDepth 100000 in
theorem zJ184_22_kp (n : Nat) (s0 : Int) (M : ZM) (r : Int) (m' : ZM) (h : zJ184_22 n s0 M = some (r, m')) : m' = M := by
  unfold zJ184_22 at h
  have g : M = M := rfl
  exact (Prod.mk.inj (Option.some.inj h)).2.symm.trans g
set_option maxRecDepth 100000 in
theorem zJ184_21_kp (n : Nat) (M : ZM) (r : Int) (m' : ZM) (h : zJ184_21 n M = some (r, m')) : m' = M := by
  unfold zJ184_21 at h
  have g : M = M := rfl
  exact (zJ184_22_kp n 0 M _ _ h).trans g
set_option maxRecDepth 100000 in
theorem zF184_kp (n : Nat) (a0 : Int) (M : ZM) (r : Int) (m' : ZM) (h : zF184 n a0 M = some (r, m')) : m' = M := by
  unfold zF184 at h
  have g : M = M := rfl
  by_cases q1 : a0 < 0
  · rw [if_pos q1] at h
    exact (zJ184_21_kp n M _ _ h).trans g
  · rw [if_neg q1] at h
    by_cases q2 : (M.1 17 5) ≤ a0
    · rw [if_pos q2] at h
      exact (zJ184_21_kp n M _ _ h).trans g
    · rw [if_neg q2] at h
      by_cases q3 : a0 < 0 ∨ 150 ≤ a0
      · rw [if_pos q3] at h
        cases h
      · rw [if_neg q3] at h
        exact (zJ184_22_kp n (M.1 20 (Int.toNat a0)) M _ _ h).trans g
set_option maxRecDepth 100000 in
theorem zJ185_22_kp (n : Nat) (s0 : Int) (M : ZM) (r : Int) (m' : ZM) (h : zJ185_22 n s0 M = some (r, m')) : m' = M := by
  unfold zJ185_22 at h
  have g : M = M := rfl
  exact (Prod.mk.inj (Option.some.inj h)).2.symm.trans g
set_option maxRecDepth 100000 in
theorem zJ185_21_kp (n : Nat) (M : ZM) (r : Int) (m' : ZM) (h : zJ185_21 n M = some (r, m')) : m' = M := by
  unfold zJ185_21 at h
  have g : M = M := rfl
  exact (zJ185_22_kp n 0 M _ _ h).trans g
set_option maxRecDepth 100000 in
theorem zF185_kp (n : Nat) (a0 : Int) (M : ZM) (r : Int) (m' : ZM) (h : zF185 n a0 M = some (r, m')) : m' = M := by
  unfold zF185 at h
  have g : M = M := rfl
  by_cases q1 : a0 < 0
  · rw [if_pos q1] at h
    exact (zJ185_21_kp n M _ _ h).trans g
  · rw [if_neg q1] at h
    by_cases q2 : (M.1 17 5) ≤ a0
    · rw [if_pos q2] at h
      exact (zJ185_21_kp n M _ _ h).trans g
    · rw [if_neg q2] at h
      by_cases q3 : a0 < 0 ∨ 150 ≤ a0
      · rw [if_pos q3] at h
        cases h
      · rw [if_neg q3] at h
        exact (zJ185_22_kp n (M.1 21 (Int.toNat a0)) M _ _ h).trans g
set_option maxRecDepth 100000 in
theorem zJ188_20_kp (n : Nat) (b : Nat) (s0 : Int) (M : ZM) (r : Int) (m' : ZM) (h : zJ188_20 n b s0 M = some (r, m')) : m' = M := by
  unfold zJ188_20 at h
  have g : M = M := rfl
  exact (Prod.mk.inj (Option.some.inj h)).2.symm.trans g
set_option maxRecDepth 100000 in
theorem zJ188_19_kp (n : Nat) (b : Nat) (M : ZM) (r : Int) (m' : ZM) (h : zJ188_19 n b M = some (r, m')) : m' = M := by
  unfold zJ188_19 at h
  have g : M = M := rfl
  exact (zJ188_20_kp n b 0 M _ _ h).trans g
set_option maxRecDepth 100000 in
theorem zF188_kp (n : Nat) (b : Nat) (a0 : Int) (M : ZM) (r : Int) (m' : ZM) (h : zF188 n b a0 M = some (r, m')) : m' = M := by
  unfold zF188 at h
  have g : M = M := rfl
  by_cases q1 : a0 < 0
  · rw [if_pos q1] at h
    exact (zJ188_19_kp n b M _ _ h).trans g
  · rw [if_neg q1] at h
    by_cases q2 : 120 ≤ a0
    · rw [if_pos q2] at h
      exact (zJ188_19_kp n b M _ _ h).trans g
    · rw [if_neg q2] at h
      by_cases q3 : a0 < 0 ∨ 120 ≤ a0
      · rw [if_pos q3] at h
        cases h
      · rw [if_neg q3] at h
        exact (zJ188_20_kp n b (M.1 (b + 1) (Int.toNat a0)) M _ _ h).trans g
set_option maxRecDepth 100000 in
theorem zJ189_19_kp (n : Nat) (b : Nat) (M : ZM) (r : Int) (m' : ZM) (h : zJ189_19 n b M = some (r, m')) : m' = M := by
  unfold zJ189_19 at h
  have g : M = M := rfl
  exact (Prod.mk.inj (Option.some.inj h)).2.symm.trans g
set_option maxRecDepth 100000 in
theorem zF189_kp (n : Nat) (b : Nat) (a0 : Int) (a1 : Int) (M : ZM) (r : Int) (m' : ZM) (h : zF189 n b a0 a1 M = some (r, m')) : m' = M := by
  unfold zF189 at h
  have g : M = M := rfl
  by_cases q1 : a0 < 0
  · rw [if_pos q1] at h
    exact (zJ189_19_kp n b M _ _ h).trans g
  · rw [if_neg q1] at h
    by_cases q2 : 120 ≤ a0
    · rw [if_pos q2] at h
      exact (zJ189_19_kp n b M _ _ h).trans g
    · rw [if_neg q2] at h
      by_cases q3 : a1 < 0
      · rw [if_pos q3] at h
        exact (zJ189_19_kp n b M _ _ h).trans g
      · rw [if_neg q3] at h
        by_cases q4 : a1 < 4
        · rw [if_pos q4] at h
          by_cases q5 : rg ((a0 * 4) + a1)
          · rw [if_pos q5] at h
            by_cases q6 : ((a0 * 4) + a1) < 0 ∨ 480 ≤ ((a0 * 4) + a1)
            · rw [if_pos q6] at h
              cases h
            · rw [if_neg q6] at h
              exact (Prod.mk.inj (Option.some.inj h)).2.symm.trans g
          · rw [if_neg q5] at h
            cases h
        · rw [if_neg q4] at h
          exact (zJ189_19_kp n b M _ _ h).trans g
def w191 (b : Nat) : List (Nat × Nat) := [(b, 3), (b + 3, 1000)]
set_option maxRecDepth 100000 in
theorem zJ191_19_kp (n : Nat) (b : Nat) (g0 : Nat) (zrec2 : Int → Int → ZM → Option (Unit × ZM)) (hrec2 : ∀ (c0 : Int) (c1 : Int) (c2 : ZM) (r : Unit) (m' : ZM), zrec2 c0 c1 c2 = some (r, m') → kp (wl (w191 b)) c2 m') (x2 : Int) (x3 : Int) (M : ZM) (r : Unit) (m' : ZM) (h : zJ191_19 n b g0 zrec2 x2 x3 M = some (r, m')) : kp (wl (w191 b)) M m' := by
  unfold zJ191_19 at h
  have g := kp_refl (wl (w191 b)) M
  by_cases q1 : rg (x3 + 1)
  · rw [if_pos q1] at h
    exact kp_tr g (hrec2 x2 (x3 + 1) M _ _ h)
  · rw [if_neg q1] at h
    cases h
set_option maxRecDepth 100000 in
theorem zL191_2_kp (n : Nat) (b : Nat) (g0 : Nat) : ∀ (k : Nat) (x2 : Int) (x3 : Int) (M : ZM) (r : Unit) (m' : ZM), zL191_2 n b g0 k x2 x3 M = some (r, m') → kp (wl (w191 b)) M m' := by
  intro k
  induction k with
  | zero => intro x2 x3 M r m' h; cases h
  | succ k ih =>
    intro x2 x3 M r m' h
    rw [zL191_2] at h
    have g := kp_refl (wl (w191 b)) M
    by_cases q1 : 4 ≤ x3
    · rw [if_pos q1] at h
      cases hc2 : zF188 n g0 x2 M with
      | none => rw [hc2] at h; cases h
      | some w =>
        obtain ⟨v2, M3⟩ := w
        rw [hc2] at h
        dsimp only at h
        replace g := kp_tr g (kp_eq _ (zF188_kp n g0 x2 M _ _ hc2))
        replace g : kp (wl (w191 b)) M (z_i M3 b 3 v2) := kp_i g (by simp [w191])
        rw [zlet] at h
        generalize z_i M3 b 3 v2 = M5 at h g
        rw [← (Prod.mk.inj (Option.some.inj h)).2]
        exact g
    · rw [if_neg q1] at h
      cases hc3 : zF189 n g0 x2 x3 M with
      | none => rw [hc3] at h; cases h
      | some w =>
        obtain ⟨v6, M7⟩ := w
        rw [hc3] at h
        dsimp only at h
        replace g := kp_tr g (kp_eq _ (zF189_kp n g0 x2 x3 M _ _ hc3))
        by_cases q4 : x3 < 0 ∨ 4 ≤ x3
        · rw [if_pos q4] at h
          cases h
        · rw [if_neg q4] at h
          replace g : kp (wl (w191 b)) M (z_i M7 (b + 3) (Int.toNat x3) v6) := kp_ia g (by simp [w191])
          rw [zlet] at h
          generalize z_i M7 (b + 3) (Int.toNat x3) v6 = M10 at h g
          exact kp_tr g (zJ191_19_kp n b g0 (zL191_2 n b g0 k) ih x2 x3 M10 _ _ h)
set_option maxRecDepth 100000 in
theorem zF191_kp (n : Nat) (b : Nat) (g0 : Nat) (a1 : Int) (M : ZM) (r : Unit) (m' : ZM) (h : zF191 n b g0 a1 M = some (r, m')) : kp (wl (w191 b)) M m' := by
  unfold zF191 at h
  have g := kp_refl (wl (w191 b)) M
  exact kp_tr g (zL191_2_kp n b g0 n a1 0 M _ _ h)
def w195 (b : Nat) : List (Nat × Nat) := [(b + 1, 1000), (b + 2, 1000)]
set_option maxRecDepth 100000 in
theorem zJ195_10_kp (n : Nat) (b : Nat) (M : ZM) (r : Unit) (m' : ZM) (h : zJ195_10 n b M = some (r, m')) : kp (wl (w195 b)) M m' := by
  unfold zJ195_10 at h
  have g := kp_refl (wl (w195 b)) M
  rw [← (Prod.mk.inj (Option.some.inj h)).2]
  exact g
set_option maxRecDepth 100000 in
theorem zJ195_62_kp (n : Nat) (b : Nat) (zrec41 : Int → Int → ZM → Option (Unit × ZM)) (hrec41 : ∀ (c0 : Int) (c1 : Int) (c2 : ZM) (r : Unit) (m' : ZM), zrec41 c0 c1 c2 = some (r, m') → kp (wl (w195 b)) c2 m') (x1 : Int) (x3 : Int) (M : ZM) (r : Unit) (m' : ZM) (h : zJ195_62 n b zrec41 x1 x3 M = some (r, m')) : kp (wl (w195 b)) M m' := by
  unfold zJ195_62 at h
  have g := kp_refl (wl (w195 b)) M
  by_cases q1 : rg (x3 + 1)
  · rw [if_pos q1] at h
    exact kp_tr g (hrec41 x1 (x3 + 1) M _ _ h)
  · rw [if_neg q1] at h
    cases h
set_option maxRecDepth 100000 in
theorem zL195_41_kp (n : Nat) (b : Nat) : ∀ (k : Nat) (x1 : Int) (x3 : Int) (M : ZM) (r : Unit) (m' : ZM), zL195_41 n b k x1 x3 M = some (r, m') → kp (wl (w195 b)) M m' := by
  intro k
  induction k with
  | zero => intro x1 x3 M r m' h; cases h
  | succ k ih =>
    intro x1 x3 M r m' h
    rw [zL195_41] at h
    have g := kp_refl (wl (w195 b)) M
    by_cases q1 : 4 ≤ x3
    · rw [if_pos q1] at h
      rw [← (Prod.mk.inj (Option.some.inj h)).2]
      exact g
    · rw [if_neg q1] at h
      by_cases q2 : x3 < 0 ∨ 4 ≤ x3
      · rw [if_pos q2] at h
        cases h
      · rw [if_neg q2] at h
        by_cases q3 : rg ((x1 * 4) + x3)
        · rw [if_pos q3] at h
          by_cases q4 : ((x1 * 4) + x3) < 0 ∨ 480 ≤ ((x1 * 4) + x3)
          · rw [if_pos q4] at h
            cases h
          · rw [if_neg q4] at h
            replace g : kp (wl (w195 b)) M (z_i M (b + 2) (Int.toNat ((x1 * 4) + x3)) (M.1 (b + 3) (Int.toNat x3))) := kp_ia g (by simp [w195])
            rw [zlet] at h
            generalize z_i M (b + 2) (Int.toNat ((x1 * 4) + x3)) (M.1 (b + 3) (Int.toNat x3)) = M10 at h g
            exact kp_tr g (zJ195_62_kp n b (zL195_41 n b k) ih x1 x3 M10 _ _ h)
        · rw [if_neg q3] at h
          cases h
set_option maxRecDepth 100000 in
theorem zJ195_38_kp (n : Nat) (b : Nat) (x1 : Int) (s0 : Int) (s1 : Int) (M : ZM) (r : Unit) (m' : ZM) (h : zJ195_38 n b x1 s0 s1 M = some (r, m')) : kp (wl (w195 b)) M m' := by
  unfold zJ195_38 at h
  have g := kp_refl (wl (w195 b)) M
  by_cases q1 : s1 < 0 ∨ 120 ≤ s1
  · rw [if_pos q1] at h
    cases h
  · rw [if_neg q1] at h
    replace g : kp (wl (w195 b)) M (z_i M (b + 1) (Int.toNat s1) s0) := kp_ia g (by simp [w195])
    rw [zlet] at h
    generalize z_i M (b + 1) (Int.toNat s1) s0 = M6 at h g
    exact kp_tr g (zL195_41_kp n b n x1 0 M6 _ _ h)
set_option maxRecDepth 100000 in
theorem zF195_kp (n : Nat) (b : Nat) (a0 : Int) (M : ZM) (r : Unit) (m' : ZM) (h : zF195 n b a0 M = some (r, m')) : kp (wl (w195 b)) M m' := by
  unfold zF195 at h
  have g := kp_refl (wl (w195 b)) M
  by_cases q1 : a0 < 0
  · rw [if_pos q1] at h
    exact kp_tr g (zJ195_10_kp n b M _ _ h)
  · rw [if_neg q1] at h
    by_cases q2 : a0 < 120
    · rw [if_pos q2] at h
      by_cases q3 : a0 < 0 ∨ 120 ≤ a0
      · rw [if_pos q3] at h
        cases h
      · rw [if_neg q3] at h
        by_cases q4 : rg ((M.1 (b + 1) (Int.toNat a0)) + (M.1 b 3))
        · rw [if_pos q4] at h
          by_cases q5 : 2 ≤ ((M.1 (b + 1) (Int.toNat a0)) + (M.1 b 3))
          · rw [if_pos q5] at h
            exact kp_tr g (zJ195_38_kp n b a0 2 a0 M _ _ h)
          · rw [if_neg q5] at h
            exact kp_tr g (zJ195_38_kp n b a0 ((M.1 (b + 1) (Int.toNat a0)) + (M.1 b 3)) a0 M _ _ h)
        · rw [if_neg q4] at h
          cases h
    · rw [if_neg q2] at h
      exact kp_tr g (zJ195_10_kp n b M _ _ h)
def w198 : List (Nat × Nat) := [(1, 1), (1, 2), (1, 3)]
set_option maxRecDepth 100000 in
theorem zF198_kp (n : Nat) (M : ZM) (r : Unit) (m' : ZM) (h : zF198 n M = some (r, m')) : kp (wl w198) M m' := by
  unfold zF198 at h
  have g := kp_refl (wl w198) M
  replace g : kp (wl w198) M (z_i M 1 1 0) := kp_i g (by simp [w198])
  rw [zlet] at h
  generalize z_i M 1 1 0 = M1 at h g
  replace g : kp (wl w198) M (z_i M1 1 2 0) := kp_i g (by simp [w198])
  rw [zlet] at h
  generalize z_i M1 1 2 0 = M2 at h g
  replace g : kp (wl w198) M (z_i M2 1 3 0) := kp_i g (by simp [w198])
  rw [zlet] at h
  generalize z_i M2 1 3 0 = M3 at h g
  rw [← (Prod.mk.inj (Option.some.inj h)).2]
  exact g
set_option maxRecDepth 100000 in
theorem zF199_kp (n : Nat) (M : ZM) (r : Int) (m' : ZM) (h : zF199 n M = some (r, m')) : m' = M := by
  unfold zF199 at h
  have g : M = M := rfl
  exact (Prod.mk.inj (Option.some.inj h)).2.symm.trans g
set_option maxRecDepth 100000 in
theorem zF200_kp (n : Nat) (M : ZM) (r : Int) (m' : ZM) (h : zF200 n M = some (r, m')) : m' = M := by
  unfold zF200 at h
  have g : M = M := rfl
  exact (Prod.mk.inj (Option.some.inj h)).2.symm.trans g
set_option maxRecDepth 100000 in
theorem zF204_kp (n : Nat) (a0 : Int) (a1 : Int) (M : ZM) (r : Int) (m' : ZM) (h : zF204 n a0 a1 M = some (r, m')) : m' = M := by
  unfold zF204 at h
  have g : M = M := rfl
  by_cases q1 : rg (8 * a1)
  · rw [if_pos q1] at h
    exact (Prod.mk.inj (Option.some.inj h)).2.symm.trans g
  · rw [if_neg q1] at h
    cases h
set_option maxRecDepth 100000 in
theorem zJ205_17_kp (n : Nat) (s0 : Int) (M : ZM) (r : Int) (m' : ZM) (h : zJ205_17 n s0 M = some (r, m')) : m' = M := by
  unfold zJ205_17 at h
  have g : M = M := rfl
  by_cases q1 : s0 = 0 ∨ s0 = 1
  · rw [if_pos q1] at h
    exact (Prod.mk.inj (Option.some.inj h)).2.symm.trans g
  · rw [if_neg q1] at h
    cases h
set_option maxRecDepth 100000 in
theorem zJ205_16_kp (n : Nat) (M : ZM) (r : Int) (m' : ZM) (h : zJ205_16 n M = some (r, m')) : m' = M := by
  unfold zJ205_16 at h
  have g : M = M := rfl
  exact (zJ205_17_kp n 0 M _ _ h).trans g
set_option maxRecDepth 100000 in
theorem zF205_kp (n : Nat) (a0 : Int) (M : ZM) (r : Int) (m' : ZM) (h : zF205 n a0 M = some (r, m')) : m' = M := by
  unfold zF205 at h
  have g : M = M := rfl
  by_cases q1 : a0 < 97
  · rw [if_pos q1] at h
    exact (zJ205_16_kp n M _ _ h).trans g
  · rw [if_neg q1] at h
    by_cases q2 : 122 < a0
    · rw [if_pos q2] at h
      exact (zJ205_16_kp n M _ _ h).trans g
    · rw [if_neg q2] at h
      exact (zJ205_17_kp n 1 M _ _ h).trans g
set_option maxRecDepth 100000 in
theorem zJ206_17_kp (n : Nat) (s0 : Int) (M : ZM) (r : Int) (m' : ZM) (h : zJ206_17 n s0 M = some (r, m')) : m' = M := by
  unfold zJ206_17 at h
  have g : M = M := rfl
  by_cases q1 : s0 = 0 ∨ s0 = 1
  · rw [if_pos q1] at h
    exact (Prod.mk.inj (Option.some.inj h)).2.symm.trans g
  · rw [if_neg q1] at h
    cases h
set_option maxRecDepth 100000 in
theorem zJ206_16_kp (n : Nat) (M : ZM) (r : Int) (m' : ZM) (h : zJ206_16 n M = some (r, m')) : m' = M := by
  unfold zJ206_16 at h
  have g : M = M := rfl
  exact (zJ206_17_kp n 0 M _ _ h).trans g
set_option maxRecDepth 100000 in
theorem zF206_kp (n : Nat) (a0 : Int) (M : ZM) (r : Int) (m' : ZM) (h : zF206 n a0 M = some (r, m')) : m' = M := by
  unfold zF206 at h
  have g : M = M := rfl
  by_cases q1 : a0 < 48
  · rw [if_pos q1] at h
    exact (zJ206_16_kp n M _ _ h).trans g
  · rw [if_neg q1] at h
    by_cases q2 : 57 < a0
    · rw [if_pos q2] at h
      exact (zJ206_16_kp n M _ _ h).trans g
    · rw [if_neg q2] at h
      exact (zJ206_17_kp n 1 M _ _ h).trans g
set_option maxRecDepth 100000 in
theorem zF9_kp (n : Nat) (M : ZM) (r : Int) (m' : ZM) (h : zF9 n M = some (r, m')) : m' = M := by
  unfold zF9 at h
  have g : M = M := rfl
  cases hc1 : zF137 n M with
  | none => rw [hc1] at h; cases h
  | some w =>
    obtain ⟨v1, M2⟩ := w
    rw [hc1] at h
    dsimp only at h
    replace g := (zF137_kp n M _ _ hc1).trans g
    exact (Prod.mk.inj (Option.some.inj h)).2.symm.trans g
set_option maxRecDepth 100000 in
theorem zF10_kp (n : Nat) (a0 : Int) (M : ZM) (r : Int) (m' : ZM) (h : zF10 n a0 M = some (r, m')) : m' = M := by
  unfold zF10 at h
  have g : M = M := rfl
  cases hc1 : zF138 n a0 M with
  | none => rw [hc1] at h; cases h
  | some w =>
    obtain ⟨v1, M2⟩ := w
    rw [hc1] at h
    dsimp only at h
    replace g := (zF138_kp n a0 M _ _ hc1).trans g
    exact (Prod.mk.inj (Option.some.inj h)).2.symm.trans g
def w34 : List (Nat × Nat) := [(100, 1000), (101, 1000), (102, 1000), (103, 1000), (104, 1000), (83, 4), (83, 5), (83, 6), (83, 7), (83, 8), (83, 27), (83, 30), (83, 31), (83, 32), (83, 33), (88, 1000), (89, 1000), (90, 1000), (91, 1000), (92, 1000), (93, 1000), (94, 1000), (95, 1000), (96, 1000), (97, 1000), (98, 1000), (99, 1000)]
set_option maxRecDepth 100000 in
theorem zF34_kp (n : Nat) (a0 : Int) (M : ZM) (r : Int) (m' : ZM) (h : zF34 n a0 M = some (r, m')) : kp (wl w34) M m' := by
  unfold zF34 at h
  have g := kp_refl (wl w34) M
  replace g : kp (wl w34) M (z_i M 83 7 0) := kp_i g (by simp [w34])
  rw [zlet] at h
  generalize z_i M 83 7 0 = M1 at h g
  cases hc1 : zF28 n M1 with
  | none => rw [hc1] at h; cases h
  | some w =>
    obtain ⟨v2, M3⟩ := w
    rw [hc1] at h
    dsimp only at h
    replace g := kp_tr g (kp_sub (by simp [w28, w34]) (zF28_kp n M1 _ _ hc1))
    cases hc2 : zF45 n 5 a0 M3 with
    | none => rw [hc2] at h; cases h
    | some w =>
      obtain ⟨v5, M6⟩ := w
      rw [hc2] at h
      dsimp only at h
      replace g := kp_tr g (kp_sub (by simp [w45, w34]) (zF45_kp n 5 a0 M3 _ _ hc2))
      by_cases q3 : v5 = 0 ∨ v5 = 1
      · rw [if_pos q3] at h
        rw [← (Prod.mk.inj (Option.some.inj h)).2]
        exact g
      · rw [if_neg q3] at h
        cases h
def w58 : List (Nat × Nat) := [(100, 1000), (101, 1000), (102, 1000), (103, 1000), (104, 1000), (109, 1000), (110, 1000), (114, 1000), (83, 1), (83, 3), (83, 4), (83, 5), (83, 6), (83, 7), (83, 8), (83, 9), (83, 27), (83, 30), (83, 31), (83, 32), (83, 33), (85, 1000), (86, 1000), (87, 1000), (88, 1000), (89, 1000), (90, 1000), (91, 1000), (92, 1000), (93, 1000), (94, 1000), (95, 1000), (96, 1000), (97, 1000), (98, 1000), (99, 1000)]
set_option maxRecDepth 100000 in
theorem zJ58_13_kp (n : Nat) (M : ZM) (r : Int) (m' : ZM) (h : zJ58_13 n M = some (r, m')) : kp (wl w58) M m' := by
  unfold zJ58_13 at h
  have g := kp_refl (wl w58) M
  by_cases q1 : rg ((-1) - (M.1 83 8))
  · rw [if_pos q1] at h
    rw [← (Prod.mk.inj (Option.some.inj h)).2]
    exact g
  · rw [if_neg q1] at h
    cases h
set_option maxRecDepth 100000 in
theorem zJ58_172_kp (n : Nat) (zrec144 : Int → ZM → Option (Int × ZM)) (hrec144 : ∀ (c0 : Int) (c1 : ZM) (r : Int) (m' : ZM), zrec144 c0 c1 = some (r, m') → kp (wl w58) c1 m') (x3 : Int) (M : ZM) (r : Int) (m' : ZM) (h : zJ58_172 n zrec144 x3 M = some (r, m')) : kp (wl w58) M m' := by
  unfold zJ58_172 at h
  have g := kp_refl (wl w58) M
  by_cases q1 : rg (x3 + 1)
  · rw [if_pos q1] at h
    exact kp_tr g (hrec144 (x3 + 1) M _ _ h)
  · rw [if_neg q1] at h
    cases h
set_option maxRecDepth 100000 in
theorem zL58_144_kp (n : Nat) : ∀ (k : Nat) (x3 : Int) (M : ZM) (r : Int) (m' : ZM), zL58_144 n k x3 M = some (r, m') → kp (wl w58) M m' := by
  intro k
  induction k with
  | zero => intro x3 M r m' h; cases h
  | succ k ih =>
    intro x3 M r m' h
    rw [zL58_144] at h
    have g := kp_refl (wl w58) M
    by_cases q1 : (M.1 83 3) ≤ x3
    · rw [if_pos q1] at h
      by_cases q2 : rg ((M.1 83 9) + 1)
      · rw [if_pos q2] at h
        replace g : kp (wl w58) M (z_i M 83 9 ((M.1 83 9) + 1)) := kp_i g (by simp [w58])
        rw [zlet] at h
        generalize z_i M 83 9 ((M.1 83 9) + 1) = M17 at h g
        rw [← (Prod.mk.inj (Option.some.inj h)).2]
        exact g
      · rw [if_neg q2] at h
        cases h
    · rw [if_neg q1] at h
      by_cases q3 : x3 < 0 ∨ 120 ≤ x3
      · rw [if_pos q3] at h
        cases h
      · rw [if_neg q3] at h
        by_cases q4 : rg ((120 * (M.1 83 9)) + x3)
        · rw [if_pos q4] at h
          by_cases q5 : ((120 * (M.1 83 9)) + x3) < 0 ∨ 600 ≤ ((120 * (M.1 83 9)) + x3)
          · rw [if_pos q5] at h
            cases h
          · rw [if_neg q5] at h
            replace g : kp (wl w58) M (z_i M 86 (Int.toNat ((120 * (M.1 83 9)) + x3)) (M.1 85 (Int.toNat x3))) := kp_ia g (by simp [w58])
            rw [zlet] at h
            generalize z_i M 86 (Int.toNat ((120 * (M.1 83 9)) + x3)) (M.1 85 (Int.toNat x3)) = M20 at h g
            exact kp_tr g (zJ58_172_kp n (zL58_144 n k) ih x3 M20 _ _ h)
        · rw [if_neg q4] at h
          cases h
set_option maxRecDepth 100000 in
theorem zJ58_142_kp (n : Nat) (M : ZM) (r : Int) (m' : ZM) (h : zJ58_142 n M = some (r, m')) : kp (wl w58) M m' := by
  unfold zJ58_142 at h
  have g := kp_refl (wl w58) M
  exact kp_tr g (zL58_144_kp n n 0 M _ _ h)
set_option maxRecDepth 100000 in
theorem zJ58_119_kp (n : Nat) (x1 : Int) (M : ZM) (r : Int) (m' : ZM) (h : zJ58_119 n x1 M = some (r, m')) : kp (wl w58) M m' := by
  unfold zJ58_119 at h
  have g := kp_refl (wl w58) M
  by_cases q1 : (M.1 83 9) < 0 ∨ 6 ≤ (M.1 83 9)
  · rw [if_pos q1] at h
    cases h
  · rw [if_neg q1] at h
    replace g : kp (wl w58) M (z_i M 89 (Int.toNat (M.1 83 9)) x1) := kp_ia g (by simp [w58])
    rw [zlet] at h
    generalize z_i M 89 (Int.toNat (M.1 83 9)) x1 = M13 at h g
    by_cases q2 : (M13.1 83 9) < 0 ∨ 5 ≤ (M13.1 83 9)
    · rw [if_pos q2] at h
      cases h
    · rw [if_neg q2] at h
      replace g : kp (wl w58) M (z_i M13 87 (Int.toNat (M13.1 83 9)) (M13.1 83 3)) := kp_ia g (by simp [w58])
      rw [zlet] at h
      generalize z_i M13 87 (Int.toNat (M13.1 83 9)) (M13.1 83 3) = M15 at h g
      exact kp_tr g (zJ58_142_kp n M15 _ _ h)
set_option maxRecDepth 100000 in
theorem zJ58_76_kp (n : Nat) (M : ZM) (r : Int) (m' : ZM) (h : zJ58_76 n M = some (r, m')) : kp (wl w58) M m' := by
  unfold zJ58_76 at h
  have g := kp_refl (wl w58) M
  rw [← (Prod.mk.inj (Option.some.inj h)).2]
  exact g
set_option maxRecDepth 100000 in
theorem zJ58_80_kp (n : Nat) (zrec36 : Int → Int → Int → ZM → Option (Int × ZM)) (hrec36 : ∀ (c0 : Int) (c1 : Int) (c2 : Int) (c3 : ZM) (r : Int) (m' : ZM), zrec36 c0 c1 c2 c3 = some (r, m') → kp (wl w58) c3 m') (x1 : Int) (x2 : Int) (x3 : Int) (M : ZM) (r : Int) (m' : ZM) (h : zJ58_80 n zrec36 x1 x2 x3 M = some (r, m')) : kp (wl w58) M m' := by
  unfold zJ58_80 at h
  have g := kp_refl (wl w58) M
  cases hc1 : zF57 n M with
  | none => rw [hc1] at h; cases h
  | some w =>
    obtain ⟨v36, M37⟩ := w
    rw [hc1] at h
    dsimp only at h
    replace g := kp_tr g (kp_eq _ (zF57_kp n M _ _ hc1))
    by_cases q2 : v36 = 0
    · rw [if_pos q2] at h
      rw [← (Prod.mk.inj (Option.some.inj h)).2]
      exact g
    · rw [if_neg q2] at h
      by_cases q3 : rg (x3 + 1)
      · rw [if_pos q3] at h
        exact kp_tr g (hrec36 x1 x2 (x3 + 1) M37 _ _ h)
      · rw [if_neg q3] at h
        cases h
set_option maxRecDepth 100000 in
theorem zJ58_58_kp (n : Nat) (zrec36 : Int → Int → Int → ZM → Option (Int × ZM)) (hrec36 : ∀ (c0 : Int) (c1 : Int) (c2 : Int) (c3 : ZM) (r : Int) (m' : ZM), zrec36 c0 c1 c2 c3 = some (r, m') → kp (wl w58) c3 m') (x1 : Int) (x2 : Int) (x3 : Int) (M : ZM) (r : Int) (m' : ZM) (h : zJ58_58 n zrec36 x1 x2 x3 M = some (r, m')) : kp (wl w58) M m' := by
  unfold zJ58_58 at h
  have g := kp_refl (wl w58) M
  cases hc1 : zF48 n M with
  | none => rw [hc1] at h; cases h
  | some w =>
    obtain ⟨v28, M29⟩ := w
    rw [hc1] at h
    dsimp only at h
    replace g := kp_tr g (kp_eq _ (zF48_kp n M _ _ hc1))
    by_cases q2 : v28 = 0
    · rw [if_pos q2] at h
      cases hc3 : zF54 n M29 with
      | none => rw [hc3] at h; cases h
      | some w =>
        obtain ⟨v32, M33⟩ := w
        rw [hc3] at h
        dsimp only at h
        replace g := kp_tr g (kp_sub (by simp [w54, w58]) (zF54_kp n M29 _ _ hc3))
        by_cases q4 : v32 = 0
        · rw [if_pos q4] at h
          exact kp_tr g (zJ58_76_kp n M33 _ _ h)
        · rw [if_neg q4] at h
          exact kp_tr g (zJ58_80_kp n zrec36 hrec36 x1 x2 x3 M33 _ _ h)
    · rw [if_neg q2] at h
      rw [← (Prod.mk.inj (Option.some.inj h)).2]
      exact g
set_option maxRecDepth 100000 in
theorem zJ58_54_kp (n : Nat) (M : ZM) (r : Int) (m' : ZM) (h : zJ58_54 n M = some (r, m')) : kp (wl w58) M m' := by
  unfold zJ58_54 at h
  have g := kp_refl (wl w58) M
  rw [← (Prod.mk.inj (Option.some.inj h)).2]
  exact g
set_option maxRecDepth 100000 in
theorem zL58_36_kp (n : Nat) : ∀ (k : Nat) (x1 : Int) (x2 : Int) (x3 : Int) (M : ZM) (r : Int) (m' : ZM), zL58_36 n k x1 x2 x3 M = some (r, m') → kp (wl w58) M m' := by
  intro k
  induction k with
  | zero => intro x1 x2 x3 M r m' h; cases h
  | succ k ih =>
    intro x1 x2 x3 M r m' h
    rw [zL58_36] at h
    have g := kp_refl (wl w58) M
    by_cases q1 : x1 ≤ x3
    · rw [if_pos q1] at h
      by_cases q2 : (M.1 83 9) < 5
      · rw [if_pos q2] at h
        by_cases q3 : (M.1 83 9) < 0 ∨ 6 ≤ (M.1 83 9)
        · rw [if_pos q3] at h
          cases h
        · rw [if_neg q3] at h
          replace g : kp (wl w58) M (z_i M 88 (Int.toNat (M.1 83 9)) x2) := kp_ia g (by simp [w58])
          rw [zlet] at h
          generalize z_i M 88 (Int.toNat (M.1 83 9)) x2 = M11 at h g
          exact kp_tr g (zJ58_119_kp n x1 M11 _ _ h)
      · rw [if_neg q2] at h
        rw [← (Prod.mk.inj (Option.some.inj h)).2]
        exact g
    · rw [if_neg q1] at h
      cases hc4 : zF34 n x3 M with
      | none => rw [hc4] at h; cases h
      | some w =>
        obtain ⟨v21, M22⟩ := w
        rw [hc4] at h
        dsimp only at h
        replace g := kp_tr g (kp_sub (by simp [w34, w58]) (zF34_kp n x3 M _ _ hc4))
        cases hc5 : zF47 n M22 with
        | none => rw [hc5] at h; cases h
        | some w =>
          obtain ⟨v24, M25⟩ := w
          rw [hc5] at h
          dsimp only at h
          replace g := kp_tr g (kp_eq _ (zF47_kp n M22 _ _ hc5))
          by_cases q6 : v24 = 0
          · rw [if_pos q6] at h
            exact kp_tr g (zJ58_58_kp n (zL58_36 n k) ih x1 x2 x3 M25 _ _ h)
          · rw [if_neg q6] at h
            exact kp_tr g (zJ58_54_kp n M25 _ _ h)
set_option maxRecDepth 100000 in
theorem zJ58_20_kp (n : Nat) (M : ZM) (r : Int) (m' : ZM) (h : zJ58_20 n M = some (r, m')) : kp (wl w58) M m' := by
  unfold zJ58_20 at h
  have g := kp_refl (wl w58) M
  exact kp_tr g (zL58_36_kp n n (M.1 89 5) (M.1 88 5) 0 M _ _ h)
set_option maxRecDepth 100000 in
theorem zF58_kp (n : Nat) (M : ZM) (r : Int) (m' : ZM) (h : zF58 n M = some (r, m')) : kp (wl w58) M m' := by
  unfold zF58 at h
  have g := kp_refl (wl w58) M
  cases hc1 : zF32 n M with
  | none => rw [hc1] at h; cases h
  | some w =>
    obtain ⟨v1, M2⟩ := w
    rw [hc1] at h
    dsimp only at h
    replace g := kp_tr g (kp_sub (by simp [w32, w58]) (zF32_kp n M _ _ hc1))
    cases hc2 : zF45 n 5 (-1) M2 with
    | none => rw [hc2] at h; cases h
    | some w =>
      obtain ⟨v4, M5⟩ := w
      rw [hc2] at h
      dsimp only at h
      replace g := kp_tr g (kp_sub (by simp [w45, w58]) (zF45_kp n 5 (-1) M2 _ _ hc2))
      by_cases q3 : v4 = 0
      · rw [if_pos q3] at h
        exact kp_tr g (zJ58_13_kp n M5 _ _ h)
      · rw [if_neg q3] at h
        exact kp_tr g (zJ58_20_kp n M5 _ _ h)
set_option maxRecDepth 100000 in
theorem zJ92_43_kp (n : Nat) (g0 : Nat) (zrec12 : Int → Int → Int → ZM → Option (Int × ZM)) (hrec12 : ∀ (c0 : Int) (c1 : Int) (c2 : Int) (c3 : ZM) (r : Int) (m' : ZM), zrec12 c0 c1 c2 c3 = some (r, m') → m' = c3) (x1 : Int) (x2 : Int) (x3 : Int) (M : ZM) (r : Int) (m' : ZM) (h : zJ92_43 n g0 zrec12 x1 x2 x3 M = some (r, m')) : m' = M := by
  unfold zJ92_43 at h
  have g : M = M := rfl
  by_cases q1 : rg (x3 + 1)
  · rw [if_pos q1] at h
    exact (hrec12 x1 x2 (x3 + 1) M _ _ h).trans g
  · rw [if_neg q1] at h
    cases h
set_option maxRecDepth 100000 in
theorem zJ92_41_kp (n : Nat) (g0 : Nat) (M : ZM) (r : Int) (m' : ZM) (h : zJ92_41 n g0 M = some (r, m')) : m' = M := by
  unfold zJ92_41 at h
  have g : M = M := rfl
  exact (Prod.mk.inj (Option.some.inj h)).2.symm.trans g
set_option maxRecDepth 100000 in
theorem zL92_12_kp (n : Nat) (g0 : Nat) : ∀ (k : Nat) (x1 : Int) (x2 : Int) (x3 : Int) (M : ZM) (r : Int) (m' : ZM), zL92_12 n g0 k x1 x2 x3 M = some (r, m') → m' = M := by
  intro k
  induction k with
  | zero => intro x1 x2 x3 M r m' h; cases h
  | succ k ih =>
    intro x1 x2 x3 M r m' h
    rw [zL92_12] at h
    have g : M = M := rfl
    by_cases q1 : x2 ≤ x3
    · rw [if_pos q1] at h
      exact (Prod.mk.inj (Option.some.inj h)).2.symm.trans g
    · rw [if_neg q1] at h
      cases hc2 : zF115 n g0 x3 M with
      | none => rw [hc2] at h; cases h
      | some w =>
        obtain ⟨v8, M9⟩ := w
        rw [hc2] at h
        dsimp only at h
        replace g := (zF115_kp n g0 x3 M _ _ hc2).trans g
        by_cases q3 : v8 = 0
        · rw [if_pos q3] at h
          exact (zJ92_43_kp n g0 (zL92_12 n g0 k) ih x1 x2 x3 M9 _ _ h).trans g
        · rw [if_neg q3] at h
          by_cases q4 : rg (x3 + 1)
          · rw [if_pos q4] at h
            cases hc5 : zF109 n g0 (x3 + 1) M9 with
            | none => rw [hc5] at h; cases h
            | some w =>
              obtain ⟨v12, M13⟩ := w
              rw [hc5] at h
              dsimp only at h
              replace g := (zF109_kp n g0 (x3 + 1) M9 _ _ hc5).trans g
              cases hc6 : zF125 n g0 x1 v12 M13 with
              | none => rw [hc6] at h; cases h
              | some w =>
                obtain ⟨v15, M16⟩ := w
                rw [hc6] at h
                dsimp only at h
                replace g := (zF125_kp n g0 x1 v12 M13 _ _ hc6).trans g
                by_cases q7 : v15 = x3
                · rw [if_pos q7] at h
                  exact (zJ92_43_kp n g0 (zL92_12 n g0 k) ih x1 x2 x3 M16 _ _ h).trans g
                · rw [if_neg q7] at h
                  exact (zJ92_41_kp n g0 M16 _ _ h).trans g
          · rw [if_neg q4] at h
            cases h
set_option maxRecDepth 100000 in
theorem zF92_kp (n : Nat) (g0 : Nat) (a1 : Int) (M : ZM) (r : Int) (m' : ZM) (h : zF92 n g0 a1 M = some (r, m')) : m' = M := by
  unfold zF92 at h
  have g : M = M := rfl
  cases hc1 : zF112 n g0 a1 M with
  | none => rw [hc1] at h; cases h
  | some w =>
    obtain ⟨v1, M2⟩ := w
    rw [hc1] at h
    dsimp only at h
    replace g := (zF112_kp n g0 a1 M _ _ hc1).trans g
    cases hc2 : zF111 n g0 a1 M2 with
    | none => rw [hc2] at h; cases h
    | some w =>
      obtain ⟨v4, M5⟩ := w
      rw [hc2] at h
      dsimp only at h
      replace g := (zF111_kp n g0 a1 M2 _ _ hc2).trans g
      exact (zL92_12_kp n g0 n a1 v1 v4 M5 _ _ h).trans g
set_option maxRecDepth 100000 in
theorem zJ94_58_kp (n : Nat) (g0 : Nat) (M : ZM) (r : Int) (m' : ZM) (h : zJ94_58 n g0 M = some (r, m')) : m' = M := by
  unfold zJ94_58 at h
  have g : M = M := rfl
  exact (Prod.mk.inj (Option.some.inj h)).2.symm.trans g
set_option maxRecDepth 100000 in
theorem zJ94_44_kp (n : Nat) (g0 : Nat) (M : ZM) (r : Int) (m' : ZM) (h : zJ94_44 n g0 M = some (r, m')) : m' = M := by
  unfold zJ94_44 at h
  have g : M = M := rfl
  exact (Prod.mk.inj (Option.some.inj h)).2.symm.trans g
set_option maxRecDepth 100000 in
theorem zJ94_52_kp (n : Nat) (g0 : Nat) (zrec15 : Int → Int → Int → ZM → Option (Int × ZM)) (hrec15 : ∀ (c0 : Int) (c1 : Int) (c2 : Int) (c3 : ZM) (r : Int) (m' : ZM), zrec15 c0 c1 c2 c3 = some (r, m') → m' = c3) (x2 : Int) (x3 : Int) (x4 : Int) (M : ZM) (r : Int) (m' : ZM) (h : zJ94_52 n g0 zrec15 x2 x3 x4 M = some (r, m')) : m' = M := by
  unfold zJ94_52 at h
  have g : M = M := rfl
  by_cases q1 : rg (x4 + 1)
  · rw [if_pos q1] at h
    exact (hrec15 x2 x3 (x4 + 1) M _ _ h).trans g
  · rw [if_neg q1] at h
    cases h
set_option maxRecDepth 100000 in
theorem zJ94_34_kp (n : Nat) (g0 : Nat) (zrec15 : Int → Int → Int → ZM → Option (Int × ZM)) (hrec15 : ∀ (c0 : Int) (c1 : Int) (c2 : Int) (c3 : ZM) (r : Int) (m' : ZM), zrec15 c0 c1 c2 c3 = some (r, m') → m' = c3) (x2 : Int) (x3 : Int) (x4 : Int) (M : ZM) (r : Int) (m' : ZM) (h : zJ94_34 n g0 zrec15 x2 x3 x4 M = some (r, m')) : m' = M := by
  unfold zJ94_34 at h
  have g : M = M := rfl
  cases hc1 : zF118 n g0 x3 M with
  | none => rw [hc1] at h; cases h
  | some w =>
    obtain ⟨v10, M11⟩ := w
    rw [hc1] at h
    dsimp only at h
    replace g := (zF118_kp n g0 x3 M _ _ hc1).trans g
    by_cases q2 : v10 = 43
    · rw [if_pos q2] at h
      exact (zJ94_44_kp n g0 M11 _ _ h).trans g
    · rw [if_neg q2] at h
      cases hc3 : zF119 n g0 x3 M11 with
      | none => rw [hc3] at h; cases h
      | some w =>
        obtain ⟨v14, M15⟩ := w
        rw [hc3] at h
        dsimp only at h
        replace g := (zF119_kp n g0 x3 M11 _ _ hc3).trans g
        exact (zJ94_52_kp n g0 zrec15 hrec15 x2 v14 x4 M15 _ _ h).trans g
set_option maxRecDepth 100000 in
theorem zL94_15_kp (n : Nat) (g0 : Nat) : ∀ (k : Nat) (x2 : Int) (x3 : Int) (x4 : Int) (M : ZM) (r : Int) (m' : ZM), zL94_15 n g0 k x2 x3 x4 M = some (r, m') → m' = M := by
  intro k
  induction k with
  | zero => intro x2 x3 x4 M r m' h; cases h
  | succ k ih =>
    intro x2 x3 x4 M r m' h
    rw [zL94_15] at h
    have g : M = M := rfl
    by_cases q1 : 4 ≤ x4
    · rw [if_pos q1] at h
      exact (zJ94_58_kp n g0 M _ _ h).trans g
    · rw [if_neg q1] at h
      by_cases q2 : x2 ≤ x3
      · rw [if_pos q2] at h
        exact (zJ94_58_kp n g0 M _ _ h).trans g
      · rw [if_neg q2] at h
        cases hc3 : zF116 n g0 x3 M with
        | none => rw [hc3] at h; cases h
        | some w =>
          obtain ⟨v6, M7⟩ := w
          rw [hc3] at h
          dsimp only at h
          replace g := (zF116_kp n g0 x3 M _ _ hc3).trans g
          by_cases q4 : v6 = 0
          · rw [if_pos q4] at h
            exact (zJ94_44_kp n g0 M7 _ _ h).trans g
          · rw [if_neg q4] at h
            exact (zJ94_34_kp n g0 (zL94_15 n g0 k) ih x2 x3 x4 M7 _ _ h).trans g
set_option maxRecDepth 100000 in
theorem zF94_kp (n : Nat) (g0 : Nat) (a1 : Int) (M : ZM) (r : Int) (m' : ZM) (h : zF94 n g0 a1 M = some (r, m')) : m' = M := by
  unfold zF94 at h
  have g : M = M := rfl
  by_cases q1 : rg (a1 + 1)
  · rw [if_pos q1] at h
    cases hc2 : zF110 n g0 (a1 + 1) M with
    | none => rw [hc2] at h; cases h
    | some w =>
      obtain ⟨v1, M2⟩ := w
      rw [hc2] at h
      dsimp only at h
      replace g := (zF110_kp n g0 (a1 + 1) M _ _ hc2).trans g
      by_cases q3 : rg (a1 + 2)
      · rw [if_pos q3] at h
        exact (zL94_15_kp n g0 n v1 (a1 + 2) 0 M2 _ _ h).trans g
      · rw [if_neg q3] at h
        cases h
  · rw [if_neg q1] at h
    cases h
set_option maxRecDepth 100000 in
theorem zJ97_61_kp (n : Nat) (g0 : Nat) (zrec12 : Int → Int → Int → ZM → Option (Int × ZM)) (hrec12 : ∀ (c0 : Int) (c1 : Int) (c2 : Int) (c3 : ZM) (r : Int) (m' : ZM), zrec12 c0 c1 c2 c3 = some (r, m') → m' = c3) (x1 : Int) (x2 : Int) (x3 : Int) (M : ZM) (r : Int) (m' : ZM) (h : zJ97_61 n g0 zrec12 x1 x2 x3 M = some (r, m')) : m' = M := by
  unfold zJ97_61 at h
  have g : M = M := rfl
  by_cases q1 : rg (x3 + 1)
  · rw [if_pos q1] at h
    exact (hrec12 x1 x2 (x3 + 1) M _ _ h).trans g
  · rw [if_neg q1] at h
    cases h
set_option maxRecDepth 100000 in
theorem zJ97_59_kp (n : Nat) (g0 : Nat) (M : ZM) (r : Int) (m' : ZM) (h : zJ97_59 n g0 M = some (r, m')) : m' = M := by
  unfold zJ97_59 at h
  have g : M = M := rfl
  exact (Prod.mk.inj (Option.some.inj h)).2.symm.trans g
set_option maxRecDepth 100000 in
theorem zJ97_39_kp (n : Nat) (g0 : Nat) (zrec12 : Int → Int → Int → ZM → Option (Int × ZM)) (hrec12 : ∀ (c0 : Int) (c1 : Int) (c2 : Int) (c3 : ZM) (r : Int) (m' : ZM), zrec12 c0 c1 c2 c3 = some (r, m') → m' = c3) (x1 : Int) (x2 : Int) (x3 : Int) (x4 : Int) (M : ZM) (r : Int) (m' : ZM) (h : zJ97_39 n g0 zrec12 x1 x2 x3 x4 M = some (r, m')) : m' = M := by
  unfold zJ97_39 at h
  have g : M = M := rfl
  by_cases q1 : x4 = (-1)
  · rw [if_pos q1] at h
    exact (zJ97_59_kp n g0 M _ _ h).trans g
  · rw [if_neg q1] at h
    cases hc2 : zF122 n g0 x4 M with
    | none => rw [hc2] at h; cases h
    | some w =>
      obtain ⟨v19, M20⟩ := w
      rw [hc2] at h
      dsimp only at h
      replace g := (zF122_kp n g0 x4 M _ _ hc2).trans g
      cases hc3 : zF122 n g0 x3 M20 with
      | none => rw [hc3] at h; cases h
      | some w =>
        obtain ⟨v22, M23⟩ := w
        rw [hc3] at h
        dsimp only at h
        replace g := (zF122_kp n g0 x3 M20 _ _ hc3).trans g
        by_cases q4 : v19 = v22
        · rw [if_pos q4] at h
          exact (zJ97_61_kp n g0 zrec12 hrec12 x1 x2 x3 M23 _ _ h).trans g
        · rw [if_neg q4] at h
          exact (zJ97_59_kp n g0 M23 _ _ h).trans g
set_option maxRecDepth 100000 in
theorem zL97_12_kp (n : Nat) (g0 : Nat) : ∀ (k : Nat) (x1 : Int) (x2 : Int) (x3 : Int) (M : ZM) (r : Int) (m' : ZM), zL97_12 n g0 k x1 x2 x3 M = some (r, m') → m' = M := by
  intro k
  induction k with
  | zero => intro x1 x2 x3 M r m' h; cases h
  | succ k ih =>
    intro x1 x2 x3 M r m' h
    rw [zL97_12] at h
    have g : M = M := rfl
    by_cases q1 : x2 ≤ x3
    · rw [if_pos q1] at h
      exact (Prod.mk.inj (Option.some.inj h)).2.symm.trans g
    · rw [if_neg q1] at h
      cases hc2 : zF115 n g0 x3 M with
      | none => rw [hc2] at h; cases h
      | some w =>
        obtain ⟨v8, M9⟩ := w
        rw [hc2] at h
        dsimp only at h
        replace g := (zF115_kp n g0 x3 M _ _ hc2).trans g
        by_cases q3 : v8 = 0
        · rw [if_pos q3] at h
          exact (zJ97_61_kp n g0 (zL97_12 n g0 k) ih x1 x2 x3 M9 _ _ h).trans g
        · rw [if_neg q3] at h
          by_cases q4 : rg (x3 + 1)
          · rw [if_pos q4] at h
            cases hc5 : zF109 n g0 (x3 + 1) M9 with
            | none => rw [hc5] at h; cases h
            | some w =>
              obtain ⟨v12, M13⟩ := w
              rw [hc5] at h
              dsimp only at h
              replace g := (zF109_kp n g0 (x3 + 1) M9 _ _ hc5).trans g
              cases hc6 : zF125 n g0 x1 v12 M13 with
              | none => rw [hc6] at h; cases h
              | some w =>
                obtain ⟨v15, M16⟩ := w
                rw [hc6] at h
                dsimp only at h
                replace g := (zF125_kp n g0 x1 v12 M13 _ _ hc6).trans g
                exact (zJ97_39_kp n g0 (zL97_12 n g0 k) ih x1 x2 x3 v15 M16 _ _ h).trans g
          · rw [if_neg q4] at h
            cases h
set_option maxRecDepth 100000 in
theorem zF97_kp (n : Nat) (g0 : Nat) (a1 : Int) (M : ZM) (r : Int) (m' : ZM) (h : zF97 n g0 a1 M = some (r, m')) : m' = M := by
  unfold zF97 at h
  have g : M = M := rfl
  cases hc1 : zF114 n g0 a1 M with
  | none => rw [hc1] at h; cases h
  | some w =>
    obtain ⟨v1, M2⟩ := w
    rw [hc1] at h
    dsimp only at h
    replace g := (zF114_kp n g0 a1 M _ _ hc1).trans g
    cases hc2 : zF113 n g0 a1 M2 with
    | none => rw [hc2] at h; cases h
    | some w =>
      obtain ⟨v4, M5⟩ := w
      rw [hc2] at h
      dsimp only at h
      replace g := (zF113_kp n g0 a1 M2 _ _ hc2).trans g
      exact (zL97_12_kp n g0 n a1 v1 v4 M5 _ _ h).trans g
set_option maxRecDepth 100000 in
theorem zL99_12_kp (n : Nat) (g0 : Nat) : ∀ (k : Nat) (x2 : Int) (x3 : Int) (M : ZM) (r : Int) (m' : ZM), zL99_12 n g0 k x2 x3 M = some (r, m') → m' = M := by
  intro k
  induction k with
  | zero => intro x2 x3 M r m' h; cases h
  | succ k ih =>
    intro x2 x3 M r m' h
    rw [zL99_12] at h
    have g : M = M := rfl
    by_cases q1 : x2 ≤ x3
    · rw [if_pos q1] at h
      exact (Prod.mk.inj (Option.some.inj h)).2.symm.trans g
    · rw [if_neg q1] at h
      cases hc2 : zF115 n g0 x3 M with
      | none => rw [hc2] at h; cases h
      | some w =>
        obtain ⟨v5, M6⟩ := w
        rw [hc2] at h
        dsimp only at h
        replace g := (zF115_kp n g0 x3 M _ _ hc2).trans g
        by_cases q3 : v5 = 0
        · rw [if_pos q3] at h
          by_cases q4 : rg (x3 + 1)
          · rw [if_pos q4] at h
            exact (ih x2 (x3 + 1) M6 _ _ h).trans g
          · rw [if_neg q4] at h
            cases h
        · rw [if_neg q3] at h
          exact (Prod.mk.inj (Option.some.inj h)).2.symm.trans g
set_option maxRecDepth 100000 in
theorem zF99_kp (n : Nat) (g0 : Nat) (a1 : Int) (M : ZM) (r : Int) (m' : ZM) (h : zF99 n g0 a1 M = some (r, m')) : m' = M := by
  unfold zF99 at h
  have g : M = M := rfl
  by_cases q1 : rg (a1 + 1)
  · rw [if_pos q1] at h
    cases hc2 : zF110 n g0 (a1 + 1) M with
    | none => rw [hc2] at h; cases h
    | some w =>
      obtain ⟨v1, M2⟩ := w
      rw [hc2] at h
      dsimp only at h
      replace g := (zF110_kp n g0 (a1 + 1) M _ _ hc2).trans g
      by_cases q3 : rg (a1 + 2)
      · rw [if_pos q3] at h
        exact (zL99_12_kp n g0 n v1 (a1 + 2) M2 _ _ h).trans g
      · rw [if_neg q3] at h
        cases h
  · rw [if_neg q1] at h
    cases h
def w141 : List (Nat × Nat) := [(13, 2), (14, 1000), (15, 1000)]
set_option maxRecDepth 100000 in
theorem zJ141_41_kp (n : Nat) (s0 : Int) (M : ZM) (r : Int) (m' : ZM) (h : zJ141_41 n s0 M = some (r, m')) : kp (wl w141) M m' := by
  unfold zJ141_41 at h
  have g := kp_refl (wl w141) M
  by_cases q1 : s0 = 0 ∨ s0 = 1
  · rw [if_pos q1] at h
    rw [← (Prod.mk.inj (Option.some.inj h)).2]
    exact g
  · rw [if_neg q1] at h
    cases h
set_option maxRecDepth 100000 in
theorem zJ141_36_kp (n : Nat) (M : ZM) (r : Int) (m' : ZM) (h : zJ141_36 n M = some (r, m')) : kp (wl w141) M m' := by
  unfold zJ141_36 at h
  have g := kp_refl (wl w141) M
  exact kp_tr g (zJ141_41_kp n 1 M _ _ h)
set_option maxRecDepth 100000 in
theorem zJ141_24_kp (n : Nat) (x1 : Int) (M : ZM) (r : Int) (m' : ZM) (h : zJ141_24 n x1 M = some (r, m')) : kp (wl w141) M m' := by
  unfold zJ141_24 at h
  have g := kp_refl (wl w141) M
  cases hc1 : zF163 n 13 x1 M with
  | none => rw [hc1] at h; cases h
  | some w =>
    obtain ⟨v10, M11⟩ := w
    rw [hc1] at h
    dsimp only at h
    replace g := kp_tr g (kp_sub (by simp [w163, w141]) (zF163_kp n 13 x1 M _ _ hc1))
    by_cases q2 : v10 = (-1)
    · rw [if_pos q2] at h
      exact kp_tr g (zJ141_41_kp n 0 M11 _ _ h)
    · rw [if_neg q2] at h
      exact kp_tr g (zJ141_36_kp n M11 _ _ h)
set_option maxRecDepth 100000 in
theorem zF141_kp (n : Nat) (a0 : Int) (a1 : Int) (M : ZM) (r : Int) (m' : ZM) (h : zF141 n a0 a1 M = some (r, m')) : kp (wl w141) M m' := by
  unfold zF141 at h
  have g := kp_refl (wl w141) M
  cases hc1 : zF13 n a0 M with
  | none => rw [hc1] at h; cases h
  | some w =>
    obtain ⟨v1, M2⟩ := w
    rw [hc1] at h
    dsimp only at h
    replace g := kp_tr g (kp_eq _ (zF13_kp n a0 M _ _ hc1))
    by_cases q2 : v1 = 0
    · rw [if_pos q2] at h
      cases hc3 : zF14 n a0 M2 with
      | none => rw [hc3] at h; cases h
      | some w =>
        obtain ⟨v5, M6⟩ := w
        rw [hc3] at h
        dsimp only at h
        replace g := kp_tr g (kp_eq _ (zF14_kp n a0 M2 _ _ hc3))
        by_cases q4 : v5 = 0
        · rw [if_pos q4] at h
          exact kp_tr g (zJ141_36_kp n M6 _ _ h)
        · rw [if_neg q4] at h
          exact kp_tr g (zJ141_24_kp n a0 M6 _ _ h)
    · rw [if_neg q2] at h
      cases hc5 : zF162 n 13 a1 a0 M2 with
      | none => rw [hc5] at h; cases h
      | some w =>
        obtain ⟨v14, M15⟩ := w
        rw [hc5] at h
        dsimp only at h
        replace g := kp_tr g (kp_sub (by simp [w162, w141]) (zF162_kp n 13 a1 a0 M2 _ _ hc5))
        by_cases q6 : v14 = 0 ∨ v14 = 1
        · rw [if_pos q6] at h
          rw [← (Prod.mk.inj (Option.some.inj h)).2]
          exact g
        · rw [if_neg q6] at h
          cases h
def w169 (b : Nat) : List (Nat × Nat) := [(b, 2), (b, 3), (b + 1, 1000), (b + 2, 1000)]
set_option maxRecDepth 100000 in
theorem zJ169_25_kp (n : Nat) (b : Nat) (g0 : Nat) (zrec3 : Int → Int → ZM → Option (Unit × ZM)) (hrec3 : ∀ (c0 : Int) (c1 : Int) (c2 : ZM) (r : Unit) (m' : ZM), zrec3 c0 c1 c2 = some (r, m') → kp (wl (w169 b)) c2 m') (x3 : Int) (x4 : Int) (M : ZM) (r : Unit) (m' : ZM) (h : zJ169_25 n b g0 zrec3 x3 x4 M = some (r, m')) : kp (wl (w169 b)) M m' := by
  unfold zJ169_25 at h
  have g := kp_refl (wl (w169 b)) M
  by_cases q1 : rg (x4 + 1)
  · rw [if_pos q1] at h
    exact kp_tr g (hrec3 x3 (x4 + 1) M _ _ h)
  · rw [if_neg q1] at h
    cases h
set_option maxRecDepth 100000 in
theorem zL169_3_kp (n : Nat) (b : Nat) (g0 : Nat) : ∀ (k : Nat) (x3 : Int) (x4 : Int) (M : ZM) (r : Unit) (m' : ZM), zL169_3 n b g0 k x3 x4 M = some (r, m') → kp (wl (w169 b)) M m' := by
  intro k
  induction k with
  | zero => intro x3 x4 M r m' h; cases h
  | succ k ih =>
    intro x3 x4 M r m' h
    rw [zL169_3] at h
    have g := kp_refl (wl (w169 b)) M
    by_cases q1 : x3 ≤ x4
    · rw [if_pos q1] at h
      rw [← (Prod.mk.inj (Option.some.inj h)).2]
      exact g
    · rw [if_neg q1] at h
      cases hc2 : zF170 n g0 x4 M with
      | none => rw [hc2] at h; cases h
      | some w =>
        obtain ⟨v2, M3⟩ := w
        rw [hc2] at h
        dsimp only at h
        replace g := kp_tr g (kp_eq _ (zF170_kp n g0 x4 M _ _ hc2))
        cases hc3 : zF171 n g0 x4 M3 with
        | none => rw [hc3] at h; cases h
        | some w =>
          obtain ⟨v5, M6⟩ := w
          rw [hc3] at h
          dsimp only at h
          replace g := kp_tr g (kp_eq _ (zF171_kp n g0 x4 M3 _ _ hc3))
          cases hc4 : zF168 n b v2 v5 M6 with
          | none => rw [hc4] at h; cases h
          | some w =>
            obtain ⟨v8, M9⟩ := w
            rw [hc4] at h
            dsimp only at h
            replace g := kp_tr g (kp_sub (by simp [w168, w169]) (zF168_kp n b v2 v5 M6 _ _ hc4))
            exact kp_tr g (zJ169_25_kp n b g0 (zL169_3 n b g0 k) ih x3 x4 M9 _ _ h)
set_option maxRecDepth 100000 in
theorem zF169_kp (n : Nat) (b : Nat) (g0 : Nat) (a1 : Int) (a2 : Int) (M : ZM) (r : Unit) (m' : ZM) (h : zF169 n b g0 a1 a2 M = some (r, m')) : kp (wl (w169 b)) M m' := by
  unfold zF169 at h
  have g := kp_refl (wl (w169 b)) M
  exact kp_tr g (zL169_3_kp n b g0 n a2 a1 M _ _ h)
set_option maxRecDepth 100000 in
theorem zJ174_97_kp (n : Nat) (b : Nat) (zrec29 : Int → Int → Int → ZM → Option (Int × ZM)) (hrec29 : ∀ (c0 : Int) (c1 : Int) (c2 : Int) (c3 : ZM) (r : Int) (m' : ZM), zrec29 c0 c1 c2 c3 = some (r, m') → m' = c3) (x1 : Int) (x2 : Int) (x3 : Int) (M : ZM) (r : Int) (m' : ZM) (h : zJ174_97 n b zrec29 x1 x2 x3 M = some (r, m')) : m' = M := by
  unfold zJ174_97 at h
  have g : M = M := rfl
  by_cases q1 : rg (x3 + (-1))
  · rw [if_pos q1] at h
    exact (hrec29 x1 x2 (x3 + (-1)) M _ _ h).trans g
  · rw [if_neg q1] at h
    cases h
set_option maxRecDepth 100000 in
theorem zJ174_95_kp (n : Nat) (b : Nat) (x3 : Int) (M : ZM) (r : Int) (m' : ZM) (h : zJ174_95 n b x3 M = some (r, m')) : m' = M := by
  unfold zJ174_95 at h
  have g : M = M := rfl
  exact (Prod.mk.inj (Option.some.inj h)).2.symm.trans g
set_option maxRecDepth 100000 in
theorem zJ174_78_kp (n : Nat) (b : Nat) (zrec29 : Int → Int → Int → ZM → Option (Int × ZM)) (hrec29 : ∀ (c0 : Int) (c1 : Int) (c2 : Int) (c3 : ZM) (r : Int) (m' : ZM), zrec29 c0 c1 c2 c3 = some (r, m') → m' = c3) (x1 : Int) (x2 : Int) (x3 : Int) (M : ZM) (r : Int) (m' : ZM) (h : zJ174_78 n b zrec29 x1 x2 x3 M = some (r, m')) : m' = M := by
  unfold zJ174_78 at h
  have g : M = M := rfl
  cases hc1 : zF176 n b x3 x1 M with
  | none => rw [hc1] at h; cases h
  | some w =>
    obtain ⟨v24, M25⟩ := w
    rw [hc1] at h
    dsimp only at h
    replace g := (zF176_kp n b x3 x1 M _ _ hc1).trans g
    by_cases q2 : v24 = 0
    · rw [if_pos q2] at h
      exact (zJ174_97_kp n b zrec29 hrec29 x1 x2 x3 M25 _ _ h).trans g
    · rw [if_neg q2] at h
      cases hc3 : zF175 n b x3 M25 with
      | none => rw [hc3] at h; cases h
      | some w =>
        obtain ⟨v28, M29⟩ := w
        rw [hc3] at h
        dsimp only at h
        replace g := (zF175_kp n b x3 M25 _ _ hc3).trans g
        by_cases q4 : v28 = 0
        · rw [if_pos q4] at h
          exact (zJ174_97_kp n b zrec29 hrec29 x1 x2 x3 M29 _ _ h).trans g
        · rw [if_neg q4] at h
          exact (zJ174_95_kp n b x3 M29 _ _ h).trans g
set_option maxRecDepth 100000 in
theorem zJ174_51_kp (n : Nat) (b : Nat) (zrec29 : Int → Int → Int → ZM → Option (Int × ZM)) (hrec29 : ∀ (c0 : Int) (c1 : Int) (c2 : Int) (c3 : ZM) (r : Int) (m' : ZM), zrec29 c0 c1 c2 c3 = some (r, m') → m' = c3) (x1 : Int) (x2 : Int) (x3 : Int) (M : ZM) (r : Int) (m' : ZM) (h : zJ174_51 n b zrec29 x1 x2 x3 M = some (r, m')) : m' = M := by
  unfold zJ174_51 at h
  have g : M = M := rfl
  by_cases q1 : x3 < 0 ∨ 150 ≤ x3
  · rw [if_pos q1] at h
    cases h
  · rw [if_neg q1] at h
    cases hc2 : zF13 n (M.1 (b + 1) (Int.toNat x3)) M with
    | none => rw [hc2] at h; cases h
    | some w =>
      obtain ⟨v19, M20⟩ := w
      rw [hc2] at h
      dsimp only at h
      replace g := (zF13_kp n (M.1 (b + 1) (Int.toNat x3)) M _ _ hc2).trans g
      by_cases q3 : v19 = 0
      · rw [if_pos q3] at h
        by_cases q4 : x2 = 0
        · rw [if_pos q4] at h
          exact (zJ174_78_kp n b zrec29 hrec29 x1 x2 x3 M20 _ _ h).trans g
        · rw [if_neg q4] at h
          exact (zJ174_97_kp n b zrec29 hrec29 x1 x2 x3 M20 _ _ h).trans g
      · rw [if_neg q3] at h
        by_cases q5 : rg (x2 - 1)
        · rw [if_pos q5] at h
          exact (zJ174_97_kp n b zrec29 hrec29 x1 (if 0 < (x2 - 1) then (x2 - 1) else 0) x3 M20 _ _ h).trans g
        · rw [if_neg q5] at h
          cases h
set_option maxRecDepth 100000 in
theorem zJ174_45_kp (n : Nat) (b : Nat) (zrec29 : Int → Int → Int → ZM → Option (Int × ZM)) (hrec29 : ∀ (c0 : Int) (c1 : Int) (c2 : Int) (c3 : ZM) (r : Int) (m' : ZM), zrec29 c0 c1 c2 c3 = some (r, m') → m' = c3) (x1 : Int) (x2 : Int) (x3 : Int) (M : ZM) (r : Int) (m' : ZM) (h : zJ174_45 n b zrec29 x1 x2 x3 M = some (r, m')) : m' = M := by
  unfold zJ174_45 at h
  have g : M = M := rfl
  by_cases q1 : rg (x2 + 1)
  · rw [if_pos q1] at h
    exact (zJ174_97_kp n b zrec29 hrec29 x1 (x2 + 1) x3 M _ _ h).trans g
  · rw [if_neg q1] at h
    cases h
set_option maxRecDepth 100000 in
theorem zL174_29_kp (n : Nat) (b : Nat) : ∀ (k : Nat) (x1 : Int) (x2 : Int) (x3 : Int) (M : ZM) (r : Int) (m' : ZM), zL174_29 n b k x1 x2 x3 M = some (r, m') → m' = M := by
  intro k
  induction k with
  | zero => intro x1 x2 x3 M r m' h; cases h
  | succ k ih =>
    intro x1 x2 x3 M r m' h
    rw [zL174_29] at h
    have g : M = M := rfl
    by_cases q1 : x3 < 0
    · rw [if_pos q1] at h
      exact (Prod.mk.inj (Option.some.inj h)).2.symm.trans g
    · rw [if_neg q1] at h
      by_cases q2 : x3 < 0 ∨ 150 ≤ x3
      · rw [if_pos q2] at h
        cases h
      · rw [if_neg q2] at h
        cases hc3 : zF14 n (M.1 (b + 1) (Int.toNat x3)) M with
        | none => rw [hc3] at h; cases h
        | some w =>
          obtain ⟨v14, M15⟩ := w
          rw [hc3] at h
          dsimp only at h
          replace g := (zF14_kp n (M.1 (b + 1) (Int.toNat x3)) M _ _ hc3).trans g
          by_cases q4 : v14 = 0
          · rw [if_pos q4] at h
            exact (zJ174_51_kp n b (zL174_29 n b k) ih x1 x2 x3 M15 _ _ h).trans g
          · rw [if_neg q4] at h
            exact (zJ174_45_kp n b (zL174_29 n b k) ih x1 x2 x3 M15 _ _ h).trans g
set_option maxRecDepth 100000 in
theorem zJ174_23_kp (n : Nat) (b : Nat) (x1 : Int) (M : ZM) (r : Int) (m' : ZM) (h : zJ174_23 n b x1 M = some (r, m')) : m' = M := by
  unfold zJ174_23 at h
  have g : M = M := rfl
  by_cases q1 : rg (x1 - 1)
  · rw [if_pos q1] at h
    exact (zL174_29_kp n b n x1 0 (x1 - 1) M _ _ h).trans g
  · rw [if_neg q1] at h
    cases h
set_option maxRecDepth 100000 in
theorem zJ174_21_kp (n : Nat) (b : Nat) (x1 : Int) (M : ZM) (r : Int) (m' : ZM) (h : zJ174_21 n b x1 M = some (r, m')) : m' = M := by
  unfold zJ174_21 at h
  have g : M = M := rfl
  exact (Prod.mk.inj (Option.some.inj h)).2.symm.trans g
set_option maxRecDepth 100000 in
theorem zF174_kp (n : Nat) (b : Nat) (a0 : Int) (M : ZM) (r : Int) (m' : ZM) (h : zF174 n b a0 M = some (r, m')) : m' = M := by
  unfold zF174 at h
  have g : M = M := rfl
  cases hc1 : zF170 n b a0 M with
  | none => rw [hc1] at h; cases h
  | some w =>
    obtain ⟨v1, M2⟩ := w
    rw [hc1] at h
    dsimp only at h
    replace g := (zF170_kp n b a0 M _ _ hc1).trans g
    cases hc2 : zF11 n v1 M2 with
    | none => rw [hc2] at h; cases h
    | some w =>
      obtain ⟨v4, M5⟩ := w
      rw [hc2] at h
      dsimp only at h
      replace g := (zF11_kp n v1 M2 _ _ hc2).trans g
      by_cases q3 : v4 = 0
      · rw [if_pos q3] at h
        exact (Prod.mk.inj (Option.some.inj h)).2.symm.trans g
      · rw [if_neg q3] at h
        cases hc4 : zF175 n b a0 M5 with
        | none => rw [hc4] at h; cases h
        | some w =>
          obtain ⟨v8, M9⟩ := w
          rw [hc4] at h
          dsimp only at h
          replace g := (zF175_kp n b a0 M5 _ _ hc4).trans g
          by_cases q5 : v8 = 0
          · rw [if_pos q5] at h
            exact (zJ174_23_kp n b a0 M9 _ _ h).trans g
          · rw [if_neg q5] at h
            exact (zJ174_21_kp n b a0 M9 _ _ h).trans g
def w197 : List (Nat × Nat) := [(1, 1), (2, 1000)]
set_option maxRecDepth 100000 in
theorem zJ197_21_kp (n : Nat) (M : ZM) (r : Int) (m' : ZM) (h : zJ197_21 n M = some (r, m')) : kp (wl w197) M m' := by
  unfold zJ197_21 at h
  have g := kp_refl (wl w197) M
  rw [← (Prod.mk.inj (Option.some.inj h)).2]
  exact g
set_option maxRecDepth 100000 in
theorem zJ197_81_kp (n : Nat) (zrec63 : Int → Int → ZM → Option (Int × ZM)) (hrec63 : ∀ (c0 : Int) (c1 : Int) (c2 : ZM) (r : Int) (m' : ZM), zrec63 c0 c1 c2 = some (r, m') → kp (wl w197) c2 m') (x1 : Int) (x3 : Int) (M : ZM) (r : Int) (m' : ZM) (h : zJ197_81 n zrec63 x1 x3 M = some (r, m')) : kp (wl w197) M m' := by
  unfold zJ197_81 at h
  have g := kp_refl (wl w197) M
  by_cases q1 : rg ((M.1 1 1) + 1)
  · rw [if_pos q1] at h
    replace g : kp (wl w197) M (z_i M 1 1 ((M.1 1 1) + 1)) := kp_i g (by simp [w197])
    rw [zlet] at h
    generalize z_i M 1 1 ((M.1 1 1) + 1) = M11 at h g
    by_cases q2 : rg (x3 + (-1))
    · rw [if_pos q2] at h
      exact kp_tr g (hrec63 x1 (x3 + (-1)) M11 _ _ h)
    · rw [if_neg q2] at h
      cases h
  · rw [if_neg q1] at h
    cases h
set_option maxRecDepth 100000 in
theorem zL197_63_kp (n : Nat) : ∀ (k : Nat) (x1 : Int) (x3 : Int) (M : ZM) (r : Int) (m' : ZM), zL197_63 n k x1 x3 M = some (r, m') → kp (wl w197) M m' := by
  intro k
  induction k with
  | zero => intro x1 x3 M r m' h; cases h
  | succ k ih =>
    intro x1 x3 M r m' h
    rw [zL197_63] at h
    have g := kp_refl (wl w197) M
    by_cases q1 : x3 < 0
    · rw [if_pos q1] at h
      rw [← (Prod.mk.inj (Option.some.inj h)).2]
      exact g
    · rw [if_neg q1] at h
      cases hc2 : zF204 n x1 x3 M with
      | none => rw [hc2] at h; cases h
      | some w =>
        obtain ⟨v6, M7⟩ := w
        rw [hc2] at h
        dsimp only at h
        replace g := kp_tr g (kp_eq _ (zF204_kp n x1 x3 M _ _ hc2))
        by_cases q3 : (M.1 1 1) < 0 ∨ 120 ≤ (M.1 1 1)
        · rw [if_pos q3] at h
          cases h
        · rw [if_neg q3] at h
          replace g : kp (wl w197) M (z_i M7 2 (Int.toNat (M.1 1 1)) v6) := kp_ia g (by simp [w197])
          rw [zlet] at h
          generalize z_i M7 2 (Int.toNat (M.1 1 1)) v6 = M10 at h g
          exact kp_tr g (zJ197_81_kp n (zL197_63 n k) ih x1 x3 M10 _ _ h)
set_option maxRecDepth 100000 in
theorem zJ197_51_kp (n : Nat) (M : ZM) (r : Int) (m' : ZM) (h : zJ197_51 n M = some (r, m')) : kp (wl w197) M m' := by
  unfold zJ197_51 at h
  have g := kp_refl (wl w197) M
  rw [← (Prod.mk.inj (Option.some.inj h)).2]
  exact g
set_option maxRecDepth 100000 in
theorem zJ197_53_kp (n : Nat) (zrec25 : Int → Int → Int → ZM → Option (Int × ZM)) (hrec25 : ∀ (c0 : Int) (c1 : Int) (c2 : Int) (c3 : ZM) (r : Int) (m' : ZM), zrec25 c0 c1 c2 c3 = some (r, m') → kp (wl w197) c3 m') (x1 : Int) (x2 : Int) (x3 : Int) (M : ZM) (r : Int) (m' : ZM) (h : zJ197_53 n zrec25 x1 x2 x3 M = some (r, m')) : kp (wl w197) M m' := by
  unfold zJ197_53 at h
  have g := kp_refl (wl w197) M
  by_cases q1 : rg (x3 + 1)
  · rw [if_pos q1] at h
    exact kp_tr g (hrec25 x1 x2 (x3 + 1) M _ _ h)
  · rw [if_neg q1] at h
    cases h
set_option maxRecDepth 100000 in
theorem zL197_25_kp (n : Nat) : ∀ (k : Nat) (x1 : Int) (x2 : Int) (x3 : Int) (M : ZM) (r : Int) (m' : ZM), zL197_25 n k x1 x2 x3 M = some (r, m') → kp (wl w197) M m' := by
  intro k
  induction k with
  | zero => intro x1 x2 x3 M r m' h; cases h
  | succ k ih =>
    intro x1 x2 x3 M r m' h
    rw [zL197_25] at h
    have g := kp_refl (wl w197) M
    by_cases q1 : x2 ≤ x3
    · rw [if_pos q1] at h
      by_cases q2 : rg (x2 - 1)
      · rw [if_pos q2] at h
        exact kp_tr g (zL197_63_kp n n x1 (x2 - 1) M _ _ h)
      · rw [if_neg q2] at h
        cases h
    · rw [if_neg q1] at h
      cases hc3 : zF204 n x1 x3 M with
      | none => rw [hc3] at h; cases h
      | some w =>
        obtain ⟨v12, M13⟩ := w
        rw [hc3] at h
        dsimp only at h
        replace g := kp_tr g (kp_eq _ (zF204_kp n x1 x3 M _ _ hc3))
        by_cases q4 : v12 < 32
        · rw [if_pos q4] at h
          exact kp_tr g (zJ197_51_kp n M13 _ _ h)
        · rw [if_neg q4] at h
          by_cases q5 : v12 ≤ 126
          · rw [if_pos q5] at h
            exact kp_tr g (zJ197_53_kp n (zL197_25 n k) ih x1 x2 x3 M13 _ _ h)
          · rw [if_neg q5] at h
            exact kp_tr g (zJ197_51_kp n M13 _ _ h)
set_option maxRecDepth 100000 in
theorem zF197_kp (n : Nat) (a0 : Int) (a1 : Int) (M : ZM) (r : Int) (m' : ZM) (h : zF197 n a0 a1 M = some (r, m')) : kp (wl w197) M m' := by
  unfold zF197 at h
  have g := kp_refl (wl w197) M
  by_cases q1 : a1 < 1
  · rw [if_pos q1] at h
    exact kp_tr g (zJ197_21_kp n M _ _ h)
  · rw [if_neg q1] at h
    by_cases q2 : 4 < a1
    · rw [if_pos q2] at h
      exact kp_tr g (zJ197_21_kp n M _ _ h)
    · rw [if_neg q2] at h
      by_cases q3 : rg ((M.1 1 1) + a1)
      · rw [if_pos q3] at h
        by_cases q4 : ((M.1 1 1) + a1) ≤ 120
        · rw [if_pos q4] at h
          exact kp_tr g (zL197_25_kp n n a0 a1 0 M _ _ h)
        · rw [if_neg q4] at h
          exact kp_tr g (zJ197_21_kp n M _ _ h)
      · rw [if_neg q3] at h
        cases h
def w1 : List (Nat × Nat) := [(1, 1), (2, 1000)]
set_option maxRecDepth 100000 in
theorem zF1_kp (n : Nat) (a0 : Int) (a1 : Int) (M : ZM) (r : Int) (m' : ZM) (h : zF1 n a0 a1 M = some (r, m')) : kp (wl w1) M m' := by
  unfold zF1 at h
  have g := kp_refl (wl w1) M
  cases hc1 : zF197 n a0 a1 M with
  | none => rw [hc1] at h; cases h
  | some w =>
    obtain ⟨v1, M2⟩ := w
    rw [hc1] at h
    dsimp only at h
    replace g := kp_tr g (kp_sub (by simp [w197, w1]) (zF197_kp n a0 a1 M _ _ hc1))
    by_cases q2 : v1 = 0 ∨ v1 = 1
    · rw [if_pos q2] at h
      rw [← (Prod.mk.inj (Option.some.inj h)).2]
      exact g
    · rw [if_neg q2] at h
      cases h
def w33 : List (Nat × Nat) := [(100, 1000), (101, 1000), (102, 1000), (103, 1000), (104, 1000), (83, 3), (83, 4), (83, 5), (83, 6), (83, 7), (83, 8), (83, 27), (83, 30), (83, 31), (83, 32), (83, 33), (85, 1000), (88, 1000), (89, 1000), (90, 1000), (91, 1000), (92, 1000), (93, 1000), (94, 1000), (95, 1000), (96, 1000), (97, 1000), (98, 1000), (99, 1000)]
set_option maxRecDepth 100000 in
theorem zJ33_37_kp (n : Nat) (zrec12 : Int → Int → Int → ZM → Option (Unit × ZM)) (hrec12 : ∀ (c0 : Int) (c1 : Int) (c2 : Int) (c3 : ZM) (r : Unit) (m' : ZM), zrec12 c0 c1 c2 c3 = some (r, m') → kp (wl w33) c3 m') (x1 : Int) (x2 : Int) (x3 : Int) (M : ZM) (r : Unit) (m' : ZM) (h : zJ33_37 n zrec12 x1 x2 x3 M = some (r, m')) : kp (wl w33) M m' := by
  unfold zJ33_37 at h
  have g := kp_refl (wl w33) M
  by_cases q1 : rg (x3 + 1)
  · rw [if_pos q1] at h
    exact kp_tr g (hrec12 x1 x2 (x3 + 1) M _ _ h)
  · rw [if_neg q1] at h
    cases h
set_option maxRecDepth 100000 in
theorem zL33_12_kp (n : Nat) : ∀ (k : Nat) (x1 : Int) (x2 : Int) (x3 : Int) (M : ZM) (r : Unit) (m' : ZM), zL33_12 n k x1 x2 x3 M = some (r, m') → kp (wl w33) M m' := by
  intro k
  induction k with
  | zero => intro x1 x2 x3 M r m' h; cases h
  | succ k ih =>
    intro x1 x2 x3 M r m' h
    rw [zL33_12] at h
    have g := kp_refl (wl w33) M
    by_cases q1 : (M.1 83 3) ≤ x3
    · rw [if_pos q1] at h
      cases hc2 : zF34 n x2 M with
      | none => rw [hc2] at h; cases h
      | some w =>
        obtain ⟨v4, M5⟩ := w
        rw [hc2] at h
        dsimp only at h
        replace g := kp_tr g (kp_sub (by simp [w34, w33]) (zF34_kp n x2 M _ _ hc2))
        rw [← (Prod.mk.inj (Option.some.inj h)).2]
        exact g
    · rw [if_neg q1] at h
      by_cases q3 : rg ((120 * x1) + x3)
      · rw [if_pos q3] at h
        by_cases q4 : ((120 * x1) + x3) < 0 ∨ 600 ≤ ((120 * x1) + x3)
        · rw [if_pos q4] at h
          cases h
        · rw [if_neg q4] at h
          by_cases q5 : x3 < 0 ∨ 120 ≤ x3
          · rw [if_pos q5] at h
            cases h
          · rw [if_neg q5] at h
            replace g : kp (wl w33) M (z_i M 85 (Int.toNat x3) (M.1 86 (Int.toNat ((120 * x1) + x3)))) := kp_ia g (by simp [w33])
            rw [zlet] at h
            generalize z_i M 85 (Int.toNat x3) (M.1 86 (Int.toNat ((120 * x1) + x3))) = M9 at h g
            exact kp_tr g (zJ33_37_kp n (zL33_12 n k) ih x1 x2 x3 M9 _ _ h)
      · rw [if_neg q3] at h
        cases h
set_option maxRecDepth 100000 in
theorem zF33_kp (n : Nat) (a0 : Int) (a1 : Int) (M : ZM) (r : Unit) (m' : ZM) (h : zF33 n a0 a1 M = some (r, m')) : kp (wl w33) M m' := by
  unfold zF33 at h
  have g := kp_refl (wl w33) M
  by_cases q1 : a0 < 0 ∨ 5 ≤ a0
  · rw [if_pos q1] at h
    cases h
  · rw [if_neg q1] at h
    replace g : kp (wl w33) M (z_i M 83 3 (M.1 87 (Int.toNat a0))) := kp_i g (by simp [w33])
    rw [zlet] at h
    generalize z_i M 83 3 (M.1 87 (Int.toNat a0)) = M2 at h g
    exact kp_tr g (zL33_12_kp n n a0 a1 0 M2 _ _ h)
set_option maxRecDepth 100000 in
theorem zJ93_35_kp (n : Nat) (g0 : Nat) (zrec12 : Int → Int → ZM → Option (Int × ZM)) (hrec12 : ∀ (c0 : Int) (c1 : Int) (c2 : ZM) (r : Int) (m' : ZM), zrec12 c0 c1 c2 = some (r, m') → m' = c2) (x2 : Int) (x3 : Int) (M : ZM) (r : Int) (m' : ZM) (h : zJ93_35 n g0 zrec12 x2 x3 M = some (r, m')) : m' = M := by
  unfold zJ93_35 at h
  have g : M = M := rfl
  by_cases q1 : rg (x3 + 1)
  · rw [if_pos q1] at h
    exact (hrec12 x2 (x3 + 1) M _ _ h).trans g
  · rw [if_neg q1] at h
    cases h
set_option maxRecDepth 100000 in
theorem zJ93_33_kp (n : Nat) (g0 : Nat) (M : ZM) (r : Int) (m' : ZM) (h : zJ93_33 n g0 M = some (r, m')) : m' = M := by
  unfold zJ93_33 at h
  have g : M = M := rfl
  exact (Prod.mk.inj (Option.some.inj h)).2.symm.trans g
