/-! What each method may write; written by program. -/
set_option maxRecDepth 100000 in
theorem zL93_12_kp (n : Nat) (g0 : Nat) : ∀ (k : Nat) (x2 : Int) (x3 : Int) (M : ZM) (r : Int) (m' : ZM), zL93_12 n g0 k x2 x3 M = some (r, m') → m' = M := by
  intro k
  induction k with
  | zero => intro x2 x3 M r m' h; cases h
  | succ k ih =>
    intro x2 x3 M r m' h
    rw [zL93_12] at h
    have g : M = M := rfl
    by_cases q1 : x2 ≤ x3
    · rw [if_pos q1] at h
      exact (Prod.mk.inj (Option.some.inj h)).2.symm.trans g
    · rw [if_neg q1] at h
      cases hc2 : zF116 n g0 x3 M with
      | none => rw [hc2] at h; cases h
      | some w =>
        obtain ⟨v8, M9⟩ := w
        rw [hc2] at h
        dsimp only at h
        replace g := (zF116_kp n g0 x3 M _ _ hc2).trans g
        by_cases q3 : v8 = 0
        · rw [if_pos q3] at h
          exact (zJ93_35_kp n g0 (zL93_12 n g0 k) ih x2 x3 M9 _ _ h).trans g
        · rw [if_neg q3] at h
          cases hc4 : zF94 n g0 x3 M9 with
          | none => rw [hc4] at h; cases h
          | some w =>
            obtain ⟨v12, M13⟩ := w
            rw [hc4] at h
            dsimp only at h
            replace g := (zF94_kp n g0 x3 M9 _ _ hc4).trans g
            by_cases q5 : v12 = 0
            · rw [if_pos q5] at h
              exact (zJ93_35_kp n g0 (zL93_12 n g0 k) ih x2 x3 M13 _ _ h).trans g
            · rw [if_neg q5] at h
              exact (zJ93_33_kp n g0 M13 _ _ h).trans g
set_option maxRecDepth 100000 in
theorem zF93_kp (n : Nat) (g0 : Nat) (a1 : Int) (M : ZM) (r : Int) (m' : ZM) (h : zF93 n g0 a1 M = some (r, m')) : m' = M := by
  unfold zF93 at h
  have g : M = M := rfl
  cases hc1 : zF112 n g0 a1 M with
  | none => rw [hc1] at h; cases h
  | some w =>
    obtain ⟨v1, M2⟩ := w
    rw [hc1] at h
    dsimp only at h
    replace g := (zF112_kp n g0 a1 M _ _ hc1).trans g
    cases hc2 : zF111 n g0 a1 M2 with
    | none => rw [hc2] at h; cases h
    | some w =>
      obtain ⟨v4, M5⟩ := w
      rw [hc2] at h
      dsimp only at h
      replace g := (zF111_kp n g0 a1 M2 _ _ hc2).trans g
      exact (zL93_12_kp n g0 n v1 v4 M5 _ _ h).trans g
set_option maxRecDepth 100000 in
theorem zJ98_35_kp (n : Nat) (g0 : Nat) (zrec12 : Int → Int → ZM → Option (Int × ZM)) (hrec12 : ∀ (c0 : Int) (c1 : Int) (c2 : ZM) (r : Int) (m' : ZM), zrec12 c0 c1 c2 = some (r, m') → m' = c2) (x2 : Int) (x3 : Int) (M : ZM) (r : Int) (m' : ZM) (h : zJ98_35 n g0 zrec12 x2 x3 M = some (r, m')) : m' = M := by
  unfold zJ98_35 at h
  have g : M = M := rfl
  by_cases q1 : rg (x3 + 1)
  · rw [if_pos q1] at h
    exact (hrec12 x2 (x3 + 1) M _ _ h).trans g
  · rw [if_neg q1] at h
    cases h
set_option maxRecDepth 100000 in
theorem zJ98_33_kp (n : Nat) (g0 : Nat) (M : ZM) (r : Int) (m' : ZM) (h : zJ98_33 n g0 M = some (r, m')) : m' = M := by
  unfold zJ98_33 at h
  have g : M = M := rfl
  exact (Prod.mk.inj (Option.some.inj h)).2.symm.trans g
set_option maxRecDepth 100000 in
theorem zL98_12_kp (n : Nat) (g0 : Nat) : ∀ (k : Nat) (x2 : Int) (x3 : Int) (M : ZM) (r : Int) (m' : ZM), zL98_12 n g0 k x2 x3 M = some (r, m') → m' = M := by
  intro k
  induction k with
  | zero => intro x2 x3 M r m' h; cases h
  | succ k ih =>
    intro x2 x3 M r m' h
    rw [zL98_12] at h
    have g : M = M := rfl
    by_cases q1 : x2 ≤ x3
    · rw [if_pos q1] at h
      exact (Prod.mk.inj (Option.some.inj h)).2.symm.trans g
    · rw [if_neg q1] at h
      cases hc2 : zF116 n g0 x3 M with
      | none => rw [hc2] at h; cases h
      | some w =>
        obtain ⟨v8, M9⟩ := w
        rw [hc2] at h
        dsimp only at h
        replace g := (zF116_kp n g0 x3 M _ _ hc2).trans g
        by_cases q3 : v8 = 0
        · rw [if_pos q3] at h
          exact (zJ98_35_kp n g0 (zL98_12 n g0 k) ih x2 x3 M9 _ _ h).trans g
        · rw [if_neg q3] at h
          cases hc4 : zF99 n g0 x3 M9 with
          | none => rw [hc4] at h; cases h
          | some w =>
            obtain ⟨v12, M13⟩ := w
            rw [hc4] at h
            dsimp only at h
            replace g := (zF99_kp n g0 x3 M9 _ _ hc4).trans g
            by_cases q5 : v12 = 0
            · rw [if_pos q5] at h
              exact (zJ98_33_kp n g0 M13 _ _ h).trans g
            · rw [if_neg q5] at h
              exact (zJ98_35_kp n g0 (zL98_12 n g0 k) ih x2 x3 M13 _ _ h).trans g
set_option maxRecDepth 100000 in
theorem zF98_kp (n : Nat) (g0 : Nat) (a1 : Int) (M : ZM) (r : Int) (m' : ZM) (h : zF98 n g0 a1 M = some (r, m')) : m' = M := by
  unfold zF98 at h
  have g : M = M := rfl
  cases hc1 : zF114 n g0 a1 M with
  | none => rw [hc1] at h; cases h
  | some w =>
    obtain ⟨v1, M2⟩ := w
    rw [hc1] at h
    dsimp only at h
    replace g := (zF114_kp n g0 a1 M _ _ hc1).trans g
    cases hc2 : zF113 n g0 a1 M2 with
    | none => rw [hc2] at h; cases h
    | some w =>
      obtain ⟨v4, M5⟩ := w
      rw [hc2] at h
      dsimp only at h
      replace g := (zF113_kp n g0 a1 M2 _ _ hc2).trans g
      exact (zL98_12_kp n g0 n v1 v4 M5 _ _ h).trans g
def w51 : List (Nat × Nat) := [(108, 1000), (111, 1000)]
set_option maxRecDepth 100000 in
theorem zJ51_82_kp (n : Nat) (zrec2 : Int → Int → ZM → Option (Unit × ZM)) (hrec2 : ∀ (c0 : Int) (c1 : Int) (c2 : ZM) (r : Unit) (m' : ZM), zrec2 c0 c1 c2 = some (r, m') → kp (wl w51) c2 m') (x1 : Int) (x2 : Int) (M : ZM) (r : Unit) (m' : ZM) (h : zJ51_82 n zrec2 x1 x2 M = some (r, m')) : kp (wl w51) M m' := by
  unfold zJ51_82 at h
  have g := kp_refl (wl w51) M
  by_cases q1 : rg (x2 + 1)
  · rw [if_pos q1] at h
    exact kp_tr g (hrec2 x1 (x2 + 1) M _ _ h)
  · rw [if_neg q1] at h
    cases h
set_option maxRecDepth 100000 in
theorem zJ51_53_kp (n : Nat) (zrec2 : Int → Int → ZM → Option (Unit × ZM)) (hrec2 : ∀ (c0 : Int) (c1 : Int) (c2 : ZM) (r : Unit) (m' : ZM), zrec2 c0 c1 c2 = some (r, m') → kp (wl w51) c2 m') (x1 : Int) (x2 : Int) (x3 : Int) (s0 : Int64) (s1 : Int) (M : ZM) (r : Unit) (m' : ZM) (h : zJ51_53 n zrec2 x1 x2 x3 s0 s1 M = some (r, m')) : kp (wl w51) M m' := by
  unfold zJ51_53 at h
  have g := kp_refl (wl w51) M
  by_cases q1 : s1 < 0 ∨ 3220 ≤ s1
  · rw [if_pos q1] at h
    cases h
  · rw [if_neg q1] at h
    replace g : kp (wl w51) M (z_l M (Int.toNat s1) s0) := kp_l g (by simp [w51])
    rw [zlet] at h
    generalize z_l M (Int.toNat s1) s0 = M7 at h g
    by_cases q2 : x3 < 0 ∨ 3220 ≤ x3
    · rw [if_pos q2] at h
      cases h
    · rw [if_neg q2] at h
      by_cases q3 : x2 < 0 ∨ 128 ≤ x2
      · rw [if_pos q3] at h
        cases h
      · rw [if_neg q3] at h
        by_cases q4 : rg (9 * (x2 - ((Int.tdiv x2 7) * 7)))
        · rw [if_pos q4] at h
          replace g : kp (wl w51) M (z_l M7 (Int.toNat x3) ((M7.2.2 (Int.toNat x3)) ||| (((iz (M7.1 110 (Int.toNat x2))) : Int32).toInt64 <<< (((iz (9 * (x2 - ((Int.tdiv x2 7) * 7)))) : Int32).toInt64 &&& 63)))) := kp_l g (by simp [w51])
          rw [zlet] at h
          generalize z_l M7 (Int.toNat x3) ((M7.2.2 (Int.toNat x3)) ||| (((iz (M7.1 110 (Int.toNat x2))) : Int32).toInt64 <<< (((iz (9 * (x2 - ((Int.tdiv x2 7) * 7)))) : Int32).toInt64 &&& 63))) = M11 at h g
          exact kp_tr g (zJ51_82_kp n zrec2 hrec2 x1 x2 M11 _ _ h)
        · rw [if_neg q4] at h
          cases h
set_option maxRecDepth 100000 in
theorem zJ51_31_kp (n : Nat) (zrec2 : Int → Int → ZM → Option (Unit × ZM)) (hrec2 : ∀ (c0 : Int) (c1 : Int) (c2 : ZM) (r : Unit) (m' : ZM), zrec2 c0 c1 c2 = some (r, m') → kp (wl w51) c2 m') (x1 : Int) (x2 : Int) (x3 : Int) (M : ZM) (r : Unit) (m' : ZM) (h : zJ51_31 n zrec2 x1 x2 x3 M = some (r, m')) : kp (wl w51) M m' := by
  unfold zJ51_31 at h
  have g := kp_refl (wl w51) M
  by_cases q1 : rg (x2 - ((Int.tdiv x2 7) * 7))
  · rw [if_pos q1] at h
    by_cases q2 : (x2 - ((Int.tdiv x2 7) * 7)) = 0
    · rw [if_pos q2] at h
      exact kp_tr g (zJ51_53_kp n zrec2 hrec2 x1 x2 x3 0 x3 M _ _ h)
    · rw [if_neg q2] at h
      by_cases q3 : x3 < 0 ∨ 3220 ≤ x3
      · rw [if_pos q3] at h
        cases h
      · rw [if_neg q3] at h
        exact kp_tr g (zJ51_53_kp n zrec2 hrec2 x1 x2 x3 (M.2.2 (Int.toNat x3)) x3 M _ _ h)
  · rw [if_neg q1] at h
    cases h
set_option maxRecDepth 100000 in
theorem zL51_2_kp (n : Nat) : ∀ (k : Nat) (x1 : Int) (x2 : Int) (M : ZM) (r : Unit) (m' : ZM), zL51_2 n k x1 x2 M = some (r, m') → kp (wl w51) M m' := by
  intro k
  induction k with
  | zero => intro x1 x2 M r m' h; cases h
  | succ k ih =>
    intro x1 x2 M r m' h
    rw [zL51_2] at h
    have g := kp_refl (wl w51) M
    by_cases q1 : 128 ≤ x2
    · rw [if_pos q1] at h
      rw [← (Prod.mk.inj (Option.some.inj h)).2]
      exact g
    · rw [if_neg q1] at h
      by_cases q2 : x2 < 0 ∨ 128 ≤ x2
      · rw [if_pos q2] at h
        cases h
      · rw [if_neg q2] at h
        replace g : kp (wl w51) M (z_i M 108 (Int.toNat x2) (M.1 109 (Int.toNat x2))) := kp_ia g (by simp [w51])
        rw [zlet] at h
        generalize z_i M 108 (Int.toNat x2) (M.1 109 (Int.toNat x2)) = M4 at h g
        by_cases q3 : rg ((20 * x1) + (Int.tdiv x2 7))
        · rw [if_pos q3] at h
          exact kp_tr g (zJ51_31_kp n (zL51_2 n k) ih x1 x2 ((20 * x1) + (Int.tdiv x2 7)) M4 _ _ h)
        · rw [if_neg q3] at h
          cases h
set_option maxRecDepth 100000 in
theorem zF51_kp (n : Nat) (a0 : Int) (M : ZM) (r : Unit) (m' : ZM) (h : zF51 n a0 M = some (r, m')) : kp (wl w51) M m' := by
  unfold zF51 at h
  have g := kp_refl (wl w51) M
  exact kp_tr g (zL51_2_kp n n a0 0 M _ _ h)
def w66 : List (Nat × Nat) := [(108, 1000), (109, 1000), (110, 1000), (111, 1000), (112, 1000), (113, 1000), (114, 1000), (83, 40)]
set_option maxRecDepth 100000 in
theorem zJ66_173_kp (n : Nat) (M : ZM) (r : Int) (m' : ZM) (h : zJ66_173 n M = some (r, m')) : kp (wl w66) M m' := by
  unfold zJ66_173 at h
  have g := kp_refl (wl w66) M
  rw [← (Prod.mk.inj (Option.some.inj h)).2]
  exact g
set_option maxRecDepth 100000 in
theorem zJ66_375_kp (n : Nat) (x6 : Int) (M : ZM) (r : Int) (m' : ZM) (h : zJ66_375 n x6 M = some (r, m')) : kp (wl w66) M m' := by
  unfold zJ66_375 at h
  have g := kp_refl (wl w66) M
  rw [← (Prod.mk.inj (Option.some.inj h)).2]
  exact g
set_option maxRecDepth 100000 in
theorem zJ66_357_kp (n : Nat) (x6 : Int) (M : ZM) (r : Int) (m' : ZM) (h : zJ66_357 n x6 M = some (r, m')) : kp (wl w66) M m' := by
  unfold zJ66_357 at h
  have g := kp_refl (wl w66) M
  by_cases q1 : rg ((M.1 83 40) + 1)
  · rw [if_pos q1] at h
    replace g : kp (wl w66) M (z_i M 83 40 ((M.1 83 40) + 1)) := kp_i g (by simp [w66])
    rw [zlet] at h
    generalize z_i M 83 40 ((M.1 83 40) + 1) = M20 at h g
    cases hc2 : zF51 n (M20.1 83 40) M20 with
    | none => rw [hc2] at h; cases h
    | some w =>
      obtain ⟨v21, M22⟩ := w
      rw [hc2] at h
      dsimp only at h
      replace g := kp_tr g (kp_sub (by simp [w51, w66]) (zF51_kp n (M20.1 83 40) M20 _ _ hc2))
      exact kp_tr g (zJ66_375_kp n x6 M22 _ _ h)
  · rw [if_neg q1] at h
    cases h
set_option maxRecDepth 100000 in
theorem zJ66_330_kp (n : Nat) (zrec225 : Int → Int → Int → Int → Int → ZM → Option (Int × ZM)) (hrec225 : ∀ (c0 : Int) (c1 : Int) (c2 : Int) (c3 : Int) (c4 : Int) (c5 : ZM) (r : Int) (m' : ZM), zrec225 c0 c1 c2 c3 c4 c5 = some (r, m') → kp (wl w66) c5 m') (x1 : Int) (x3 : Int) (x5 : Int) (x6 : Int) (x7 : Int) (M : ZM) (r : Int) (m' : ZM) (h : zJ66_330 n zrec225 x1 x3 x5 x6 x7 M = some (r, m')) : kp (wl w66) M m' := by
  unfold zJ66_330 at h
  have g := kp_refl (wl w66) M
  by_cases q1 : rg (x7 + 1)
  · rw [if_pos q1] at h
    exact kp_tr g (hrec225 x1 x3 x5 x6 (x7 + 1) M _ _ h)
  · rw [if_neg q1] at h
    cases h
set_option maxRecDepth 100000 in
theorem zJ66_318_kp (n : Nat) (zrec225 : Int → Int → Int → Int → Int → ZM → Option (Int × ZM)) (hrec225 : ∀ (c0 : Int) (c1 : Int) (c2 : Int) (c3 : Int) (c4 : Int) (c5 : ZM) (r : Int) (m' : ZM), zrec225 c0 c1 c2 c3 c4 c5 = some (r, m') → kp (wl w66) c5 m') (x1 : Int) (x3 : Int) (x5 : Int) (x6 : Int) (x7 : Int) (s0 : Int) (M : ZM) (r : Int) (m' : ZM) (h : zJ66_318 n zrec225 x1 x3 x5 x6 x7 s0 M = some (r, m')) : kp (wl w66) M m' := by
  unfold zJ66_318 at h
  have g := kp_refl (wl w66) M
  by_cases q1 : x7 < 0 ∨ 128 ≤ x7
  · rw [if_pos q1] at h
    cases h
  · rw [if_neg q1] at h
    cases hc2 : zF49 n s0 (M.1 108 (Int.toNat x7)) x7 M with
    | none => rw [hc2] at h; cases h
    | some w =>
      obtain ⟨v31, M32⟩ := w
      rw [hc2] at h
      dsimp only at h
      replace g := kp_tr g (kp_sub (by simp [w49, w66]) (zF49_kp n s0 (M.1 108 (Int.toNat x7)) x7 M _ _ hc2))
      exact kp_tr g (zJ66_330_kp n zrec225 hrec225 x1 x3 x5 x6 x7 M32 _ _ h)
set_option maxRecDepth 100000 in
theorem zJ66_283_kp (n : Nat) (zrec225 : Int → Int → Int → Int → Int → ZM → Option (Int × ZM)) (hrec225 : ∀ (c0 : Int) (c1 : Int) (c2 : Int) (c3 : Int) (c4 : Int) (c5 : ZM) (r : Int) (m' : ZM), zrec225 c0 c1 c2 c3 c4 c5 = some (r, m') → kp (wl w66) c5 m') (x1 : Int) (x3 : Int) (x5 : Int) (x6 : Int) (x7 : Int) (s0 : Int) (M : ZM) (r : Int) (m' : ZM) (h : zJ66_283 n zrec225 x1 x3 x5 x6 x7 s0 M = some (r, m')) : kp (wl w66) M m' := by
  unfold zJ66_283 at h
  have g := kp_refl (wl w66) M
  by_cases q1 : s0 = 0
  · rw [if_pos q1] at h
    exact kp_tr g (zJ66_330_kp n zrec225 hrec225 x1 x3 x5 x6 x7 M _ _ h)
  · rw [if_neg q1] at h
    by_cases q2 : x7 < 0 ∨ 128 ≤ x7
    · rw [if_pos q2] at h
      cases h
    · rw [if_neg q2] at h
      by_cases q3 : (M.1 90 (Int.toNat x7)) = 5
      · rw [if_pos q3] at h
        by_cases q4 : rg ((M.1 92 (Int.toNat x7)) + 1)
        · rw [if_pos q4] at h
          exact kp_tr g (zJ66_318_kp n zrec225 hrec225 x1 x3 x5 x6 x7 ((M.1 92 (Int.toNat x7)) + 1) M _ _ h)
        · rw [if_neg q4] at h
          cases h
      · rw [if_neg q3] at h
        by_cases q5 : rg (x7 + 1)
        · rw [if_pos q5] at h
          exact kp_tr g (zJ66_318_kp n zrec225 hrec225 x1 x3 x5 x6 x7 (x7 + 1) M _ _ h)
        · rw [if_neg q5] at h
          cases h
set_option maxRecDepth 100000 in
theorem zJ66_282_kp (n : Nat) (zrec225 : Int → Int → Int → Int → Int → ZM → Option (Int × ZM)) (hrec225 : ∀ (c0 : Int) (c1 : Int) (c2 : Int) (c3 : Int) (c4 : Int) (c5 : ZM) (r : Int) (m' : ZM), zrec225 c0 c1 c2 c3 c4 c5 = some (r, m') → kp (wl w66) c5 m') (x1 : Int) (x3 : Int) (x5 : Int) (x6 : Int) (x7 : Int) (M : ZM) (r : Int) (m' : ZM) (h : zJ66_282 n zrec225 x1 x3 x5 x6 x7 M = some (r, m')) : kp (wl w66) M m' := by
  unfold zJ66_282 at h
  have g := kp_refl (wl w66) M
  exact kp_tr g (zJ66_283_kp n zrec225 hrec225 x1 x3 x5 x6 x7 0 M _ _ h)
set_option maxRecDepth 100000 in
theorem zJ66_278_kp (n : Nat) (zrec225 : Int → Int → Int → Int → Int → ZM → Option (Int × ZM)) (hrec225 : ∀ (c0 : Int) (c1 : Int) (c2 : Int) (c3 : Int) (c4 : Int) (c5 : ZM) (r : Int) (m' : ZM), zrec225 c0 c1 c2 c3 c4 c5 = some (r, m') → kp (wl w66) c5 m') (x1 : Int) (x3 : Int) (x5 : Int) (x6 : Int) (x7 : Int) (M : ZM) (r : Int) (m' : ZM) (h : zJ66_278 n zrec225 x1 x3 x5 x6 x7 M = some (r, m')) : kp (wl w66) M m' := by
  unfold zJ66_278 at h
  have g := kp_refl (wl w66) M
  exact kp_tr g (zJ66_283_kp n zrec225 hrec225 x1 x3 x5 x6 x7 1 M _ _ h)
set_option maxRecDepth 100000 in
theorem zL66_225_kp (n : Nat) : ∀ (k : Nat) (x1 : Int) (x3 : Int) (x5 : Int) (x6 : Int) (x7 : Int) (M : ZM) (r : Int) (m' : ZM), zL66_225 n k x1 x3 x5 x6 x7 M = some (r, m') → kp (wl w66) M m' := by
  intro k
  induction k with
  | zero => intro x1 x3 x5 x6 x7 M r m' h; cases h
  | succ k ih =>
    intro x1 x3 x5 x6 x7 M r m' h
    rw [zL66_225] at h
    have g := kp_refl (wl w66) M
    by_cases q1 : 128 ≤ x7
    · rw [if_pos q1] at h
      by_cases q2 : (M.1 83 40) < 0 ∨ 161 ≤ (M.1 83 40)
      · rw [if_pos q2] at h
        cases h
      · rw [if_neg q2] at h
        replace g : kp (wl w66) M (z_i M 112 (Int.toNat (M.1 83 40)) x1) := kp_ia g (by simp [w66])
        rw [zlet] at h
        generalize z_i M 112 (Int.toNat (M.1 83 40)) x1 = M17 at h g
        by_cases q3 : (M17.1 83 40) < 0 ∨ 161 ≤ (M17.1 83 40)
        · rw [if_pos q3] at h
          cases h
        · rw [if_neg q3] at h
          replace g : kp (wl w66) M (z_i M17 113 (Int.toNat (M17.1 83 40)) x6) := kp_ia g (by simp [w66])
          rw [zlet] at h
          generalize z_i M17 113 (Int.toNat (M17.1 83 40)) x6 = M19 at h g
          exact kp_tr g (zJ66_357_kp n x6 M19 _ _ h)
    · rw [if_neg q1] at h
      by_cases q4 : x3 = 1
      · rw [if_pos q4] at h
        by_cases q5 : x7 = x5
        · rw [if_pos q5] at h
          exact kp_tr g (zJ66_283_kp n (zL66_225 n k) ih x1 x3 x5 x6 x7 1 M _ _ h)
        · rw [if_neg q5] at h
          exact kp_tr g (zJ66_283_kp n (zL66_225 n k) ih x1 x3 x5 x6 x7 0 M _ _ h)
      · rw [if_neg q4] at h
        by_cases q6 : x7 < 0 ∨ 128 ≤ x7
        · rw [if_pos q6] at h
          cases h
        · rw [if_neg q6] at h
          by_cases q7 : (M.1 108 (Int.toNat x7)) ≤ 0
          · rw [if_pos q7] at h
            exact kp_tr g (zJ66_282_kp n (zL66_225 n k) ih x1 x3 x5 x6 x7 M _ _ h)
          · rw [if_neg q7] at h
            cases hc8 : zF53 n x7 M with
            | none => rw [hc8] at h; cases h
            | some w =>
              obtain ⟨v36, M37⟩ := w
              rw [hc8] at h
              dsimp only at h
              replace g := kp_tr g (kp_eq _ (zF53_kp n x7 M _ _ hc8))
              by_cases q9 : x1 < 0 ∨ 320 ≤ x1
              · rw [if_pos q9] at h
                cases h
              · rw [if_neg q9] at h
                by_cases q10 : v36 = (M37.1 105 (Int.toNat x1))
                · rw [if_pos q10] at h
                  exact kp_tr g (zJ66_278_kp n (zL66_225 n k) ih x1 x3 x5 x6 x7 M37 _ _ h)
                · rw [if_neg q10] at h
                  exact kp_tr g (zJ66_282_kp n (zL66_225 n k) ih x1 x3 x5 x6 x7 M37 _ _ h)
set_option maxRecDepth 100000 in
theorem zJ66_209_kp (n : Nat) (x1 : Int) (x3 : Int) (x5 : Int) (s0 : Int) (M : ZM) (r : Int) (m' : ZM) (h : zJ66_209 n x1 x3 x5 s0 M = some (r, m')) : kp (wl w66) M m' := by
  unfold zJ66_209 at h
  have g := kp_refl (wl w66) M
  by_cases q1 : 0 ≤ s0
  · rw [if_pos q1] at h
    cases hc2 : zF50 n M with
    | none => rw [hc2] at h; cases h
    | some w =>
      obtain ⟨v12, M13⟩ := w
      rw [hc2] at h
      dsimp only at h
      replace g := kp_tr g (kp_sub (by simp [w50, w66]) (zF50_kp n M _ _ hc2))
      exact kp_tr g (zL66_225_kp n n x1 x3 x5 s0 0 M13 _ _ h)
  · rw [if_neg q1] at h
    rw [← (Prod.mk.inj (Option.some.inj h)).2]
    exact g
set_option maxRecDepth 100000 in
theorem zJ66_176_kp (n : Nat) (x1 : Int) (x2 : Int) (x3 : Int) (x4 : Int) (x5 : Int) (M : ZM) (r : Int) (m' : ZM) (h : zJ66_176 n x1 x2 x3 x4 x5 M = some (r, m')) : kp (wl w66) M m' := by
  unfold zJ66_176 at h
  have g := kp_refl (wl w66) M
  by_cases q1 : rg (x3 + x4)
  · rw [if_pos q1] at h
    by_cases q2 : (x3 + x4) = 0
    · rw [if_pos q2] at h
      rw [← (Prod.mk.inj (Option.some.inj h)).2]
      exact g
    · rw [if_neg q2] at h
      by_cases q3 : x3 = 1
      · rw [if_pos q3] at h
        by_cases q4 : x5 < 0 ∨ 128 ≤ x5
        · rw [if_pos q4] at h
          cases h
        · rw [if_neg q4] at h
          cases hc5 : zF65 n (M.1 94 (Int.toNat x5)) x1 x2 M with
          | none => rw [hc5] at h; cases h
          | some w =>
            obtain ⟨v8, M9⟩ := w
            rw [hc5] at h
            dsimp only at h
            replace g := kp_tr g (kp_eq _ (zF65_kp n (M.1 94 (Int.toNat x5)) x1 x2 M _ _ hc5))
            exact kp_tr g (zJ66_209_kp n x1 x3 x5 v8 M9 _ _ h)
      · rw [if_neg q3] at h
        by_cases q6 : rg (x1 + 1)
        · rw [if_pos q6] at h
          exact kp_tr g (zJ66_209_kp n x1 x3 x5 (x1 + 1) M _ _ h)
        · rw [if_neg q6] at h
          cases h
  · rw [if_neg q1] at h
    cases h
set_option maxRecDepth 100000 in
theorem zJ66_150_kp (n : Nat) (zrec11 : Int → Int → Int → Int → Int → Int → ZM → Option (Int × ZM)) (hrec11 : ∀ (c0 : Int) (c1 : Int) (c2 : Int) (c3 : Int) (c4 : Int) (c5 : Int) (c6 : ZM) (r : Int) (m' : ZM), zrec11 c0 c1 c2 c3 c4 c5 c6 = some (r, m') → kp (wl w66) c6 m') (x1 : Int) (x2 : Int) (x3 : Int) (x4 : Int) (x6 : Int) (s0 : Int) (M : ZM) (r : Int) (m' : ZM) (h : zJ66_150 n zrec11 x1 x2 x3 x4 x6 s0 M = some (r, m')) : kp (wl w66) M m' := by
  unfold zJ66_150 at h
  have g := kp_refl (wl w66) M
  by_cases q1 : rg (x6 + 1)
  · rw [if_pos q1] at h
    exact kp_tr g (hrec11 x1 x2 x3 x4 s0 (x6 + 1) M _ _ h)
  · rw [if_neg q1] at h
    cases h
set_option maxRecDepth 100000 in
theorem zJ66_136_kp (n : Nat) (zrec11 : Int → Int → Int → Int → Int → Int → ZM → Option (Int × ZM)) (hrec11 : ∀ (c0 : Int) (c1 : Int) (c2 : Int) (c3 : Int) (c4 : Int) (c5 : Int) (c6 : ZM) (r : Int) (m' : ZM), zrec11 c0 c1 c2 c3 c4 c5 c6 = some (r, m') → kp (wl w66) c6 m') (x1 : Int) (x2 : Int) (x3 : Int) (x5 : Int) (x6 : Int) (x8 : Int) (s0 : Int) (M : ZM) (r : Int) (m' : ZM) (h : zJ66_136 n zrec11 x1 x2 x3 x5 x6 x8 s0 M = some (r, m')) : kp (wl w66) M m' := by
  unfold zJ66_136 at h
  have g := kp_refl (wl w66) M
  by_cases q1 : x8 = 0
  · rw [if_pos q1] at h
    exact kp_tr g (zJ66_150_kp n zrec11 hrec11 x1 x2 x3 s0 x6 x5 M _ _ h)
  · rw [if_neg q1] at h
    exact kp_tr g (zJ66_150_kp n zrec11 hrec11 x1 x2 x3 s0 x6 x6 M _ _ h)
set_option maxRecDepth 100000 in
theorem zJ66_120_kp (n : Nat) (zrec11 : Int → Int → Int → Int → Int → Int → ZM → Option (Int × ZM)) (hrec11 : ∀ (c0 : Int) (c1 : Int) (c2 : Int) (c3 : Int) (c4 : Int) (c5 : Int) (c6 : ZM) (r : Int) (m' : ZM), zrec11 c0 c1 c2 c3 c4 c5 c6 = some (r, m') → kp (wl w66) c6 m') (x1 : Int) (x2 : Int) (x4 : Int) (x5 : Int) (x6 : Int) (x7 : Int) (x8 : Int) (x9 : Int) (s0 : Int) (M : ZM) (r : Int) (m' : ZM) (h : zJ66_120 n zrec11 x1 x2 x4 x5 x6 x7 x8 x9 s0 M = some (r, m')) : kp (wl w66) M m' := by
  unfold zJ66_120 at h
  have g := kp_refl (wl w66) M
  by_cases q1 : x9 = 0
  · rw [if_pos q1] at h
    exact kp_tr g (zJ66_136_kp n zrec11 hrec11 x1 x2 s0 x5 x6 x8 x4 M _ _ h)
  · rw [if_neg q1] at h
    by_cases q2 : rg (x4 + x7)
    · rw [if_pos q2] at h
      exact kp_tr g (zJ66_136_kp n zrec11 hrec11 x1 x2 s0 x5 x6 x8 (x4 + x7) M _ _ h)
    · rw [if_neg q2] at h
      cases h
set_option maxRecDepth 100000 in
theorem zJ66_105_kp (n : Nat) (zrec11 : Int → Int → Int → Int → Int → Int → ZM → Option (Int × ZM)) (hrec11 : ∀ (c0 : Int) (c1 : Int) (c2 : Int) (c3 : Int) (c4 : Int) (c5 : Int) (c6 : ZM) (r : Int) (m' : ZM), zrec11 c0 c1 c2 c3 c4 c5 c6 = some (r, m') → kp (wl w66) c6 m') (x1 : Int) (x2 : Int) (x3 : Int) (x4 : Int) (x5 : Int) (x6 : Int) (x7 : Int) (x8 : Int) (s0 : Int) (M : ZM) (r : Int) (m' : ZM) (h : zJ66_105 n zrec11 x1 x2 x3 x4 x5 x6 x7 x8 s0 M = some (r, m')) : kp (wl w66) M m' := by
  unfold zJ66_105 at h
  have g := kp_refl (wl w66) M
  by_cases q1 : x8 = 0
  · rw [if_pos q1] at h
    exact kp_tr g (zJ66_120_kp n zrec11 hrec11 x1 x2 x4 x5 x6 x7 x8 s0 x3 M _ _ h)
  · rw [if_neg q1] at h
    by_cases q2 : rg (x3 + x7)
    · rw [if_pos q2] at h
      exact kp_tr g (zJ66_120_kp n zrec11 hrec11 x1 x2 x4 x5 x6 x7 x8 s0 (x3 + x7) M _ _ h)
    · rw [if_neg q2] at h
      cases h
set_option maxRecDepth 100000 in
theorem zJ66_104_kp (n : Nat) (zrec11 : Int → Int → Int → Int → Int → Int → ZM → Option (Int × ZM)) (hrec11 : ∀ (c0 : Int) (c1 : Int) (c2 : Int) (c3 : Int) (c4 : Int) (c5 : Int) (c6 : ZM) (r : Int) (m' : ZM), zrec11 c0 c1 c2 c3 c4 c5 c6 = some (r, m') → kp (wl w66) c6 m') (x1 : Int) (x2 : Int) (x3 : Int) (x4 : Int) (x5 : Int) (x6 : Int) (x7 : Int) (x8 : Int) (M : ZM) (r : Int) (m' : ZM) (h : zJ66_104 n zrec11 x1 x2 x3 x4 x5 x6 x7 x8 M = some (r, m')) : kp (wl w66) M m' := by
  unfold zJ66_104 at h
  have g := kp_refl (wl w66) M
  exact kp_tr g (zJ66_105_kp n zrec11 hrec11 x1 x2 x3 x4 x5 x6 x7 x8 0 M _ _ h)
set_option maxRecDepth 100000 in
theorem zJ66_91_kp (n : Nat) (zrec11 : Int → Int → Int → Int → Int → Int → ZM → Option (Int × ZM)) (hrec11 : ∀ (c0 : Int) (c1 : Int) (c2 : Int) (c3 : Int) (c4 : Int) (c5 : Int) (c6 : ZM) (r : Int) (m' : ZM), zrec11 c0 c1 c2 c3 c4 c5 c6 = some (r, m') → kp (wl w66) c6 m') (x1 : Int) (x2 : Int) (x3 : Int) (x4 : Int) (x5 : Int) (x6 : Int) (x7 : Int) (x8 : Int) (M : ZM) (r : Int) (m' : ZM) (h : zJ66_91 n zrec11 x1 x2 x3 x4 x5 x6 x7 x8 M = some (r, m')) : kp (wl w66) M m' := by
  unfold zJ66_91 at h
  have g := kp_refl (wl w66) M
  cases hc1 : zF53 n x6 M with
  | none => rw [hc1] at h; cases h
  | some w =>
    obtain ⟨v52, M53⟩ := w
    rw [hc1] at h
    dsimp only at h
    replace g := kp_tr g (kp_eq _ (zF53_kp n x6 M _ _ hc1))
    by_cases q2 : v52 = 0
    · rw [if_pos q2] at h
      exact kp_tr g (zJ66_104_kp n zrec11 hrec11 x1 x2 x3 x4 x5 x6 x7 x8 M53 _ _ h)
    · rw [if_neg q2] at h
      exact kp_tr g (zJ66_105_kp n zrec11 hrec11 x1 x2 x3 x4 x5 x6 x7 x8 1 M53 _ _ h)
set_option maxRecDepth 100000 in
theorem zJ66_69_kp (n : Nat) (zrec11 : Int → Int → Int → Int → Int → Int → ZM → Option (Int × ZM)) (hrec11 : ∀ (c0 : Int) (c1 : Int) (c2 : Int) (c3 : Int) (c4 : Int) (c5 : Int) (c6 : ZM) (r : Int) (m' : ZM), zrec11 c0 c1 c2 c3 c4 c5 c6 = some (r, m') → kp (wl w66) c6 m') (x1 : Int) (x2 : Int) (x3 : Int) (x4 : Int) (x5 : Int) (x6 : Int) (x7 : Int) (s0 : Int) (M : ZM) (r : Int) (m' : ZM) (h : zJ66_69 n zrec11 x1 x2 x3 x4 x5 x6 x7 s0 M = some (r, m')) : kp (wl w66) M m' := by
  unfold zJ66_69 at h
  have g := kp_refl (wl w66) M
  by_cases q1 : x7 ≤ 0
  · rw [if_pos q1] at h
    exact kp_tr g (zJ66_104_kp n zrec11 hrec11 x1 x2 x3 x4 x5 x6 x7 s0 M _ _ h)
  · rw [if_neg q1] at h
    cases hc2 : zF53 n x6 M with
    | none => rw [hc2] at h; cases h
    | some w =>
      obtain ⟨v47, M48⟩ := w
      rw [hc2] at h
      dsimp only at h
      replace g := kp_tr g (kp_eq _ (zF53_kp n x6 M _ _ hc2))
      by_cases q3 : x1 < 0 ∨ 320 ≤ x1
      · rw [if_pos q3] at h
        cases h
      · rw [if_neg q3] at h
        by_cases q4 : v47 = (M48.1 105 (Int.toNat x1))
        · rw [if_pos q4] at h
          exact kp_tr g (zJ66_91_kp n zrec11 hrec11 x1 x2 x3 x4 x5 x6 x7 s0 M48 _ _ h)
        · rw [if_neg q4] at h
          exact kp_tr g (zJ66_104_kp n zrec11 hrec11 x1 x2 x3 x4 x5 x6 x7 s0 M48 _ _ h)
set_option maxRecDepth 100000 in
theorem zJ66_68_kp (n : Nat) (zrec11 : Int → Int → Int → Int → Int → Int → ZM → Option (Int × ZM)) (hrec11 : ∀ (c0 : Int) (c1 : Int) (c2 : Int) (c3 : Int) (c4 : Int) (c5 : Int) (c6 : ZM) (r : Int) (m' : ZM), zrec11 c0 c1 c2 c3 c4 c5 c6 = some (r, m') → kp (wl w66) c6 m') (x1 : Int) (x2 : Int) (x3 : Int) (x4 : Int) (x5 : Int) (x6 : Int) (x7 : Int) (M : ZM) (r : Int) (m' : ZM) (h : zJ66_68 n zrec11 x1 x2 x3 x4 x5 x6 x7 M = some (r, m')) : kp (wl w66) M m' := by
  unfold zJ66_68 at h
  have g := kp_refl (wl w66) M
  exact kp_tr g (zJ66_69_kp n zrec11 hrec11 x1 x2 x3 x4 x5 x6 x7 0 M _ _ h)
set_option maxRecDepth 100000 in
theorem zJ66_64_kp (n : Nat) (zrec11 : Int → Int → Int → Int → Int → Int → ZM → Option (Int × ZM)) (hrec11 : ∀ (c0 : Int) (c1 : Int) (c2 : Int) (c3 : Int) (c4 : Int) (c5 : Int) (c6 : ZM) (r : Int) (m' : ZM), zrec11 c0 c1 c2 c3 c4 c5 c6 = some (r, m') → kp (wl w66) c6 m') (x1 : Int) (x2 : Int) (x3 : Int) (x4 : Int) (x5 : Int) (x6 : Int) (x7 : Int) (M : ZM) (r : Int) (m' : ZM) (h : zJ66_64 n zrec11 x1 x2 x3 x4 x5 x6 x7 M = some (r, m')) : kp (wl w66) M m' := by
  unfold zJ66_64 at h
  have g := kp_refl (wl w66) M
  exact kp_tr g (zJ66_69_kp n zrec11 hrec11 x1 x2 x3 x4 x5 x6 x7 1 M _ _ h)
set_option maxRecDepth 100000 in
theorem zJ66_44_kp (n : Nat) (zrec11 : Int → Int → Int → Int → Int → Int → ZM → Option (Int × ZM)) (hrec11 : ∀ (c0 : Int) (c1 : Int) (c2 : Int) (c3 : Int) (c4 : Int) (c5 : Int) (c6 : ZM) (r : Int) (m' : ZM), zrec11 c0 c1 c2 c3 c4 c5 c6 = some (r, m') → kp (wl w66) c6 m') (x1 : Int) (x2 : Int) (x3 : Int) (x4 : Int) (x5 : Int) (x6 : Int) (x7 : Int) (M : ZM) (r : Int) (m' : ZM) (h : zJ66_44 n zrec11 x1 x2 x3 x4 x5 x6 x7 M = some (r, m')) : kp (wl w66) M m' := by
  unfold zJ66_44 at h
  have g := kp_refl (wl w66) M
  by_cases q1 : x6 < 0 ∨ 128 ≤ x6
  · rw [if_pos q1] at h
    cases h
  · rw [if_neg q1] at h
    by_cases q2 : x1 < 0 ∨ 320 ≤ x1
    · rw [if_pos q2] at h
      cases h
    · rw [if_neg q2] at h
      cases hc3 : zF64 n (M.1 94 (Int.toNat x6)) (M.1 105 (Int.toNat x1)) M with
      | none => rw [hc3] at h; cases h
      | some w =>
        obtain ⟨v60, M61⟩ := w
        rw [hc3] at h
        dsimp only at h
        replace g := kp_tr g (kp_eq _ (zF64_kp n (M.1 94 (Int.toNat x6)) (M.1 105 (Int.toNat x1)) M _ _ hc3))
        by_cases q4 : v60 = 0
        · rw [if_pos q4] at h
          exact kp_tr g (zJ66_68_kp n zrec11 hrec11 x1 x2 x3 x4 x5 x6 x7 M61 _ _ h)
        · rw [if_neg q4] at h
          exact kp_tr g (zJ66_64_kp n zrec11 hrec11 x1 x2 x3 x4 x5 x6 x7 M61 _ _ h)
set_option maxRecDepth 100000 in
theorem zL66_11_kp (n : Nat) : ∀ (k : Nat) (x1 : Int) (x2 : Int) (x3 : Int) (x4 : Int) (x5 : Int) (x6 : Int) (M : ZM) (r : Int) (m' : ZM), zL66_11 n k x1 x2 x3 x4 x5 x6 M = some (r, m') → kp (wl w66) M m' := by
  intro k
  induction k with
  | zero => intro x1 x2 x3 x4 x5 x6 M r m' h; cases h
  | succ k ih =>
    intro x1 x2 x3 x4 x5 x6 M r m' h
    rw [zL66_11] at h
    have g := kp_refl (wl w66) M
    by_cases q1 : 128 ≤ x6
    · rw [if_pos q1] at h
      by_cases q2 : 1 < x3
      · rw [if_pos q2] at h
        exact kp_tr g (zJ66_173_kp n M _ _ h)
      · rw [if_neg q2] at h
        by_cases q3 : x3 = 1
        · rw [if_pos q3] at h
          by_cases q4 : x4 ≤ 0
          · rw [if_pos q4] at h
            exact kp_tr g (zJ66_176_kp n x1 x2 x3 x4 x5 M _ _ h)
          · rw [if_neg q4] at h
            exact kp_tr g (zJ66_173_kp n M _ _ h)
        · rw [if_neg q3] at h
          exact kp_tr g (zJ66_176_kp n x1 x2 x3 x4 x5 M _ _ h)
    · rw [if_neg q1] at h
      by_cases q5 : x6 < 0 ∨ 128 ≤ x6
      · rw [if_pos q5] at h
        cases h
      · rw [if_neg q5] at h
        by_cases q6 : (M.1 108 (Int.toNat x6)) ≤ 0
        · rw [if_pos q6] at h
          exact kp_tr g (zJ66_68_kp n (zL66_11 n k) ih x1 x2 x3 x4 x5 x6 (M.1 108 (Int.toNat x6)) M _ _ h)
        · rw [if_neg q6] at h
          by_cases q7 : (M.1 90 (Int.toNat x6)) = 3
          · rw [if_pos q7] at h
            exact kp_tr g (zJ66_44_kp n (zL66_11 n k) ih x1 x2 x3 x4 x5 x6 (M.1 108 (Int.toNat x6)) M _ _ h)
          · rw [if_neg q7] at h
            exact kp_tr g (zJ66_68_kp n (zL66_11 n k) ih x1 x2 x3 x4 x5 x6 (M.1 108 (Int.toNat x6)) M _ _ h)
set_option maxRecDepth 100000 in
theorem zF66_kp (n : Nat) (a0 : Int) (a1 : Int) (M : ZM) (r : Int) (m' : ZM) (h : zF66 n a0 a1 M = some (r, m')) : kp (wl w66) M m' := by
  unfold zF66 at h
  have g := kp_refl (wl w66) M
  exact kp_tr g (zL66_11_kp n n a0 a1 0 0 (-1) 0 M _ _ h)
def w67 : List (Nat × Nat) := [(108, 1000), (109, 1000), (110, 1000), (111, 1000), (112, 1000), (113, 1000), (114, 1000), (116, 1000), (83, 40)]
set_option maxRecDepth 100000 in
theorem zJ67_153_kp (n : Nat) (zrec126 : Int → ZM → Option (Int × ZM)) (hrec126 : ∀ (c0 : Int) (c1 : ZM) (r : Int) (m' : ZM), zrec126 c0 c1 = some (r, m') → kp (wl w67) c1 m') (x6 : Int) (M : ZM) (r : Int) (m' : ZM) (h : zJ67_153 n zrec126 x6 M = some (r, m')) : kp (wl w67) M m' := by
  unfold zJ67_153 at h
  have g := kp_refl (wl w67) M
  by_cases q1 : rg (x6 + (-1))
  · rw [if_pos q1] at h
    exact kp_tr g (hrec126 (x6 + (-1)) M _ _ h)
  · rw [if_neg q1] at h
    cases h
set_option maxRecDepth 100000 in
theorem zL67_126_kp (n : Nat) : ∀ (k : Nat) (x6 : Int) (M : ZM) (r : Int) (m' : ZM), zL67_126 n k x6 M = some (r, m') → kp (wl w67) M m' := by
  intro k
  induction k with
  | zero => intro x6 M r m' h; cases h
  | succ k ih =>
    intro x6 M r m' h
    rw [zL67_126] at h
    have g := kp_refl (wl w67) M
    by_cases q1 : x6 ≤ 0
    · rw [if_pos q1] at h
      rw [← (Prod.mk.inj (Option.some.inj h)).2]
      exact g
    · rw [if_neg q1] at h
      by_cases q2 : x6 < 0 ∨ 162 ≤ x6
      · rw [if_pos q2] at h
        cases h
      · rw [if_neg q2] at h
        cases hc3 : zF52 n x6 (M.1 116 (Int.toNat x6)) M with
        | none => rw [hc3] at h; cases h
        | some w =>
          obtain ⟨v21, M22⟩ := w
          rw [hc3] at h
          dsimp only at h
          replace g := kp_tr g (kp_eq _ (zF52_kp n x6 (M.1 116 (Int.toNat x6)) M _ _ hc3))
          by_cases q4 : rg (x6 - 1)
          · rw [if_pos q4] at h
            by_cases q5 : (x6 - 1) < 0 ∨ 162 ≤ (x6 - 1)
            · rw [if_pos q5] at h
              cases h
            · rw [if_neg q5] at h
              replace g : kp (wl w67) M (z_i M22 116 (Int.toNat (x6 - 1)) v21) := kp_ia g (by simp [w67])
              rw [zlet] at h
              generalize z_i M22 116 (Int.toNat (x6 - 1)) v21 = M25 at h g
              exact kp_tr g (zJ67_153_kp n (zL67_126 n k) ih x6 M25 _ _ h)
          · rw [if_neg q4] at h
            cases h
set_option maxRecDepth 100000 in
theorem zJ67_109_kp (n : Nat) (x4 : Int) (M : ZM) (r : Int) (m' : ZM) (h : zJ67_109 n x4 M = some (r, m')) : kp (wl w67) M m' := by
  unfold zJ67_109 at h
  have g := kp_refl (wl w67) M
  by_cases q1 : (M.1 83 40) < 0 ∨ 162 ≤ (M.1 83 40)
  · rw [if_pos q1] at h
    cases h
  · rw [if_neg q1] at h
    replace g : kp (wl w67) M (z_i M 116 (Int.toNat (M.1 83 40)) x4) := kp_ia g (by simp [w67])
    rw [zlet] at h
    generalize z_i M 116 (Int.toNat (M.1 83 40)) x4 = M18 at h g
    exact kp_tr g (zL67_126_kp n n (M18.1 83 40) M18 _ _ h)
set_option maxRecDepth 100000 in
theorem zJ67_108_kp (n : Nat) (s0 : Int) (M : ZM) (r : Int) (m' : ZM) (h : zJ67_108 n s0 M = some (r, m')) : kp (wl w67) M m' := by
  unfold zJ67_108 at h
  have g := kp_refl (wl w67) M
  rw [← (Prod.mk.inj (Option.some.inj h)).2]
  exact g
set_option maxRecDepth 100000 in
theorem zJ67_97_kp (n : Nat) (x5 : Int) (M : ZM) (r : Int) (m' : ZM) (h : zJ67_97 n x5 M = some (r, m')) : kp (wl w67) M m' := by
  unfold zJ67_97 at h
  have g := kp_refl (wl w67) M
  by_cases q1 : x5 ≤ 1
  · rw [if_pos q1] at h
    exact kp_tr g (zJ67_108_kp n 0 M _ _ h)
  · rw [if_neg q1] at h
    exact kp_tr g (zJ67_108_kp n (-1) M _ _ h)
set_option maxRecDepth 100000 in
theorem zL67_61_kp (n : Nat) : ∀ (k : Nat) (x4 : Int) (M : ZM) (r : Int) (m' : ZM), zL67_61 n k x4 M = some (r, m') → kp (wl w67) M m' := by
  intro k
  induction k with
  | zero => intro x4 M r m' h; cases h
  | succ k ih =>
    intro x4 M r m' h
    rw [zL67_61] at h
    have g := kp_refl (wl w67) M
    by_cases q1 : x4 < 0 ∨ 128 ≤ x4
    · rw [if_pos q1] at h
      cases h
    · rw [if_neg q1] at h
      by_cases q2 : (M.1 90 (Int.toNat x4)) = 6
      · rw [if_pos q2] at h
        by_cases q3 : (M.1 108 (Int.toNat x4)) = 1
        · rw [if_pos q3] at h
          exact kp_tr g (zJ67_109_kp n x4 M _ _ h)
        · rw [if_neg q3] at h
          exact kp_tr g (zJ67_97_kp n (M.1 108 (Int.toNat x4)) M _ _ h)
      · rw [if_neg q2] at h
        by_cases q4 : rg (x4 + 1)
        · rw [if_pos q4] at h
          exact kp_tr g (ih (x4 + 1) M _ _ h)
        · rw [if_neg q4] at h
          cases h
set_option maxRecDepth 100000 in
theorem zJ67_57_kp (n : Nat) (s0 : Int) (M : ZM) (r : Int) (m' : ZM) (h : zJ67_57 n s0 M = some (r, m')) : kp (wl w67) M m' := by
  unfold zJ67_57 at h
  have g := kp_refl (wl w67) M
  rw [← (Prod.mk.inj (Option.some.inj h)).2]
  exact g
set_option maxRecDepth 100000 in
theorem zJ67_42_kp (n : Nat) (x3 : Int) (M : ZM) (r : Int) (m' : ZM) (h : zJ67_42 n x3 M = some (r, m')) : kp (wl w67) M m' := by
  unfold zJ67_42 at h
  have g := kp_refl (wl w67) M
  by_cases q1 : 0 ≤ x3
  · rw [if_pos q1] at h
    exact kp_tr g (zL67_61_kp n n 0 M _ _ h)
  · rw [if_neg q1] at h
    by_cases q2 : x3 = (-2)
    · rw [if_pos q2] at h
      exact kp_tr g (zJ67_57_kp n (-1) M _ _ h)
    · rw [if_neg q2] at h
      exact kp_tr g (zJ67_57_kp n 0 M _ _ h)
set_option maxRecDepth 100000 in
theorem zL67_23_kp (n : Nat) : ∀ (k : Nat) (x2 : Int) (x3 : Int) (M : ZM) (r : Int) (m' : ZM), zL67_23 n k x2 x3 M = some (r, m') → kp (wl w67) M m' := by
  intro k
  induction k with
  | zero => intro x2 x3 M r m' h; cases h
  | succ k ih =>
    intro x2 x3 M r m' h
    rw [zL67_23] at h
    have g := kp_refl (wl w67) M
    by_cases q1 : x3 < 0
    · rw [if_pos q1] at h
      exact kp_tr g (zJ67_42_kp n x3 M _ _ h)
    · rw [if_neg q1] at h
      by_cases q2 : x2 ≤ x3
      · rw [if_pos q2] at h
        exact kp_tr g (zJ67_42_kp n x3 M _ _ h)
      · rw [if_neg q2] at h
        cases hc3 : zF66 n x3 x2 M with
        | none => rw [hc3] at h; cases h
        | some w =>
          obtain ⟨v29, M30⟩ := w
          rw [hc3] at h
          dsimp only at h
          replace g := kp_tr g (kp_sub (by simp [w66, w67]) (zF66_kp n x3 x2 M _ _ hc3))
          exact kp_tr g (ih x2 v29 M30 _ _ h)
set_option maxRecDepth 100000 in
theorem zJ67_18_kp (n : Nat) (x2 : Int) (x3 : Int) (M : ZM) (r : Int) (m' : ZM) (h : zJ67_18 n x2 x3 M = some (r, m')) : kp (wl w67) M m' := by
  unfold zJ67_18 at h
  have g := kp_refl (wl w67) M
  cases hc1 : zF51 n 0 M with
  | none => rw [hc1] at h; cases h
  | some w =>
    obtain ⟨v8, M9⟩ := w
    rw [hc1] at h
    dsimp only at h
    replace g := kp_tr g (kp_sub (by simp [w51, w67]) (zF51_kp n 0 M _ _ hc1))
    exact kp_tr g (zL67_23_kp n n x2 x3 M9 _ _ h)
set_option maxRecDepth 100000 in
theorem zF67_kp (n : Nat) (a0 : Int) (a1 : Int) (M : ZM) (r : Int) (m' : ZM) (h : zF67 n a0 a1 M = some (r, m')) : kp (wl w67) M m' := by
  unfold zF67 at h
  have g := kp_refl (wl w67) M
  replace g : kp (wl w67) M (z_i M 83 40 0) := kp_i g (by simp [w67])
  rw [zlet] at h
  generalize z_i M 83 40 0 = M1 at h g
  cases hc1 : zF50 n M1 with
  | none => rw [hc1] at h; cases h
  | some w =>
    obtain ⟨v2, M3⟩ := w
    rw [hc1] at h
    dsimp only at h
    replace g := kp_tr g (kp_sub (by simp [w50, w67]) (zF50_kp n M1 _ _ hc1))
    cases hc2 : zF49 n 0 1 0 M3 with
    | none => rw [hc2] at h; cases h
    | some w =>
      obtain ⟨v5, M6⟩ := w
      rw [hc2] at h
      dsimp only at h
      replace g := kp_tr g (kp_sub (by simp [w49, w67]) (zF49_kp n 0 1 0 M3 _ _ hc2))
      exact kp_tr g (zJ67_18_kp n a1 a0 M6 _ _ h)
def w81 : List (Nat × Nat) := [(100, 1000), (101, 1000), (102, 1000), (103, 1000), (104, 1000), (105, 1000), (106, 1000), (107, 1000), (108, 1000), (109, 1000), (110, 1000), (111, 1000), (112, 1000), (113, 1000), (114, 1000), (115, 1000), (116, 1000), (117, 1000), (118, 1000), (119, 1000), (120, 1000), (121, 1000), (122, 1000), (123, 1000), (124, 1000), (125, 1000), (126, 1000), (127, 1000), (128, 1000), (83, 3), (83, 4), (83, 5), (83, 6), (83, 7), (83, 8), (83, 27), (83, 30), (83, 31), (83, 32), (83, 33), (83, 34), (83, 38), (83, 40), (83, 52), (83, 56), (83, 62), (85, 1000), (88, 1000), (89, 1000), (90, 1000), (91, 1000), (92, 1000), (93, 1000), (94, 1000), (95, 1000), (96, 1000), (97, 1000), (98, 1000), (99, 1000)]
set_option maxRecDepth 100000 in
theorem zJ81_178_kp (n : Nat) (M : ZM) (r : Int) (m' : ZM) (h : zJ81_178 n M = some (r, m')) : kp (wl w81) M m' := by
  unfold zJ81_178 at h
  have g := kp_refl (wl w81) M
  rw [← (Prod.mk.inj (Option.some.inj h)).2]
  exact g
set_option maxRecDepth 100000 in
theorem zJ81_203_kp (n : Nat) (M : ZM) (r : Int) (m' : ZM) (h : zJ81_203 n M = some (r, m')) : kp (wl w81) M m' := by
  unfold zJ81_203 at h
  have g := kp_refl (wl w81) M
  rw [← (Prod.mk.inj (Option.some.inj h)).2]
  exact g
set_option maxRecDepth 100000 in
theorem zJ81_182_kp (n : Nat) (x4 : Int) (M : ZM) (r : Int) (m' : ZM) (h : zJ81_182 n x4 M = some (r, m')) : kp (wl w81) M m' := by
  unfold zJ81_182 at h
  have g := kp_refl (wl w81) M
  by_cases q1 : rg ((M.1 83 38) + 1)
  · rw [if_pos q1] at h
    replace g : kp (wl w81) M (z_i M 83 38 ((M.1 83 38) + 1)) := kp_i g (by simp [w81])
    rw [zlet] at h
    generalize z_i M 83 38 ((M.1 83 38) + 1) = M21 at h g
    by_cases q2 : (M21.1 83 38) < 0 ∨ 12 ≤ (M21.1 83 38)
    · rw [if_pos q2] at h
      cases h
    · rw [if_neg q2] at h
      replace g : kp (wl w81) M (z_i M21 107 (Int.toNat (M21.1 83 38)) x4) := kp_ia g (by simp [w81])
      rw [zlet] at h
      generalize z_i M21 107 (Int.toNat (M21.1 83 38)) x4 = M23 at h g
      exact kp_tr g (zJ81_203_kp n M23 _ _ h)
  · rw [if_neg q1] at h
    cases h
set_option maxRecDepth 100000 in
theorem zJ81_150_kp (n : Nat) (x1 : Int) (x3 : Int) (x4 : Int) (M : ZM) (r : Int) (m' : ZM) (h : zJ81_150 n x1 x3 x4 M = some (r, m')) : kp (wl w81) M m' := by
  unfold zJ81_150 at h
  have g := kp_refl (wl w81) M
  by_cases q1 : rg ((M.1 83 38) + 1)
  · rw [if_pos q1] at h
    cases hc2 : zF77 n ((M.1 83 38) + 1) M with
    | none => rw [hc2] at h; cases h
    | some w =>
      obtain ⟨v13, M14⟩ := w
      rw [hc2] at h
      dsimp only at h
      replace g := kp_tr g (kp_sub (by simp [w77, w81]) (zF77_kp n ((M.1 83 38) + 1) M _ _ hc2))
      by_cases q3 : v13 = 0
      · rw [if_pos q3] at h
        rw [← (Prod.mk.inj (Option.some.inj h)).2]
        exact g
      · rw [if_neg q3] at h
        by_cases q4 : rg (x3 + 1)
        · rw [if_pos q4] at h
          cases hc5 : zF80 n x1 (x3 + 1) M14 with
          | none => rw [hc5] at h; cases h
          | some w =>
            obtain ⟨v17, M18⟩ := w
            rw [hc5] at h
            dsimp only at h
            replace g := kp_tr g (kp_sub (by simp [w80, w81]) (zF80_kp n x1 (x3 + 1) M14 _ _ hc5))
            by_cases q6 : v17 = 0
            · rw [if_pos q6] at h
              exact kp_tr g (zJ81_178_kp n M18 _ _ h)
            · rw [if_neg q6] at h
              exact kp_tr g (zJ81_182_kp n x4 M18 _ _ h)
        · rw [if_neg q4] at h
          cases h
  · rw [if_neg q1] at h
    cases h
set_option maxRecDepth 100000 in
theorem zJ81_132_kp (n : Nat) (s0 : Int) (M : ZM) (r : Int) (m' : ZM) (h : zJ81_132 n s0 M = some (r, m')) : kp (wl w81) M m' := by
  unfold zJ81_132 at h
  have g := kp_refl (wl w81) M
  rw [← (Prod.mk.inj (Option.some.inj h)).2]
  exact g
set_option maxRecDepth 100000 in
theorem zJ81_113_kp (n : Nat) (x1 : Int) (x3 : Int) (x4 : Int) (x5 : Int) (M : ZM) (r : Int) (m' : ZM) (h : zJ81_113 n x1 x3 x4 x5 M = some (r, m')) : kp (wl w81) M m' := by
  unfold zJ81_113 at h
  have g := kp_refl (wl w81) M
  by_cases q1 : 0 < x5
  · rw [if_pos q1] at h
    by_cases q2 : (M.1 83 38) < 10
    · rw [if_pos q2] at h
      cases hc3 : zF73 n M with
      | none => rw [hc3] at h; cases h
      | some w =>
        obtain ⟨v10, M11⟩ := w
        rw [hc3] at h
        dsimp only at h
        replace g := kp_tr g (kp_sub (by simp [w73, w81]) (zF73_kp n M _ _ hc3))
        exact kp_tr g (zJ81_150_kp n x1 x3 x4 M11 _ _ h)
    · rw [if_neg q2] at h
      rw [← (Prod.mk.inj (Option.some.inj h)).2]
      exact g
  · rw [if_neg q1] at h
    by_cases q4 : 0 ≤ x5
    · rw [if_pos q4] at h
      exact kp_tr g (zJ81_132_kp n (-2001) M _ _ h)
    · rw [if_neg q4] at h
      exact kp_tr g (zJ81_132_kp n (-2002) M _ _ h)
set_option maxRecDepth 100000 in
theorem zJ81_108_kp (n : Nat) (zrec61 : Int → Int → Int → Int → Int → ZM → Option (Int × ZM)) (hrec61 : ∀ (c0 : Int) (c1 : Int) (c2 : Int) (c3 : Int) (c4 : Int) (c5 : ZM) (r : Int) (m' : ZM), zrec61 c0 c1 c2 c3 c4 c5 = some (r, m') → kp (wl w81) c5 m') (x1 : Int) (x2 : Int) (x3 : Int) (x5 : Int) (s0 : Int) (M : ZM) (r : Int) (m' : ZM) (h : zJ81_108 n zrec61 x1 x2 x3 x5 s0 M = some (r, m')) : kp (wl w81) M m' := by
  unfold zJ81_108 at h
  have g := kp_refl (wl w81) M
  exact kp_tr g (hrec61 x1 x2 x3 s0 x5 M _ _ h)
set_option maxRecDepth 100000 in
theorem zJ81_84_kp (n : Nat) (zrec61 : Int → Int → Int → Int → Int → ZM → Option (Int × ZM)) (hrec61 : ∀ (c0 : Int) (c1 : Int) (c2 : Int) (c3 : Int) (c4 : Int) (c5 : ZM) (r : Int) (m' : ZM), zrec61 c0 c1 c2 c3 c4 c5 = some (r, m') → kp (wl w81) c5 m') (x1 : Int) (x2 : Int) (x3 : Int) (x4 : Int) (M : ZM) (r : Int) (m' : ZM) (h : zJ81_84 n zrec61 x1 x2 x3 x4 M = some (r, m')) : kp (wl w81) M m' := by
  unfold zJ81_84 at h
  have g := kp_refl (wl w81) M
  by_cases q1 : rg (x1 + 3)
  · rw [if_pos q1] at h
    cases hc2 : zF67 n (x1 + 3) x3 M with
    | none => rw [hc2] at h; cases h
    | some w =>
      obtain ⟨v29, M30⟩ := w
      rw [hc2] at h
      dsimp only at h
      replace g := kp_tr g (kp_sub (by simp [w67, w81]) (zF67_kp n (x1 + 3) x3 M _ _ hc2))
      by_cases q3 : v29 = 0
      · rw [if_pos q3] at h
        by_cases q4 : rg (x4 + 1)
        · rw [if_pos q4] at h
          exact kp_tr g (zJ81_108_kp n zrec61 hrec61 x1 x2 x3 v29 (x4 + 1) M30 _ _ h)
        · rw [if_neg q4] at h
          cases h
      · rw [if_neg q3] at h
        exact kp_tr g (zJ81_108_kp n zrec61 hrec61 x1 x2 x3 v29 x4 M30 _ _ h)
  · rw [if_neg q1] at h
    cases h
set_option maxRecDepth 100000 in
theorem zL81_61_kp (n : Nat) : ∀ (k : Nat) (x1 : Int) (x2 : Int) (x3 : Int) (x4 : Int) (x5 : Int) (M : ZM) (r : Int) (m' : ZM), zL81_61 n k x1 x2 x3 x4 x5 M = some (r, m') → kp (wl w81) M m' := by
  intro k
  induction k with
  | zero => intro x1 x2 x3 x4 x5 M r m' h; cases h
  | succ k ih =>
    intro x1 x2 x3 x4 x5 M r m' h
    rw [zL81_61] at h
    have g := kp_refl (wl w81) M
    by_cases q1 : x2 < 0 ∨ 6 ≤ x2
    · rw [if_pos q1] at h
      cases h
    · rw [if_neg q1] at h
      by_cases q2 : (M.1 89 (Int.toNat x2)) ≤ x4
      · rw [if_pos q2] at h
        exact kp_tr g (zJ81_113_kp n x1 x3 x4 x5 M _ _ h)
      · rw [if_neg q2] at h
        by_cases q3 : x5 = 0
        · rw [if_pos q3] at h
          cases hc4 : zF33 n x2 x4 M with
          | none => rw [hc4] at h; cases h
          | some w =>
            obtain ⟨v26, M27⟩ := w
            rw [hc4] at h
            dsimp only at h
            replace g := kp_tr g (kp_sub (by simp [w33, w81]) (zF33_kp n x2 x4 M _ _ hc4))
            exact kp_tr g (zJ81_84_kp n (zL81_61 n k) ih x1 x2 x3 x4 M27 _ _ h)
        · rw [if_neg q3] at h
          exact kp_tr g (zJ81_113_kp n x1 x3 x4 x5 M _ _ h)
set_option maxRecDepth 100000 in
theorem zJ81_32_kp (n : Nat) (zrec4 : Int → Int → Int → ZM → Option (Int × ZM)) (hrec4 : ∀ (c0 : Int) (c1 : Int) (c2 : Int) (c3 : ZM) (r : Int) (m' : ZM), zrec4 c0 c1 c2 c3 = some (r, m') → kp (wl w81) c3 m') (x1 : Int) (x3 : Int) (s0 : Int) (M : ZM) (r : Int) (m' : ZM) (h : zJ81_32 n zrec4 x1 x3 s0 M = some (r, m')) : kp (wl w81) M m' := by
  unfold zJ81_32 at h
  have g := kp_refl (wl w81) M
  by_cases q1 : rg (x3 + 1)
  · rw [if_pos q1] at h
    exact kp_tr g (hrec4 x1 s0 (x3 + 1) M _ _ h)
  · rw [if_neg q1] at h
    cases h
set_option maxRecDepth 100000 in
theorem zJ81_27_kp (n : Nat) (zrec4 : Int → Int → Int → ZM → Option (Int × ZM)) (hrec4 : ∀ (c0 : Int) (c1 : Int) (c2 : Int) (c3 : ZM) (r : Int) (m' : ZM), zrec4 c0 c1 c2 c3 = some (r, m') → kp (wl w81) c3 m') (x1 : Int) (x3 : Int) (M : ZM) (r : Int) (m' : ZM) (h : zJ81_27 n zrec4 x1 x3 M = some (r, m')) : kp (wl w81) M m' := by
  unfold zJ81_27 at h
  have g := kp_refl (wl w81) M
  exact kp_tr g (zJ81_32_kp n zrec4 hrec4 x1 x3 x3 M _ _ h)
set_option maxRecDepth 100000 in
theorem zJ81_31_kp (n : Nat) (zrec4 : Int → Int → Int → ZM → Option (Int × ZM)) (hrec4 : ∀ (c0 : Int) (c1 : Int) (c2 : Int) (c3 : ZM) (r : Int) (m' : ZM), zrec4 c0 c1 c2 c3 = some (r, m') → kp (wl w81) c3 m') (x1 : Int) (x2 : Int) (x3 : Int) (M : ZM) (r : Int) (m' : ZM) (h : zJ81_31 n zrec4 x1 x2 x3 M = some (r, m')) : kp (wl w81) M m' := by
  unfold zJ81_31 at h
  have g := kp_refl (wl w81) M
  exact kp_tr g (zJ81_32_kp n zrec4 hrec4 x1 x3 x2 M _ _ h)
set_option maxRecDepth 100000 in
theorem zL81_4_kp (n : Nat) : ∀ (k : Nat) (x1 : Int) (x2 : Int) (x3 : Int) (M : ZM) (r : Int) (m' : ZM), zL81_4 n k x1 x2 x3 M = some (r, m') → kp (wl w81) M m' := by
  intro k
  induction k with
  | zero => intro x1 x2 x3 M r m' h; cases h
  | succ k ih =>
    intro x1 x2 x3 M r m' h
    rw [zL81_4] at h
    have g := kp_refl (wl w81) M
    by_cases q1 : (M.1 83 9) ≤ x3
    · rw [if_pos q1] at h
      by_cases q2 : 0 ≤ x2
      · rw [if_pos q2] at h
        by_cases q3 : rg (x1 + 2)
        · rw [if_pos q3] at h
          cases hc4 : zF61 n (x1 + 2) M with
          | none => rw [hc4] at h; cases h
          | some w =>
            obtain ⟨v3, M4⟩ := w
            rw [hc4] at h
            dsimp only at h
            replace g := kp_tr g (kp_eq _ (zF61_kp n (x1 + 2) M _ _ hc4))
            exact kp_tr g (zL81_61_kp n n x1 x2 v3 0 0 M4 _ _ h)
        · rw [if_neg q3] at h
          cases h
      · rw [if_neg q2] at h
        rw [← (Prod.mk.inj (Option.some.inj h)).2]
        exact g
    · rw [if_neg q1] at h
      by_cases q5 : x3 < 0 ∨ 6 ≤ x3
      · rw [if_pos q5] at h
        cases h
      · rw [if_neg q5] at h
        by_cases q6 : x1 < 0 ∨ 320 ≤ x1
        · rw [if_pos q6] at h
          cases h
        · rw [if_neg q6] at h
          by_cases q7 : (M.1 88 (Int.toNat x3)) = (M.1 105 (Int.toNat x1))
          · rw [if_pos q7] at h
            exact kp_tr g (zJ81_27_kp n (zL81_4 n k) ih x1 x3 M _ _ h)
          · rw [if_neg q7] at h
            exact kp_tr g (zJ81_31_kp n (zL81_4 n k) ih x1 x2 x3 M _ _ h)
set_option maxRecDepth 100000 in
theorem zF81_kp (n : Nat) (a0 : Int) (M : ZM) (r : Int) (m' : ZM) (h : zF81 n a0 M = some (r, m')) : kp (wl w81) M m' := by
  unfold zF81 at h
  have g := kp_refl (wl w81) M
  exact kp_tr g (zL81_4_kp n n a0 (-1) 0 M _ _ h)
def w82 : List (Nat × Nat) := [(100, 1000), (101, 1000), (102, 1000), (103, 1000), (104, 1000), (105, 1000), (106, 1000), (107, 1000), (108, 1000), (109, 1000), (110, 1000), (111, 1000), (112, 1000), (113, 1000), (114, 1000), (115, 1000), (116, 1000), (117, 1000), (118, 1000), (119, 1000), (120, 1000), (121, 1000), (122, 1000), (123, 1000), (124, 1000), (125, 1000), (126, 1000), (127, 1000), (128, 1000), (83, 1), (83, 3), (83, 4), (83, 5), (83, 6), (83, 7), (83, 8), (83, 27), (83, 30), (83, 31), (83, 32), (83, 33), (83, 34), (83, 37), (83, 38), (83, 40), (83, 52), (83, 56), (83, 62), (85, 1000), (88, 1000), (89, 1000), (90, 1000), (91, 1000), (92, 1000), (93, 1000), (94, 1000), (95, 1000), (96, 1000), (97, 1000), (98, 1000), (99, 1000)]
set_option maxRecDepth 100000 in
theorem zJ82_52_kp (n : Nat) (zrec30 : Int → ZM → Option (Int × ZM)) (hrec30 : ∀ (c0 : Int) (c1 : ZM) (r : Int) (m' : ZM), zrec30 c0 c1 = some (r, m') → kp (wl w82) c1 m') (x1 : Int) (x2 : Int) (M : ZM) (r : Int) (m' : ZM) (h : zJ82_52 n zrec30 x1 x2 M = some (r, m')) : kp (wl w82) M m' := by
  unfold zJ82_52 at h
  have g := kp_refl (wl w82) M
  by_cases q1 : 0 ≤ x2
  · rw [if_pos q1] at h
    exact kp_tr g (hrec30 x1 M _ _ h)
  · rw [if_neg q1] at h
    rw [← (Prod.mk.inj (Option.some.inj h)).2]
    exact g
set_option maxRecDepth 100000 in
theorem zL82_30_kp (n : Nat) : ∀ (k : Nat) (x1 : Int) (M : ZM) (r : Int) (m' : ZM), zL82_30 n k x1 M = some (r, m') → kp (wl w82) M m' := by
  intro k
  induction k with
  | zero => intro x1 M r m' h; cases h
  | succ k ih =>
    intro x1 M r m' h
    rw [zL82_30] at h
    have g := kp_refl (wl w82) M
    by_cases q1 : (M.1 83 34) ≤ x1
    · rw [if_pos q1] at h
      replace g : kp (wl w82) M (z_i M 83 37 (M.1 83 34)) := kp_i g (by simp [w82])
      rw [zlet] at h
      generalize z_i M 83 37 (M.1 83 34) = M11 at h g
      rw [← (Prod.mk.inj (Option.some.inj h)).2]
      exact g
    · rw [if_neg q1] at h
      cases hc2 : zF79 n x1 M with
      | none => rw [hc2] at h; cases h
      | some w =>
        obtain ⟨v12, M13⟩ := w
        rw [hc2] at h
        dsimp only at h
        replace g := kp_tr g (kp_eq _ (zF79_kp n x1 M _ _ hc2))
        by_cases q3 : v12 = 0
        · rw [if_pos q3] at h
          by_cases q4 : rg (x1 + 1)
          · rw [if_pos q4] at h
            exact kp_tr g (ih (x1 + 1) M13 _ _ h)
          · rw [if_neg q4] at h
            cases h
        · rw [if_neg q3] at h
          cases hc5 : zF81 n x1 M13 with
          | none => rw [hc5] at h; cases h
          | some w =>
            obtain ⟨v16, M17⟩ := w
            rw [hc5] at h
            dsimp only at h
            replace g := kp_tr g (kp_sub (by simp [w81, w82]) (zF81_kp n x1 M13 _ _ hc5))
            exact kp_tr g (zJ82_52_kp n (zL82_30 n k) ih x1 v16 M17 _ _ h)
set_option maxRecDepth 100000 in
theorem zJ82_14_kp (n : Nat) (M : ZM) (r : Int) (m' : ZM) (h : zJ82_14 n M = some (r, m')) : kp (wl w82) M m' := by
  unfold zJ82_14 at h
  have g := kp_refl (wl w82) M
  cases hc1 : zF78 n M with
  | none => rw [hc1] at h; cases h
  | some w =>
    obtain ⟨v6, M7⟩ := w
    rw [hc1] at h
    dsimp only at h
    replace g := kp_tr g (kp_sub (by simp [w78, w82]) (zF78_kp n M _ _ hc1))
    by_cases q2 : v6 = 0
    · rw [if_pos q2] at h
      by_cases q3 : rg ((-1) - (M7.1 83 8))
      · rw [if_pos q3] at h
        rw [← (Prod.mk.inj (Option.some.inj h)).2]
        exact g
      · rw [if_neg q3] at h
        cases h
    · rw [if_neg q2] at h
      exact kp_tr g (zL82_30_kp n n 0 M7 _ _ h)
set_option maxRecDepth 100000 in
theorem zF82_kp (n : Nat) (M : ZM) (r : Int) (m' : ZM) (h : zF82 n M = some (r, m')) : kp (wl w82) M m' := by
  unfold zF82 at h
  have g := kp_refl (wl w82) M
  replace g : kp (wl w82) M (z_i M 83 37 0) := kp_i g (by simp [w82])
  rw [zlet] at h
  generalize z_i M 83 37 0 = M1 at h g
  replace g : kp (wl w82) M (z_i M1 83 38 0) := kp_i g (by simp [w82])
  rw [zlet] at h
  generalize z_i M1 83 38 0 = M2 at h g
  cases hc1 : zF32 n M2 with
  | none => rw [hc1] at h; cases h
  | some w =>
    obtain ⟨v3, M4⟩ := w
    rw [hc1] at h
    dsimp only at h
    replace g := kp_tr g (kp_sub (by simp [w32, w82]) (zF32_kp n M2 _ _ hc1))
    exact kp_tr g (zJ82_14_kp n M4 _ _ h)
def w202 : List (Nat × Nat) := [(1, 2)]
set_option maxRecDepth 100000 in
theorem zL202_61_kp (n : Nat) : ∀ (k : Nat) (x1 : Int) (x2 : Int) (M : ZM) (r : Int) (m' : ZM), zL202_61 n k x1 x2 M = some (r, m') → kp (wl w202) M m' := by
  intro k
  induction k with
  | zero => intro x1 x2 M r m' h; cases h
  | succ k ih =>
    intro x1 x2 M r m' h
    rw [zL202_61] at h
    have g := kp_refl (wl w202) M
    by_cases q1 : (M.1 1 2) ≤ x2
    · rw [if_pos q1] at h
      by_cases q2 : rg (1000 + x1)
      · rw [if_pos q2] at h
        rw [← (Prod.mk.inj (Option.some.inj h)).2]
        exact g
      · rw [if_neg q2] at h
        cases h
    · rw [if_neg q1] at h
      by_cases q3 : x2 < 0 ∨ 120 ≤ x2
      · rw [if_pos q3] at h
        cases h
      · rw [if_neg q3] at h
        by_cases q4 : rg ((((x1 * 27) + (M.1 2 (Int.toNat x2))) - 97) + 1) ∧ rg (x2 + 1)
        · rw [if_pos q4] at h
          exact kp_tr g (ih ((((x1 * 27) + (M.1 2 (Int.toNat x2))) - 97) + 1) (x2 + 1) M _ _ h)
        · rw [if_neg q4] at h
          cases h
set_option maxRecDepth 100000 in
theorem zJ202_39_kp (n : Nat) (M : ZM) (r : Int) (m' : ZM) (h : zJ202_39 n M = some (r, m')) : kp (wl w202) M m' := by
  unfold zJ202_39 at h
  have g := kp_refl (wl w202) M
  by_cases q1 : rg ((M.1 1 2) - (M.1 1 3))
  · rw [if_pos q1] at h
    by_cases q2 : ((M.1 1 2) - (M.1 1 3)) ≤ 3
    · rw [if_pos q2] at h
      exact kp_tr g (zL202_61_kp n n 0 (M.1 1 3) M _ _ h)
    · rw [if_neg q2] at h
      rw [← (Prod.mk.inj (Option.some.inj h)).2]
      exact g
  · rw [if_neg q1] at h
    cases h
set_option maxRecDepth 100000 in
theorem zJ202_26_kp (n : Nat) (zrec0 : ZM → Option (Int × ZM)) (hrec0 : ∀ (c0 : ZM) (r : Int) (m' : ZM), zrec0 c0 = some (r, m') → kp (wl w202) c0 m') (M : ZM) (r : Int) (m' : ZM) (h : zJ202_26 n zrec0 M = some (r, m')) : kp (wl w202) M m' := by
  unfold zJ202_26 at h
  have g := kp_refl (wl w202) M
  by_cases q1 : rg ((M.1 1 2) + 1)
  · rw [if_pos q1] at h
    replace g : kp (wl w202) M (z_i M 1 2 ((M.1 1 2) + 1)) := kp_i g (by simp [w202])
    rw [zlet] at h
    generalize z_i M 1 2 ((M.1 1 2) + 1) = M10 at h g
    exact kp_tr g (hrec0 M10 _ _ h)
  · rw [if_neg q1] at h
    cases h
set_option maxRecDepth 100000 in
theorem zL202_0_kp (n : Nat) : ∀ (k : Nat) (M : ZM) (r : Int) (m' : ZM), zL202_0 n k M = some (r, m') → kp (wl w202) M m' := by
  intro k
  induction k with
  | zero => intro M r m' h; cases h
  | succ k ih =>
    intro M r m' h
    rw [zL202_0] at h
    have g := kp_refl (wl w202) M
    by_cases q1 : (M.1 1 1) ≤ (M.1 1 2)
    · rw [if_pos q1] at h
      exact kp_tr g (zJ202_39_kp n M _ _ h)
    · rw [if_neg q1] at h
      by_cases q2 : (M.1 1 2) < 0 ∨ 120 ≤ (M.1 1 2)
      · rw [if_pos q2] at h
        cases h
      · rw [if_neg q2] at h
        cases hc3 : zF205 n (M.1 2 (Int.toNat (M.1 1 2))) M with
        | none => rw [hc3] at h; cases h
        | some w =>
          obtain ⟨v6, M7⟩ := w
          rw [hc3] at h
          dsimp only at h
          replace g := kp_tr g (kp_eq _ (zF205_kp n (M.1 2 (Int.toNat (M.1 1 2))) M _ _ hc3))
          by_cases q4 : v6 = 0
          · rw [if_pos q4] at h
            exact kp_tr g (zJ202_39_kp n M7 _ _ h)
          · rw [if_neg q4] at h
            exact kp_tr g (zJ202_26_kp n (zL202_0 n k) ih M7 _ _ h)
set_option maxRecDepth 100000 in
theorem zF202_kp (n : Nat) (M : ZM) (r : Int) (m' : ZM) (h : zF202 n M = some (r, m')) : kp (wl w202) M m' := by
  unfold zF202 at h
  have g := kp_refl (wl w202) M
  exact kp_tr g (zL202_0_kp n n M _ _ h)
def w203 : List (Nat × Nat) := [(1, 2)]
set_option maxRecDepth 100000 in
theorem zJ203_73_kp (n : Nat) (M : ZM) (r : Int) (m' : ZM) (h : zJ203_73 n M = some (r, m')) : kp (wl w203) M m' := by
  unfold zJ203_73 at h
  have g := kp_refl (wl w203) M
  rw [← (Prod.mk.inj (Option.some.inj h)).2]
  exact g
set_option maxRecDepth 100000 in
theorem zL203_82_kp (n : Nat) : ∀ (k : Nat) (x2 : Int) (x3 : Int) (M : ZM) (r : Int) (m' : ZM), zL203_82 n k x2 x3 M = some (r, m') → kp (wl w203) M m' := by
  intro k
  induction k with
  | zero => intro x2 x3 M r m' h; cases h
  | succ k ih =>
    intro x2 x3 M r m' h
    rw [zL203_82] at h
    have g := kp_refl (wl w203) M
    by_cases q1 : (M.1 1 2) ≤ x3
    · rw [if_pos q1] at h
      by_cases q2 : rg (300 + x2)
      · rw [if_pos q2] at h
        rw [← (Prod.mk.inj (Option.some.inj h)).2]
        exact g
      · rw [if_neg q2] at h
        cases h
    · rw [if_neg q1] at h
      by_cases q3 : x3 < 0 ∨ 120 ≤ x3
      · rw [if_pos q3] at h
        cases h
      · rw [if_neg q3] at h
        by_cases q4 : rg (((x2 * 10) + (M.1 2 (Int.toNat x3))) - 48) ∧ rg (x3 + 1)
        · rw [if_pos q4] at h
          exact kp_tr g (ih (((x2 * 10) + (M.1 2 (Int.toNat x3))) - 48) (x3 + 1) M _ _ h)
        · rw [if_neg q4] at h
          cases h
set_option maxRecDepth 100000 in
theorem zJ203_75_kp (n : Nat) (M : ZM) (r : Int) (m' : ZM) (h : zJ203_75 n M = some (r, m')) : kp (wl w203) M m' := by
  unfold zJ203_75 at h
  have g := kp_refl (wl w203) M
  exact kp_tr g (zL203_82_kp n n 0 (M.1 1 3) M _ _ h)
set_option maxRecDepth 100000 in
theorem zJ203_39_kp (n : Nat) (M : ZM) (r : Int) (m' : ZM) (h : zJ203_39 n M = some (r, m')) : kp (wl w203) M m' := by
  unfold zJ203_39 at h
  have g := kp_refl (wl w203) M
  by_cases q1 : rg ((M.1 1 2) - (M.1 1 3))
  · rw [if_pos q1] at h
    by_cases q2 : 2 < ((M.1 1 2) - (M.1 1 3))
    · rw [if_pos q2] at h
      exact kp_tr g (zJ203_73_kp n M _ _ h)
    · rw [if_neg q2] at h
      by_cases q3 : ((M.1 1 2) - (M.1 1 3)) = 2
      · rw [if_pos q3] at h
        by_cases q4 : (M.1 1 3) < 0 ∨ 120 ≤ (M.1 1 3)
        · rw [if_pos q4] at h
          cases h
        · rw [if_neg q4] at h
          by_cases q5 : (M.1 2 (Int.toNat (M.1 1 3))) = 48
          · rw [if_pos q5] at h
            exact kp_tr g (zJ203_73_kp n M _ _ h)
          · rw [if_neg q5] at h
            exact kp_tr g (zJ203_75_kp n M _ _ h)
      · rw [if_neg q3] at h
        exact kp_tr g (zJ203_75_kp n M _ _ h)
  · rw [if_neg q1] at h
    cases h
set_option maxRecDepth 100000 in
theorem zJ203_26_kp (n : Nat) (zrec0 : ZM → Option (Int × ZM)) (hrec0 : ∀ (c0 : ZM) (r : Int) (m' : ZM), zrec0 c0 = some (r, m') → kp (wl w203) c0 m') (M : ZM) (r : Int) (m' : ZM) (h : zJ203_26 n zrec0 M = some (r, m')) : kp (wl w203) M m' := by
  unfold zJ203_26 at h
  have g := kp_refl (wl w203) M
  by_cases q1 : rg ((M.1 1 2) + 1)
  · rw [if_pos q1] at h
    replace g : kp (wl w203) M (z_i M 1 2 ((M.1 1 2) + 1)) := kp_i g (by simp [w203])
    rw [zlet] at h
    generalize z_i M 1 2 ((M.1 1 2) + 1) = M13 at h g
    exact kp_tr g (hrec0 M13 _ _ h)
  · rw [if_neg q1] at h
    cases h
set_option maxRecDepth 100000 in
theorem zL203_0_kp (n : Nat) : ∀ (k : Nat) (M : ZM) (r : Int) (m' : ZM), zL203_0 n k M = some (r, m') → kp (wl w203) M m' := by
  intro k
  induction k with
  | zero => intro M r m' h; cases h
  | succ k ih =>
    intro M r m' h
    rw [zL203_0] at h
    have g := kp_refl (wl w203) M
    by_cases q1 : (M.1 1 1) ≤ (M.1 1 2)
    · rw [if_pos q1] at h
      exact kp_tr g (zJ203_39_kp n M _ _ h)
    · rw [if_neg q1] at h
      by_cases q2 : (M.1 1 2) < 0 ∨ 120 ≤ (M.1 1 2)
      · rw [if_pos q2] at h
        cases h
      · rw [if_neg q2] at h
        cases hc3 : zF206 n (M.1 2 (Int.toNat (M.1 1 2))) M with
        | none => rw [hc3] at h; cases h
        | some w =>
          obtain ⟨v9, M10⟩ := w
          rw [hc3] at h
          dsimp only at h
          replace g := kp_tr g (kp_eq _ (zF206_kp n (M.1 2 (Int.toNat (M.1 1 2))) M _ _ hc3))
          by_cases q4 : v9 = 0
          · rw [if_pos q4] at h
            exact kp_tr g (zJ203_39_kp n M10 _ _ h)
          · rw [if_neg q4] at h
            exact kp_tr g (zJ203_26_kp n (zL203_0 n k) ih M10 _ _ h)
set_option maxRecDepth 100000 in
theorem zF203_kp (n : Nat) (M : ZM) (r : Int) (m' : ZM) (h : zF203 n M = some (r, m')) : kp (wl w203) M m' := by
  unfold zF203 at h
  have g := kp_refl (wl w203) M
  exact kp_tr g (zL203_0_kp n n M _ _ h)
set_option maxRecDepth 100000 in
theorem zF136_kp (n : Nat) (M : ZM) (r : Option Nat) (m' : ZM) (h : zF136 n M = some (r, m')) : m' = M := by
  unfold zF136 at h
  have g : M = M := rfl
  cases hq1 : M.2.1 12 4 with
  | none =>
    rw [hq1] at h
    dsimp only at h
    cases h
  | some p1 =>
    rw [hq1] at h
    dsimp only at h
    by_cases q2 : isR p1
    · rw [if_pos q2] at h
      exact (Prod.mk.inj (Option.some.inj h)).2.symm.trans g
    · rw [if_neg q2] at h
      cases h
def w146 : List (Nat × Nat) := [(12, 4), (12, 5)]
set_option maxRecDepth 100000 in
theorem zJ146_13_kp (n : Nat) (y1 : Nat) (M : ZM) (r : Unit) (m' : ZM) (h : zJ146_13 n y1 M = some (r, m')) : kp (wl w146) M m' := by
  unfold zJ146_13 at h
  have g := kp_refl (wl w146) M
  replace g : kp (wl w146) M (z_r M 12 5 (some y1)) := kp_r g (by simp [w146])
  rw [zlet] at h
  generalize z_r M 12 5 (some y1) = M8 at h g
  rw [← (Prod.mk.inj (Option.some.inj h)).2]
  exact g
set_option maxRecDepth 100000 in
theorem zF146_kp (n : Nat) (M : ZM) (r : Unit) (m' : ZM) (h : zF146 n M = some (r, m')) : kp (wl w146) M m' := by
  unfold zF146 at h
  have g := kp_refl (wl w146) M
  cases hq1 : M.2.1 12 4 with
  | none =>
    rw [hq1] at h
    dsimp only at h
    cases h
  | some p1 =>
    rw [hq1] at h
    dsimp only at h
    by_cases q2 : isR p1
    · rw [if_pos q2] at h
      cases hq3 : M.2.1 12 5 with
      | none =>
        rw [hq3] at h
        dsimp only at h
        cases h
      | some p4 =>
        rw [hq3] at h
        dsimp only at h
        by_cases q4 : isR p4
        · rw [if_pos q4] at h
          replace g : kp (wl w146) M (z_r M 12 4 (some p4)) := kp_r g (by simp [w146])
          rw [zlet] at h
          generalize z_r M 12 4 (some p4) = M7 at h g
          exact kp_tr g (zJ146_13_kp n p1 M7 _ _ h)
        · rw [if_neg q4] at h
          cases h
    · rw [if_neg q2] at h
      cases h
set_option maxRecDepth 100000 in
theorem zF148_kp (n : Nat) (M : ZM) (r : Option Nat) (m' : ZM) (h : zF148 n M = some (r, m')) : m' = M := by
  unfold zF148 at h
  have g : M = M := rfl
  exact (Prod.mk.inj (Option.some.inj h)).2.symm.trans g
def w150 : List (Nat × Nat) := [(22, 1000)]
set_option maxRecDepth 100000 in
theorem zJ150_67_kp (n : Nat) (s0 : Int) (M : ZM) (r : Int) (m' : ZM) (h : zJ150_67 n s0 M = some (r, m')) : kp (wl w150) M m' := by
  unfold zJ150_67 at h
  have g := kp_refl (wl w150) M
  rw [← (Prod.mk.inj (Option.some.inj h)).2]
  exact g
set_option maxRecDepth 100000 in
theorem zJ150_45_kp (n : Nat) (x1 : Int) (M : ZM) (r : Int) (m' : ZM) (h : zJ150_45 n x1 M = some (r, m')) : kp (wl w150) M m' := by
  unfold zJ150_45 at h
  have g := kp_refl (wl w150) M
  by_cases q1 : x1 = 0
  · rw [if_pos q1] at h
    exact kp_tr g (zJ150_67_kp n (-2001) M _ _ h)
  · rw [if_neg q1] at h
    by_cases q2 : x1 = 1
    · rw [if_pos q2] at h
      exact kp_tr g (zJ150_67_kp n 0 M _ _ h)
    · rw [if_neg q2] at h
      exact kp_tr g (zJ150_67_kp n (-2002) M _ _ h)
set_option maxRecDepth 100000 in
theorem zJ150_27_kp (n : Nat) (zrec2 : Int → ZM → Option (Int × ZM)) (hrec2 : ∀ (c0 : Int) (c1 : ZM) (r : Int) (m' : ZM), zrec2 c0 c1 = some (r, m') → kp (wl w150) c1 m') (x1 : Int) (M : ZM) (r : Int) (m' : ZM) (h : zJ150_27 n zrec2 x1 M = some (r, m')) : kp (wl w150) M m' := by
  unfold zJ150_27 at h
  have g := kp_refl (wl w150) M
  by_cases q1 : rg (x1 + 1)
  · rw [if_pos q1] at h
    exact kp_tr g (hrec2 (x1 + 1) M _ _ h)
  · rw [if_neg q1] at h
    cases h
set_option maxRecDepth 100000 in
theorem zL150_2_kp (n : Nat) : ∀ (k : Nat) (x1 : Int) (M : ZM) (r : Int) (m' : ZM), zL150_2 n k x1 M = some (r, m') → kp (wl w150) M m' := by
  intro k
  induction k with
  | zero => intro x1 M r m' h; cases h
  | succ k ih =>
    intro x1 M r m' h
    rw [zL150_2] at h
    have g := kp_refl (wl w150) M
    by_cases q1 : 4 ≤ x1
    · rw [if_pos q1] at h
      cases hq2 : M.2.1 16 1 with
      | none =>
        rw [hq2] at h
        dsimp only at h
        cases h
      | some p2 =>
        rw [hq2] at h
        dsimp only at h
        by_cases q3 : isT p2
        · rw [if_pos q3] at h
          cases hc4 : zF188 n p2 (M.1 16 5) M with
          | none => rw [hc4] at h; cases h
          | some w =>
            obtain ⟨v5, M6⟩ := w
            rw [hc4] at h
            dsimp only at h
            replace g := kp_tr g (kp_eq _ (zF188_kp n p2 (M.1 16 5) M _ _ hc4))
            exact kp_tr g (zJ150_45_kp n v5 M6 _ _ h)
        · rw [if_neg q3] at h
          cases h
    · rw [if_neg q1] at h
      cases hq5 : M.2.1 16 1 with
      | none =>
        rw [hq5] at h
        dsimp only at h
        cases h
      | some p10 =>
        rw [hq5] at h
        dsimp only at h
        by_cases q6 : isT p10
        · rw [if_pos q6] at h
          cases hc7 : zF189 n p10 (M.1 16 5) x1 M with
          | none => rw [hc7] at h; cases h
          | some w =>
            obtain ⟨v13, M14⟩ := w
            rw [hc7] at h
            dsimp only at h
            replace g := kp_tr g (kp_eq _ (zF189_kp n p10 (M.1 16 5) x1 M _ _ hc7))
            cases hc8 : zF180 n x1 v13 M14 with
            | none => rw [hc8] at h; cases h
            | some w =>
              obtain ⟨v16, M17⟩ := w
              rw [hc8] at h
              dsimp only at h
              replace g := kp_tr g (kp_sub (by simp [w180, w150]) (zF180_kp n x1 v13 M14 _ _ hc8))
              exact kp_tr g (zJ150_27_kp n (zL150_2 n k) ih x1 M17 _ _ h)
        · rw [if_neg q6] at h
          cases h
set_option maxRecDepth 100000 in
theorem zF150_kp (n : Nat) (M : ZM) (r : Int) (m' : ZM) (h : zF150 n M = some (r, m')) : kp (wl w150) M m' := by
  unfold zF150 at h
  have g := kp_refl (wl w150) M
  exact kp_tr g (zL150_2_kp n n 0 M _ _ h)
def w156 : List (Nat × Nat) := [(16, 1), (16, 2)]
set_option maxRecDepth 100000 in
theorem zJ156_13_kp (n : Nat) (y1 : Nat) (M : ZM) (r : Unit) (m' : ZM) (h : zJ156_13 n y1 M = some (r, m')) : kp (wl w156) M m' := by
  unfold zJ156_13 at h
  have g := kp_refl (wl w156) M
  replace g : kp (wl w156) M (z_r M 16 2 (some y1)) := kp_r g (by simp [w156])
  rw [zlet] at h
  generalize z_r M 16 2 (some y1) = M8 at h g
  rw [← (Prod.mk.inj (Option.some.inj h)).2]
  exact g
set_option maxRecDepth 100000 in
theorem zF156_kp (n : Nat) (M : ZM) (r : Unit) (m' : ZM) (h : zF156 n M = some (r, m')) : kp (wl w156) M m' := by
  unfold zF156 at h
  have g := kp_refl (wl w156) M
  cases hq1 : M.2.1 16 1 with
  | none =>
    rw [hq1] at h
    dsimp only at h
    cases h
  | some p1 =>
    rw [hq1] at h
    dsimp only at h
    by_cases q2 : isT p1
    · rw [if_pos q2] at h
      cases hq3 : M.2.1 16 2 with
      | none =>
        rw [hq3] at h
        dsimp only at h
        cases h
      | some p4 =>
        rw [hq3] at h
        dsimp only at h
        by_cases q4 : isT p4
        · rw [if_pos q4] at h
          replace g : kp (wl w156) M (z_r M 16 1 (some p4)) := kp_r g (by simp [w156])
          rw [zlet] at h
          generalize z_r M 16 1 (some p4) = M7 at h g
          exact kp_tr g (zJ156_13_kp n p1 M7 _ _ h)
        · rw [if_neg q4] at h
          cases h
    · rw [if_neg q2] at h
      cases h
def w208 : List (Nat × Nat) := [(31, 4), (31, 5), (31, 6)]
set_option maxRecDepth 100000 in
theorem zF208_kp (n : Nat) (g1 : Nat) (g2 : Nat) (M : ZM) (r : Unit) (m' : ZM) (h : zF208 n g1 g2 M = some (r, m')) : kp (wl w208) M m' := by
  unfold zF208 at h
  have g := kp_refl (wl w208) M
  replace g : kp (wl w208) M (z_r M 31 4 (some 17)) := kp_r g (by simp [w208])
  rw [zlet] at h
  generalize z_r M 31 4 (some 17) = M1 at h g
  replace g : kp (wl w208) M (z_r M1 31 5 (some g1)) := kp_r g (by simp [w208])
  rw [zlet] at h
  generalize z_r M1 31 5 (some g1) = M2 at h g
  replace g : kp (wl w208) M (z_r M2 31 6 (some g2)) := kp_r g (by simp [w208])
  rw [zlet] at h
  generalize z_r M2 31 6 (some g2) = M3 at h g
  rw [← (Prod.mk.inj (Option.some.inj h)).2]
  exact g
set_option maxRecDepth 100000 in
theorem zJ212_118_kp (n : Nat) (zrec19 : Int → Int → Int → Int → ZM → Option (Int × ZM)) (hrec19 : ∀ (c0 : Int) (c1 : Int) (c2 : Int) (c3 : Int) (c4 : ZM) (r : Int) (m' : ZM), zrec19 c0 c1 c2 c3 c4 = some (r, m') → m' = c4) (x2 : Int) (x3 : Int) (x4 : Int) (x5 : Int) (M : ZM) (r : Int) (m' : ZM) (h : zJ212_118 n zrec19 x2 x3 x4 x5 M = some (r, m')) : m' = M := by
  unfold zJ212_118 at h
  have g : M = M := rfl
  by_cases q1 : rg (x5 + 1)
  · rw [if_pos q1] at h
    exact (hrec19 x2 x3 x4 (x5 + 1) M _ _ h).trans g
  · rw [if_neg q1] at h
    cases h
set_option maxRecDepth 100000 in
theorem zJ212_115_kp (n : Nat) (zrec19 : Int → Int → Int → Int → ZM → Option (Int × ZM)) (hrec19 : ∀ (c0 : Int) (c1 : Int) (c2 : Int) (c3 : Int) (c4 : ZM) (r : Int) (m' : ZM), zrec19 c0 c1 c2 c3 c4 = some (r, m') → m' = c4) (x2 : Int) (x4 : Int) (x5 : Int) (x7 : Int) (M : ZM) (r : Int) (m' : ZM) (h : zJ212_115 n zrec19 x2 x4 x5 x7 M = some (r, m')) : m' = M := by
  unfold zJ212_115 at h
  have g : M = M := rfl
  exact (zJ212_118_kp n zrec19 hrec19 x2 x7 x4 x5 M _ _ h).trans g
set_option maxRecDepth 100000 in
theorem zJ212_100_kp (n : Nat) (zrec19 : Int → Int → Int → Int → ZM → Option (Int × ZM)) (hrec19 : ∀ (c0 : Int) (c1 : Int) (c2 : Int) (c3 : Int) (c4 : ZM) (r : Int) (m' : ZM), zrec19 c0 c1 c2 c3 c4 = some (r, m') → m' = c4) (x2 : Int) (x3 : Int) (x4 : Int) (x5 : Int) (s0 : Int) (M : ZM) (r : Int) (m' : ZM) (h : zJ212_100 n zrec19 x2 x3 x4 x5 s0 M = some (r, m')) : m' = M := by
  unfold zJ212_100 at h
  have g : M = M := rfl
  by_cases q1 : x3 = (-1)
  · rw [if_pos q1] at h
    exact (zJ212_115_kp n zrec19 hrec19 x2 x4 x5 s0 M _ _ h).trans g
  · rw [if_neg q1] at h
    by_cases q2 : x3 = s0
    · rw [if_pos q2] at h
      exact (zJ212_115_kp n zrec19 hrec19 x2 x4 x5 s0 M _ _ h).trans g
    · rw [if_neg q2] at h
      exact (Prod.mk.inj (Option.some.inj h)).2.symm.trans g
set_option maxRecDepth 100000 in
theorem zJ212_62_kp (n : Nat) (zrec19 : Int → Int → Int → Int → ZM → Option (Int × ZM)) (hrec19 : ∀ (c0 : Int) (c1 : Int) (c2 : Int) (c3 : Int) (c4 : ZM) (r : Int) (m' : ZM), zrec19 c0 c1 c2 c3 c4 = some (r, m') → m' = c4) (x2 : Int) (x3 : Int) (x4 : Int) (x5 : Int) (x6 : Int) (M : ZM) (r : Int) (m' : ZM) (h : zJ212_62 n zrec19 x2 x3 x4 x5 x6 M = some (r, m')) : m' = M := by
  unfold zJ212_62 at h
  have g : M = M := rfl
  by_cases q1 : x2 = 0
  · rw [if_pos q1] at h
    cases hq2 : M.2.1 31 4 with
    | none =>
      rw [hq2] at h
      dsimp only at h
      cases h
    | some p25 =>
      rw [hq2] at h
      dsimp only at h
      by_cases q3 : p25 = 17
      · rw [if_pos q3] at h
        cases hq4 : M.2.1 31 1 with
        | none =>
          rw [hq4] at h
          dsimp only at h
          cases h
        | some p28 =>
          rw [hq4] at h
          dsimp only at h
          by_cases q5 : isD p28
          · rw [if_pos q5] at h
            cases hc6 : zF124 n p28 x6 M with
            | none => rw [hc6] at h; cases h
            | some w =>
              obtain ⟨v31, M32⟩ := w
              rw [hc6] at h
              dsimp only at h
              replace g := (zF124_kp n p28 x6 M _ _ hc6).trans g
              cases hc7 : zF181 n v31 M32 with
              | none => rw [hc7] at h; cases h
              | some w =>
                obtain ⟨v34, M35⟩ := w
                rw [hc7] at h
                dsimp only at h
                replace g := (zF181_kp n v31 M32 _ _ hc7).trans g
                exact (zJ212_100_kp n zrec19 hrec19 x2 x3 x4 x5 v34 M35 _ _ h).trans g
          · rw [if_neg q5] at h
            cases h
      · rw [if_neg q3] at h
        cases h
  · rw [if_neg q1] at h
    cases hq8 : M.2.1 31 4 with
    | none =>
      rw [hq8] at h
      dsimp only at h
      cases h
    | some p39 =>
      rw [hq8] at h
      dsimp only at h
      by_cases q9 : p39 = 17
      · rw [if_pos q9] at h
        cases hc10 : zF182 n x6 (M.1 32 0) M with
        | none => rw [hc10] at h; cases h
        | some w =>
          obtain ⟨v42, M43⟩ := w
          rw [hc10] at h
          dsimp only at h
          replace g := (zF182_kp n x6 (M.1 32 0) M _ _ hc10).trans g
          exact (zJ212_100_kp n zrec19 hrec19 x2 x3 x4 x5 v42 M43 _ _ h).trans g
      · rw [if_neg q9] at h
        cases h
set_option maxRecDepth 100000 in
theorem zJ212_38_kp (n : Nat) (zrec19 : Int → Int → Int → Int → ZM → Option (Int × ZM)) (hrec19 : ∀ (c0 : Int) (c1 : Int) (c2 : Int) (c3 : Int) (c4 : ZM) (r : Int) (m' : ZM), zrec19 c0 c1 c2 c3 c4 = some (r, m') → m' = c4) (x2 : Int) (x3 : Int) (x4 : Int) (x5 : Int) (M : ZM) (r : Int) (m' : ZM) (h : zJ212_38 n zrec19 x2 x3 x4 x5 M = some (r, m')) : m' = M := by
  unfold zJ212_38 at h
  have g : M = M := rfl
  cases hq1 : M.2.1 31 1 with
  | none =>
    rw [hq1] at h
    dsimp only at h
    cases h
  | some p15 =>
    rw [hq1] at h
    dsimp only at h
    by_cases q2 : isD p15
    · rw [if_pos q2] at h
      by_cases q3 : rg (x5 + 1)
      · rw [if_pos q3] at h
        cases hc4 : zF109 n p15 (x5 + 1) M with
        | none => rw [hc4] at h; cases h
        | some w =>
          obtain ⟨v18, M19⟩ := w
          rw [hc4] at h
          dsimp only at h
          replace g := (zF109_kp n p15 (x5 + 1) M _ _ hc4).trans g
          cases hc5 : zF125 n p15 (M.1 31 2) v18 M19 with
          | none => rw [hc5] at h; cases h
          | some w =>
            obtain ⟨v21, M22⟩ := w
            rw [hc5] at h
            dsimp only at h
            replace g := (zF125_kp n p15 (M.1 31 2) v18 M19 _ _ hc5).trans g
            exact (zJ212_62_kp n zrec19 hrec19 x2 x3 x4 x5 v21 M22 _ _ h).trans g
      · rw [if_neg q3] at h
        cases h
    · rw [if_neg q2] at h
      cases h
set_option maxRecDepth 100000 in
theorem zL212_19_kp (n : Nat) : ∀ (k : Nat) (x2 : Int) (x3 : Int) (x4 : Int) (x5 : Int) (M : ZM) (r : Int) (m' : ZM), zL212_19 n k x2 x3 x4 x5 M = some (r, m') → m' = M := by
  intro k
  induction k with
  | zero => intro x2 x3 x4 x5 M r m' h; cases h
  | succ k ih =>
    intro x2 x3 x4 x5 M r m' h
    rw [zL212_19] at h
    have g : M = M := rfl
    by_cases q1 : x4 ≤ x5
    · rw [if_pos q1] at h
      exact (Prod.mk.inj (Option.some.inj h)).2.symm.trans g
    · rw [if_neg q1] at h
      cases hq2 : M.2.1 31 1 with
      | none =>
        rw [hq2] at h
        dsimp only at h
        cases h
      | some p8 =>
        rw [hq2] at h
        dsimp only at h
        by_cases q3 : isD p8
        · rw [if_pos q3] at h
          cases hc4 : zF115 n p8 x5 M with
          | none => rw [hc4] at h; cases h
          | some w =>
            obtain ⟨v11, M12⟩ := w
            rw [hc4] at h
            dsimp only at h
            replace g := (zF115_kp n p8 x5 M _ _ hc4).trans g
            by_cases q5 : v11 = 0
            · rw [if_pos q5] at h
              exact (zJ212_118_kp n (zL212_19 n k) ih x2 x3 x4 x5 M12 _ _ h).trans g
            · rw [if_neg q5] at h
              exact (zJ212_38_kp n (zL212_19 n k) ih x2 x3 x4 x5 M12 _ _ h).trans g
        · rw [if_neg q3] at h
          cases h
set_option maxRecDepth 100000 in
theorem zF212_kp (n : Nat) (a0 : Int) (a1 : Int) (M : ZM) (r : Int) (m' : ZM) (h : zF212 n a0 a1 M = some (r, m')) : m' = M := by
  unfold zF212 at h
  have g : M = M := rfl
  cases hq1 : M.2.1 31 1 with
  | none =>
    rw [hq1] at h
    dsimp only at h
    cases h
  | some p1 =>
    rw [hq1] at h
    dsimp only at h
    by_cases q2 : isD p1
    · rw [if_pos q2] at h
      by_cases q3 : rg (a0 + 1)
      · rw [if_pos q3] at h
        cases hc4 : zF110 n p1 (a0 + 1) M with
        | none => rw [hc4] at h; cases h
        | some w =>
          obtain ⟨v4, M5⟩ := w
          rw [hc4] at h
          dsimp only at h
          replace g := (zF110_kp n p1 (a0 + 1) M _ _ hc4).trans g
          by_cases q5 : rg (a0 + 2)
          · rw [if_pos q5] at h
            exact (zL212_19_kp n n a1 (-1) v4 (a0 + 2) M5 _ _ h).trans g
          · rw [if_neg q5] at h
            cases h
      · rw [if_neg q3] at h
        cases h
    · rw [if_neg q2] at h
      cases h
set_option maxRecDepth 100000 in
theorem zF6_kp (n : Nat) (a0 : Int) (M : ZM) (r : Int) (m' : ZM) (h : zF6 n a0 M = some (r, m')) : m' = M := by
  unfold zF6 at h
  have g : M = M := rfl
  cases hc1 : zF136 n M with
  | none => rw [hc1] at h; cases h
  | some w =>
    obtain ⟨v1, M2⟩ := w
    rw [hc1] at h
    dsimp only at h
    replace g := (zF136_kp n M _ _ hc1).trans g
    cases hq2 : v1 with
    | none =>
      rw [hq2] at h
      dsimp only at h
      cases h
    | some p4 =>
      rw [hq2] at h
      dsimp only at h
      by_cases q3 : isR p4
      · rw [if_pos q3] at h
        cases hc4 : zF170 n p4 a0 M2 with
        | none => rw [hc4] at h; cases h
        | some w =>
          obtain ⟨v7, M8⟩ := w
          rw [hc4] at h
          dsimp only at h
          replace g := (zF170_kp n p4 a0 M2 _ _ hc4).trans g
          exact (Prod.mk.inj (Option.some.inj h)).2.symm.trans g
      · rw [if_neg q3] at h
        cases h
set_option maxRecDepth 100000 in
theorem zF7_kp (n : Nat) (a0 : Int) (M : ZM) (r : Int) (m' : ZM) (h : zF7 n a0 M = some (r, m')) : m' = M := by
  unfold zF7 at h
  have g : M = M := rfl
  cases hc1 : zF136 n M with
  | none => rw [hc1] at h; cases h
  | some w =>
    obtain ⟨v1, M2⟩ := w
    rw [hc1] at h
    dsimp only at h
    replace g := (zF136_kp n M _ _ hc1).trans g
    cases hq2 : v1 with
    | none =>
      rw [hq2] at h
      dsimp only at h
      cases h
    | some p4 =>
      rw [hq2] at h
      dsimp only at h
      by_cases q3 : isR p4
      · rw [if_pos q3] at h
        cases hc4 : zF171 n p4 a0 M2 with
        | none => rw [hc4] at h; cases h
        | some w =>
          obtain ⟨v7, M8⟩ := w
          rw [hc4] at h
          dsimp only at h
          replace g := (zF171_kp n p4 a0 M2 _ _ hc4).trans g
          exact (Prod.mk.inj (Option.some.inj h)).2.symm.trans g
      · rw [if_neg q3] at h
        cases h
set_option maxRecDepth 100000 in
theorem zF8_kp (n : Nat) (a0 : Int) (M : ZM) (r : Int) (m' : ZM) (h : zF8 n a0 M = some (r, m')) : m' = M := by
  unfold zF8 at h
  have g : M = M := rfl
  cases hc1 : zF136 n M with
  | none => rw [hc1] at h; cases h
  | some w =>
    obtain ⟨v1, M2⟩ := w
    rw [hc1] at h
    dsimp only at h
    replace g := (zF136_kp n M _ _ hc1).trans g
    cases hq2 : v1 with
    | none =>
      rw [hq2] at h
      dsimp only at h
      cases h
    | some p4 =>
      rw [hq2] at h
      dsimp only at h
      by_cases q3 : isR p4
      · rw [if_pos q3] at h
        cases hc4 : zF174 n p4 a0 M2 with
        | none => rw [hc4] at h; cases h
        | some w =>
          obtain ⟨v7, M8⟩ := w
          rw [hc4] at h
          dsimp only at h
          replace g := (zF174_kp n p4 a0 M2 _ _ hc4).trans g
          exact (Prod.mk.inj (Option.some.inj h)).2.symm.trans g
      · rw [if_neg q3] at h
        cases h
def w187 (b : Nat) : List (Nat × Nat) := [(b, 4), (b + 1, 1000)]
set_option maxRecDepth 100000 in
theorem zF187_kp (n : Nat) (b : Nat) (g0 : Nat) (M : ZM) (r : Unit) (m' : ZM) (h : zF187 n b g0 M = some (r, m')) : kp (wl (w187 b)) M m' := by
  unfold zF187 at h
  have g := kp_refl (wl (w187 b)) M
  replace g : kp (wl (w187 b)) M (z_r M b 4 (some g0)) := kp_r g (by simp [w187])
  rw [zlet] at h
  generalize z_r M b 4 (some g0) = M1 at h g
  replace g : kp (wl (w187 b)) M (z_f M1 (b + 1) 0 120) := kp_f g (by simp [w187])
  rw [zlet] at h
  generalize z_f M1 (b + 1) 0 120 = M2 at h g
  rw [← (Prod.mk.inj (Option.some.inj h)).2]
  exact g
def w190 (b : Nat) : List (Nat × Nat) := [(b, 3), (b + 3, 1000)]
set_option maxRecDepth 100000 in
theorem zF190_kp (n : Nat) (b : Nat) (M : ZM) (r : Unit) (m' : ZM) (h : zF190 n b M = some (r, m')) : kp (wl (w190 b)) M m' := by
  unfold zF190 at h
  have g := kp_refl (wl (w190 b)) M
  replace g : kp (wl (w190 b)) M (z_f M (b + 3) 0 4) := kp_f g (by simp [w190])
  rw [zlet] at h
  generalize z_f M (b + 3) 0 4 = M1 at h g
  replace g : kp (wl (w190 b)) M (z_i M1 b 3 1) := kp_i g (by simp [w190])
  rw [zlet] at h
  generalize z_i M1 b 3 1 = M2 at h g
  rw [← (Prod.mk.inj (Option.some.inj h)).2]
  exact g
set_option maxRecDepth 100000 in
theorem zJ5_25_kp (n : Nat) (s0 : Int) (M : ZM) (r : Int) (m' : ZM) (h : zJ5_25 n s0 M = some (r, m')) : m' = M := by
  unfold zJ5_25 at h
  have g : M = M := rfl
  exact (Prod.mk.inj (Option.some.inj h)).2.symm.trans g
set_option maxRecDepth 100000 in
theorem zJ5_24_kp (n : Nat) (M : ZM) (r : Int) (m' : ZM) (h : zJ5_24 n M = some (r, m')) : m' = M := by
  unfold zJ5_24 at h
  have g : M = M := rfl
  exact (zJ5_25_kp n (-1) M _ _ h).trans g
set_option maxRecDepth 100000 in
theorem zF5_kp (n : Nat) (a0 : Int) (M : ZM) (r : Int) (m' : ZM) (h : zF5 n a0 M = some (r, m')) : m' = M := by
  unfold zF5 at h
  have g : M = M := rfl
  by_cases q1 : a0 < 0
  · rw [if_pos q1] at h
    exact (zJ5_24_kp n M _ _ h).trans g
  · rw [if_neg q1] at h
    by_cases q2 : (M.1 0 5) ≤ a0
    · rw [if_pos q2] at h
      exact (zJ5_24_kp n M _ _ h).trans g
    · rw [if_neg q2] at h
      by_cases q3 : a0 < 0 ∨ 6 ≤ a0
      · rw [if_pos q3] at h
        cases h
      · rw [if_neg q3] at h
        cases hq4 : m_pl (Int.toNat a0) with
        | none =>
          rw [hq4] at h
          dsimp only at h
          cases h
        | some p4 =>
          rw [hq4] at h
          dsimp only at h
          by_cases q5 : isD p4
          · rw [if_pos q5] at h
            cases hc6 : zF108 n p4 M with
            | none => rw [hc6] at h; cases h
            | some w =>
              obtain ⟨v7, M8⟩ := w
              rw [hc6] at h
              dsimp only at h
              replace g := (zF108_kp n p4 M _ _ hc6).trans g
              exact (zJ5_25_kp n v7 M8 _ _ h).trans g
          · rw [if_neg q5] at h
            cases h
set_option maxRecDepth 100000 in
theorem zJ152_84_kp (n : Nat) (s0 : Int) (M : ZM) (r : Int) (m' : ZM) (h : zJ152_84 n s0 M = some (r, m')) : m' = M := by
  unfold zJ152_84 at h
  have g : M = M := rfl
  by_cases q1 : s0 = 0 ∨ s0 = 1
  · rw [if_pos q1] at h
    exact (Prod.mk.inj (Option.some.inj h)).2.symm.trans g
  · rw [if_neg q1] at h
    cases h
set_option maxRecDepth 100000 in
theorem zJ152_79_kp (n : Nat) (M : ZM) (r : Int) (m' : ZM) (h : zJ152_79 n M = some (r, m')) : m' = M := by
  unfold zJ152_79 at h
  have g : M = M := rfl
  exact (zJ152_84_kp n 1 M _ _ h).trans g
set_option maxRecDepth 100000 in
theorem zJ152_73_kp (n : Nat) (x1 : Int) (M : ZM) (r : Int) (m' : ZM) (h : zJ152_73 n x1 M = some (r, m')) : m' = M := by
  unfold zJ152_73 at h
  have g : M = M := rfl
  by_cases q1 : x1 = 40
  · rw [if_pos q1] at h
    exact (zJ152_79_kp n M _ _ h).trans g
  · rw [if_neg q1] at h
    exact (zJ152_84_kp n 0 M _ _ h).trans g
set_option maxRecDepth 100000 in
theorem zJ152_58_kp (n : Nat) (s0 : Int) (M : ZM) (r : Int) (m' : ZM) (h : zJ152_58 n s0 M = some (r, m')) : m' = M := by
  unfold zJ152_58 at h
  have g : M = M := rfl
  by_cases q1 : s0 = 0 ∨ s0 = 1
  · rw [if_pos q1] at h
    exact (Prod.mk.inj (Option.some.inj h)).2.symm.trans g
  · rw [if_neg q1] at h
    cases h
set_option maxRecDepth 100000 in
theorem zF152_kp (n : Nat) (a0 : Int) (a1 : Int) (M : ZM) (r : Int) (m' : ZM) (h : zF152 n a0 a1 M = some (r, m')) : m' = M := by
  unfold zF152 at h
  have g : M = M := rfl
  by_cases q1 : a0 = 1247
  · rw [if_pos q1] at h
    cases hc2 : zF11 n a1 M with
    | none => rw [hc2] at h; cases h
    | some w =>
      obtain ⟨v11, M12⟩ := w
      rw [hc2] at h
      dsimp only at h
      replace g := (zF11_kp n a1 M _ _ hc2).trans g
      by_cases q3 : v11 = 0 ∨ v11 = 1
      · rw [if_pos q3] at h
        exact (Prod.mk.inj (Option.some.inj h)).2.symm.trans g
      · rw [if_neg q3] at h
        cases h
  · rw [if_neg q1] at h
    by_cases q4 : a0 = 1560
    · rw [if_pos q4] at h
      cases hc5 : zF14 n a1 M with
      | none => rw [hc5] at h; cases h
      | some w =>
        obtain ⟨v15, M16⟩ := w
        rw [hc5] at h
        dsimp only at h
        replace g := (zF14_kp n a1 M _ _ hc5).trans g
        by_cases q6 : v15 = 0
        · rw [if_pos q6] at h
          exact (zJ152_58_kp n 1 M16 _ _ h).trans g
        · rw [if_neg q6] at h
          exact (zJ152_58_kp n 0 M16 _ _ h).trans g
    · rw [if_neg q4] at h
      by_cases q7 : a0 = 11786
      · rw [if_pos q7] at h
        cases hc8 : zF12 n a1 M with
        | none => rw [hc8] at h; cases h
        | some w =>
          obtain ⟨v20, M21⟩ := w
          rw [hc8] at h
          dsimp only at h
          replace g := (zF12_kp n a1 M _ _ hc8).trans g
          by_cases q9 : v20 = 0 ∨ v20 = 1
          · rw [if_pos q9] at h
            exact (Prod.mk.inj (Option.some.inj h)).2.symm.trans g
          · rw [if_neg q9] at h
            cases h
      · rw [if_neg q7] at h
        cases hc10 : zF11 n a1 M with
        | none => rw [hc10] at h; cases h
        | some w =>
          obtain ⟨v1, M2⟩ := w
          rw [hc10] at h
          dsimp only at h
          replace g := (zF11_kp n a1 M _ _ hc10).trans g
          by_cases q11 : v1 = 0
          · rw [if_pos q11] at h
            cases hc12 : zF12 n a1 M2 with
            | none => rw [hc12] at h; cases h
            | some w =>
              obtain ⟨v5, M6⟩ := w
              rw [hc12] at h
              dsimp only at h
              replace g := (zF12_kp n a1 M2 _ _ hc12).trans g
              by_cases q13 : v5 = 0
              · rw [if_pos q13] at h
                exact (zJ152_73_kp n a1 M6 _ _ h).trans g
              · rw [if_neg q13] at h
                exact (zJ152_79_kp n M6 _ _ h).trans g
          · rw [if_neg q11] at h
            exact (zJ152_79_kp n M2 _ _ h).trans g
set_option maxRecDepth 100000 in
theorem zJ151_137_kp (n : Nat) (s0 : Int) (M : ZM) (r : Int) (m' : ZM) (h : zJ151_137 n s0 M = some (r, m')) : m' = M := by
  unfold zJ151_137 at h
  have g : M = M := rfl
  exact (Prod.mk.inj (Option.some.inj h)).2.symm.trans g
set_option maxRecDepth 100000 in
theorem zJ151_129_kp (n : Nat) (M : ZM) (r : Int) (m' : ZM) (h : zJ151_129 n M = some (r, m')) : m' = M := by
  unfold zJ151_129 at h
  have g : M = M := rfl
  exact (zJ151_137_kp n (-2002) M _ _ h).trans g
set_option maxRecDepth 100000 in
theorem zJ151_135_kp (n : Nat) (x4 : Int) (M : ZM) (r : Int) (m' : ZM) (h : zJ151_135 n x4 M = some (r, m')) : m' = M := by
  unfold zJ151_135 at h
  have g : M = M := rfl
  exact (zJ151_137_kp n x4 M _ _ h).trans g
set_option maxRecDepth 100000 in
theorem zJ151_109_kp (n : Nat) (zrec13 : Int → Int → Int → Int → Int → ZM → Option (Int × ZM)) (hrec13 : ∀ (c0 : Int) (c1 : Int) (c2 : Int) (c3 : Int) (c4 : Int) (c5 : ZM) (r : Int) (m' : ZM), zrec13 c0 c1 c2 c3 c4 c5 = some (r, m') → m' = c5) (x1 : Int) (x2 : Int) (x3 : Int) (x4 : Int) (x5 : Int) (M : ZM) (r : Int) (m' : ZM) (h : zJ151_109 n zrec13 x1 x2 x3 x4 x5 M = some (r, m')) : m' = M := by
  unfold zJ151_109 at h
  have g : M = M := rfl
  by_cases q1 : rg (x5 + 1)
  · rw [if_pos q1] at h
    exact (hrec13 x1 x2 x3 x4 (x5 + 1) M _ _ h).trans g
  · rw [if_neg q1] at h
    cases h
set_option maxRecDepth 100000 in
theorem zJ151_100_kp (n : Nat) (zrec13 : Int → Int → Int → Int → Int → ZM → Option (Int × ZM)) (hrec13 : ∀ (c0 : Int) (c1 : Int) (c2 : Int) (c3 : Int) (c4 : Int) (c5 : ZM) (r : Int) (m' : ZM), zrec13 c0 c1 c2 c3 c4 c5 = some (r, m') → m' = c5) (x1 : Int) (x2 : Int) (x3 : Int) (x5 : Int) (x6 : Int) (M : ZM) (r : Int) (m' : ZM) (h : zJ151_100 n zrec13 x1 x2 x3 x5 x6 M = some (r, m')) : m' = M := by
  unfold zJ151_100 at h
  have g : M = M := rfl
  by_cases q1 : rg (x2 + x6)
  · rw [if_pos q1] at h
    exact (zJ151_109_kp n zrec13 hrec13 x1 (x2 + x6) x3 x5 x5 M _ _ h).trans g
  · rw [if_neg q1] at h
    cases h
set_option maxRecDepth 100000 in
theorem zJ151_82_kp (n : Nat) (zrec13 : Int → Int → Int → Int → Int → ZM → Option (Int × ZM)) (hrec13 : ∀ (c0 : Int) (c1 : Int) (c2 : Int) (c3 : Int) (c4 : Int) (c5 : ZM) (r : Int) (m' : ZM), zrec13 c0 c1 c2 c3 c4 c5 = some (r, m') → m' = c5) (x1 : Int) (x2 : Int) (x3 : Int) (x4 : Int) (x5 : Int) (x6 : Int) (M : ZM) (r : Int) (m' : ZM) (h : zJ151_82 n zrec13 x1 x2 x3 x4 x5 x6 M = some (r, m')) : m' = M := by
  unfold zJ151_82 at h
  have g : M = M := rfl
  cases hq1 : M.2.1 16 3 with
  | none =>
    rw [hq1] at h
    dsimp only at h
    cases h
  | some p20 =>
    rw [hq1] at h
    dsimp only at h
    by_cases q2 : isD p20
    · rw [if_pos q2] at h
      by_cases q3 : rg (x5 + 3)
      · rw [if_pos q3] at h
        cases hc4 : zF109 n p20 (x5 + 3) M with
        | none => rw [hc4] at h; cases h
        | some w =>
          obtain ⟨v23, M24⟩ := w
          rw [hc4] at h
          dsimp only at h
          replace g := (zF109_kp n p20 (x5 + 3) M _ _ hc4).trans g
          cases hc5 : zF152 n v23 x1 M24 with
          | none => rw [hc5] at h; cases h
          | some w =>
            obtain ⟨v26, M27⟩ := w
            rw [hc5] at h
            dsimp only at h
            replace g := (zF152_kp n v23 x1 M24 _ _ hc5).trans g
            by_cases q6 : v26 = 0
            · rw [if_pos q6] at h
              exact (zJ151_109_kp n zrec13 hrec13 x1 x2 x3 x4 x5 M27 _ _ h).trans g
            · rw [if_neg q6] at h
              exact (zJ151_100_kp n zrec13 hrec13 x1 x2 x3 x5 x6 M27 _ _ h).trans g
      · rw [if_neg q3] at h
        cases h
    · rw [if_neg q2] at h
      cases h
set_option maxRecDepth 100000 in
theorem zJ151_65_kp (n : Nat) (zrec13 : Int → Int → Int → Int → Int → ZM → Option (Int × ZM)) (hrec13 : ∀ (c0 : Int) (c1 : Int) (c2 : Int) (c3 : Int) (c4 : Int) (c5 : ZM) (r : Int) (m' : ZM), zrec13 c0 c1 c2 c3 c4 c5 = some (r, m') → m' = c5) (x1 : Int) (x2 : Int) (x3 : Int) (x4 : Int) (x5 : Int) (x6 : Int) (M : ZM) (r : Int) (m' : ZM) (h : zJ151_65 n zrec13 x1 x2 x3 x4 x5 x6 M = some (r, m')) : m' = M := by
  unfold zJ151_65 at h
  have g : M = M := rfl
  by_cases q1 : x6 ≤ 0
  · rw [if_pos q1] at h
    exact (zJ151_109_kp n zrec13 hrec13 x1 x2 x3 x4 x5 M _ _ h).trans g
  · rw [if_neg q1] at h
    cases hq2 : M.2.1 16 3 with
    | none =>
      rw [hq2] at h
      dsimp only at h
      cases h
    | some p13 =>
      rw [hq2] at h
      dsimp only at h
      by_cases q3 : isD p13
      · rw [if_pos q3] at h
        cases hc4 : zF115 n p13 x5 M with
        | none => rw [hc4] at h; cases h
        | some w =>
          obtain ⟨v16, M17⟩ := w
          rw [hc4] at h
          dsimp only at h
          replace g := (zF115_kp n p13 x5 M _ _ hc4).trans g
          by_cases q5 : v16 = 0
          · rw [if_pos q5] at h
            exact (zJ151_109_kp n zrec13 hrec13 x1 x2 x3 x4 x5 M17 _ _ h).trans g
          · rw [if_neg q5] at h
            exact (zJ151_82_kp n zrec13 hrec13 x1 x2 x3 x4 x5 x6 M17 _ _ h).trans g
      · rw [if_neg q3] at h
        cases h
set_option maxRecDepth 100000 in
theorem zJ151_51_kp (n : Nat) (zrec13 : Int → Int → Int → Int → Int → ZM → Option (Int × ZM)) (hrec13 : ∀ (c0 : Int) (c1 : Int) (c2 : Int) (c3 : Int) (c4 : Int) (c5 : ZM) (r : Int) (m' : ZM), zrec13 c0 c1 c2 c3 c4 c5 = some (r, m') → m' = c5) (x1 : Int) (x2 : Int) (x3 : Int) (x4 : Int) (x5 : Int) (x6 : Int) (M : ZM) (r : Int) (m' : ZM) (h : zJ151_51 n zrec13 x1 x2 x3 x4 x5 x6 M = some (r, m')) : m' = M := by
  unfold zJ151_51 at h
  have g : M = M := rfl
  by_cases q1 : x1 = 36
  · rw [if_pos q1] at h
    exact (zJ151_65_kp n zrec13 hrec13 x1 x2 x3 x4 x5 x6 M _ _ h).trans g
  · rw [if_neg q1] at h
    by_cases q2 : rg (x3 + x6)
    · rw [if_pos q2] at h
      exact (zJ151_109_kp n zrec13 hrec13 x1 x2 (x3 + x6) x4 x5 M _ _ h).trans g
    · rw [if_neg q2] at h
      cases h
set_option maxRecDepth 100000 in
theorem zJ151_33_kp (n : Nat) (zrec13 : Int → Int → Int → Int → Int → ZM → Option (Int × ZM)) (hrec13 : ∀ (c0 : Int) (c1 : Int) (c2 : Int) (c3 : Int) (c4 : Int) (c5 : ZM) (r : Int) (m' : ZM), zrec13 c0 c1 c2 c3 c4 c5 = some (r, m') → m' = c5) (x1 : Int) (x2 : Int) (x3 : Int) (x4 : Int) (x5 : Int) (x6 : Int) (M : ZM) (r : Int) (m' : ZM) (h : zJ151_33 n zrec13 x1 x2 x3 x4 x5 x6 M = some (r, m')) : m' = M := by
  unfold zJ151_33 at h
  have g : M = M := rfl
  by_cases q1 : x6 ≤ 0
  · rw [if_pos q1] at h
    exact (zJ151_65_kp n zrec13 hrec13 x1 x2 x3 x4 x5 x6 M _ _ h).trans g
  · rw [if_neg q1] at h
    cases hq2 : M.2.1 16 3 with
    | none =>
      rw [hq2] at h
      dsimp only at h
      cases h
    | some p30 =>
      rw [hq2] at h
      dsimp only at h
      by_cases q3 : isD p30
      · rw [if_pos q3] at h
        cases hc4 : zF109 n p30 x5 M with
        | none => rw [hc4] at h; cases h
        | some w =>
          obtain ⟨v33, M34⟩ := w
          rw [hc4] at h
          dsimp only at h
          replace g := (zF109_kp n p30 x5 M _ _ hc4).trans g
          by_cases q5 : v33 = x1
          · rw [if_pos q5] at h
            exact (zJ151_51_kp n zrec13 hrec13 x1 x2 x3 x4 x5 x6 M34 _ _ h).trans g
          · rw [if_neg q5] at h
            exact (zJ151_65_kp n zrec13 hrec13 x1 x2 x3 x4 x5 x6 M34 _ _ h).trans g
      · rw [if_neg q3] at h
        cases h
set_option maxRecDepth 100000 in
theorem zL151_13_kp (n : Nat) : ∀ (k : Nat) (x1 : Int) (x2 : Int) (x3 : Int) (x4 : Int) (x5 : Int) (M : ZM) (r : Int) (m' : ZM), zL151_13 n k x1 x2 x3 x4 x5 M = some (r, m') → m' = M := by
  intro k
  induction k with
  | zero => intro x1 x2 x3 x4 x5 M r m' h; cases h
  | succ k ih =>
    intro x1 x2 x3 x4 x5 M r m' h
    rw [zL151_13] at h
    have g : M = M := rfl
    by_cases q1 : (M.1 16 5) ≤ x5
    · rw [if_pos q1] at h
      by_cases q2 : 1 < x2
      · rw [if_pos q2] at h
        exact (zJ151_129_kp n M _ _ h).trans g
      · rw [if_neg q2] at h
        by_cases q3 : x2 = 1
        · rw [if_pos q3] at h
          by_cases q4 : x3 ≤ 0
          · rw [if_pos q4] at h
            exact (zJ151_135_kp n x4 M _ _ h).trans g
          · rw [if_neg q4] at h
            exact (zJ151_129_kp n M _ _ h).trans g
        · rw [if_neg q3] at h
          exact (zJ151_135_kp n x4 M _ _ h).trans g
    · rw [if_neg q1] at h
      cases hq5 : M.2.1 16 1 with
      | none =>
        rw [hq5] at h
        dsimp only at h
        cases h
      | some p5 =>
        rw [hq5] at h
        dsimp only at h
        by_cases q6 : isT p5
        · rw [if_pos q6] at h
          cases hc7 : zF188 n p5 x5 M with
          | none => rw [hc7] at h; cases h
          | some w =>
            obtain ⟨v8, M9⟩ := w
            rw [hc7] at h
            dsimp only at h
            replace g := (zF188_kp n p5 x5 M _ _ hc7).trans g
            exact (zJ151_33_kp n (zL151_13 n k) ih x1 x2 x3 x4 x5 v8 M9 _ _ h).trans g
        · rw [if_neg q6] at h
          cases h
set_option maxRecDepth 100000 in
theorem zF151_kp (n : Nat) (a0 : Int) (M : ZM) (r : Int) (m' : ZM) (h : zF151 n a0 M = some (r, m')) : m' = M := by
  unfold zF151 at h
  have g : M = M := rfl
  exact (zL151_13_kp n n a0 0 0 (-1) (M.1 16 4) M _ _ h).trans g
set_option maxRecDepth 100000 in
theorem zJ143_23_kp (n : Nat) (x3 : Int) (M : ZM) (r : Option Nat) (m' : ZM) (h : zJ143_23 n x3 M = some (r, m')) : m' = M := by
  unfold zJ143_23 at h
  have g : M = M := rfl
  by_cases q1 : x3 < 0 ∨ 6 ≤ x3
  · rw [if_pos q1] at h
    cases h
  · rw [if_neg q1] at h
    cases hq2 : m_pl (Int.toNat x3) with
    | none =>
      rw [hq2] at h
      dsimp only at h
      cases h
    | some p11 =>
      rw [hq2] at h
      dsimp only at h
      by_cases q3 : isD p11
      · rw [if_pos q3] at h
        exact (Prod.mk.inj (Option.some.inj h)).2.symm.trans g
      · rw [if_neg q3] at h
        cases h
set_option maxRecDepth 100000 in
theorem zJ143_27_kp (n : Nat) (zrec9 : Int → Int → ZM → Option (Option Nat × ZM)) (hrec9 : ∀ (c0 : Int) (c1 : Int) (c2 : ZM) (r : Option Nat) (m' : ZM), zrec9 c0 c1 c2 = some (r, m') → m' = c2) (x2 : Int) (x3 : Int) (M : ZM) (r : Option Nat) (m' : ZM) (h : zJ143_27 n zrec9 x2 x3 M = some (r, m')) : m' = M := by
  unfold zJ143_27 at h
  have g : M = M := rfl
  by_cases q1 : rg (x3 + (-1))
  · rw [if_pos q1] at h
    exact (hrec9 x2 (x3 + (-1)) M _ _ h).trans g
  · rw [if_neg q1] at h
    cases h
set_option maxRecDepth 100000 in
theorem zL143_9_kp (n : Nat) : ∀ (k : Nat) (x2 : Int) (x3 : Int) (M : ZM) (r : Option Nat) (m' : ZM), zL143_9 n k x2 x3 M = some (r, m') → m' = M := by
  intro k
  induction k with
  | zero => intro x2 x3 M r m' h; cases h
  | succ k ih =>
    intro x2 x3 M r m' h
    rw [zL143_9] at h
    have g : M = M := rfl
    by_cases q1 : x3 < 0
    · rw [if_pos q1] at h
      exact (Prod.mk.inj (Option.some.inj h)).2.symm.trans g
    · rw [if_neg q1] at h
      by_cases q2 : x3 < 0 ∨ 6 ≤ x3
      · rw [if_pos q2] at h
        cases h
      · rw [if_neg q2] at h
        cases hq3 : m_pl (Int.toNat x3) with
        | none =>
          rw [hq3] at h
          dsimp only at h
          cases h
        | some p3 =>
          rw [hq3] at h
          dsimp only at h
          by_cases q4 : isD p3
          · rw [if_pos q4] at h
            cases hc5 : zF107 n p3 M with
            | none => rw [hc5] at h; cases h
            | some w =>
              obtain ⟨v6, M7⟩ := w
              rw [hc5] at h
              dsimp only at h
              replace g := (zF107_kp n p3 M _ _ hc5).trans g
              by_cases q6 : v6 = x2
              · rw [if_pos q6] at h
                exact (zJ143_23_kp n x3 M7 _ _ h).trans g
              · rw [if_neg q6] at h
                exact (zJ143_27_kp n (zL143_9 n k) ih x2 x3 M7 _ _ h).trans g
          · rw [if_neg q4] at h
            cases h
set_option maxRecDepth 100000 in
theorem zF143_kp (n : Nat) (a1 : Int) (a2 : Int) (M : ZM) (r : Option Nat) (m' : ZM) (h : zF143 n a1 a2 M = some (r, m')) : m' = M := by
  unfold zF143 at h
  have g : M = M := rfl
  by_cases q1 : rg ((if 6 < a1 then 6 else a1) - 1)
  · rw [if_pos q1] at h
    exact (zL143_9_kp n n a2 ((if 6 < a1 then 6 else a1) - 1) M _ _ h).trans g
  · rw [if_neg q1] at h
    cases h
def w201 : List (Nat × Nat) := [(1, 2), (1, 3)]
set_option maxRecDepth 100000 in
theorem zJ201_118_kp (n : Nat) (s0 : Int) (M : ZM) (r : Int) (m' : ZM) (h : zJ201_118 n s0 M = some (r, m')) : kp (wl w201) M m' := by
  unfold zJ201_118 at h
  have g := kp_refl (wl w201) M
  rw [← (Prod.mk.inj (Option.some.inj h)).2]
  exact g
set_option maxRecDepth 100000 in
theorem zJ201_117_kp (n : Nat) (M : ZM) (r : Int) (m' : ZM) (h : zJ201_117 n M = some (r, m')) : kp (wl w201) M m' := by
  unfold zJ201_117 at h
  have g := kp_refl (wl w201) M
  exact kp_tr g (zJ201_118_kp n (-1) M _ _ h)
set_option maxRecDepth 100000 in
theorem zJ201_113_kp (n : Nat) (x1 : Int) (M : ZM) (r : Int) (m' : ZM) (h : zJ201_113 n x1 M = some (r, m')) : kp (wl w201) M m' := by
  unfold zJ201_113 at h
  have g := kp_refl (wl w201) M
  exact kp_tr g (zJ201_118_kp n x1 M _ _ h)
set_option maxRecDepth 100000 in
theorem zJ201_91_kp (n : Nat) (x1 : Int) (M : ZM) (r : Int) (m' : ZM) (h : zJ201_91 n x1 M = some (r, m')) : kp (wl w201) M m' := by
  unfold zJ201_91 at h
  have g := kp_refl (wl w201) M
  cases hc1 : zF206 n x1 M with
  | none => rw [hc1] at h; cases h
  | some w =>
    obtain ⟨v10, M11⟩ := w
    rw [hc1] at h
    dsimp only at h
    replace g := kp_tr g (kp_eq _ (zF206_kp n x1 M _ _ hc1))
    by_cases q2 : v10 = 0
    · rw [if_pos q2] at h
      by_cases q3 : (((ixv (((((iz x1) : Int32).toUInt32 % 65536)).toInt32)) : Int32).toInt) < 0
      · rw [if_pos q3] at h
        exact kp_tr g (zJ201_117_kp n M11 _ _ h)
      · rw [if_neg q3] at h
        exact kp_tr g (zJ201_113_kp n x1 M11 _ _ h)
    · rw [if_neg q2] at h
      cases hc4 : zF203 n M11 with
      | none => rw [hc4] at h; cases h
      | some w =>
        obtain ⟨v15, M16⟩ := w
        rw [hc4] at h
        dsimp only at h
        replace g := kp_tr g (kp_sub (by simp [w203, w201]) (zF203_kp n M11 _ _ hc4))
        rw [← (Prod.mk.inj (Option.some.inj h)).2]
        exact g
set_option maxRecDepth 100000 in
theorem zJ201_86_kp (n : Nat) (M : ZM) (r : Int) (m' : ZM) (h : zJ201_86 n M = some (r, m')) : kp (wl w201) M m' := by
  unfold zJ201_86 at h
  have g := kp_refl (wl w201) M
  cases hc1 : zF202 n M with
  | none => rw [hc1] at h; cases h
  | some w =>
    obtain ⟨v18, M19⟩ := w
    rw [hc1] at h
    dsimp only at h
    replace g := kp_tr g (kp_sub (by simp [w202, w201]) (zF202_kp n M _ _ hc1))
    rw [← (Prod.mk.inj (Option.some.inj h)).2]
    exact g
set_option maxRecDepth 100000 in
theorem zJ201_69_kp (n : Nat) (x1 : Int) (M : ZM) (r : Int) (m' : ZM) (h : zJ201_69 n x1 M = some (r, m')) : kp (wl w201) M m' := by
  unfold zJ201_69 at h
  have g := kp_refl (wl w201) M
  by_cases q1 : rg ((M.1 1 2) + 1)
  · rw [if_pos q1] at h
    replace g : kp (wl w201) M (z_i M 1 2 ((M.1 1 2) + 1)) := kp_i g (by simp [w201])
    rw [zlet] at h
    generalize z_i M 1 2 ((M.1 1 2) + 1) = M5 at h g
    cases hc2 : zF205 n x1 M5 with
    | none => rw [hc2] at h; cases h
    | some w =>
      obtain ⟨v6, M7⟩ := w
      rw [hc2] at h
      dsimp only at h
      replace g := kp_tr g (kp_eq _ (zF205_kp n x1 M5 _ _ hc2))
      by_cases q3 : v6 = 0
      · rw [if_pos q3] at h
        exact kp_tr g (zJ201_91_kp n x1 M7 _ _ h)
      · rw [if_neg q3] at h
        exact kp_tr g (zJ201_86_kp n M7 _ _ h)
  · rw [if_neg q1] at h
    cases h
set_option maxRecDepth 100000 in
theorem zJ201_38_kp (n : Nat) (M : ZM) (r : Int) (m' : ZM) (h : zJ201_38 n M = some (r, m')) : kp (wl w201) M m' := by
  unfold zJ201_38 at h
  have g := kp_refl (wl w201) M
  replace g : kp (wl w201) M (z_i M 1 3 (M.1 1 2)) := kp_i g (by simp [w201])
  rw [zlet] at h
  generalize z_i M 1 3 (M.1 1 2) = M2 at h g
  by_cases q1 : (M2.1 1 2) < (M2.1 1 1)
  · rw [if_pos q1] at h
    by_cases q2 : (M2.1 1 2) < 0 ∨ 120 ≤ (M2.1 1 2)
    · rw [if_pos q2] at h
      cases h
    · rw [if_neg q2] at h
      exact kp_tr g (zJ201_69_kp n (M2.1 2 (Int.toNat (M2.1 1 2))) M2 _ _ h)
  · rw [if_neg q1] at h
    rw [← (Prod.mk.inj (Option.some.inj h)).2]
    exact g
set_option maxRecDepth 100000 in
theorem zJ201_25_kp (n : Nat) (zrec0 : ZM → Option (Int × ZM)) (hrec0 : ∀ (c0 : ZM) (r : Int) (m' : ZM), zrec0 c0 = some (r, m') → kp (wl w201) c0 m') (M : ZM) (r : Int) (m' : ZM) (h : zJ201_25 n zrec0 M = some (r, m')) : kp (wl w201) M m' := by
  unfold zJ201_25 at h
  have g := kp_refl (wl w201) M
  by_cases q1 : rg ((M.1 1 2) + 1)
  · rw [if_pos q1] at h
    replace g : kp (wl w201) M (z_i M 1 2 ((M.1 1 2) + 1)) := kp_i g (by simp [w201])
    rw [zlet] at h
    generalize z_i M 1 2 ((M.1 1 2) + 1) = M23 at h g
    exact kp_tr g (hrec0 M23 _ _ h)
  · rw [if_neg q1] at h
    cases h
set_option maxRecDepth 100000 in
theorem zL201_0_kp (n : Nat) : ∀ (k : Nat) (M : ZM) (r : Int) (m' : ZM), zL201_0 n k M = some (r, m') → kp (wl w201) M m' := by
  intro k
  induction k with
  | zero => intro M r m' h; cases h
  | succ k ih =>
    intro M r m' h
    rw [zL201_0] at h
    have g := kp_refl (wl w201) M
    by_cases q1 : (M.1 1 1) ≤ (M.1 1 2)
    · rw [if_pos q1] at h
      exact kp_tr g (zJ201_38_kp n M _ _ h)
    · rw [if_neg q1] at h
      by_cases q2 : (M.1 1 2) < 0 ∨ 120 ≤ (M.1 1 2)
      · rw [if_pos q2] at h
        cases h
      · rw [if_neg q2] at h
        by_cases q3 : (M.1 2 (Int.toNat (M.1 1 2))) = 32
        · rw [if_pos q3] at h
          exact kp_tr g (zJ201_25_kp n (zL201_0 n k) ih M _ _ h)
        · rw [if_neg q3] at h
          exact kp_tr g (zJ201_38_kp n M _ _ h)
set_option maxRecDepth 100000 in
theorem zF201_kp (n : Nat) (M : ZM) (r : Int) (m' : ZM) (h : zF201 n M = some (r, m')) : kp (wl w201) M m' := by
  unfold zF201 at h
  have g := kp_refl (wl w201) M
  exact kp_tr g (zL201_0_kp n n M _ _ h)
def w194 (b : Nat) : List (Nat × Nat) := [(b + 1, 1000), (b + 2, 1000), (b + 3, 1000)]
set_option maxRecDepth 100000 in
theorem zJ194_211_kp (n : Nat) (zgg : Nat → Int → Int → ZM → Option (Unit × ZM)) (hgg : ∀ (c0 : Nat) (c1 : Int) (c2 : Int) (c3 : ZM) (r : Unit) (m' : ZM), zgg c0 c1 c2 c3 = some (r, m') → kp (wl (w194 c0)) c3 m') (b : Nat) (M : ZM) (r : Unit) (m' : ZM) (h : zJ194_211 n zgg b M = some (r, m')) : kp (wl (w194 b)) M m' := by
  unfold zJ194_211 at h
  have g := kp_refl (wl (w194 b)) M
  rw [← (Prod.mk.inj (Option.some.inj h)).2]
  exact g
set_option maxRecDepth 100000 in
theorem zJ194_184_kp (n : Nat) (zgg : Nat → Int → Int → ZM → Option (Unit × ZM)) (hgg : ∀ (c0 : Nat) (c1 : Int) (c2 : Int) (c3 : ZM) (r : Unit) (m' : ZM), zgg c0 c1 c2 c3 = some (r, m') → kp (wl (w194 c0)) c3 m') (b : Nat) (x2 : Int) (x5 : Int) (x7 : Int) (x8 : Int) (M : ZM) (r : Unit) (m' : ZM) (h : zJ194_184 n zgg b x2 x5 x7 x8 M = some (r, m')) : kp (wl (w194 b)) M m' := by
  unfold zJ194_184 at h
  have g := kp_refl (wl (w194 b)) M
  by_cases q1 : rg (x5 + 2) ∧ rg (x2 + 1)
  · rw [if_pos q1] at h
    cases hc2 : zgg b (x5 + 2) (x2 + 1) M with
    | none => rw [hc2] at h; cases h
    | some w =>
      obtain ⟨v54, M55⟩ := w
      rw [hc2] at h
      dsimp only at h
      replace g := kp_tr g (hgg b (x5 + 2) (x2 + 1) M _ _ hc2)
      by_cases q3 : x8 = 0
      · rw [if_pos q3] at h
        exact kp_tr g (zJ194_211_kp n zgg hgg b M55 _ _ h)
      · rw [if_neg q3] at h
        by_cases q4 : x7 < 0 ∨ 4 ≤ x7
        · rw [if_pos q4] at h
          cases h
        · rw [if_neg q4] at h
          by_cases q5 : rg ((M55.1 (b + 3) (Int.toNat x7)) - 1)
          · rw [if_pos q5] at h
            replace g : kp (wl (w194 b)) M (z_i M55 (b + 3) (Int.toNat x7) ((M55.1 (b + 3) (Int.toNat x7)) - 1)) := kp_ia g (by simp [w194])
            rw [zlet] at h
            generalize z_i M55 (b + 3) (Int.toNat x7) ((M55.1 (b + 3) (Int.toNat x7)) - 1) = M60 at h g
            exact kp_tr g (zJ194_211_kp n zgg hgg b M60 _ _ h)
          · rw [if_neg q5] at h
            cases h
  · rw [if_neg q1] at h
    cases h
set_option maxRecDepth 100000 in
theorem zJ194_166_kp (n : Nat) (zgg : Nat → Int → Int → ZM → Option (Unit × ZM)) (hgg : ∀ (c0 : Nat) (c1 : Int) (c2 : Int) (c3 : ZM) (r : Unit) (m' : ZM), zgg c0 c1 c2 c3 = some (r, m') → kp (wl (w194 c0)) c3 m') (b : Nat) (x2 : Int) (x5 : Int) (x7 : Int) (s0 : Int) (M : ZM) (r : Unit) (m' : ZM) (h : zJ194_166 n zgg b x2 x5 x7 s0 M = some (r, m')) : kp (wl (w194 b)) M m' := by
  unfold zJ194_166 at h
  have g := kp_refl (wl (w194 b)) M
  by_cases q1 : s0 = 0
  · rw [if_pos q1] at h
    exact kp_tr g (zJ194_184_kp n zgg hgg b x2 x5 x7 s0 M _ _ h)
  · rw [if_neg q1] at h
    by_cases q2 : x7 < 0 ∨ 4 ≤ x7
    · rw [if_pos q2] at h
      cases h
    · rw [if_neg q2] at h
      by_cases q3 : rg ((M.1 (b + 3) (Int.toNat x7)) + 1)
      · rw [if_pos q3] at h
        replace g : kp (wl (w194 b)) M (z_i M (b + 3) (Int.toNat x7) ((M.1 (b + 3) (Int.toNat x7)) + 1)) := kp_ia g (by simp [w194])
        rw [zlet] at h
        generalize z_i M (b + 3) (Int.toNat x7) ((M.1 (b + 3) (Int.toNat x7)) + 1) = M63 at h g
        exact kp_tr g (zJ194_184_kp n zgg hgg b x2 x5 x7 s0 M63 _ _ h)
      · rw [if_neg q3] at h
        cases h
set_option maxRecDepth 100000 in
theorem zJ194_165_kp (n : Nat) (zgg : Nat → Int → Int → ZM → Option (Unit × ZM)) (hgg : ∀ (c0 : Nat) (c1 : Int) (c2 : Int) (c3 : ZM) (r : Unit) (m' : ZM), zgg c0 c1 c2 c3 = some (r, m') → kp (wl (w194 c0)) c3 m') (b : Nat) (x2 : Int) (x5 : Int) (x7 : Int) (M : ZM) (r : Unit) (m' : ZM) (h : zJ194_165 n zgg b x2 x5 x7 M = some (r, m')) : kp (wl (w194 b)) M m' := by
  unfold zJ194_165 at h
  have g := kp_refl (wl (w194 b)) M
  exact kp_tr g (zJ194_166_kp n zgg hgg b x2 x5 x7 0 M _ _ h)
set_option maxRecDepth 100000 in
theorem zJ194_155_kp (n : Nat) (zgg : Nat → Int → Int → ZM → Option (Unit × ZM)) (hgg : ∀ (c0 : Nat) (c1 : Int) (c2 : Int) (c3 : ZM) (r : Unit) (m' : ZM), zgg c0 c1 c2 c3 = some (r, m') → kp (wl (w194 c0)) c3 m') (b : Nat) (x2 : Int) (x5 : Int) (x7 : Int) (M : ZM) (r : Unit) (m' : ZM) (h : zJ194_155 n zgg b x2 x5 x7 M = some (r, m')) : kp (wl (w194 b)) M m' := by
  unfold zJ194_155 at h
  have g := kp_refl (wl (w194 b)) M
  by_cases q1 : 4 ≤ x7
  · rw [if_pos q1] at h
    exact kp_tr g (zJ194_165_kp n zgg hgg b x2 x5 x7 M _ _ h)
  · rw [if_neg q1] at h
    exact kp_tr g (zJ194_166_kp n zgg hgg b x2 x5 x7 1 M _ _ h)
set_option maxRecDepth 100000 in
theorem zJ194_139_kp (n : Nat) (zgg : Nat → Int → Int → ZM → Option (Unit × ZM)) (hgg : ∀ (c0 : Nat) (c1 : Int) (c2 : Int) (c3 : ZM) (r : Unit) (m' : ZM), zgg c0 c1 c2 c3 = some (r, m') → kp (wl (w194 c0)) c3 m') (b : Nat) (x2 : Int) (x5 : Int) (M : ZM) (r : Unit) (m' : ZM) (h : zJ194_139 n zgg b x2 x5 M = some (r, m')) : kp (wl (w194 b)) M m' := by
  unfold zJ194_139 at h
  have g := kp_refl (wl (w194 b)) M
  cases hq1 : M.2.1 b 4 with
  | none =>
    rw [hq1] at h
    dsimp only at h
    cases h
  | some p46 =>
    rw [hq1] at h
    dsimp only at h
    by_cases q2 : isD p46
    · rw [if_pos q2] at h
      cases hc3 : zF123 n p46 x5 M with
      | none => rw [hc3] at h; cases h
      | some w =>
        obtain ⟨v49, M50⟩ := w
        rw [hc3] at h
        dsimp only at h
        replace g := kp_tr g (kp_eq _ (zF123_kp n p46 x5 M _ _ hc3))
        by_cases q4 : v49 < 0
        · rw [if_pos q4] at h
          exact kp_tr g (zJ194_165_kp n zgg hgg b x2 x5 v49 M50 _ _ h)
        · rw [if_neg q4] at h
          exact kp_tr g (zJ194_155_kp n zgg hgg b x2 x5 v49 M50 _ _ h)
    · rw [if_neg q2] at h
      cases h
set_option maxRecDepth 100000 in
theorem zJ194_120_kp (n : Nat) (zgg : Nat → Int → Int → ZM → Option (Unit × ZM)) (hgg : ∀ (c0 : Nat) (c1 : Int) (c2 : Int) (c3 : ZM) (r : Unit) (m' : ZM), zgg c0 c1 c2 c3 = some (r, m') → kp (wl (w194 c0)) c3 m') (b : Nat) (x2 : Int) (x4 : Int) (x5 : Int) (M : ZM) (r : Unit) (m' : ZM) (h : zJ194_120 n zgg b x2 x4 x5 M = some (r, m')) : kp (wl (w194 b)) M m' := by
  unfold zJ194_120 at h
  have g := kp_refl (wl (w194 b)) M
  by_cases q1 : x4 = 0
  · rw [if_pos q1] at h
    cases hq2 : M.2.1 b 4 with
    | none =>
      rw [hq2] at h
      dsimp only at h
      cases h
    | some p39 =>
      rw [hq2] at h
      dsimp only at h
      by_cases q3 : isD p39
      · rw [if_pos q3] at h
        cases hc4 : zF118 n p39 x5 M with
        | none => rw [hc4] at h; cases h
        | some w =>
          obtain ⟨v42, M43⟩ := w
          rw [hc4] at h
          dsimp only at h
          replace g := kp_tr g (kp_eq _ (zF118_kp n p39 x5 M _ _ hc4))
          by_cases q5 : v42 = 63
          · rw [if_pos q5] at h
            exact kp_tr g (zJ194_211_kp n zgg hgg b M43 _ _ h)
          · rw [if_neg q5] at h
            exact kp_tr g (zJ194_139_kp n zgg hgg b x2 x5 M43 _ _ h)
      · rw [if_neg q3] at h
        cases h
  · rw [if_neg q1] at h
    exact kp_tr g (zJ194_139_kp n zgg hgg b x2 x5 M _ _ h)
set_option maxRecDepth 100000 in
theorem zJ194_105_kp (n : Nat) (zgg : Nat → Int → Int → ZM → Option (Unit × ZM)) (hgg : ∀ (c0 : Nat) (c1 : Int) (c2 : Int) (c3 : ZM) (r : Unit) (m' : ZM), zgg c0 c1 c2 c3 = some (r, m') → kp (wl (w194 c0)) c3 m') (b : Nat) (x2 : Int) (x4 : Int) (x5 : Int) (x6 : Int) (M : ZM) (r : Unit) (m' : ZM) (h : zJ194_105 n zgg b x2 x4 x5 x6 M = some (r, m')) : kp (wl (w194 b)) M m' := by
  unfold zJ194_105 at h
  have g := kp_refl (wl (w194 b)) M
  by_cases q1 : x6 = (-1)
  · rw [if_pos q1] at h
    exact kp_tr g (zJ194_120_kp n zgg hgg b x2 x4 x5 M _ _ h)
  · rw [if_neg q1] at h
    cases hc2 : zF195 n b x6 M with
    | none => rw [hc2] at h; cases h
    | some w =>
      obtain ⟨v65, M66⟩ := w
      rw [hc2] at h
      dsimp only at h
      replace g := kp_tr g (kp_sub (by simp [w195, w194]) (zF195_kp n b x6 M _ _ hc2))
      exact kp_tr g (zJ194_211_kp n zgg hgg b M66 _ _ h)
set_option maxRecDepth 100000 in
theorem zJ194_89_kp (n : Nat) (zgg : Nat → Int → Int → ZM → Option (Unit × ZM)) (hgg : ∀ (c0 : Nat) (c1 : Int) (c2 : Int) (c3 : ZM) (r : Unit) (m' : ZM), zgg c0 c1 c2 c3 = some (r, m') → kp (wl (w194 c0)) c3 m') (b : Nat) (x2 : Int) (x4 : Int) (x5 : Int) (M : ZM) (r : Unit) (m' : ZM) (h : zJ194_89 n zgg b x2 x4 x5 M = some (r, m')) : kp (wl (w194 b)) M m' := by
  unfold zJ194_89 at h
  have g := kp_refl (wl (w194 b)) M
  cases hq1 : M.2.1 b 4 with
  | none =>
    rw [hq1] at h
    dsimp only at h
    cases h
  | some p30 =>
    rw [hq1] at h
    dsimp only at h
    by_cases q2 : isD p30
    · rw [if_pos q2] at h
      cases hc3 : zF120 n p30 x5 M with
      | none => rw [hc3] at h; cases h
      | some w =>
        obtain ⟨v33, M34⟩ := w
        rw [hc3] at h
        dsimp only at h
        replace g := kp_tr g (kp_eq _ (zF120_kp n p30 x5 M _ _ hc3))
        by_cases q4 : x4 = 0
        · rw [if_pos q4] at h
          exact kp_tr g (zJ194_105_kp n zgg hgg b x2 x4 x5 v33 M34 _ _ h)
        · rw [if_neg q4] at h
          exact kp_tr g (zJ194_120_kp n zgg hgg b x2 x4 x5 M34 _ _ h)
    · rw [if_neg q2] at h
      cases h
set_option maxRecDepth 100000 in
theorem zJ194_73_kp (n : Nat) (zgg : Nat → Int → Int → ZM → Option (Unit × ZM)) (hgg : ∀ (c0 : Nat) (c1 : Int) (c2 : Int) (c3 : ZM) (r : Unit) (m' : ZM), zgg c0 c1 c2 c3 = some (r, m') → kp (wl (w194 c0)) c3 m') (b : Nat) (x2 : Int) (x4 : Int) (x5 : Int) (M : ZM) (r : Unit) (m' : ZM) (h : zJ194_73 n zgg b x2 x4 x5 M = some (r, m')) : kp (wl (w194 b)) M m' := by
  unfold zJ194_73 at h
  have g := kp_refl (wl (w194 b)) M
  cases hq1 : M.2.1 b 4 with
  | none =>
    rw [hq1] at h
    dsimp only at h
    cases h
  | some p21 =>
    rw [hq1] at h
    dsimp only at h
    by_cases q2 : isD p21
    · rw [if_pos q2] at h
      cases hc3 : zF119 n p21 x5 M with
      | none => rw [hc3] at h; cases h
      | some w =>
        obtain ⟨v24, M25⟩ := w
        rw [hc3] at h
        dsimp only at h
        replace g := kp_tr g (kp_eq _ (zF119_kp n p21 x5 M _ _ hc3))
        by_cases q4 : rg (x2 + 1)
        · rw [if_pos q4] at h
          cases hc5 : zgg b v24 (x2 + 1) M25 with
          | none => rw [hc5] at h; cases h
          | some w =>
            obtain ⟨v27, M28⟩ := w
            rw [hc5] at h
            dsimp only at h
            replace g := kp_tr g (hgg b v24 (x2 + 1) M25 _ _ hc5)
            exact kp_tr g (zJ194_89_kp n zgg hgg b x2 x4 x5 M28 _ _ h)
        · rw [if_neg q4] at h
          cases h
    · rw [if_neg q2] at h
      cases h
set_option maxRecDepth 100000 in
theorem zJ194_52_kp (n : Nat) (zgg : Nat → Int → Int → ZM → Option (Unit × ZM)) (hgg : ∀ (c0 : Nat) (c1 : Int) (c2 : Int) (c3 : ZM) (r : Unit) (m' : ZM), zgg c0 c1 c2 c3 = some (r, m') → kp (wl (w194 c0)) c3 m') (b : Nat) (x2 : Int) (x4 : Int) (s0 : Int) (M : ZM) (r : Unit) (m' : ZM) (h : zJ194_52 n zgg b x2 x4 s0 M = some (r, m')) : kp (wl (w194 b)) M m' := by
  unfold zJ194_52 at h
  have g := kp_refl (wl (w194 b)) M
  by_cases q1 : x4 = 0
  · rw [if_pos q1] at h
    exact kp_tr g (zJ194_73_kp n zgg hgg b x2 x4 s0 M _ _ h)
  · rw [if_neg q1] at h
    cases hq2 : M.2.1 b 4 with
    | none =>
      rw [hq2] at h
      dsimp only at h
      cases h
    | some p68 =>
      rw [hq2] at h
      dsimp only at h
      by_cases q3 : isD p68
      · rw [if_pos q3] at h
        cases hc4 : zF118 n p68 s0 M with
        | none => rw [hc4] at h; cases h
        | some w =>
          obtain ⟨v71, M72⟩ := w
          rw [hc4] at h
          dsimp only at h
          replace g := kp_tr g (kp_eq _ (zF118_kp n p68 s0 M _ _ hc4))
          by_cases q5 : v71 = 43
          · rw [if_pos q5] at h
            exact kp_tr g (zJ194_89_kp n zgg hgg b x2 x4 s0 M72 _ _ h)
          · rw [if_neg q5] at h
            exact kp_tr g (zJ194_73_kp n zgg hgg b x2 x4 s0 M72 _ _ h)
      · rw [if_neg q3] at h
        cases h
set_option maxRecDepth 100000 in
theorem zJ194_42_kp (n : Nat) (zgg : Nat → Int → Int → ZM → Option (Unit × ZM)) (hgg : ∀ (c0 : Nat) (c1 : Int) (c2 : Int) (c3 : ZM) (r : Unit) (m' : ZM), zgg c0 c1 c2 c3 = some (r, m') → kp (wl (w194 c0)) c3 m') (b : Nat) (x1 : Int) (x2 : Int) (x3 : Int) (x4 : Int) (M : ZM) (r : Unit) (m' : ZM) (h : zJ194_42 n zgg b x1 x2 x3 x4 M = some (r, m')) : kp (wl (w194 b)) M m' := by
  unfold zJ194_42 at h
  have g := kp_refl (wl (w194 b)) M
  by_cases q1 : x4 = 0
  · rw [if_pos q1] at h
    exact kp_tr g (zJ194_52_kp n zgg hgg b x2 x4 x3 M _ _ h)
  · rw [if_neg q1] at h
    exact kp_tr g (zJ194_52_kp n zgg hgg b x2 x4 x1 M _ _ h)
set_option maxRecDepth 100000 in
theorem zJ194_31_kp (n : Nat) (zgg : Nat → Int → Int → ZM → Option (Unit × ZM)) (hgg : ∀ (c0 : Nat) (c1 : Int) (c2 : Int) (c3 : ZM) (r : Unit) (m' : ZM), zgg c0 c1 c2 c3 = some (r, m') → kp (wl (w194 c0)) c3 m') (b : Nat) (x1 : Int) (x2 : Int) (x3 : Int) (x4 : Int) (M : ZM) (r : Unit) (m' : ZM) (h : zJ194_31 n zgg b x1 x2 x3 x4 M = some (r, m')) : kp (wl (w194 b)) M m' := by
  unfold zJ194_31 at h
  have g := kp_refl (wl (w194 b)) M
  by_cases q1 : x4 = 0
  · rw [if_pos q1] at h
    cases hc2 : zF195 n b x1 M with
    | none => rw [hc2] at h; cases h
    | some w =>
      obtain ⟨v16, M17⟩ := w
      rw [hc2] at h
      dsimp only at h
      replace g := kp_tr g (kp_sub (by simp [w195, w194]) (zF195_kp n b x1 M _ _ hc2))
      rw [← (Prod.mk.inj (Option.some.inj h)).2]
      exact g
  · rw [if_neg q1] at h
    exact kp_tr g (zJ194_42_kp n zgg hgg b x1 x2 x3 x4 M _ _ h)
set_option maxRecDepth 100000 in
theorem zJ194_16_kp (n : Nat) (zgg : Nat → Int → Int → ZM → Option (Unit × ZM)) (hgg : ∀ (c0 : Nat) (c1 : Int) (c2 : Int) (c3 : ZM) (r : Unit) (m' : ZM), zgg c0 c1 c2 c3 = some (r, m') → kp (wl (w194 c0)) c3 m') (b : Nat) (x1 : Int) (x2 : Int) (x3 : Int) (M : ZM) (r : Unit) (m' : ZM) (h : zJ194_16 n zgg b x1 x2 x3 M = some (r, m')) : kp (wl (w194 b)) M m' := by
  unfold zJ194_16 at h
  have g := kp_refl (wl (w194 b)) M
  cases hq1 : M.2.1 b 4 with
  | none =>
    rw [hq1] at h
    dsimp only at h
    cases h
  | some p8 =>
    rw [hq1] at h
    dsimp only at h
    by_cases q2 : isD p8
    · rw [if_pos q2] at h
      cases hc3 : zF116 n p8 x1 M with
      | none => rw [hc3] at h; cases h
      | some w =>
        obtain ⟨v11, M12⟩ := w
        rw [hc3] at h
        dsimp only at h
        replace g := kp_tr g (kp_eq _ (zF116_kp n p8 x1 M _ _ hc3))
        by_cases q4 : x3 = (-1)
        · rw [if_pos q4] at h
          exact kp_tr g (zJ194_31_kp n zgg hgg b x1 x2 x3 v11 M12 _ _ h)
        · rw [if_neg q4] at h
          exact kp_tr g (zJ194_42_kp n zgg hgg b x1 x2 x3 v11 M12 _ _ h)
    · rw [if_neg q2] at h
      cases h
set_option maxRecDepth 100000 in
theorem zG194_kp (n : Nat) (zgg : Nat → Int → Int → ZM → Option (Unit × ZM)) (hgg : ∀ (c0 : Nat) (c1 : Int) (c2 : Int) (c3 : ZM) (r : Unit) (m' : ZM), zgg c0 c1 c2 c3 = some (r, m') → kp (wl (w194 c0)) c3 m') (b : Nat) (a0 : Int) (a1 : Int) (M : ZM) (r : Unit) (m' : ZM) (h : zG194 n zgg b a0 a1 M = some (r, m')) : kp (wl (w194 b)) M m' := by
  unfold zG194 at h
  have g := kp_refl (wl (w194 b)) M
  by_cases q1 : a1 ≤ 16
  · rw [if_pos q1] at h
    cases hq2 : M.2.1 b 4 with
    | none =>
      rw [hq2] at h
      dsimp only at h
      cases h
    | some p2 =>
      rw [hq2] at h
      dsimp only at h
      by_cases q3 : isD p2
      · rw [if_pos q3] at h
        cases hc4 : zF117 n p2 a0 M with
        | none => rw [hc4] at h; cases h
        | some w =>
          obtain ⟨v5, M6⟩ := w
          rw [hc4] at h
          dsimp only at h
          replace g := kp_tr g (kp_eq _ (zF117_kp n p2 a0 M _ _ hc4))
          exact kp_tr g (zJ194_16_kp n zgg hgg b a0 a1 v5 M6 _ _ h)
      · rw [if_neg q3] at h
        cases h
  · rw [if_neg q1] at h
    rw [← (Prod.mk.inj (Option.some.inj h)).2]
    exact g
set_option maxRecDepth 100000 in
theorem zK194_kp (n : Nat) : ∀ (k : Nat) (b : Nat) (a0 : Int) (a1 : Int) (M : ZM) (r : Unit) (m' : ZM), zK194 n k b a0 a1 M = some (r, m') → kp (wl (w194 b)) M m' := by
  intro k
  induction k with
  | zero => intro b a0 a1 M r m' h; cases h
  | succ k ih =>
    intro b a0 a1 M r m' h
    rw [zK194] at h
    have g := kp_refl (wl (w194 b)) M
    exact kp_tr g (zG194_kp n (zK194 n k) ih b a0 a1 M _ _ h)
set_option maxRecDepth 100000 in
theorem zF194_kp (n : Nat) (b : Nat) (a0 : Int) (a1 : Int) (M : ZM) (r : Unit) (m' : ZM) (h : zF194 n b a0 a1 M = some (r, m')) : kp (wl (w194 b)) M m' := by
  unfold zF194 at h
  have g := kp_refl (wl (w194 b)) M
  exact kp_tr g (zK194_kp n 18 b a0 a1 M _ _ h)
def w192 (b : Nat) : List (Nat × Nat) := [(b + 1, 1000), (b + 2, 1000), (b + 3, 1000)]
set_option maxRecDepth 100000 in
theorem zF192_kp (n : Nat) (b : Nat) (a0 : Int) (M : ZM) (r : Unit) (m' : ZM) (h : zF192 n b a0 M = some (r, m')) : kp (wl (w192 b)) M m' := by
  unfold zF192 at h
  have g := kp_refl (wl (w192 b)) M
  cases hc1 : zF194 n b a0 0 M with
  | none => rw [hc1] at h; cases h
  | some w =>
    obtain ⟨v1, M2⟩ := w
    rw [hc1] at h
    dsimp only at h
    replace g := kp_tr g (kp_sub (by simp [w194, w192]) (zF194_kp n b a0 0 M _ _ hc1))
    rw [← (Prod.mk.inj (Option.some.inj h)).2]
    exact g
def w193 (b : Nat) : List (Nat × Nat) := [(b + 1, 1000), (b + 2, 1000), (b + 3, 1000)]
set_option maxRecDepth 100000 in
theorem zJ193_28_kp (n : Nat) (b : Nat) (x1 : Int) (M : ZM) (r : Unit) (m' : ZM) (h : zJ193_28 n b x1 M = some (r, m')) : kp (wl (w193 b)) M m' := by
  unfold zJ193_28 at h
  have g := kp_refl (wl (w193 b)) M
  by_cases q1 : rg (x1 + 2)
  · rw [if_pos q1] at h
    cases hc2 : zF194 n b (x1 + 2) 0 M with
    | none => rw [hc2] at h; cases h
    | some w =>
      obtain ⟨v8, M9⟩ := w
      rw [hc2] at h
      dsimp only at h
      replace g := kp_tr g (kp_sub (by simp [w194, w193]) (zF194_kp n b (x1 + 2) 0 M _ _ hc2))
      rw [← (Prod.mk.inj (Option.some.inj h)).2]
      exact g
  · rw [if_neg q1] at h
    cases h
set_option maxRecDepth 100000 in
theorem zJ193_13_kp (n : Nat) (b : Nat) (x1 : Int) (x2 : Int) (M : ZM) (r : Unit) (m' : ZM) (h : zJ193_13 n b x1 x2 M = some (r, m')) : kp (wl (w193 b)) M m' := by
  unfold zJ193_13 at h
  have g := kp_refl (wl (w193 b)) M
  by_cases q1 : 4 ≤ x2
  · rw [if_pos q1] at h
    exact kp_tr g (zJ193_28_kp n b x1 M _ _ h)
  · rw [if_neg q1] at h
    by_cases q2 : x2 < 0 ∨ 4 ≤ x2
    · rw [if_pos q2] at h
      cases h
    · rw [if_neg q2] at h
      by_cases q3 : rg ((M.1 (b + 3) (Int.toNat x2)) + 1)
      · rw [if_pos q3] at h
        replace g : kp (wl (w193 b)) M (z_i M (b + 3) (Int.toNat x2) ((M.1 (b + 3) (Int.toNat x2)) + 1)) := kp_ia g (by simp [w193])
        rw [zlet] at h
        generalize z_i M (b + 3) (Int.toNat x2) ((M.1 (b + 3) (Int.toNat x2)) + 1) = M14 at h g
        exact kp_tr g (zJ193_28_kp n b x1 M14 _ _ h)
      · rw [if_neg q3] at h
        cases h
set_option maxRecDepth 100000 in
theorem zF193_kp (n : Nat) (b : Nat) (a0 : Int) (M : ZM) (r : Unit) (m' : ZM) (h : zF193 n b a0 M = some (r, m')) : kp (wl (w193 b)) M m' := by
  unfold zF193 at h
  have g := kp_refl (wl (w193 b)) M
  cases hq1 : M.2.1 b 4 with
  | none =>
    rw [hq1] at h
    dsimp only at h
    cases h
  | some p1 =>
    rw [hq1] at h
    dsimp only at h
    by_cases q2 : isD p1
    · rw [if_pos q2] at h
      cases hc3 : zF123 n p1 a0 M with
      | none => rw [hc3] at h; cases h
      | some w =>
        obtain ⟨v4, M5⟩ := w
        rw [hc3] at h
        dsimp only at h
        replace g := kp_tr g (kp_eq _ (zF123_kp n p1 a0 M _ _ hc3))
        by_cases q4 : v4 < 0
        · rw [if_pos q4] at h
          exact kp_tr g (zJ193_28_kp n b a0 M5 _ _ h)
        · rw [if_neg q4] at h
          exact kp_tr g (zJ193_13_kp n b a0 v4 M5 _ _ h)
    · rw [if_neg q2] at h
      cases h
def w96 : List (Nat × Nat) := [(10, 1000), (11, 1000), (8, 3), (8, 4), (9, 1000)]
set_option maxRecDepth 100000 in
theorem zJ96_76_kp (n : Nat) (g0 : Nat) (zrec26 : Int → Int → ZM → Option (Int × ZM)) (hrec26 : ∀ (c0 : Int) (c1 : Int) (c2 : ZM) (r : Int) (m' : ZM), zrec26 c0 c1 c2 = some (r, m') → kp (wl w96) c2 m') (x3 : Int) (x4 : Int) (M : ZM) (r : Int) (m' : ZM) (h : zJ96_76 n g0 zrec26 x3 x4 M = some (r, m')) : kp (wl w96) M m' := by
  unfold zJ96_76 at h
  have g := kp_refl (wl w96) M
  by_cases q1 : rg (x4 + 1)
  · rw [if_pos q1] at h
    exact kp_tr g (hrec26 x3 (x4 + 1) M _ _ h)
  · rw [if_neg q1] at h
    cases h
set_option maxRecDepth 100000 in
theorem zJ96_74_kp (n : Nat) (g0 : Nat) (M : ZM) (r : Int) (m' : ZM) (h : zJ96_74 n g0 M = some (r, m')) : kp (wl w96) M m' := by
  unfold zJ96_74 at h
  have g := kp_refl (wl w96) M
  rw [← (Prod.mk.inj (Option.some.inj h)).2]
  exact g
set_option maxRecDepth 100000 in
theorem zJ96_52_kp (n : Nat) (g0 : Nat) (zrec26 : Int → Int → ZM → Option (Int × ZM)) (hrec26 : ∀ (c0 : Int) (c1 : Int) (c2 : ZM) (r : Int) (m' : ZM), zrec26 c0 c1 c2 = some (r, m') → kp (wl w96) c2 m') (x3 : Int) (x4 : Int) (x5 : Int) (M : ZM) (r : Int) (m' : ZM) (h : zJ96_52 n g0 zrec26 x3 x4 x5 M = some (r, m')) : kp (wl w96) M m' := by
  unfold zJ96_52 at h
  have g := kp_refl (wl w96) M
  by_cases q1 : x5 = 44
  · rw [if_pos q1] at h
    exact kp_tr g (zJ96_76_kp n g0 zrec26 hrec26 x3 x4 M _ _ h)
  · rw [if_neg q1] at h
    by_cases q2 : x5 = 59
    · rw [if_pos q2] at h
      exact kp_tr g (zJ96_76_kp n g0 zrec26 hrec26 x3 x4 M _ _ h)
    · rw [if_neg q2] at h
      cases hc3 : zF14 n x5 M with
      | none => rw [hc3] at h; cases h
      | some w =>
        obtain ⟨v20, M21⟩ := w
        rw [hc3] at h
        dsimp only at h
        replace g := kp_tr g (kp_eq _ (zF14_kp n x5 M _ _ hc3))
        by_cases q4 : v20 = 0
        · rw [if_pos q4] at h
          exact kp_tr g (zJ96_74_kp n g0 M21 _ _ h)
        · rw [if_neg q4] at h
          exact kp_tr g (zJ96_76_kp n g0 zrec26 hrec26 x3 x4 M21 _ _ h)
set_option maxRecDepth 100000 in
theorem zL96_26_kp (n : Nat) (g0 : Nat) : ∀ (k : Nat) (x3 : Int) (x4 : Int) (M : ZM) (r : Int) (m' : ZM), zL96_26 n g0 k x3 x4 M = some (r, m') → kp (wl w96) M m' := by
  intro k
  induction k with
  | zero => intro x3 x4 M r m' h; cases h
  | succ k ih =>
    intro x3 x4 M r m' h
    rw [zL96_26] at h
    have g := kp_refl (wl w96) M
    by_cases q1 : x3 < x4
    · rw [if_pos q1] at h
      rw [← (Prod.mk.inj (Option.some.inj h)).2]
      exact g
    · rw [if_neg q1] at h
      cases hc2 : zF109 n g0 x4 M with
      | none => rw [hc2] at h; cases h
      | some w =>
        obtain ⟨v11, M12⟩ := w
        rw [hc2] at h
        dsimp only at h
        replace g := kp_tr g (kp_eq _ (zF109_kp n g0 x4 M _ _ hc2))
        cases hc3 : zF188 n 8 x4 M12 with
        | none => rw [hc3] at h; cases h
        | some w =>
          obtain ⟨v14, M15⟩ := w
          rw [hc3] at h
          dsimp only at h
          replace g := kp_tr g (kp_eq _ (zF188_kp n 8 x4 M12 _ _ hc3))
          by_cases q4 : v14 ≤ 0
          · rw [if_pos q4] at h
            exact kp_tr g (zJ96_76_kp n g0 (zL96_26 n g0 k) ih x3 x4 M15 _ _ h)
          · rw [if_neg q4] at h
            exact kp_tr g (zJ96_52_kp n g0 (zL96_26 n g0 k) ih x3 x4 v11 M15 _ _ h)
set_option maxRecDepth 100000 in
theorem zJ96_15_kp (n : Nat) (g0 : Nat) (x2 : Int) (x3 : Int) (M : ZM) (r : Int) (m' : ZM) (h : zJ96_15 n g0 x2 x3 M = some (r, m')) : kp (wl w96) M m' := by
  unfold zJ96_15 at h
  have g := kp_refl (wl w96) M
  cases hc1 : zF192 n 8 x2 M with
  | none => rw [hc1] at h; cases h
  | some w =>
    obtain ⟨v7, M8⟩ := w
    rw [hc1] at h
    dsimp only at h
    replace g := kp_tr g (kp_sub (by simp [w192, w96]) (zF192_kp n 8 x2 M _ _ hc1))
    exact kp_tr g (zL96_26_kp n g0 n x3 0 M8 _ _ h)
set_option maxRecDepth 100000 in
theorem zF96_kp (n : Nat) (g0 : Nat) (a1 : Int) (a2 : Int) (M : ZM) (r : Int) (m' : ZM) (h : zF96 n g0 a1 a2 M = some (r, m')) : kp (wl w96) M m' := by
  unfold zF96 at h
  have g := kp_refl (wl w96) M
  cases hc1 : zF187 n 8 g0 M with
  | none => rw [hc1] at h; cases h
  | some w =>
    obtain ⟨v1, M2⟩ := w
    rw [hc1] at h
    dsimp only at h
    replace g := kp_tr g (kp_sub (by simp [w187, w96]) (zF187_kp n 8 g0 M _ _ hc1))
    cases hc2 : zF190 n 8 M2 with
    | none => rw [hc2] at h; cases h
    | some w =>
      obtain ⟨v4, M5⟩ := w
      rw [hc2] at h
      dsimp only at h
      replace g := kp_tr g (kp_sub (by simp [w190, w96]) (zF190_kp n 8 M2 _ _ hc2))
      exact kp_tr g (zJ96_15_kp n g0 a1 a2 M5 _ _ h)
def w95 : List (Nat × Nat) := [(10, 1000), (11, 1000), (8, 3), (8, 4), (9, 1000)]
set_option maxRecDepth 100000 in
theorem zJ95_57_kp (n : Nat) (g0 : Nat) (zrec13 : Int → Int → ZM → Option (Int × ZM)) (hrec13 : ∀ (c0 : Int) (c1 : Int) (c2 : ZM) (r : Int) (m' : ZM), zrec13 c0 c1 c2 = some (r, m') → kp (wl w95) c2 m') (x3 : Int) (x4 : Int) (M : ZM) (r : Int) (m' : ZM) (h : zJ95_57 n g0 zrec13 x3 x4 M = some (r, m')) : kp (wl w95) M m' := by
  unfold zJ95_57 at h
  have g := kp_refl (wl w95) M
  by_cases q1 : rg (x4 + 1)
  · rw [if_pos q1] at h
    exact kp_tr g (hrec13 x3 (x4 + 1) M _ _ h)
  · rw [if_neg q1] at h
    cases h
set_option maxRecDepth 100000 in
theorem zJ95_42_kp (n : Nat) (g0 : Nat) (zrec13 : Int → Int → ZM → Option (Int × ZM)) (hrec13 : ∀ (c0 : Int) (c1 : Int) (c2 : ZM) (r : Int) (m' : ZM), zrec13 c0 c1 c2 = some (r, m') → kp (wl w95) c2 m') (x3 : Int) (x4 : Int) (M : ZM) (r : Int) (m' : ZM) (h : zJ95_42 n g0 zrec13 x3 x4 M = some (r, m')) : kp (wl w95) M m' := by
  unfold zJ95_42 at h
  have g := kp_refl (wl w95) M
  by_cases q1 : rg (x4 + 4)
  · rw [if_pos q1] at h
    cases hc2 : zF96 n g0 (x4 + 4) x3 M with
    | none => rw [hc2] at h; cases h
    | some w =>
      obtain ⟨v16, M17⟩ := w
      rw [hc2] at h
      dsimp only at h
      replace g := kp_tr g (kp_sub (by simp [w96, w95]) (zF96_kp n g0 (x4 + 4) x3 M _ _ hc2))
      by_cases q3 : v16 = 0
      · rw [if_pos q3] at h
        rw [← (Prod.mk.inj (Option.some.inj h)).2]
        exact g
      · rw [if_neg q3] at h
        exact kp_tr g (zJ95_57_kp n g0 zrec13 hrec13 x3 x4 M17 _ _ h)
  · rw [if_neg q1] at h
    cases h
set_option maxRecDepth 100000 in
theorem zL95_13_kp (n : Nat) (g0 : Nat) : ∀ (k : Nat) (x3 : Int) (x4 : Int) (M : ZM) (r : Int) (m' : ZM), zL95_13 n g0 k x3 x4 M = some (r, m') → kp (wl w95) M m' := by
  intro k
  induction k with
  | zero => intro x3 x4 M r m' h; cases h
  | succ k ih =>
    intro x3 x4 M r m' h
    rw [zL95_13] at h
    have g := kp_refl (wl w95) M
    by_cases q1 : x3 ≤ x4
    · rw [if_pos q1] at h
      rw [← (Prod.mk.inj (Option.some.inj h)).2]
      exact g
    · rw [if_neg q1] at h
      cases hc2 : zF115 n g0 x4 M with
      | none => rw [hc2] at h; cases h
      | some w =>
        obtain ⟨v8, M9⟩ := w
        rw [hc2] at h
        dsimp only at h
        replace g := kp_tr g (kp_eq _ (zF115_kp n g0 x4 M _ _ hc2))
        by_cases q3 : v8 = 0
        · rw [if_pos q3] at h
          exact kp_tr g (zJ95_57_kp n g0 (zL95_13 n g0 k) ih x3 x4 M9 _ _ h)
        · rw [if_neg q3] at h
          by_cases q4 : rg (x4 + 3)
          · rw [if_pos q4] at h
            cases hc5 : zF109 n g0 (x4 + 3) M9 with
            | none => rw [hc5] at h; cases h
            | some w =>
              obtain ⟨v12, M13⟩ := w
              rw [hc5] at h
              dsimp only at h
              replace g := kp_tr g (kp_eq _ (zF109_kp n g0 (x4 + 3) M9 _ _ hc5))
              by_cases q6 : v12 = 1159
              · rw [if_pos q6] at h
                exact kp_tr g (zJ95_42_kp n g0 (zL95_13 n g0 k) ih x3 x4 M13 _ _ h)
              · rw [if_neg q6] at h
                exact kp_tr g (zJ95_57_kp n g0 (zL95_13 n g0 k) ih x3 x4 M13 _ _ h)
          · rw [if_neg q4] at h
            cases h
set_option maxRecDepth 100000 in
theorem zF95_kp (n : Nat) (g0 : Nat) (a1 : Int) (M : ZM) (r : Int) (m' : ZM) (h : zF95 n g0 a1 M = some (r, m')) : kp (wl w95) M m' := by
  unfold zF95 at h
  have g := kp_refl (wl w95) M
  cases hc1 : zF112 n g0 a1 M with
  | none => rw [hc1] at h; cases h
  | some w =>
    obtain ⟨v1, M2⟩ := w
    rw [hc1] at h
    dsimp only at h
    replace g := kp_tr g (kp_eq _ (zF112_kp n g0 a1 M _ _ hc1))
    cases hc2 : zF111 n g0 a1 M2 with
    | none => rw [hc2] at h; cases h
    | some w =>
      obtain ⟨v4, M5⟩ := w
      rw [hc2] at h
      dsimp only at h
      replace g := kp_tr g (kp_eq _ (zF111_kp n g0 a1 M2 _ _ hc2))
      exact kp_tr g (zL95_13_kp n g0 n v1 v4 M5 _ _ h)
def w91 : List (Nat × Nat) := [(10, 1000), (11, 1000), (8, 3), (8, 4), (9, 1000)]
set_option maxRecDepth 100000 in
theorem zJ91_60_kp (n : Nat) (g0 : Nat) (s0 : Int) (M : ZM) (r : Int) (m' : ZM) (h : zJ91_60 n g0 s0 M = some (r, m')) : kp (wl w91) M m' := by
  unfold zJ91_60 at h
  have g := kp_refl (wl w91) M
  rw [← (Prod.mk.inj (Option.some.inj h)).2]
  exact g
set_option maxRecDepth 100000 in
theorem zJ91_53_kp (n : Nat) (g0 : Nat) (M : ZM) (r : Int) (m' : ZM) (h : zJ91_53 n g0 M = some (r, m')) : kp (wl w91) M m' := by
  unfold zJ91_53 at h
  have g := kp_refl (wl w91) M
  exact kp_tr g (zJ91_60_kp n g0 (-1003) M _ _ h)
set_option maxRecDepth 100000 in
theorem zJ91_45_kp (n : Nat) (g0 : Nat) (x2 : Int) (M : ZM) (r : Int) (m' : ZM) (h : zJ91_45 n g0 x2 M = some (r, m')) : kp (wl w91) M m' := by
  unfold zJ91_45 at h
  have g := kp_refl (wl w91) M
  cases hc1 : zF98 n g0 x2 M with
  | none => rw [hc1] at h; cases h
  | some w =>
    obtain ⟨v17, M18⟩ := w
    rw [hc1] at h
    dsimp only at h
    replace g := kp_tr g (kp_eq _ (zF98_kp n g0 x2 M _ _ hc1))
    by_cases q2 : v17 = 0
    · rw [if_pos q2] at h
      exact kp_tr g (zJ91_60_kp n g0 0 M18 _ _ h)
    · rw [if_neg q2] at h
      exact kp_tr g (zJ91_53_kp n g0 M18 _ _ h)
set_option maxRecDepth 100000 in
theorem zJ91_24_kp (n : Nat) (g0 : Nat) (x2 : Int) (M : ZM) (r : Int) (m' : ZM) (h : zJ91_24 n g0 x2 M = some (r, m')) : kp (wl w91) M m' := by
  unfold zJ91_24 at h
  have g := kp_refl (wl w91) M
  cases hc1 : zF95 n g0 x2 M with
  | none => rw [hc1] at h; cases h
  | some w =>
    obtain ⟨v9, M10⟩ := w
    rw [hc1] at h
    dsimp only at h
    replace g := kp_tr g (kp_sub (by simp [w95, w91]) (zF95_kp n g0 x2 M _ _ hc1))
    by_cases q2 : v9 = 0
    · rw [if_pos q2] at h
      cases hc3 : zF97 n g0 x2 M10 with
      | none => rw [hc3] at h; cases h
      | some w =>
        obtain ⟨v13, M14⟩ := w
        rw [hc3] at h
        dsimp only at h
        replace g := kp_tr g (kp_eq _ (zF97_kp n g0 x2 M10 _ _ hc3))
        by_cases q4 : v13 = 0
        · rw [if_pos q4] at h
          exact kp_tr g (zJ91_45_kp n g0 x2 M14 _ _ h)
        · rw [if_neg q4] at h
          exact kp_tr g (zJ91_53_kp n g0 M14 _ _ h)
    · rw [if_neg q2] at h
      rw [← (Prod.mk.inj (Option.some.inj h)).2]
      exact g
set_option maxRecDepth 100000 in
theorem zJ91_20_kp (n : Nat) (g0 : Nat) (M : ZM) (r : Int) (m' : ZM) (h : zJ91_20 n g0 M = some (r, m')) : kp (wl w91) M m' := by
  unfold zJ91_20 at h
  have g := kp_refl (wl w91) M
  rw [← (Prod.mk.inj (Option.some.inj h)).2]
  exact g
set_option maxRecDepth 100000 in
theorem zF91_kp (n : Nat) (g0 : Nat) (a1 : Int) (M : ZM) (r : Int) (m' : ZM) (h : zF91 n g0 a1 M = some (r, m')) : kp (wl w91) M m' := by
  unfold zF91 at h
  have g := kp_refl (wl w91) M
  cases hc1 : zF92 n g0 a1 M with
  | none => rw [hc1] at h; cases h
  | some w =>
    obtain ⟨v1, M2⟩ := w
    rw [hc1] at h
    dsimp only at h
    replace g := kp_tr g (kp_eq _ (zF92_kp n g0 a1 M _ _ hc1))
    by_cases q2 : v1 = 0
    · rw [if_pos q2] at h
      cases hc3 : zF93 n g0 a1 M2 with
      | none => rw [hc3] at h; cases h
      | some w =>
        obtain ⟨v5, M6⟩ := w
        rw [hc3] at h
        dsimp only at h
        replace g := kp_tr g (kp_eq _ (zF93_kp n g0 a1 M2 _ _ hc3))
        by_cases q4 : v5 = 0
        · rw [if_pos q4] at h
          exact kp_tr g (zJ91_24_kp n g0 a1 M6 _ _ h)
        · rw [if_neg q4] at h
          exact kp_tr g (zJ91_20_kp n g0 M6 _ _ h)
    · rw [if_neg q2] at h
      rw [← (Prod.mk.inj (Option.some.inj h)).2]
      exact g
def w90 : List (Nat × Nat) := [(10, 1000), (11, 1000), (8, 3), (8, 4), (9, 1000)]
set_option maxRecDepth 100000 in
theorem zJ90_29_kp (n : Nat) (g0 : Nat) (x2 : Int) (M : ZM) (r : Int) (m' : ZM) (h : zJ90_29 n g0 x2 M = some (r, m')) : kp (wl w90) M m' := by
  unfold zJ90_29 at h
  have g := kp_refl (wl w90) M
  rw [← (Prod.mk.inj (Option.some.inj h)).2]
  exact g
set_option maxRecDepth 100000 in
theorem zJ90_23_kp (n : Nat) (g0 : Nat) (zrec4 : Int → Int → ZM → Option (Int × ZM)) (hrec4 : ∀ (c0 : Int) (c1 : Int) (c2 : ZM) (r : Int) (m' : ZM), zrec4 c0 c1 c2 = some (r, m') → kp (wl w90) c2 m') (x2 : Int) (x3 : Int) (M : ZM) (r : Int) (m' : ZM) (h : zJ90_23 n g0 zrec4 x2 x3 M = some (r, m')) : kp (wl w90) M m' := by
  unfold zJ90_23 at h
  have g := kp_refl (wl w90) M
  by_cases q1 : rg (x3 + 1)
  · rw [if_pos q1] at h
    exact kp_tr g (hrec4 x2 (x3 + 1) M _ _ h)
  · rw [if_neg q1] at h
    cases h
set_option maxRecDepth 100000 in
theorem zL90_4_kp (n : Nat) (g0 : Nat) : ∀ (k : Nat) (x2 : Int) (x3 : Int) (M : ZM) (r : Int) (m' : ZM), zL90_4 n g0 k x2 x3 M = some (r, m') → kp (wl w90) M m' := by
  intro k
  induction k with
  | zero => intro x2 x3 M r m' h; cases h
  | succ k ih =>
    intro x2 x3 M r m' h
    rw [zL90_4] at h
    have g := kp_refl (wl w90) M
    cases hc1 : zF108 n g0 M with
    | none => rw [hc1] at h; cases h
    | some w =>
      obtain ⟨v1, M2⟩ := w
      rw [hc1] at h
      dsimp only at h
      replace g := kp_tr g (kp_eq _ (zF108_kp n g0 M _ _ hc1))
      by_cases q2 : v1 ≤ x3
      · rw [if_pos q2] at h
        exact kp_tr g (zJ90_29_kp n g0 x2 M2 _ _ h)
      · rw [if_neg q2] at h
        by_cases q3 : x2 = 0
        · rw [if_pos q3] at h
          cases hc4 : zF91 n g0 x3 M2 with
          | none => rw [hc4] at h; cases h
          | some w =>
            obtain ⟨v6, M7⟩ := w
            rw [hc4] at h
            dsimp only at h
            replace g := kp_tr g (kp_sub (by simp [w91, w90]) (zF91_kp n g0 x3 M2 _ _ hc4))
            exact kp_tr g (zJ90_23_kp n g0 (zL90_4 n g0 k) ih v6 x3 M7 _ _ h)
        · rw [if_neg q3] at h
          exact kp_tr g (zJ90_29_kp n g0 x2 M2 _ _ h)
set_option maxRecDepth 100000 in
theorem zF90_kp (n : Nat) (g0 : Nat) (M : ZM) (r : Int) (m' : ZM) (h : zF90 n g0 M = some (r, m')) : kp (wl w90) M m' := by
  unfold zF90 at h
  have g := kp_refl (wl w90) M
  exact kp_tr g (zL90_4_kp n g0 n 0 0 M _ _ h)
set_option maxRecDepth 100000 in
theorem zJ158_81_kp (n : Nat) (zgg : Int → Int → ZM → Option (Int × ZM)) (hgg : ∀ (c0 : Int) (c1 : Int) (c2 : ZM) (r : Int) (m' : ZM), zgg c0 c1 c2 = some (r, m') → m' = c2) (s0 : Int) (M : ZM) (r : Int) (m' : ZM) (h : zJ158_81 n zgg s0 M = some (r, m')) : m' = M := by
  unfold zJ158_81 at h
  have g : M = M := rfl
  exact (Prod.mk.inj (Option.some.inj h)).2.symm.trans g
set_option maxRecDepth 100000 in
theorem zJ158_80_kp (n : Nat) (zgg : Int → Int → ZM → Option (Int × ZM)) (hgg : ∀ (c0 : Int) (c1 : Int) (c2 : ZM) (r : Int) (m' : ZM), zgg c0 c1 c2 = some (r, m') → m' = c2) (M : ZM) (r : Int) (m' : ZM) (h : zJ158_80 n zgg M = some (r, m')) : m' = M := by
  unfold zJ158_80 at h
  have g : M = M := rfl
  exact (zJ158_81_kp n zgg hgg (-1) M _ _ h).trans g
set_option maxRecDepth 100000 in
theorem zJ158_73_kp (n : Nat) (zgg : Int → Int → ZM → Option (Int × ZM)) (hgg : ∀ (c0 : Int) (c1 : Int) (c2 : ZM) (r : Int) (m' : ZM), zgg c0 c1 c2 = some (r, m') → m' = c2) (x4 : Int) (M : ZM) (r : Int) (m' : ZM) (h : zJ158_73 n zgg x4 M = some (r, m')) : m' = M := by
  unfold zJ158_73 at h
  have g : M = M := rfl
  by_cases q1 : rg (x4 + 1)
  · rw [if_pos q1] at h
    exact (zJ158_81_kp n zgg hgg (x4 + 1) M _ _ h).trans g
  · rw [if_neg q1] at h
    cases h
set_option maxRecDepth 100000 in
theorem zJ158_41_kp (n : Nat) (zgg : Int → Int → ZM → Option (Int × ZM)) (hgg : ∀ (c0 : Int) (c1 : Int) (c2 : ZM) (r : Int) (m' : ZM), zgg c0 c1 c2 = some (r, m') → m' = c2) (x1 : Int) (x2 : Int) (M : ZM) (r : Int) (m' : ZM) (h : zJ158_41 n zgg x1 x2 M = some (r, m')) : m' = M := by
  unfold zJ158_41 at h
  have g : M = M := rfl
  by_cases q1 : rg (x1 + 1) ∧ rg (x2 + 1)
  · rw [if_pos q1] at h
    cases hc2 : zgg (x1 + 1) (x2 + 1) M with
    | none => rw [hc2] at h; cases h
    | some w =>
      obtain ⟨v17, M18⟩ := w
      rw [hc2] at h
      dsimp only at h
      replace g := (hgg (x1 + 1) (x2 + 1) M _ _ hc2).trans g
      by_cases q3 : v17 = (-1)
      · rw [if_pos q3] at h
        exact (zJ158_80_kp n zgg hgg M18 _ _ h).trans g
      · rw [if_neg q3] at h
        cases hq4 : M18.2.1 16 6 with
        | none =>
          rw [hq4] at h
          dsimp only at h
          cases h
        | some p21 =>
          rw [hq4] at h
          dsimp only at h
          by_cases q5 : isR p21
          · rw [if_pos q5] at h
            cases hc6 : zF170 n p21 v17 M18 with
            | none => rw [hc6] at h; cases h
            | some w =>
              obtain ⟨v24, M25⟩ := w
              rw [hc6] at h
              dsimp only at h
              replace g := (zF170_kp n p21 v17 M18 _ _ hc6).trans g
              by_cases q7 : v24 = 41
              · rw [if_pos q7] at h
                exact (zJ158_73_kp n zgg hgg v17 M25 _ _ h).trans g
              · rw [if_neg q7] at h
                exact (zJ158_80_kp n zgg hgg M25 _ _ h).trans g
          · rw [if_neg q5] at h
            cases h
  · rw [if_neg q1] at h
    cases h
set_option maxRecDepth 100000 in
theorem zJ158_39_kp (n : Nat) (zgg : Int → Int → ZM → Option (Int × ZM)) (hgg : ∀ (c0 : Int) (c1 : Int) (c2 : ZM) (r : Int) (m' : ZM), zgg c0 c1 c2 = some (r, m') → m' = c2) (M : ZM) (r : Int) (m' : ZM) (h : zJ158_39 n zgg M = some (r, m')) : m' = M := by
  unfold zJ158_39 at h
  have g : M = M := rfl
  exact (Prod.mk.inj (Option.some.inj h)).2.symm.trans g
set_option maxRecDepth 100000 in
theorem zJ158_23_kp (n : Nat) (zgg : Int → Int → ZM → Option (Int × ZM)) (hgg : ∀ (c0 : Int) (c1 : Int) (c2 : ZM) (r : Int) (m' : ZM), zgg c0 c1 c2 = some (r, m') → m' = c2) (x1 : Int) (M : ZM) (r : Int) (m' : ZM) (h : zJ158_23 n zgg x1 M = some (r, m')) : m' = M := by
  unfold zJ158_23 at h
  have g : M = M := rfl
  by_cases q1 : rg (x1 + 1)
  · rw [if_pos q1] at h
    exact (Prod.mk.inj (Option.some.inj h)).2.symm.trans g
  · rw [if_neg q1] at h
    cases h
set_option maxRecDepth 100000 in
theorem zJ158_16_kp (n : Nat) (zgg : Int → Int → ZM → Option (Int × ZM)) (hgg : ∀ (c0 : Int) (c1 : Int) (c2 : ZM) (r : Int) (m' : ZM), zgg c0 c1 c2 = some (r, m') → m' = c2) (x1 : Int) (x2 : Int) (x3 : Int) (M : ZM) (r : Int) (m' : ZM) (h : zJ158_16 n zgg x1 x2 x3 M = some (r, m')) : m' = M := by
  unfold zJ158_16 at h
  have g : M = M := rfl
  cases hc1 : zF12 n x3 M with
  | none => rw [hc1] at h; cases h
  | some w =>
    obtain ⟨v11, M12⟩ := w
    rw [hc1] at h
    dsimp only at h
    replace g := (zF12_kp n x3 M _ _ hc1).trans g
    by_cases q2 : v11 = 0
    · rw [if_pos q2] at h
      by_cases q3 : x3 = 40
      · rw [if_pos q3] at h
        by_cases q4 : x2 < 6
        · rw [if_pos q4] at h
          exact (zJ158_41_kp n zgg hgg x1 x2 M12 _ _ h).trans g
        · rw [if_neg q4] at h
          exact (zJ158_39_kp n zgg hgg M12 _ _ h).trans g
      · rw [if_neg q3] at h
        exact (zJ158_39_kp n zgg hgg M12 _ _ h).trans g
    · rw [if_neg q2] at h
      exact (zJ158_23_kp n zgg hgg x1 M12 _ _ h).trans g
set_option maxRecDepth 100000 in
theorem zG158_kp (n : Nat) (zgg : Int → Int → ZM → Option (Int × ZM)) (hgg : ∀ (c0 : Int) (c1 : Int) (c2 : ZM) (r : Int) (m' : ZM), zgg c0 c1 c2 = some (r, m') → m' = c2) (a0 : Int) (a1 : Int) (M : ZM) (r : Int) (m' : ZM) (h : zG158 n zgg a0 a1 M = some (r, m')) : m' = M := by
  unfold zG158 at h
  have g : M = M := rfl
  cases hq1 : M.2.1 16 6 with
  | none =>
    rw [hq1] at h
    dsimp only at h
    cases h
  | some p1 =>
    rw [hq1] at h
    dsimp only at h
    by_cases q2 : isR p1
    · rw [if_pos q2] at h
      cases hc3 : zF170 n p1 a0 M with
      | none => rw [hc3] at h; cases h
      | some w =>
        obtain ⟨v4, M5⟩ := w
        rw [hc3] at h
        dsimp only at h
        replace g := (zF170_kp n p1 a0 M _ _ hc3).trans g
        cases hc4 : zF11 n v4 M5 with
        | none => rw [hc4] at h; cases h
        | some w =>
          obtain ⟨v7, M8⟩ := w
          rw [hc4] at h
          dsimp only at h
          replace g := (zF11_kp n v4 M5 _ _ hc4).trans g
          by_cases q5 : v7 = 0
          · rw [if_pos q5] at h
            exact (zJ158_16_kp n zgg hgg a0 a1 v4 M8 _ _ h).trans g
          · rw [if_neg q5] at h
            exact (zJ158_23_kp n zgg hgg a0 M8 _ _ h).trans g
    · rw [if_neg q2] at h
      cases h
set_option maxRecDepth 100000 in
theorem zJ157_74_kp (n : Nat) (zgg : Int → Int → ZM → Option (Int × ZM)) (hgg : ∀ (c0 : Int) (c1 : Int) (c2 : ZM) (r : Int) (m' : ZM), zgg c0 c1 c2 = some (r, m') → m' = c2) (x3 : Int) (M : ZM) (r : Int) (m' : ZM) (h : zJ157_74 n zgg x3 M = some (r, m')) : m' = M := by
  unfold zJ157_74 at h
  have g : M = M := rfl
  exact (Prod.mk.inj (Option.some.inj h)).2.symm.trans g
set_option maxRecDepth 100000 in
theorem zJ157_66_kp (n : Nat) (zgg : Int → Int → ZM → Option (Int × ZM)) (hgg : ∀ (c0 : Int) (c1 : Int) (c2 : ZM) (r : Int) (m' : ZM), zgg c0 c1 c2 = some (r, m') → m' = c2) (zrec13 : Int → Int → Int → Int → ZM → Option (Int × ZM)) (hrec13 : ∀ (c0 : Int) (c1 : Int) (c2 : Int) (c3 : Int) (c4 : ZM) (r : Int) (m' : ZM), zrec13 c0 c1 c2 c3 c4 = some (r, m') → m' = c4) (x2 : Int) (x3 : Int) (x5 : Int) (s0 : Int) (M : ZM) (r : Int) (m' : ZM) (h : zJ157_66 n zgg zrec13 x2 x3 x5 s0 M = some (r, m')) : m' = M := by
  unfold zJ157_66 at h
  have g : M = M := rfl
  by_cases q1 : rg (x5 + 1)
  · rw [if_pos q1] at h
    exact (hrec13 x2 x3 s0 (x5 + 1) M _ _ h).trans g
  · rw [if_neg q1] at h
    cases h
set_option maxRecDepth 100000 in
theorem zJ157_54_kp (n : Nat) (zgg : Int → Int → ZM → Option (Int × ZM)) (hgg : ∀ (c0 : Int) (c1 : Int) (c2 : ZM) (r : Int) (m' : ZM), zgg c0 c1 c2 = some (r, m') → m' = c2) (zrec13 : Int → Int → Int → Int → ZM → Option (Int × ZM)) (hrec13 : ∀ (c0 : Int) (c1 : Int) (c2 : Int) (c3 : Int) (c4 : ZM) (r : Int) (m' : ZM), zrec13 c0 c1 c2 c3 c4 = some (r, m') → m' = c4) (x2 : Int) (x3 : Int) (x5 : Int) (M : ZM) (r : Int) (m' : ZM) (h : zJ157_54 n zgg zrec13 x2 x3 x5 M = some (r, m')) : m' = M := by
  unfold zJ157_54 at h
  have g : M = M := rfl
  by_cases q1 : rg (x3 + 1)
  · rw [if_pos q1] at h
    cases hc2 : zG158 n zgg (x3 + 1) x2 M with
    | none => rw [hc2] at h; cases h
    | some w =>
      obtain ⟨v13, M14⟩ := w
      rw [hc2] at h
      dsimp only at h
      replace g := (zG158_kp n zgg hgg (x3 + 1) x2 M _ _ hc2).trans g
      exact (zJ157_66_kp n zgg hgg zrec13 hrec13 x2 x3 x5 v13 M14 _ _ h).trans g
  · rw [if_neg q1] at h
    cases h
set_option maxRecDepth 100000 in
theorem zJ157_40_kp (n : Nat) (zgg : Int → Int → ZM → Option (Int × ZM)) (hgg : ∀ (c0 : Int) (c1 : Int) (c2 : ZM) (r : Int) (m' : ZM), zgg c0 c1 c2 = some (r, m') → m' = c2) (zrec13 : Int → Int → Int → Int → ZM → Option (Int × ZM)) (hrec13 : ∀ (c0 : Int) (c1 : Int) (c2 : Int) (c3 : Int) (c4 : ZM) (r : Int) (m' : ZM), zrec13 c0 c1 c2 c3 c4 = some (r, m') → m' = c4) (x2 : Int) (x3 : Int) (x5 : Int) (x6 : Int) (M : ZM) (r : Int) (m' : ZM) (h : zJ157_40 n zgg zrec13 x2 x3 x5 x6 M = some (r, m')) : m' = M := by
  unfold zJ157_40 at h
  have g : M = M := rfl
  by_cases q1 : x6 = 43
  · rw [if_pos q1] at h
    exact (zJ157_54_kp n zgg hgg zrec13 hrec13 x2 x3 x5 M _ _ h).trans g
  · rw [if_neg q1] at h
    by_cases q2 : x6 = 42
    · rw [if_pos q2] at h
      exact (zJ157_54_kp n zgg hgg zrec13 hrec13 x2 x3 x5 M _ _ h).trans g
    · rw [if_neg q2] at h
      exact (zJ157_66_kp n zgg hgg zrec13 hrec13 x2 x3 x5 (-1) M _ _ h).trans g
set_option maxRecDepth 100000 in
theorem zL157_13_kp (n : Nat) (zgg : Int → Int → ZM → Option (Int × ZM)) (hgg : ∀ (c0 : Int) (c1 : Int) (c2 : ZM) (r : Int) (m' : ZM), zgg c0 c1 c2 = some (r, m') → m' = c2) : ∀ (k : Nat) (x2 : Int) (x3 : Int) (x4 : Int) (x5 : Int) (M : ZM) (r : Int) (m' : ZM), zL157_13 n zgg k x2 x3 x4 x5 M = some (r, m') → m' = M := by
  intro k
  induction k with
  | zero => intro x2 x3 x4 x5 M r m' h; cases h
  | succ k ih =>
    intro x2 x3 x4 x5 M r m' h
    rw [zL157_13] at h
    have g : M = M := rfl
    by_cases q1 : 150 ≤ x5
    · rw [if_pos q1] at h
      exact (zJ157_74_kp n zgg hgg x3 M _ _ h).trans g
    · rw [if_neg q1] at h
      by_cases q2 : x4 = (-1)
      · rw [if_pos q2] at h
        exact (zJ157_74_kp n zgg hgg x3 M _ _ h).trans g
      · rw [if_neg q2] at h
        cases hq3 : M.2.1 16 6 with
        | none =>
          rw [hq3] at h
          dsimp only at h
          cases h
        | some p6 =>
          rw [hq3] at h
          dsimp only at h
          by_cases q4 : isR p6
          · rw [if_pos q4] at h
            cases hc5 : zF170 n p6 x4 M with
            | none => rw [hc5] at h; cases h
            | some w =>
              obtain ⟨v9, M10⟩ := w
              rw [hc5] at h
              dsimp only at h
              replace g := (zF170_kp n p6 x4 M _ _ hc5).trans g
              exact (zJ157_40_kp n zgg hgg (zL157_13 n zgg k) ih x2 x4 x5 v9 M10 _ _ h).trans g
          · rw [if_neg q4] at h
            cases h
set_option maxRecDepth 100000 in
theorem zG157_kp (n : Nat) (zgg : Int → Int → ZM → Option (Int × ZM)) (hgg : ∀ (c0 : Int) (c1 : Int) (c2 : ZM) (r : Int) (m' : ZM), zgg c0 c1 c2 = some (r, m') → m' = c2) (a0 : Int) (a1 : Int) (M : ZM) (r : Int) (m' : ZM) (h : zG157 n zgg a0 a1 M = some (r, m')) : m' = M := by
  unfold zG157 at h
  have g : M = M := rfl
  cases hc1 : zG158 n zgg a0 a1 M with
  | none => rw [hc1] at h; cases h
  | some w =>
    obtain ⟨v1, M2⟩ := w
    rw [hc1] at h
    dsimp only at h
    replace g := (zG158_kp n zgg hgg a0 a1 M _ _ hc1).trans g
    exact (zL157_13_kp n zgg hgg n a1 v1 v1 0 M2 _ _ h).trans g
set_option maxRecDepth 100000 in
theorem zK157_kp (n : Nat) : ∀ (k : Nat) (a0 : Int) (a1 : Int) (M : ZM) (r : Int) (m' : ZM), zK157 n k a0 a1 M = some (r, m') → m' = M := by
  intro k
  induction k with
  | zero => intro a0 a1 M r m' h; cases h
  | succ k ih =>
    intro a0 a1 M r m' h
    rw [zK157] at h
    have g : M = M := rfl
    exact (zG157_kp n (zK157 n k) ih a0 a1 M _ _ h).trans g
set_option maxRecDepth 100000 in
theorem zF157_kp (n : Nat) (a0 : Int) (a1 : Int) (M : ZM) (r : Int) (m' : ZM) (h : zF157 n a0 a1 M = some (r, m')) : m' = M := by
  unfold zF157 at h
  have g : M = M := rfl
  exact (zK157_kp n 8 a0 a1 M _ _ h).trans g
