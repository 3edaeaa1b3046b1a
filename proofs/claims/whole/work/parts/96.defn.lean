/-! The reference reads a definition to its end, or to the end of an arm. -/
theorem no_more (n : Nat) (T : Nat → Int) (L i : Nat) (m : ZM) (h : CU T L i m) (k : Nat) (u : Int) : (tc T L i = 0 → zL45_41 n (k + 1) 5 u 0 m = some (1, m)) ∧ (tc T L i ≠ 0 → ∃ m', zL45_41 n (k + 1) 5 u 0 m = some (0, m') ∧ BD T L i m m' w45y) := by
  have hs := srt_c _ (tc_vt T L i h.1.2.1)
  rw [zL45_41, if_pos rfl, h.2.1]
  refine ⟨fun z => ?_, fun z => ?_⟩
  · rw [if_pos (hs.1.mpr z)]
    rfl
  · rw [if_neg (fun w => z (hs.1.mp w))]
    obtain ⟨m', e1, e2⟩ := wr_eq n h
    rw [e1]
    exact ⟨m', rfl, e2.1, kp_sub (fun p hp => s45 true p (s8 true p hp)) e2.2⟩
theorem armst_le (T : Nat → Int) (L a : Nat) (hL : L ≤ 120) (h : (armr (tc T L) (armst (tc T L) a)).2 ≤ 120) (h59 : tc T L (armr (tc T L) (armst (tc T L) a)).2 = 59) : armst (tc T L) (a + 1) ≤ 120 := by
  have := tc_lt (T := T) hL (show 0 < tc T L (armr (tc T L) (armst (tc T L) a)).2 by omega)
  rw [armst]
  omega
theorem j105 (n : Nat) (rec : Int → Int → Int → ZM → Option (Int × ZM)) (u A : Int) (T : Nat → Int) (L e : Nat) (m : ZM) (h : CU T L e m) (h4 : m.1 89 5 = A) (hu : -1 ≤ u ∧ u ≤ 10) :
    zJ45_105 n rec 5 u m = if A = u + 1 then some (1, m) else if tc T L e = 59 then (if 3 ≤ A then rec 5 u 0 m else (match zF28 n m with | some (v49, M50) => (rec 5 u 1 M50) | none => none)) else rec 5 u 0 m := by
  unfold zJ45_105
  rw [if_neg (by decide), if_pos (by omega), show Int.toNat 5 = 5 from rfl, h4]
  by_cases c : A = u + 1
  · rw [if_pos c, if_pos c]
  · rw [if_neg c, if_neg c, ic_eq n h 59 (by decide)]
    dsimp only
    rw [ib]
    unfold zJ45_128 zJ45_142 zJ45_143
    by_cases c1 : tc T L e = 59
    · rw [if_pos c1, if_pos c1, if_neg (show ¬ ((5 : Int) < 0 ∨ 6 ≤ (5 : Int)) by decide), show Int.toNat 5 = 5 from rfl, h4]
      by_cases c2 : 3 ≤ A
      · rw [if_pos c2, if_pos c2, if_pos rfl]
      · rw [if_neg c2, if_neg c2, if_neg (by decide)] <;> rfl
    · rw [if_neg c1, if_neg c1, if_pos rfl]
theorem df_1 (n : Nat) (hn : 200 ≤ n) (T : Nat → Int) (L : Nat) : ∀ (f a k : Nat) (m : ZM), a + f = 3 → 1 ≤ f → CU T L (armst (tc T L) a) m → armst (tc T L) a ≤ 120 → m.1 89 5 = a → f + 2 ≤ k →
    ((dfs (tc T L) f a).1 = 1 ∧ ∃ m', zL45_41 n k 5 (-1) 1 m = some (0, m') ∧ BD T L (dfs (tc T L) f a).2.1 m m' w45y) ∨ ((dfs (tc T L) f a).1 = 2 ∧ a < (dfs (tc T L) f a).2.2 ∧ (dfs (tc T L) f a).2.2 ≤ 3 ∧ ∃ m', zL45_41 n k 5 (-1) 1 m = some (1, m') ∧ m'.1 89 5 = (dfs (tc T L) f a).2.2 ∧ kp (wl w45y) m m') := by
  intro f
  induction f with
  | zero => intro a k m _ h; exact absurd h (by omega)
  | succ f ih =>
    intro a k m haf _ h hle h89 hk
    have hL := h.1.1
    obtain ⟨k, rfl⟩ : ∃ q, k = q + 2 := ⟨k - 2, by omega⟩
    rw [dfs]
    rcases arm_m n hn T L (armst (tc T L) a) m h hle (by omega) (k + 1) (-1) with ⟨w, m', x1, x2⟩ | ⟨w, wl1, wl2, m2, x1, x2, x3, x4, x5⟩
    · rw [if_pos w]
      exact Or.inl ⟨rfl, m', x1, x2⟩
    · have x6 := j105 n (zL45_41 n (k + 1)) (-1) ((a : Int) + 1) T L _ m2 x2 (by rw [x4, h89]) (by omega)
      rw [if_neg (by omega)] at x6
      rw [x1, x6, if_neg (show ¬ (armr (tc T L) (armst (tc T L) a)).1 = 1 by omega)]
      clear x1 x6
      by_cases c1 : tc T L (armr (tc T L) (armst (tc T L) a)).2 = 59
      · rw [if_pos c1]
        by_cases c2 : a + 1 < 3
        · rw [if_pos ⟨c1, c2⟩, if_neg (show ¬ 3 ≤ (a : Int) + 1 by omega)]
          obtain ⟨m3, y1, y2, y3⟩ := nx_cu n hn x2
          rw [y1]
          dsimp only
          rcases ih (a + 1) (k + 1) m3 (by omega) (by omega) y2 (armst_le T L a hL wl2 c1) (by rw [(y3.1 89 5 rfl).1, x4, h89]; omega) (by omega) with ⟨z, m', z1, z2⟩ | ⟨z, zz, zz2, m', z1, z2, z3⟩
          · exact Or.inl ⟨z, m', z1, z2.1, kp_tr x5 (kp_tr (kp_sub (fun p hp => s45 true p (s28 true p hp)) y3) z2.2)⟩
          · exact Or.inr ⟨z, by omega, zz2, m', z1, z2, kp_tr x5 (kp_tr (kp_sub (fun p hp => s45 true p (s28 true p hp)) y3) z3)⟩
        · rw [if_neg (fun z => c2 z.2), if_neg (show ¬ tc T L (armr (tc T L) (armst (tc T L) a)).2 = 0 by omega), if_pos (show 3 ≤ (a : Int) + 1 by omega)]
          obtain ⟨m', y1, y2⟩ := (no_more n T L _ m2 x2 k (-1)).2 (by omega)
          exact Or.inl ⟨rfl, m', y1, y2.1, kp_tr x5 y2.2⟩
      · rw [if_neg c1, if_neg (fun z => c1 z.1)]
        by_cases c2 : tc T L (armr (tc T L) (armst (tc T L) a)).2 = 0
        · rw [if_pos c2]
          exact Or.inr ⟨rfl, by show a < a + 1; omega, by show a + 1 ≤ 3; omega, m2, (no_more n T L _ m2 x2 k (-1)).1 c2, by rw [x4, h89]; show (a : Int) + 1 = ((a + 1 : Nat) : Int); omega, x5⟩
        · rw [if_neg c2]
          obtain ⟨m', y1, y2⟩ := (no_more n T L _ m2 x2 k (-1)).2 c2
          exact Or.inl ⟨rfl, m', y1, y2.1, kp_tr x5 y2.2⟩
theorem dfs_le (C : Nat → Int) : ∀ (g b : Nat), (dfs C g b).2.2 ≤ b + g + 1 := by
  intro g
  induction g with
  | zero => intro b; show 0 ≤ _; omega
  | succ g ih =>
    intro b
    rw [dfs]
    have := ih (b + 1)
    repeat' split
    all_goals first | omega | (show b ≤ _; omega) | (show b + 1 ≤ _; omega)
theorem df_2 (n : Nat) (hn : 200 ≤ n) (T : Nat → Int) (L u : Nat) : ∀ (f a k : Nat) (m : ZM), a + f = 3 → 1 ≤ f → CU T L (armst (tc T L) a) m → armst (tc T L) a ≤ 120 → m.1 89 5 = a → f + 2 ≤ k → (dfs (tc T L) f a).1 = 2 → a ≤ u → u < (dfs (tc T L) f a).2.2 →
    ∃ m', zL45_41 n k 5 u 1 m = some (1, m') ∧ AA (tc T L) (armst (tc T L) u) m' ∧ kp (wl w45y) m m' := by
  intro f
  induction f with
  | zero => intro a k m _ h; exact absurd h (by omega)
  | succ f ih =>
    intro a k m haf _ h hle h89 hk hd hau hun
    have hL := h.1.1
    have hu10 : u ≤ 4 := by have := dfs_le (tc T L) (f + 1) a; omega
    obtain ⟨k, rfl⟩ : ∃ q, k = q + 2 := ⟨k - 2, by omega⟩
    rw [dfs] at hd hun
    rcases arm_m n hn T L (armst (tc T L) a) m h hle (by omega) (k + 1) u with ⟨w, m', x1, x2⟩ | ⟨w, wl1, wl2, m2, x1, x2, x3, x4, x5⟩
    · rw [if_pos w] at hd
      cases hd
    · rw [if_neg (show ¬ (armr (tc T L) (armst (tc T L) a)).1 = 1 by omega)] at hd hun
      have x6 := j105 n (zL45_41 n (k + 1)) u ((a : Int) + 1) T L _ m2 x2 (by rw [x4, h89]) (by omega)
      rw [x1, x6]
      clear x1 x6
      by_cases c0 : a = u
      · subst c0
        rw [if_pos rfl]
        exact ⟨m2, rfl, x3, x5⟩
      · rw [if_neg (by omega)]
        by_cases c1 : tc T L (armr (tc T L) (armst (tc T L) a)).2 = 59 ∧ a + 1 < 3
        · rw [if_pos c1] at hd hun
          rw [if_pos c1.1, if_neg (show ¬ 3 ≤ (a : Int) + 1 by omega)]
          obtain ⟨m3, y1, y2, y3⟩ := nx_cu n hn x2
          rw [y1]
          dsimp only
          obtain ⟨m', z1, z2, z3⟩ := ih (a + 1) (k + 1) m3 (by omega) (by omega) y2 (armst_le T L a hL wl2 c1.1) (by rw [(y3.1 89 5 rfl).1, x4, h89]; omega) (by omega) hd (by omega) hun
          exact ⟨m', z1, z2, kp_tr x5 (kp_tr (kp_sub (fun p hp => s45 true p (s28 true p hp)) y3) z3)⟩
        · rw [if_neg c1] at hd hun
          by_cases c2 : tc T L (armr (tc T L) (armst (tc T L) a)).2 = 0
          · rw [if_pos c2] at hun
            have : u < a + 1 := hun
            omega
          · rw [if_neg c2] at hd
            cases hd
theorem dfr_0 (n : Nat) (hn : 200 ≤ n) (T : Nat → Int) (L : Nat) (u : Int) (m : ZM) (h : CU T L 0 m) :
    (¬ wd (tc T L 0) → ∃ m', zF45 n 5 u m = some (0, m') ∧ BD T L 0 m m' w45x) ∧
    (wd (tc T L 0) → ∃ m1, zF45 n 5 u m = zL45_41 n n 5 u 1 m1 ∧ CU T L 1 m1 ∧ m1.1 89 5 = 0 ∧ m1.1 88 5 = tc T L 0 ∧ kp (wl w45x) m m1) := by
  have hs := srt_c _ (tc_vt T L 0 h.1.2.1)
  have g : kp (wl [(88, 5)]) m (z_i m 88 5 (m.1 83 5)) := kp_i (kp_refl _ m) (by simp)
  have hc := CU_kp h g rfl (fun _ => rfl) rfl rfl rfl rfl
  unfold zF45
  rw [if_neg (by decide), zlet, show Int.toNat 5 = 5 from rfl, hc.2.1]
  refine ⟨fun z => ?_, fun z => ?_⟩
  · rw [if_neg (fun w => z (hs.2.2.2.2.1.mp w))]
    unfold zJ45_24
    obtain ⟨m', e1, e2⟩ := ps_f n hc
    rw [e1]
    exact ⟨m', rfl, BD_kp e2 g (by simp [w45x, w45y, w44x]) (by simp [w45x])⟩
  · rw [if_pos (hs.2.2.2.2.1.mpr z)]
    unfold zJ45_24 zJ45_39
    obtain ⟨m1, e1, e2, e3⟩ := ps_t n hn hc 1 (by decide)
    rw [e1]
    dsimp only
    have g2 : kp (wl [(89, 5)]) m1 (z_i m1 89 5 0) := kp_i (kp_refl _ m1) (by simp)
    rw [if_neg (by decide), if_neg (by decide), zlet]
    refine ⟨z_i m1 89 5 0, rfl, CU_kp e2 g2 rfl (fun _ => rfl) rfl rfl rfl rfl, by rw [z_eq], ?_, kp_tr (kp_sub (by simp [w45x]) g) (kp_tr (kp_sub (fun p hp => s45x p (s45 true p (s28 true p hp))) e3) (kp_sub (by simp [w45x, w45y]) g2))⟩
    rw [z_nc _ _ _ _ _ _ (by decide), (e3.1 88 5 rfl).1, z_eq, h.2.2.1 (by omega)]
/-- the whole definition -/
theorem dfr_m (n : Nat) (hn : 200 ≤ n) (T : Nat → Int) (L : Nat) (m : ZM) (h : CU T L 0 m) :
    ((dfn (tc T L)).1 = 1 ∧ ∃ m', zF45 n 5 (-1) m = some (0, m') ∧ BD T L (dfn (tc T L)).2.1 m m' w45x) ∨ ((dfn (tc T L)).1 = 2 ∧ 0 < (dfn (tc T L)).2.2 ∧ (dfn (tc T L)).2.2 ≤ 3 ∧ wd (tc T L 0) ∧ ∃ m', zF45 n 5 (-1) m = some (1, m') ∧ m'.1 89 5 = (dfn (tc T L)).2.2 ∧ m'.1 88 5 = tc T L 0 ∧ kp (wl w45x) m m') := by
  obtain ⟨a1, a2⟩ := dfr_0 n hn T L (-1) m h
  unfold dfn
  by_cases c : wd (tc T L 0)
  · rw [if_pos c]
    obtain ⟨m1, e1, e2, e3, e4, e5⟩ := a2 c
    rw [e1]
    rcases df_1 n hn T L 3 0 n m1 rfl (by omega) e2 (by show 1 ≤ 120; omega) e3 (by omega) with ⟨z, m', z1, z2⟩ | ⟨z, zz, zz2, m', z1, z2, z3⟩
    · exact Or.inl ⟨z, m', z1, z2.1, kp_tr e5 (kp_sub s45x z2.2)⟩
    · refine Or.inr ⟨z, zz, zz2, c, m', z1, z2, ?_, kp_tr e5 (kp_sub s45x z3)⟩
      rw [(z3.1 88 5 rfl).1, e4]
  · rw [if_neg c]
    obtain ⟨m', e1, e2⟩ := a1 c
    exact Or.inl ⟨rfl, m', e1, e2⟩
/-- an arm of it once more -/
theorem dfr_a (n : Nat) (hn : 200 ≤ n) (T : Nat → Int) (L u : Nat) (m : ZM) (h : CU T L 0 m) (hd : (dfn (tc T L)).1 = 2) (hu : u < (dfn (tc T L)).2.2) :
    ∃ m', zF45 n 5 u m = some (1, m') ∧ AA (tc T L) (armst (tc T L) u) m' ∧ kp (wl w45x) m m' := by
  obtain ⟨a1, a2⟩ := dfr_0 n hn T L u m h
  unfold dfn at hd hu
  by_cases c : wd (tc T L 0)
  · rw [if_pos c] at hd hu
    obtain ⟨m1, e1, e2, e3, e4, e5⟩ := a2 c
    rw [e1]
    obtain ⟨m', z1, z2, z3⟩ := df_2 n hn T L u 3 0 n m1 rfl (by omega) e2 (by show 1 ≤ 120; omega) e3 (by omega) hd (by omega) hu
    exact ⟨m', z1, z2, kp_tr e5 (kp_sub s45x z3)⟩
  · rw [if_neg c] at hd
    cases hd
