/-! The reference reads a definition. -/
def r0 (i : Nat) : RS := (i, 0, fun _ _ => 0, -1, -1, 0, 0, fun _ _ => 0)
def prw (pat : Bool) (C : Nat → Int) (i : Nat) : Nat × RS := rrn pat C 130 (r0 i)
theorem RI_0 (i : Nat) : RI (r0 i) := by
  refine ⟨by show 0 ≤ 9; omega, by show 0 ≤ i; omega, fun k hk => ?_, by show (0 : Int) ≤ 0; omega, by show (0 : Int) ≤ ((0 : Nat) : Int); omega, by show (-1 : Int) ≤ -1; omega, by show (-1 : Int) < ((0 : Nat) : Int); omega, by show (-1 : Int) ≤ -1; omega, by show (-1 : Int) < ((0 : Nat) : Int); omega, fun _ => by show (-1 : Int) < 0; omega⟩
  exact absurd hk (by show ¬ k < 0; omega)
theorem s44 (pat : Bool) : ∀ p ∈ [((83, 27) : Nat × Nat), (83, 30), (83, 31), (83, 32), (83, 33)], p ∈ w44x pat := by cases pat <;> simp [w44x]
theorem rr_m (pat : Bool) (n : Nat) (hn : 200 ≤ n) (T : Nat → Int) (L i : Nat) (m : ZM) (h : CU T L i m) (hi : i ≤ 120) : RZ pat T L (zF44 n (pb pat) m) m (prw pat (tc T L) i) := by
  have g : kp (wl [(83, 27), (83, 30), (83, 31), (83, 32), (83, 33)]) m (z_i (z_i (z_i (z_i (z_i m 83 27 0) 83 30 (-1)) 83 31 (-1)) 83 32 0) 83 33 0) := by
    refine kp_i (kp_i (kp_i (kp_i (kp_i (kp_refl _ m) ?_) ?_) ?_) ?_) ?_ <;> simp
  have e : zF44 n (pb pat) m = zL44_39 n n (pb pat) (lb pat) 1 (z_i (z_i (z_i (z_i (z_i m 83 27 0) 83 30 (-1)) 83 31 (-1)) 83 32 0) 83 33 0) := by
    unfold zF44 zJ44_15 zJ44_36
    rw [zlet, zlet, zlet, zlet, zlet]
    cases pat <;> rfl
  have hm : MR pat T L (r0 i) (z_i (z_i (z_i (z_i (z_i m 83 27 0) 83 30 (-1)) 83 31 (-1)) 83 32 0) 83 33 0) := by
    refine ⟨CU_kp h g rfl (fun _ => rfl) rfl rfl rfl rfl, ?_, ?_, ?_, ?_, ?_, ?_, ?_⟩
    · simp [z_i_rd, r0]
    · intro k hk; exact absurd hk (by show ¬ k < 0; omega)
    · simp [z_i_rd, r0]
    · simp [z_i_rd, r0]
    · simp [z_i_rd, r0]
    · simp [z_i_rd, r0]
    · intro k hk; exact absurd hk (by show ¬ k < 0; omega)
  rw [e]
  rcases row_m pat n hn T L 130 n (r0 i) _ hm (RI_0 i) hi (by show 121 - i ≤ 130; omega) (by omega) with ⟨w, m', x1, x2⟩ | ⟨w, m', x1, x2, x3⟩
  · exact Or.inl ⟨w, m', x1, x2.1, kp_tr (kp_sub (s44 pat) g) x2.2⟩
  · exact Or.inr ⟨w, m', x1, x2, kp_tr (kp_sub (s44 pat) g) x3⟩
theorem rrn_le (pat : Bool) (T : Nat → Int) (L : Nat) (hL : L ≤ 120) : ∀ (f : Nat) (s : RS), s.1 ≤ 120 → (rrn pat (tc T L) f s).1 = 2 → s.1 < (rrn pat (tc T L) f s).2.1 ∧ (rrn pat (tc T L) f s).2.1 ≤ 120 := by
  intro f
  induction f with
  | zero => intro s _ h; cases h
  | succ f ih =>
    intro s hs h
    rw [rrn] at h ⊢
    by_cases z : (rst pat (tc T L) s).1 = 0
    · rw [if_pos z] at h ⊢
      have a := rst_le pat T L hL s hs (by omega)
      have b := ih _ a.2 h
      omega
    · rw [if_neg z] at h ⊢
      exact rst_le pat T L hL s hs (by omega)
def armP (C : Nat → Int) (i : Nat) : Nat × RS := prw true C (i + 1)
def armB (C : Nat → Int) (i : Nat) : Nat × RS := prw false C ((armP C i).2.1 + 1)
/-- an arm that begins at token i: 1 and the faulty token, or 2 and the token behind it -/
def armr (C : Nat → Int) (i : Nat) : Nat × Nat :=
  if C i ≠ 40 then (1, i) else if (armP C i).1 = 1 then (1, (armP C i).2.1) else if C (armP C i).2.1 ≠ 123 then (1, (armP C i).2.1) else if (armB C i).1 = 1 then (1, (armB C i).2.1) else (2, (armB C i).2.1)
def armst (C : Nat → Int) : Nat → Nat
  | 0 => 1
  | a + 1 => (armr C (armst C a)).2 + 1
def dfs (C : Nat → Int) : Nat → Nat → Nat × Nat × Nat
  | 0, _ => (1, 0, 0)
  | f + 1, a => if (armr C (armst C a)).1 = 1 then (1, (armr C (armst C a)).2, a) else if C (armr C (armst C a)).2 = 59 ∧ a + 1 < 3 then dfs C f (a + 1) else if C (armr C (armst C a)).2 = 0 then (2, (armr C (armst C a)).2, a + 1) else (1, (armr C (armst C a)).2, a)
/-- a definition: 1 and the faulty token, or 2, the token behind it (the end) and the number of arms -/
def dfn (C : Nat → Int) : Nat × Nat × Nat := if wd (C 0) then dfs C 3 0 else (1, 0, 0)
/-- an arm's elements are in the reference's arrays -/
def AA (C : Nat → Int) (i : Nat) (m : ZM) : Prop := AX true m (armP C i).2.2.2.2.2.2.2.2 (armP C i).2.2.2.2.2.2.1 ∧ AX false m (armB C i).2.2.2.2.2.2.2.2 (armB C i).2.2.2.2.2.2.1
def w45y : List (Nat × Nat) := [(89, 5)] ++ w44x true ++ w44x false
def w45x : List (Nat × Nat) := [(88, 5)] ++ w45y
theorem s45x : ∀ p ∈ w45y, p ∈ w45x := fun p hp => List.mem_append_right _ hp
theorem s45 (pat : Bool) : ∀ p ∈ w44x pat, p ∈ w45y := by cases pat <;> simp [w44x, w45y]
theorem ps_b (n : Nat) (hn : 200 ≤ n) {T : Nat → Int} {L i : Nat} {m : ZM} (h : CU T L i m) (p : Prop) [Decidable p] : (p → ∃ m', zF30 n (bi p) m = some (1, m') ∧ CU T L (i + 1) m' ∧ kp (wl w28) m m') ∧ (¬ p → ∃ m', zF30 n (bi p) m = some (0, m') ∧ BD T L i m m' [(83, 8)]) := by
  refine ⟨fun z => ?_, fun z => ?_⟩
  · rw [bi_p z]; exact ps_t n hn h 1 (by decide)
  · rw [bi_n z]; exact ps_f n h
theorem arm_m (n : Nat) (hn : 200 ≤ n) (T : Nat → Int) (L i : Nat) (m : ZM) (h : CU T L i m) (hi : i ≤ 120) (h89 : 0 ≤ m.1 89 5 ∧ m.1 89 5 ≤ 10) (k : Nat) (u : Int) :
    ((armr (tc T L) i).1 = 1 ∧ ∃ m', zL45_41 n (k + 1) 5 u 1 m = some (0, m') ∧ BD T L (armr (tc T L) i).2 m m' w45y) ∨
    ((armr (tc T L) i).1 = 2 ∧ i < (armr (tc T L) i).2 ∧ (armr (tc T L) i).2 ≤ 120 ∧ ∃ m2, zL45_41 n (k + 1) 5 u 1 m = zJ45_105 n (zL45_41 n k) 5 u m2 ∧ CU T L (armr (tc T L) i).2 m2 ∧ AA (tc T L) i m2 ∧ m2.1 89 5 = m.1 89 5 + 1 ∧ kp (wl w45y) m m2) := by
  have hL := h.1.1
  rw [zL45_41, if_neg (by decide), ic_eq n h 40 (by decide)]
  dsimp only
  by_cases c1 : tc T L i = 40
  · have l0 := tc_lt (T := T) (i := i) hL (by omega)
    obtain ⟨m1, e1, e2, e3⟩ := (ps_b n hn h (tc T L i = 40)).1 c1
    rw [e1]
    dsimp only
    rw [if_neg (by decide)]
    unfold zJ45_58
    rcases rr_m true n hn T L (i + 1) m1 e2 (by omega) with ⟨w, m', x1, x2⟩ | ⟨w, m2, x1, x2, x3⟩
    · left
      have er : armr (tc T L) i = (1, (armP (tc T L) i).2.1) := by
        unfold armr
        rw [if_neg (by simpa using c1), if_pos (by exact w)]
      rw [er]
      refine ⟨rfl, m', ?_, x2.1, kp_tr (kp_sub (fun p hp => s45 true p (s28 true p hp)) e3) (kp_sub (s45 true) x2.2)⟩
      rw [show zF44 n 1 m1 = some (0, m') from x1]
      rfl
    · have wle := rrn_le true T L hL 130 (r0 (i + 1)) (by show i + 1 ≤ 120; omega) w
      have hj : i + 1 < (armP (tc T L) i).2.1 ∧ (armP (tc T L) i).2.1 ≤ 120 := wle
      rw [show zF44 n 1 m1 = some (1, m2) from x1]
      dsimp only
      rw [if_neg (by decide), ic_eq n (show CU T L (armP (tc T L) i).2.1 m2 from x2.1) 123 (by decide)]
      dsimp only
      have g12 : kp (wl w45y) m m2 := kp_tr (kp_sub (fun p hp => s45 true p (s28 true p hp)) e3) (kp_sub (s45 true) x3)
      by_cases c2 : tc T L (armP (tc T L) i).2.1 = 123
      · have l1 := tc_lt (T := T) (i := (armP (tc T L) i).2.1) hL (by omega)
        obtain ⟨m3, f1, f2, f3⟩ := (ps_b n hn (show CU T L (armP (tc T L) i).2.1 m2 from x2.1) (tc T L (armP (tc T L) i).2.1 = 123)).1 c2
        rw [f1]
        dsimp only
        rw [if_neg (by decide)]
        unfold zJ45_81
        have ax3 : AX true m3 (armP (tc T L) i).2.2.2.2.2.2.2.2 (armP (tc T L) i).2.2.2.2.2.2.1 := AX_kp x2.2.2.2.2.2.2.2 f3 (ca_w28 true)
        rcases rr_m false n hn T L ((armP (tc T L) i).2.1 + 1) m3 f2 (by omega) with ⟨w2, m', y1, y2⟩ | ⟨w2, m4, y1, y2, y3⟩
        · left
          have er : armr (tc T L) i = (1, (armB (tc T L) i).2.1) := by
            unfold armr
            rw [if_neg (by simpa using c1), if_neg (by intro z; have : (armP (tc T L) i).1 = 2 := w; omega), if_neg (by simpa using c2), if_pos (by exact w2)]
          rw [er]
          refine ⟨rfl, m', ?_, y2.1, kp_tr g12 (kp_tr (kp_sub (fun p hp => s45 true p (s28 true p hp)) f3) (kp_sub (s45 false) y2.2))⟩
          rw [show zF44 n 0 m3 = some (0, m') from y1]
          rfl
        · right
          have wle2 : (armP (tc T L) i).2.1 + 1 < (armB (tc T L) i).2.1 ∧ (armB (tc T L) i).2.1 ≤ 120 := rrn_le false T L hL 130 (r0 ((armP (tc T L) i).2.1 + 1)) (by show (armP (tc T L) i).2.1 + 1 ≤ 120; omega) w2
          have er : armr (tc T L) i = (2, (armB (tc T L) i).2.1) := by
            unfold armr
            rw [if_neg (by simpa using c1), if_neg (by intro z; have : (armP (tc T L) i).1 = 2 := w; omega), if_neg (by simpa using c2), if_neg (by intro z; have : (armB (tc T L) i).1 = 2 := w2; omega)]
          rw [er]
          have ax4 : AX true m4 (armP (tc T L) i).2.2.2.2.2.2.2.2 (armP (tc T L) i).2.2.2.2.2.2.1 := AX_kp ax3 y3 (by
            intro c hc j
            simp [ca] at hc
            rcases hc with rfl | rfl | rfl | rfl | rfl | rfl | rfl <;> rfl)
          have h895 : m4.1 89 5 = m.1 89 5 := by rw [(y3.1 89 5 rfl).1, (f3.1 89 5 rfl).1, (x3.1 89 5 rfl).1, (e3.1 89 5 rfl).1]
          have g5 : kp (wl [(89, 5)]) m4 (z_i m4 89 5 (m4.1 89 5 + 1)) := kp_i (kp_refl _ m4) (by simp)
          refine ⟨rfl, by show i < (armB (tc T L) i).2.1; omega, wle2.2, z_i m4 89 5 (m4.1 89 5 + 1), ?_, CU_kp y2.1 g5 rfl (fun _ => rfl) rfl rfl rfl rfl, ⟨AX_kp ax4 g5 ?_, AX_kp y2.2.2.2.2.2.2.2 g5 ?_⟩, by rw [z_eq, h895], kp_tr g12 (kp_tr (kp_sub (fun p hp => s45 true p (s28 true p hp)) f3) (kp_tr (kp_sub (s45 false) y3) (kp_sub (by simp [w45y]) g5)))⟩
          · rw [show zF44 n 0 m3 = some (1, m4) from y1]
            dsimp only
            rw [if_neg (by decide), if_neg (by decide), if_pos (by show rg (m4.1 89 5 + 1); omega), zlet]
            rfl
          · intro c hc j
            simp [ca] at hc
            rcases hc with rfl | rfl | rfl | rfl | rfl | rfl | rfl <;> rfl
          · intro c hc j
            simp [ca] at hc
            rcases hc with rfl | rfl | rfl | rfl | rfl | rfl <;> rfl
      · left
        have er : armr (tc T L) i = (1, (armP (tc T L) i).2.1) := by
          unfold armr
          rw [if_neg (by simpa using c1), if_neg (by intro z; have : (armP (tc T L) i).1 = 2 := w; omega), if_pos (by simpa using c2)]
        obtain ⟨m', f1, f2⟩ := (ps_b n hn (show CU T L (armP (tc T L) i).2.1 m2 from x2.1) (tc T L (armP (tc T L) i).2.1 = 123)).2 c2
        rw [er]
        refine ⟨rfl, m', ?_, f2.1, kp_tr g12 (kp_sub (fun p hp => s45 true p (s8 true p hp)) f2.2)⟩
        rw [f1]
        rfl
  · left
    have er : armr (tc T L) i = (1, i) := by
      unfold armr
      rw [if_pos (by simpa using c1)]
    obtain ⟨m', f1, f2⟩ := (ps_b n hn h (tc T L i = 40)).2 c1
    rw [er]
    refine ⟨rfl, m', ?_, f2.1, kp_sub (fun p hp => s45 true p (s8 true p hp)) f2.2⟩
    rw [f1]
    rfl
