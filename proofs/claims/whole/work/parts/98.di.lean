/-! spread, whole. -/
section
variable {C : Nat → Int} {Y A : Nat → Nat → Int} {N i0 z : Nat} {n : Nat}
theorem AX_k {m m' : ZM} (hA : AX true m A (N + 1)) (g : ∀ c q : Nat, 90 ≤ c → c ≤ 96 → m'.1 c q = m.1 c q) : AX true m' A (N + 1) := by
  intro j hj
  have := hA j hj
  rw [if_pos rfl] at this ⊢
  rw [g 90 j (by omega) (by omega), g 91 j (by omega) (by omega), g 92 j (by omega) (by omega), g 93 j (by omega) (by omega), g 94 j (by omega) (by omega), g 95 j (by omega) (by omega), g 96 j (by omega) (by omega)]
  exact this
/-- what spread has done -/
def SP (A : Nat → Nat → Int) (mv og : Int) (s k : Nat) (m m' : ZM) : Prop :=
  kp (wl w49) m m' ∧ (∀ q : Nat, q < s → m'.1 114 q = m.1 114 q) ∧ ∀ j : Nat, j < 128 → m'.1 109 j = mn (m.1 109 j + mv * wc A k j) ∧ m'.1 110 j = if 0 < wc A k j then og else m.1 110 j
theorem stm_s (mv og : Int) (k : Nat) (m : ZM) (j : Nat) (h9 : 0 ≤ m.1 109 j ∧ m.1 109 j ≤ 2) : (stm A mv og k m).1 109 j = mn (m.1 109 j + mv * (if sd A k ∧ k = j then 1 else 0 : Nat)) ∧ (stm A mv og k m).1 110 j = if 0 < (if sd A k ∧ k = j then 1 else 0 : Nat) then og else m.1 110 j := by
  unfold stm
  by_cases q : sd A k
  · rw [if_pos q]
    by_cases q2 : k = j
    · subst q2
      rw [if_pos (show sd A k ∧ k = k from ⟨q, rfl⟩), z_nc _ _ _ _ _ _ (by decide), z_eq, z_eq, if_pos (by decide)]
      refine ⟨?_, rfl⟩
      congr 1
      omega
    · rw [if_neg (show ¬ (sd A k ∧ k = j) from fun c => q2 c.2), z_nc _ _ _ _ _ _ (by decide), z_nk _ _ _ _ _ _ (fun c => q2 c.symm), z_nk _ _ _ _ _ _ (fun c => q2 c.symm), z_nc _ _ _ _ _ _ (by decide), if_neg (by decide)]
      refine ⟨?_, rfl⟩
      unfold mn
      rw [if_pos (by omega)]
      omega
  · rw [if_neg q, if_neg (show ¬ (sd A k ∧ k = j) from fun c => q c.1), if_neg (by decide)]
    refine ⟨?_, rfl⟩
    unfold mn
    rw [if_pos (by omega)]
    omega
theorem stm_kp (mv og : Int) (k : Nat) (m : ZM) : kp (wl w49) m (stm A mv og k m) := by
  unfold stm
  split
  · exact kp_ia (kp_ia (kp_refl _ m) (by simp [w49])) (by simp [w49])
  · exact kp_refl _ m
theorem mn_r {x : Int} (h : 0 ≤ x) : 0 ≤ mn x ∧ mn x ≤ 2 := by
  unfold mn
  split <;> omega
theorem mul_w (mv : Int) (hmv : mv = 1 ∨ mv = 2) (a : Nat) : 0 ≤ mv * (a : Int) := by
  rcases hmv with rfl | rfl <;> omega
theorem w49_90 {m m' : ZM} (g : kp (wl w49) m m') (c q : Nat) (h1 : 90 ≤ c) (h2 : c ≤ 96) : m'.1 c q = m.1 c q := (g.1 c q (by
  unfold wl w49
  simp
  omega)).1
theorem spr (h : RX true C Y A N i0 z) (hne : ∀ e : Nat, e < N → ¬ em A e) (mv og : Int) (hmv : mv = 1 ∨ mv = 2) : ∀ (f k : Nat), k ≤ N → phi A N k < f → ∀ (s : Nat) (m : ZM), AX true m A (N + 1) → (∀ j : Nat, j < 128 → 0 ≤ m.1 109 j ∧ m.1 109 j ≤ 2) → m.1 114 s = k → s + f + 2 ≤ 512 →
    ∃ (T : Nat) (m' : ZM), T + 1 ≤ 2 ^ f ∧ (∀ g, zL49_10 n (g + T) mv og ((s : Int) + 1) m = zL49_10 n g mv og s m') ∧ SP A mv og s k m m' := by
  have hN := x_N119 h
  intro f
  induction f with
  | zero => intro k _ hf; omega
  | succ f ih =>
    intro k hk hf s m hA h9 hs h512
    have ha2 : on1 A k → 0 ≤ A 2 k ∧ A 2 k < 128 := fun c => by
      obtain ⟨_, t, g1, g2, _⟩ := on2_t h k hk c
      omega
    have st := fun g => sp_st (n := n) hN m hA mv og hmv g s k hk hs (by omega) (h9 k (by omega)) ha2
    obtain ⟨m1, hm1⟩ : ∃ m1, m1 = stm A mv og k m := ⟨_, rfl⟩
    have s1 := fun (j : Nat) (hj : j < 128) => stm_s (A := A) mv og k m j (h9 j hj)
    have k1 := stm_kp (A := A) mv og k m
    have s114 : ∀ q, (stm A mv og k m).1 114 q = m.1 114 q := fun q => stm_114 mv og k m 114 q (by decide) (by decide)
    rw [← hm1] at s1 k1 s114
    simp only [← hm1] at st
    have h91 : ∀ j : Nat, j < 128 → 0 ≤ m1.1 109 j ∧ m1.1 109 j ≤ 2 := fun j hj => by
      rw [(s1 j hj).1]
      have := h9 j hj
      have := mul_w mv hmv (if sd A k ∧ k = j then 1 else 0)
      exact mn_r (by omega)
    have hA1 : AX true m1 A (N + 1) := AX_k hA (w49_90 k1)
    have wce := fun j => wc_eq h hne k j hk
    have p2 : 2 ^ (f + 1) = 2 * 2 ^ f := by rw [Nat.pow_succ]; omega
    by_cases q1 : on1 A k
    · obtain ⟨hkN, t, t1, t2, t3, _⟩ := on2_t h k hk q1
      have f1 := phi_1 h hne k hkN q1
      by_cases q2 : on2 A k
      · have f2 := phi_2 h hne k hkN q2
        rw [t3] at f2
        obtain ⟨m2, hm2⟩ : ∃ m2, m2 = z_i (z_i m1 114 s ((k : Int) + 1)) 114 (s + 1) (A 2 k + 1) := ⟨_, rfl⟩
        have c2 : ∀ c q : Nat, c ≠ 114 → m2.1 c q = m1.1 c q := fun c q hc => by
          rw [hm2, z_nc _ _ _ _ _ _ hc, z_nc _ _ _ _ _ _ hc]
        obtain ⟨T2, m3, a1, a2, a3, a4, a5⟩ := ih (t + 1) (by omega) (by omega) (s + 1) m2 (AX_k hA1 (fun c q _ _ => c2 c q (by omega))) (fun j hj => by rw [c2 109 j (by decide)]; exact h91 j hj) (by rw [hm2, z_eq, t1]; omega) (by omega)
        have h93 : ∀ j : Nat, j < 128 → 0 ≤ m3.1 109 j ∧ m3.1 109 j ≤ 2 := fun j hj => by
          rw [(a5 j hj).1, c2 109 j (by decide)]
          have := h91 j hj
          have := mul_w mv hmv (wc A (t + 1) j)
          exact mn_r (by omega)
        obtain ⟨T1, m4, b1, b2, b3, b4, b5⟩ := ih (k + 1) (by omega) (by omega) s m3 (AX_k hA (fun c q x y => by rw [w49_90 a3 c q x y, c2 c q (by omega), w49_90 k1 c q x y])) h93 (by
          rw [a4 s (by omega), hm2, z_nk _ _ _ _ _ _ (by omega), z_eq]
          omega) (by omega)
        refine ⟨T1 + T2 + 1, m4, by omega, fun g => ?_, ?_, ?_, ?_⟩
        · rw [show g + (T1 + T2 + 1) = (g + T1 + T2) + 1 by omega, st (g + T1 + T2), if_pos q2, ← hm2]
          have := a2 (g + T1)
          rw [show ((s + 1 : Nat) : Int) = (s : Int) + 1 by omega] at this
          rw [this, b2 g]
        · have k2 : kp (wl w49) m1 m2 := by
            rw [hm2]
            exact kp_ia (kp_ia (kp_refl _ m1) (by simp [w49])) (by simp [w49])
          exact kp_tr k1 (kp_tr k2 (kp_tr a3 b3))
        · intro q hq
          rw [b4 q hq, a4 q (by omega), hm2, z_nk _ _ _ _ _ _ (by omega), z_nk _ _ _ _ _ _ (by omega), s114]
        · intro j hj
          have w0 := wce j
          rw [if_pos q1, if_pos q2, t3] at w0
          have u1 := mul_w mv hmv (wc A (t + 1) j)
          have u2 := mul_w mv hmv (wc A (k + 1) j)
          constructor
          · rw [(b5 j hj).1, (a5 j hj).1, c2 109 j (by decide), (s1 j hj).1, mn_mn _ _ u1, mn_mn _ _ u2, w0]
            congr 1
            rcases hmv with rfl | rfl <;> omega
          · rw [(b5 j hj).2, (a5 j hj).2, c2 110 j (by decide), (s1 j hj).2]
            by_cases z1 : 0 < wc A (k + 1) j
            · rw [if_pos z1, if_pos (by omega)]
            rw [if_neg z1]
            by_cases z2 : 0 < wc A (t + 1) j
            · rw [if_pos z2, if_pos (by omega)]
            rw [if_neg z2]
            by_cases z3 : 0 < (if sd A k ∧ k = j then 1 else 0 : Nat)
            · rw [if_pos z3, if_pos (by omega)]
            · rw [if_neg z3, if_neg (by omega)]
      · obtain ⟨m2, hm2⟩ : ∃ m2, m2 = z_i m1 114 s ((k : Int) + 1) := ⟨_, rfl⟩
        have c2 : ∀ c q : Nat, c ≠ 114 → m2.1 c q = m1.1 c q := fun c q hc => by
          rw [hm2, z_nc _ _ _ _ _ _ hc]
        obtain ⟨T1, m4, b1, b2, b3, b4, b5⟩ := ih (k + 1) (by omega) (by omega) s m2 (AX_k hA1 (fun c q _ _ => c2 c q (by omega))) (fun j hj => by rw [c2 109 j (by decide)]; exact h91 j hj) (by
          rw [hm2, z_eq]
          omega) (by omega)
        refine ⟨T1 + 1, m4, by omega, fun g => ?_, ?_, ?_, ?_⟩
        · rw [show g + (T1 + 1) = (g + T1) + 1 by omega, st (g + T1), if_neg q2, if_pos q1, ← hm2]
          exact b2 g
        · have k2 : kp (wl w49) m1 m2 := by
            rw [hm2]
            exact kp_ia (kp_refl _ m1) (by simp [w49])
          exact kp_tr k1 (kp_tr k2 b3)
        · intro q hq
          rw [b4 q hq, hm2, z_nk _ _ _ _ _ _ (by omega), s114]
        · intro j hj
          have w0 := wce j
          rw [if_pos q1, if_neg q2] at w0
          have u2 := mul_w mv hmv (wc A (k + 1) j)
          constructor
          · rw [(b5 j hj).1, c2 109 j (by decide), (s1 j hj).1, mn_mn _ _ u2, w0]
            congr 1
            rcases hmv with rfl | rfl <;> omega
          · rw [(b5 j hj).2, c2 110 j (by decide), (s1 j hj).2]
            by_cases z1 : 0 < wc A (k + 1) j
            · rw [if_pos z1, if_pos (by omega)]
            rw [if_neg z1]
            by_cases z3 : 0 < (if sd A k ∧ k = j then 1 else 0 : Nat)
            · rw [if_pos z3, if_pos (by omega)]
            · rw [if_neg z3, if_neg (by omega)]
    · have q2 : ¬ on2 A k := fun c => q1 (on2_1 c)
      refine ⟨1, m1, by rw [p2]; have := Nat.one_le_two_pow (n := f); omega, fun g => ?_, k1, fun q hq => s114 q, fun j hj => ?_⟩
      · rw [st g, if_neg q2, if_neg q1]
      · have w0 := wce j
        rw [if_neg q1, if_neg q2] at w0
        rw [(s1 j hj).1, (s1 j hj).2, w0]
        exact ⟨rfl, rfl⟩
theorem m49 (hn : 200000 ≤ n) (h : RX true C Y A N i0 z) (hne : ∀ e : Nat, e < N → ¬ em A e) (mv og : Int) (hmv : mv = 1 ∨ mv = 2) (k : Nat) (hk : k ≤ N) (m : ZM) (hA : AX true m A (N + 1)) (h9 : ∀ j : Nat, j < 128 → 0 ≤ m.1 109 j ∧ m.1 109 j ≤ 2) : ∃ m' : ZM, zF49 n k mv og m = some ((), m') ∧ SP A mv og 0 k m m' := by
  have p16 := phi_16 h k
  have c1 : ∀ c q : Nat, c ≠ 114 → (z_i m 114 0 (k : Int)).1 c q = m.1 c q := fun c q hc => z_nc _ _ _ _ _ _ hc
  obtain ⟨T, m', a1, a2, a3, a4, a5⟩ := spr (n := n) h hne mv og hmv 17 k hk (by omega) 0 (z_i m 114 0 (k : Int)) (AX_k hA (fun c q _ _ => c1 c q (by omega))) (fun j hj => by rw [c1 109 j (by decide)]; exact h9 j hj) (z_eq _ _ _ _) (by omega)
  have hT : T + 1 ≤ 131072 := a1
  refine ⟨m', ?_, kp_tr (kp_ia (kp_refl _ m) (by simp [w49])) a3, fun q hq => absurd hq (Nat.not_lt_zero q), fun j hj => ?_⟩
  · unfold zF49
    rw [zlet]
    have := a2 (n - T)
    rw [show n - T + T = n by omega] at this
    have e1 : ((0 : Nat) : Int) + 1 = 1 := rfl
    rw [e1] at this
    rw [this, show n - T = (n - T - 1) + 1 by omega, zL49_10, if_pos (by omega)]
  · have := a5 j hj
    rw [c1 109 j (by decide), c1 110 j (by decide)] at this
    exact this
end
