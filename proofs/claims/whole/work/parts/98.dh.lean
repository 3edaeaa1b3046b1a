/-! The reference's spread. -/
def mn (x : Int) : Int := if x ≤ 2 then x else 2
theorem mn_mn (a b : Int) (hb : 0 ≤ b) : mn (mn a + b) = mn (a + b) := by
  unfold mn
  repeat' split
  all_goals omega
section
variable {C : Nat → Int} {Y A : Nat → Nat → Int} {N i0 z : Nat} {n : Nat}
/-- what a thread that stands before k leaves -/
def stm (A : Nat → Nat → Int) (mv og : Int) (k : Nat) (m : ZM) : ZM := if sd A k then z_i (z_i m 109 k (mn (m.1 109 k + mv))) 110 k og else m
theorem stm_114 (mv og : Int) (k : Nat) (m : ZM) (c q : Nat) (hc : c ≠ 109) (hc' : c ≠ 110) : (stm A mv og k m).1 c q = m.1 c q := by
  unfold stm
  split
  · rw [z_nc _ _ _ _ _ _ hc', z_nc _ _ _ _ _ _ hc]
  · rfl
theorem sp_48 (rec : Int → Int → Int → ZM → Option (Unit × ZM)) (m : ZM) (mv og : Int) (hmv : mv = 1 ∨ mv = 2) (s k : Nat) (hk : k < 128) (h9 : 0 ≤ m.1 109 k ∧ m.1 109 k ≤ 2) (h3 : m.1 93 k = A 3 k) : zJ49_48 n rec mv og s k (A 0 k) (A 4 k) m = zJ49_129 n rec mv og s k (A 0 k) (A 4 k) (stm A mv og k m) := by
  have hr : ¬ ((k : Int) < 0 ∨ 128 ≤ (k : Int)) := by omega
  have hg : rg (m.1 109 k + mv) := by omega
  unfold zJ49_48 zJ49_80 zJ49_76 zJ49_81 zJ49_120 zlet stm mn
  simp only [if_neg hr, Int.toNat_natCast, h3, if_pos hg]
  have fin : (if m.1 109 k + mv ≤ 2 then zJ49_129 n rec mv og s k (A 0 k) (A 4 k) (z_i (z_i m 109 k (m.1 109 k + mv)) 110 k og) else zJ49_129 n rec mv og s k (A 0 k) (A 4 k) (z_i (z_i m 109 k 2) 110 k og)) = zJ49_129 n rec mv og s k (A 0 k) (A 4 k) (z_i (z_i m 109 k (if m.1 109 k + mv ≤ 2 then m.1 109 k + mv else 2)) 110 k og) := by
    by_cases q : m.1 109 k + mv ≤ 2
    · rw [if_pos q, if_pos q]
    · rw [if_neg q, if_neg q]
  by_cases q4 : A 0 k = 4
  · rw [if_pos q4, if_neg (show ¬ sd A k from fun c => c.1 q4)]
    exact if_pos trivial
  · rw [if_neg q4]
    by_cases q5 : A 0 k = 5
    · rw [if_pos q5]
      by_cases q3 : A 4 k = 3
      · rw [if_pos q3, if_neg (show ¬ sd A k from fun c => (c.2 q5).1 q3)]
        exact if_pos trivial
      · rw [if_neg q3]
        by_cases q0 : A 3 k = 0
        · rw [if_pos q0, if_neg (show ¬ sd A k from fun c => (c.2 q5).2 q0)]
          exact if_pos trivial
        · rw [if_neg q0, if_pos (show sd A k from ⟨q4, fun _ => ⟨q3, q0⟩⟩)]
          exact (if_neg (by decide)).trans fin
    · rw [if_neg q5, if_pos (show sd A k from ⟨q4, fun c => absurd c q5⟩)]
      exact (if_neg (by decide)).trans fin
theorem sp_209 (rec : Int → Int → Int → ZM → Option (Unit × ZM)) (m : ZM) (mv og : Int) (s k : Nat) (hk : k < 128) (hs2 : s + 1 ≤ 512) (h93 : m.1 93 k = A 3 k) (h92 : m.1 92 k = A 2 k) (h2 : on1 A k → 0 ≤ A 2 k ∧ A 2 k < 128) : zJ49_209 n rec mv og s k (A 0 k) (A 4 k) m = if A 0 k = 5 ∧ A 4 k ≠ 3 ∧ A 3 k = 0 then rec mv og ((s : Int) + 1) (z_i m 114 s (A 2 k + 1)) else rec mv og s m := by
  unfold zJ49_209 zJ49_247 zJ49_253
  by_cases q5 : A 0 k = 5
  · rw [if_pos q5]
    by_cases q3 : A 4 k = 3
    · rw [if_pos q3, if_neg (show ¬ (A 0 k = 5 ∧ A 4 k ≠ 3 ∧ A 3 k = 0) from fun c => c.2.1 q3)]
    · rw [if_neg q3, if_neg (show ¬ ((k : Int) < 0 ∨ 128 ≤ (k : Int)) by omega), Int.toNat_natCast, h93, h92]
      by_cases q0 : A 3 k = 0
      · have h2' := h2 (Or.inr q5)
        rw [if_pos q0, if_neg (show ¬ ((s : Int) < 0 ∨ 512 ≤ (s : Int)) by omega), if_pos (show rg (A 2 k + 1) by omega), zlet, if_pos (show rg ((s : Int) + 1) by omega), Int.toNat_natCast, if_pos (show A 0 k = 5 ∧ A 4 k ≠ 3 ∧ A 3 k = 0 from ⟨q5, q3, q0⟩)]
      · rw [if_neg q0, if_neg (show ¬ (A 0 k = 5 ∧ A 4 k ≠ 3 ∧ A 3 k = 0) from fun c => q0 c.2.2)]
  · rw [if_neg q5, if_neg (show ¬ (A 0 k = 5 ∧ A 4 k ≠ 3 ∧ A 3 k = 0) from fun c => q5 c.1)]
theorem sp_186 (rec : Int → Int → Int → ZM → Option (Unit × ZM)) (m : ZM) (mv og : Int) (s k : Nat) (hk : k < 128) (hs2 : s + 2 ≤ 512) (h93 : m.1 93 k = A 3 k) (h92 : m.1 92 k = A 2 k) (h2 : on1 A k → 0 ≤ A 2 k ∧ A 2 k < 128) : zJ49_186 n rec mv og s k (A 0 k) (A 4 k) m = if A 0 k = 5 then (if A 4 k ≠ 3 ∧ A 3 k = 0 then rec mv og ((s : Int) + 1 + 1) (z_i (z_i m 114 s ((k : Int) + 1)) 114 (s + 1) (A 2 k + 1)) else rec mv og ((s : Int) + 1) (z_i m 114 s ((k : Int) + 1))) else rec mv og s m := by
  unfold zJ49_186
  by_cases q5 : A 0 k = 5
  · rw [if_pos q5, if_pos q5, if_neg (show ¬ ((s : Int) < 0 ∨ 512 ≤ (s : Int)) by omega), if_pos (show rg ((k : Int) + 1) by omega), zlet, if_pos (show rg ((s : Int) + 1) by omega), Int.toNat_natCast]
    have e := sp_209 (A := A) (n := n) rec (z_i m 114 s ((k : Int) + 1)) mv og (s + 1) k hk (by omega) (by rw [z_nc _ _ _ _ _ _ (by decide)]; exact h93) (by rw [z_nc _ _ _ _ _ _ (by decide)]; exact h92) h2
    rw [show ((s + 1 : Nat) : Int) = (s : Int) + 1 by omega] at e
    rw [e]
    by_cases q : A 4 k ≠ 3 ∧ A 3 k = 0
    · rw [if_pos q, if_pos (show A 0 k = 5 ∧ A 4 k ≠ 3 ∧ A 3 k = 0 from ⟨q5, q⟩)]
    · rw [if_neg q, if_neg (show ¬ (A 0 k = 5 ∧ A 4 k ≠ 3 ∧ A 3 k = 0) from fun c => q c.2)]
  · rw [if_neg q5, if_neg q5, sp_209 rec m mv og s k hk (by omega) h93 h92 h2, if_neg (show ¬ (A 0 k = 5 ∧ A 4 k ≠ 3 ∧ A 3 k = 0) from fun c => q5 c.1)]
theorem sp_129 (rec : Int → Int → Int → ZM → Option (Unit × ZM)) (m : ZM) (mv og : Int) (s k : Nat) (hk : k < 128) (hs2 : s + 2 ≤ 512) (h93 : m.1 93 k = A 3 k) (h92 : m.1 92 k = A 2 k) (h2 : on1 A k → 0 ≤ A 2 k ∧ A 2 k < 128) : zJ49_129 n rec mv og s k (A 0 k) (A 4 k) m = if on2 A k then rec mv og ((s : Int) + 1 + 1) (z_i (z_i m 114 s ((k : Int) + 1)) 114 (s + 1) (A 2 k + 1)) else if on1 A k then rec mv og ((s : Int) + 1) (z_i m 114 s ((k : Int) + 1)) else rec mv og s m := by
  unfold zJ49_129
  by_cases q4 : A 0 k = 4
  · have h2' := h2 (Or.inl q4)
    have e186 : ∀ (m2 : ZM) (s2 : Int), zJ49_186 n rec mv og s2 k (A 0 k) (A 4 k) m2 = rec mv og s2 m2 := by
      intro m2 s2
      unfold zJ49_186 zJ49_209 zJ49_253
      rw [if_neg (show ¬ A 0 k = 5 by omega), if_neg (show ¬ A 0 k = 5 by omega)]
    rw [if_pos q4, if_neg (show ¬ ((s : Int) < 0 ∨ 512 ≤ (s : Int)) by omega), if_pos (show rg ((k : Int) + 1) by omega), zlet, if_pos (show rg ((s : Int) + 1) by omega), Int.toNat_natCast]
    unfold zJ49_152 zJ49_180
    rw [if_pos q4]
    by_cases q2 : A 4 k = 2
    · rw [if_pos q2, e186, if_neg (show ¬ on2 A k by rintro (c | c) <;> omega), if_pos (show on1 A k from Or.inl q4)]
    · rw [if_neg q2, if_neg (show ¬ ((k : Int) < 0 ∨ 128 ≤ (k : Int)) by omega), if_neg (show ¬ ((s : Int) + 1 < 0 ∨ 512 ≤ (s : Int) + 1) by omega), Int.toNat_natCast, z_nc _ _ _ _ _ _ (show 92 ≠ 114 by decide), h92, if_pos (show rg (A 2 k + 1) by omega), zlet, if_pos (show rg ((s : Int) + 1 + 1) by omega), e186, if_pos (show on2 A k from Or.inl ⟨q4, q2⟩), show ((s : Int) + 1).toNat = s + 1 by omega]
  · unfold zJ49_152
    rw [if_neg q4, if_neg q4, sp_186 rec m mv og s k hk hs2 h93 h92 h2]
    by_cases q5 : A 0 k = 5
    · rw [if_pos q5]
      by_cases q : A 4 k ≠ 3 ∧ A 3 k = 0
      · rw [if_pos q, if_pos (show on2 A k from Or.inr ⟨q5, q⟩)]
      · rw [if_neg q, if_neg (show ¬ on2 A k from fun c => by
          rcases c with c | c
          · exact q4 c.1
          · exact q c.2), if_pos (show on1 A k from Or.inr q5)]
    · rw [if_neg q5, if_neg (show ¬ on2 A k by rintro (c | c) <;> omega), if_neg (show ¬ on1 A k by rintro (c | c) <;> omega)]
theorem sp_st (hN : N < 119) (m : ZM) (hA : AX true m A (N + 1)) (mv og : Int) (hmv : mv = 1 ∨ mv = 2) (g s k : Nat) (hk : k ≤ N) (hs : m.1 114 s = k) (hs2 : s + 2 ≤ 512) (h9 : 0 ≤ m.1 109 k ∧ m.1 109 k ≤ 2) (h2 : on1 A k → 0 ≤ A 2 k ∧ A 2 k < 128) :
    zL49_10 n (g + 1) mv og ((s : Int) + 1) m = if on2 A k then zL49_10 n g mv og ((s : Int) + 1 + 1) (z_i (z_i (stm A mv og k m) 114 s ((k : Int) + 1)) 114 (s + 1) (A 2 k + 1)) else if on1 A k then zL49_10 n g mv og ((s : Int) + 1) (z_i (stm A mv og k m) 114 s ((k : Int) + 1)) else zL49_10 n g mv og s (stm A mv og k m) := by
  have ax := hA k (by omega)
  rw [if_pos rfl] at ax
  rw [zL49_10, if_neg (by omega), show (s : Int) + 1 - 1 = s by omega, if_pos (by omega), if_neg (by omega), Int.toNat_natCast, hs, if_neg (by omega), Int.toNat_natCast, ax.1, ax.2.2.2.2.1]
  generalize zL49_10 n g = rec
  rw [sp_48 rec m mv og hmv s k (by omega) h9 ax.2.2.2.1]
  exact sp_129 rec (stm A mv og k m) mv og s k (by omega) hs2 (by rw [stm_114 mv og k m 93 k (by decide) (by decide)]; exact ax.2.2.2.1) (by rw [stm_114 mv og k m 92 k (by decide) (by decide)]; exact ax.2.2.1) h2
end
