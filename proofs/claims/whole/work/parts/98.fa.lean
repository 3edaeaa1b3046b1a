/-! goTo: its search. -/
def edg (A : Nat → Nat → Int) (q j : Nat) : Prop := (on1 A q ∧ j = q + 1) ∨ (on2 A q ∧ j = tg2 A q)
/-- a node is put on the stack, if it is new -/
def psh (m : ZM) (s j k : Nat) : ZM := z_i (z_i m 115 k (j : Int)) 114 s (k : Int)
section
variable {C : Nat → Int} {Y A : Nat → Nat → Int} {N i0 z : Nat} {n : Nat}
theorem g_172 (rec : Int → Int → Int → ZM → Option (Unit × ZM)) (x1 x2 : Int) (m : ZM) (s j : Nat) (hs : s + 1 ≤ 512) (t : Int) (ht : t = -1 ∨ (0 ≤ t ∧ t < 128)) : zJ71_172 n rec x1 x2 s j t m = if 0 ≤ t ∧ m.1 115 t.toNat < 0 then rec x1 x2 ((s : Int) + 1) (psh m s j t.toNat) else rec x1 x2 s m := by
  unfold zJ71_172 zJ71_208
  by_cases q : t < 0
  · rw [if_pos q, if_neg (show ¬ (0 ≤ t ∧ m.1 115 t.toNat < 0) by omega)]
  · rw [if_neg q, if_neg (by omega)]
    by_cases q2 : 0 ≤ m.1 115 t.toNat
    · rw [if_pos q2, if_neg (show ¬ (0 ≤ t ∧ m.1 115 t.toNat < 0) by omega)]
    · rw [if_neg q2, zlet, if_pos (show 0 ≤ t ∧ m.1 115 t.toNat < 0 by omega)]
      unfold zJ71_196 zJ71_208
      rw [if_neg (by omega), zlet, if_pos (by omega), Int.toNat_natCast]
      unfold psh
      rw [show ((t.toNat : Nat) : Int) = t by omega]
theorem g_134 (rec : Int → Int → Int → ZM → Option (Unit × ZM)) (x1 x2 : Int) (m : ZM) (s j : Nat) (hs : s + 2 ≤ 512) (o t : Int) (ho : o = -1 ∨ (0 ≤ o ∧ o < 128)) (ht : t = -1 ∨ (0 ≤ t ∧ t < 128)) : zJ71_134 n rec x1 x2 s j o t m = if 0 ≤ o ∧ m.1 115 o.toNat < 0 then zJ71_172 n rec x1 x2 ((s + 1 : Nat) : Int) j t (psh m s j o.toNat) else zJ71_172 n rec x1 x2 s j t m := by
  unfold zJ71_134
  by_cases q : o < 0
  · rw [if_pos q, if_neg (show ¬ (0 ≤ o ∧ m.1 115 o.toNat < 0) by omega)]
  · rw [if_neg q, if_neg (by omega)]
    by_cases q2 : 0 ≤ m.1 115 o.toNat
    · rw [if_pos q2, if_neg (show ¬ (0 ≤ o ∧ m.1 115 o.toNat < 0) by omega)]
    · rw [if_neg q2, zlet, if_pos (show 0 ≤ o ∧ m.1 115 o.toNat < 0 by omega)]
      unfold zJ71_160
      rw [if_neg (by omega), zlet, if_pos (by omega), Int.toNat_natCast]
      unfold psh
      rw [show ((o.toNat : Nat) : Int) = o by omega, show ((s + 1 : Nat) : Int) = (s : Int) + 1 by omega]
theorem g_st (h : RX true C Y A N i0 z) (m : ZM) (hA : AX true m A (N + 1)) (x1 x2 : Int) (g s j : Nat) (hj : j ≤ N) (hs : m.1 114 s = j) (hs2 : s + 2 ≤ 512) :
    zL71_31 n (g + 1) x1 x2 ((s : Int) + 1) m = if on1 A j ∧ m.1 115 (j + 1) < 0 then (if on2 A j ∧ (psh m s j (j + 1)).1 115 (tg2 A j) < 0 then zL71_31 n g x1 x2 ((s : Int) + 1 + 1) (psh (psh m s j (j + 1)) (s + 1) j (tg2 A j)) else zL71_31 n g x1 x2 ((s : Int) + 1) (psh m s j (j + 1))) else (if on2 A j ∧ m.1 115 (tg2 A j) < 0 then zL71_31 n g x1 x2 ((s : Int) + 1) (psh m s j (tg2 A j)) else zL71_31 n g x1 x2 s m) := by
  have hN := x_N119 h
  have ax := hA j (by omega)
  rw [if_pos rfl] at ax
  rw [zL71_31, if_neg (by omega), show (s : Int) + 1 - 1 = s by omega, if_pos (by omega), if_neg (by omega), Int.toNat_natCast, hs, if_neg (by omega), Int.toNat_natCast, ax.1, ax.2.2.2.2.1]
  generalize zL71_31 n g = rec
  have e134 : zJ71_65 n rec x1 x2 s j (A 0 j) (A 4 j) m = zJ71_134 n rec x1 x2 s j (if on1 A j then (j : Int) + 1 else -1) (if on2 A j then A 2 j + 1 else -1) m := by
    unfold zJ71_65 zJ71_77 zJ71_85 zJ71_99 zJ71_133 zJ71_121
    have g1 : rg ((j : Int) + 1) := by omega
    have hr : ¬ ((j : Int) < 0 ∨ 128 ≤ (j : Int)) := by omega
    have ha2 : on1 A j → rg (A 2 j + 1) := fun c => by
      obtain ⟨_, t, t1, t2, _⟩ := on2_t h j hj c
      omega
    rw [if_neg hr, if_neg hr, Int.toNat_natCast, ax.2.2.1, ax.2.2.2.1]
    by_cases q4 : A 0 j = 4
    · have ha := ha2 (Or.inl q4)
      rw [if_pos q4, if_pos g1, if_pos q4, if_pos (show on1 A j from Or.inl q4)]
      by_cases q2 : A 4 j = 2
      · rw [if_pos q2, if_neg (show ¬ A 0 j = 5 by omega), if_neg (show ¬ on2 A j by rintro (c | c) <;> omega)]
      · rw [if_neg q2, if_pos ha, if_pos (show on2 A j from Or.inl ⟨q4, q2⟩)]
    · rw [if_neg q4]
      by_cases q5 : A 0 j = 5
      · have ha := ha2 (Or.inr q5)
        rw [if_pos q5, if_pos g1, if_neg q4, if_pos q5, if_pos (show on1 A j from Or.inr q5)]
        by_cases q3 : A 4 j = 3
        · rw [if_pos q3, if_neg (show ¬ on2 A j by rintro (c | c) <;> omega)]
        · rw [if_neg q3]
          by_cases q0 : A 3 j = 0
          · rw [if_pos q0, if_pos ha, if_pos (show on2 A j from Or.inr ⟨q5, q3, q0⟩)]
          · rw [if_neg q0, if_neg (show ¬ on2 A j by rintro (c | c) <;> omega)]
      · rw [if_neg q5, if_neg q4, if_neg q5, if_neg (show ¬ on1 A j by rintro (c | c) <;> omega), if_neg (show ¬ on2 A j by rintro (c | c) <;> omega)]
  have ht : (if on2 A j then A 2 j + 1 else -1) = -1 ∨ (0 ≤ (if on2 A j then A 2 j + 1 else -1) ∧ (if on2 A j then A 2 j + 1 else -1) < 128) := by
    by_cases q : on2 A j
    · obtain ⟨_, t, t1, t2, _⟩ := on2_t h j hj (on2_1 q)
      rw [if_pos q]; omega
    · rw [if_neg q]; exact Or.inl rfl
  have ho : (if on1 A j then (j : Int) + 1 else -1) = -1 ∨ (0 ≤ (if on1 A j then (j : Int) + 1 else -1) ∧ (if on1 A j then (j : Int) + 1 else -1) < 128) := by
    by_cases q : on1 A j
    · rw [if_pos q]; omega
    · rw [if_neg q]; exact Or.inl rfl
  have c2 : ∀ m2 : ZM, (0 ≤ (if on2 A j then A 2 j + 1 else -1) ∧ m2.1 115 (if on2 A j then A 2 j + 1 else -1).toNat < 0) ↔ (on2 A j ∧ m2.1 115 (tg2 A j) < 0) := fun m2 => by
    by_cases q : on2 A j
    · obtain ⟨_, t, t1, t2, t3, _⟩ := on2_t h j hj (on2_1 q)
      rw [if_pos q]
      unfold tg2
      exact ⟨fun w => ⟨q, w.2⟩, fun w => ⟨by omega, w.2⟩⟩
    · rw [if_neg q]
      exact ⟨fun w => absurd w.1 (by decide), fun w => absurd w.1 q⟩
  have tn : on2 A j → (if on2 A j then A 2 j + 1 else -1).toNat = tg2 A j := fun q => by
    rw [if_pos q]; rfl
  rw [e134, g_134 rec x1 x2 m s j hs2 _ _ ho ht]
  by_cases q1 : on1 A j ∧ m.1 115 (j + 1) < 0
  · rw [if_pos (show 0 ≤ (if on1 A j then (j : Int) + 1 else -1) ∧ m.1 115 (if on1 A j then (j : Int) + 1 else -1).toNat < 0 by
      rw [if_pos q1.1, show ((j : Int) + 1).toNat = j + 1 by omega]
      exact ⟨by omega, q1.2⟩), if_pos q1.1, show ((j : Int) + 1).toNat = j + 1 by omega, g_172 rec x1 x2 _ (s + 1) j (by omega) _ ht, if_pos q1]
    by_cases q2 : on2 A j ∧ (psh m s j (j + 1)).1 115 (tg2 A j) < 0
    · rw [if_pos ((c2 _).2 q2), if_pos q2, tn q2.1, show ((s + 1 : Nat) : Int) = (s : Int) + 1 by omega]
    · rw [if_neg (fun w => q2 ((c2 _).1 w)), if_neg q2, show ((s + 1 : Nat) : Int) = (s : Int) + 1 by omega]
  · have nq : ¬ (0 ≤ (if on1 A j then (j : Int) + 1 else -1) ∧ m.1 115 (if on1 A j then (j : Int) + 1 else -1).toNat < 0) := fun w => by
      by_cases c : on1 A j
      · rw [if_pos c, show ((j : Int) + 1).toNat = j + 1 by omega] at w
        exact q1 ⟨c, w.2⟩
      · rw [if_neg c] at w
        exact absurd w.1 (by decide)
    rw [if_neg nq, if_neg q1, g_172 rec x1 x2 _ s j (by omega) _ ht]
    by_cases q2 : on2 A j ∧ m.1 115 (tg2 A j) < 0
    · rw [if_pos ((c2 _).2 q2), if_pos q2, tn q2.1]
    · rw [if_neg (fun w => q2 ((c2 _).1 w)), if_neg q2]
end
