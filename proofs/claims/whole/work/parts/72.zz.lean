/-! Rows on memory in whole numbers. -/
theorem z_i_rd (m : ZM) (c k : Nat) (x : Int) (a j : Nat) : (z_i m c k x).1 a j = if a = c ∧ j = k then x else m.1 a j := rfl
theorem z_i_2 (m : ZM) (c k : Nat) (x : Int) : (z_i m c k x).2 = m.2 := rfl
theorem z_f_rd (m : ZM) (c : Nat) (v : Int) (n a j : Nat) : (z_f m c v n).1 a j = if a = c ∧ j < n then v else m.1 a j := rfl
theorem z_f_2 (m : ZM) (c : Nat) (v : Int) (n : Nat) : (z_f m c v n).2 = m.2 := rfl
theorem z_r_1 (m : ZM) (c k : Nat) (v : Option Nat) : (z_r m c k v).1 = m.1 := rfl
theorem z_r_rd (m : ZM) (c k : Nat) (v : Option Nat) (a j : Nat) : (z_r m c k v).2.1 a j = if a = c ∧ j = k then v else m.2.1 a j := by
  unfold z_r
  dsimp only
  by_cases ha : a = c
  · subst ha
    rw [if_pos rfl]
    by_cases hj : j = k
    · subst hj
      rw [va_up_self, if_pos ⟨rfl, rfl⟩]
    · rw [va_up_ne _ _ hj, if_neg (fun z => hj z.2)]
  · rw [if_neg ha, if_neg (fun z => ha z.1)]
theorem z_l_1 (m : ZM) (k : Nat) (x : Int64) : (z_l m k x).1 = m.1 := rfl
/-- nothing changed but where w says so -/
def kp (w : Nat → Nat → Bool) (m m' : ZM) : Prop := (∀ c k, w c k = false → m'.1 c k = m.1 c k ∧ m'.2.1 c k = m.2.1 c k) ∧ ∀ k, w 111 k = false → m'.2.2 k = m.2.2 k
