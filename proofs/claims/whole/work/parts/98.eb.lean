/-! Brackets and expressions in a row of tokens. -/
def br (c : Int) : Int := if opn c then 1 else if cls c then -1 else 0
def Dp (X : Nat → Int) : Nat → Int
  | 0 => 0
  | p + 1 => Dp X p + br (X p)
/-- the bracket at p is closed at q -/
def CL (X : Nat → Int) (p q : Nat) : Prop := p < q ∧ Dp X (q + 1) = Dp X p ∧ ∀ q' : Nat, p < q' → q' ≤ q → Dp X p < Dp X q'
def BL (X : Nat → Int) (S : Nat) : Prop := (∀ p : Nat, p ≤ S → 0 ≤ Dp X p) ∧ Dp X S = 0
theorem br_r (c : Int) : -1 ≤ br c ∧ br c ≤ 1 := by
  unfold br
  repeat' split
  all_goals omega
theorem CL_ex (X : Nat → Int) (S p : Nat) (hB : BL X S) (hp : p < S) (ho : opn (X p)) : ∃ q : Nat, q < S ∧ CL X p q := by
  have h1 : Dp X (p + 1) = Dp X p + 1 := by
    rw [Dp]
    unfold br
    rw [if_pos ho]
  have key : ∀ (f j : Nat), S ≤ j + f → p < j → j ≤ S → (∀ q' : Nat, p < q' → q' ≤ j → Dp X p < Dp X q') → ∃ q : Nat, q < S ∧ CL X p q := by
    intro f
    induction f with
    | zero =>
      intro j a1 a2 a3 a4
      have : j = S := by omega
      subst this
      have := a4 j a2 (by omega)
      have := hB.1 p (by omega)
      rw [hB.2] at *
      omega
    | succ f ih =>
      intro j a1 a2 a3 a4
      by_cases qS : j = S
      · subst qS
        have := a4 j a2 (by omega)
        have h2 := hB.1 p (by omega)
        have h3 := hB.2
        omega
      · by_cases q : Dp X p < Dp X (j + 1)
        · refine ih (j + 1) (by omega) (by omega) (by omega) (fun q' b1 b2 => ?_)
          by_cases c : q' = j + 1
          · rw [c]; exact q
          · exact a4 q' b1 (by omega)
        · refine ⟨j, by omega, a2, ?_, a4⟩
          have h2 := a4 j a2 (by omega)
          have h3 := br_r (X j)
          have h4 : Dp X (j + 1) = Dp X j + br (X j) := rfl
          omega
  exact key S (p + 1) (by omega) (by omega) (by omega) (fun q' b1 b2 => by
    have : q' = p + 1 := by omega
    rw [this]; omega)
theorem CL_un (X : Nat → Int) (p q q' : Nat) (h : CL X p q) (h' : CL X p q') : q = q' := by
  rcases Nat.lt_trichotomy q q' with c | c | c
  · have := h'.2.2 (q + 1) (by have := h.1; omega) (by omega)
    have := h.2.1
    omega
  · exact c
  · have := h.2.2 (q' + 1) (by have := h'.1; omega) (by omega)
    have := h'.2.1
    omega
theorem CL_op (X : Nat → Int) (p q : Nat) (h : CL X p q) : opn (X p) ∧ cls (X q) := by
  have h1 := h.2.2 (p + 1) (by omega) (by have := h.1; omega)
  have h2 : Dp X (p + 1) = Dp X p + br (X p) := rfl
  have h3 := h.2.2 q h.1 (by omega)
  have h4 : Dp X (q + 1) = Dp X q + br (X q) := rfl
  have h5 := h.2.1
  constructor
  · apply Classical.byContradiction
    intro c
    have : br (X p) ≤ 0 := by
      unfold br
      rw [if_neg c]
      split <;> omega
    omega
  · apply Classical.byContradiction
    intro c
    have : 0 ≤ br (X q) := by
      unfold br
      split
      · omega
      · omega
    omega
/-- the class's row r holds tokens X, S of them -/
def RTk (r S : Nat) (X : Nat → Int) (m : ZM) : Prop := m.1 r 2 = S ∧ S ≤ 150 ∧ (∀ p : Nat, p < S → m.1 (r + 1) p = X p ∧ vt (X p)) ∧ ∀ p : Nat, S ≤ p → X p = -1
/-- the reference's tokens are X, S of them -/
def RRk (S : Nat) (X : Nat → Int) (m : ZM) : Prop := S ≤ 150 ∧ ∀ p : Nat, p < S → m.1 105 p = X p ∧ vt (X p)
theorem c170 {r S : Nat} {X : Nat → Int} {m : ZM} (h : RTk r S X m) (n p : Nat) : zF170 n r p m = some (X p, m) := by
  obtain ⟨h1, h2, h3, h4⟩ := h
  unfold zF170 zJ170_21 zJ170_22
  rw [h1, if_neg (by omega)]
  by_cases q : (S : Int) ≤ p
  · rw [if_pos q, h4 p (by omega)]
  · rw [if_neg q, if_neg (by omega), Int.toNat_natCast, (h3 p (by omega)).1]
theorem c172 {r S : Nat} {X : Nat → Int} {m : ZM} (h : RTk r S X m) (n : Nat) (hn : 200 ≤ n) (p q : Nat) (hq : q < S) (hc : CL X p q) : zF172 n r p m = some ((q : Int), m) := by
  obtain ⟨h1, h2, h3, h4⟩ := h
  have hop := CL_op X p q hc
  have key : ∀ (f j : Nat), q + 1 ≤ j + f → p ≤ j → j ≤ q → zL172_8 n r f (Dp X j - Dp X p) j m = some ((q : Int), m) := by
    intro f
    induction f with
    | zero => intro j a1 a2 a3; omega
    | succ f ih =>
      intro j a1 a2 a3
      have hj := h3 j (by omega)
      have hd : Dp X (j + 1) = Dp X j + br (X j) := rfl
      have hge : Dp X p ≤ Dp X j := by
        by_cases c : j = p
        · rw [c]; omega
        · have := hc.2.2 j (by omega) a3; omega
      have hbd : Dp X j - Dp X p ≤ (j : Int) - p := by
        have aux : ∀ k : Nat, Dp X (p + k) - Dp X p ≤ k := by
          intro k
          induction k with
          | zero => rw [Nat.add_zero]; omega
          | succ k ihk =>
            have : Dp X (p + (k + 1)) = Dp X (p + k) + br (X (p + k)) := rfl
            have := br_r (X (p + k))
            omega
        have := aux (j - p)
        rw [show p + (j - p) = j by omega] at this
        omega
      rw [zL172_8, h1, if_neg (by omega), if_neg (by omega), Int.toNat_natCast, hj.1, zF13_eq]
      dsimp only
      rw [ib]
      by_cases c1 : opn (X j)
      · have hb : br (X j) = 1 := by unfold br; rw [if_pos c1]
        have hjq : j ≠ q := fun c => by
          have := hop.2
          rw [← c] at this
          rcases c1 with e | e | e <;> rcases this with e2 | e2 | e2 <;> omega
        rw [if_pos c1]
        unfold zJ172_28 zJ172_55
        rw [if_pos (by omega), if_pos (by omega), show Dp X j - Dp X p + 1 = Dp X (j + 1) - Dp X p by omega]
        have := ih (j + 1) (by omega) (by omega) (by omega)
        rw [show ((j + 1 : Nat) : Int) = (j : Int) + 1 by omega] at this
        exact this
      · rw [if_neg c1]
        have hjp : j ≠ p := fun c => c1 (by rw [c]; exact hop.1)
        unfold zJ172_34 zJ172_55 zJ172_53
        rw [if_neg (by omega), Int.toNat_natCast, hj.1, zF14_eq]
        dsimp only
        rw [ib]
        by_cases c2 : cls (X j)
        · have hb : br (X j) = -1 := by unfold br; rw [if_neg c1, if_pos c2]
          rw [if_pos c2, if_pos (by omega)]
          by_cases c3 : j = q
          · subst c3
            rw [if_pos (by have := hc.2.1; omega)]
          · have := hc.2.2 (j + 1) (by omega) (by omega)
            rw [if_neg (by omega), if_pos (by omega), show Dp X j - Dp X p + -1 = Dp X (j + 1) - Dp X p by omega]
            have := ih (j + 1) (by omega) (by omega) (by omega)
            rw [show ((j + 1 : Nat) : Int) = (j : Int) + 1 by omega] at this
            exact this
        · have hb : br (X j) = 0 := by unfold br; rw [if_neg c1, if_neg c2]
          have hjq : j ≠ q := fun c => c2 (by rw [c]; exact hop.2)
          rw [if_neg c2, if_pos (by omega), show Dp X j - Dp X p = Dp X (j + 1) - Dp X p by omega]
          have := ih (j + 1) (by omega) (by omega) (by omega)
          rw [show ((j + 1 : Nat) : Int) = (j : Int) + 1 by omega] at this
          exact this
  have k0 := key n p (by have := hc.1; omega) (by omega) (by have := hc.1; omega)
  rw [show Dp X p - Dp X p = 0 by omega] at k0
  unfold zF172
  have : (if (0 : Int) < (p : Int) then (p : Int) else 0) = p := by split <;> omega
  rw [this]
  exact k0
theorem m61 {S : Nat} {X : Nat → Int} {m : ZM} (h : RRk S X m) (n : Nat) (hn : 200 ≤ n) (p q : Nat) (hq : q < S) (hc : CL X p q) : zF61 n p m = some ((q : Int), m) := by
  obtain ⟨h2, h3⟩ := h
  have key : ∀ (f j : Nat), q + 2 ≤ j + f → p ≤ j → j ≤ q → zL61_4 n f (Dp X (j + 1) - Dp X p) j m = some ((q : Int), m) := by
    intro f
    induction f with
    | zero => intro j a1 a2 a3; omega
    | succ f ih =>
      intro j a1 a2 a3
      by_cases cq : j = q
      · subst cq
        have := hc.2.1
        rw [zL61_4, if_pos (by omega)]
      · have hj := h3 (j + 1) (by omega)
        have hd : Dp X (j + 2) = Dp X (j + 1) + br (X (j + 1)) := rfl
        have hgt := hc.2.2 (j + 1) (by omega) (by omega)
        have hbd : Dp X (j + 1) - Dp X p ≤ (j : Int) + 1 - p := by
          have aux : ∀ k : Nat, Dp X (p + k) - Dp X p ≤ k := by
            intro k
            induction k with
            | zero => rw [Nat.add_zero]; omega
            | succ k ihk =>
              have : Dp X (p + (k + 1)) = Dp X (p + k) + br (X (p + k)) := rfl
              have := br_r (X (p + k))
              omega
          have := aux (j + 1 - p)
          rw [show p + (j + 1 - p) = j + 1 by omega] at this
          omega
        have nx := ih (j + 1) (by omega) (by omega) (by omega)
        rw [show ((j + 1 : Nat) : Int) = (j : Int) + 1 by omega, show j + 1 + 1 = j + 2 from rfl, hd] at nx
        rw [zL61_4, if_neg (by omega), if_pos (by omega), if_neg (by omega), show ((j : Int) + 1).toNat = j + 1 by omega, hj.1, zF21_eq]
        dsimp only
        rw [ib]
        by_cases c1 : opn (X (j + 1))
        · have hb : br (X (j + 1)) = 1 := by unfold br; rw [if_pos c1]
          rw [if_pos c1]
          unfold zJ61_24 zJ61_49
          rw [if_pos (by omega), show Dp X (j + 1) - Dp X p + 1 = Dp X (j + 1) + br (X (j + 1)) - Dp X p by omega]
          exact nx
        · rw [if_neg c1]
          unfold zJ61_30 zJ61_49
          rw [if_neg (by omega), show ((j : Int) + 1).toNat = j + 1 by omega, hj.1, zF22_eq]
          dsimp only
          rw [ib]
          by_cases c2 : cls (X (j + 1))
          · have hb : br (X (j + 1)) = -1 := by unfold br; rw [if_neg c1, if_pos c2]
            rw [if_pos c2, if_pos (by omega), show Dp X (j + 1) - Dp X p - 1 = Dp X (j + 1) + br (X (j + 1)) - Dp X p by omega]
            exact nx
          · have hb : br (X (j + 1)) = 0 := by unfold br; rw [if_neg c1, if_neg c2]
            rw [if_neg c2, show Dp X (j + 1) - Dp X p = Dp X (j + 1) + br (X (j + 1)) - Dp X p by omega]
            exact nx
  have k0 := key n p (by omega) (by omega) (by have := hc.1; omega)
  have hop := (CL_op X p q hc).1
  have h1 : Dp X (p + 1) = Dp X p + 1 := by
    rw [Dp]
    unfold br
    rw [if_pos hop]
  rw [show Dp X (p + 1) - Dp X p = 1 by omega] at k0
  exact k0
