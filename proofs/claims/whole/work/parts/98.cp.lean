/-! How the repetitions of a row lie in each other. -/
def NI (u v : Int) (n : Nat) (A : Nat → Nat → Int) : Prop :=
  (-1 ≤ u ∧ u < n ∧ -1 ≤ v ∧ v < n ∧ (u < 0 → v < 0)) ∧
  (∀ b : Nat, u = b → A 0 b = 4 ∧ A 5 b = -1 ∧ A 2 b = -1) ∧
  (∀ b : Nat, v = b → A 0 b = 4 ∧ A 5 b = u ∧ A 2 b = -1 ∧ u < b) ∧
  (∀ e : Nat, e < n → A 0 e = 4 → A 2 e = -1 → (e : Int) = u ∨ (e : Int) = v) ∧
  (∀ e : Nat, e < n → A 0 e = 4 → A 6 e = -1) ∧
  (∀ e : Nat, e < n → -1 ≤ A 5 e ∧ -1 ≤ A 6 e) ∧
  (∀ e b : Nat, e < n → A 5 e = b → A 0 b = 4 ∧ A 5 b = -1 ∧ b < e ∧ (A 2 b = -1 ∨ (e : Int) < A 2 b)) ∧
  (∀ e b : Nat, e < n → A 6 e = b → A 0 b = 4 ∧ A 5 b = A 5 e ∧ 0 ≤ A 5 e ∧ b < e ∧ (A 2 b = -1 ∨ (e : Int) < A 2 b)) ∧
  (∀ e b : Nat, e < n → b < e → A 0 b = 4 → A 5 b = -1 → (A 2 b = -1 ∨ (e : Int) < A 2 b) → A 5 e = b) ∧
  (∀ e b : Nat, e < n → b < e → A 0 b = 4 → 0 ≤ A 5 b → (A 2 b = -1 ∨ (e : Int) < A 2 b) → A 6 e = b) ∧
  (∀ e : Nat, e < n → A 0 e = 5 → A 6 e = -1 ∧ ∃ b : Nat, A 2 e = b ∧ b < e ∧ A 0 b = 4 ∧ A 2 b = e ∧ A 5 e = A 5 b) ∧
  (∀ e : Nat, e < n → A 0 e = 4 → A 2 e ≠ -1 → ∃ b : Nat, A 2 e = b ∧ e < b ∧ b < n ∧ A 0 b = 5 ∧ A 2 b = e)
theorem NI.ub {u v : Int} {n : Nat} {A : Nat → Nat → Int} (h : NI u v n A) : -1 ≤ u ∧ u < n ∧ -1 ≤ v ∧ v < n ∧ (u < 0 → v < 0) := h.1
theorem NI.uo {u v : Int} {n : Nat} {A : Nat → Nat → Int} (h : NI u v n A) : ∀ b : Nat, u = b → A 0 b = 4 ∧ A 5 b = -1 ∧ A 2 b = -1 := h.2.1
theorem NI.vo {u v : Int} {n : Nat} {A : Nat → Nat → Int} (h : NI u v n A) : ∀ b : Nat, v = b → A 0 b = 4 ∧ A 5 b = u ∧ A 2 b = -1 ∧ u < b := h.2.2.1
theorem NI.op {u v : Int} {n : Nat} {A : Nat → Nat → Int} (h : NI u v n A) : ∀ e : Nat, e < n → A 0 e = 4 → A 2 e = -1 → (e : Int) = u ∨ (e : Int) = v := h.2.2.2.1
theorem NI.b6 {u v : Int} {n : Nat} {A : Nat → Nat → Int} (h : NI u v n A) : ∀ e : Nat, e < n → A 0 e = 4 → A 6 e = -1 := h.2.2.2.2.1
theorem NI.r5 {u v : Int} {n : Nat} {A : Nat → Nat → Int} (h : NI u v n A) : ∀ e : Nat, e < n → -1 ≤ A 5 e ∧ -1 ≤ A 6 e := h.2.2.2.2.2.1
theorem NI.n1 {u v : Int} {n : Nat} {A : Nat → Nat → Int} (h : NI u v n A) : ∀ e b : Nat, e < n → A 5 e = b → A 0 b = 4 ∧ A 5 b = -1 ∧ b < e ∧ (A 2 b = -1 ∨ (e : Int) < A 2 b) := h.2.2.2.2.2.2.1
theorem NI.n2 {u v : Int} {n : Nat} {A : Nat → Nat → Int} (h : NI u v n A) : ∀ e b : Nat, e < n → A 6 e = b → A 0 b = 4 ∧ A 5 b = A 5 e ∧ 0 ≤ A 5 e ∧ b < e ∧ (A 2 b = -1 ∨ (e : Int) < A 2 b) := h.2.2.2.2.2.2.2.1
theorem NI.n3 {u v : Int} {n : Nat} {A : Nat → Nat → Int} (h : NI u v n A) : ∀ e b : Nat, e < n → b < e → A 0 b = 4 → A 5 b = -1 → (A 2 b = -1 ∨ (e : Int) < A 2 b) → A 5 e = b := h.2.2.2.2.2.2.2.2.1
theorem NI.n4 {u v : Int} {n : Nat} {A : Nat → Nat → Int} (h : NI u v n A) : ∀ e b : Nat, e < n → b < e → A 0 b = 4 → 0 ≤ A 5 b → (A 2 b = -1 ∨ (e : Int) < A 2 b) → A 6 e = b := h.2.2.2.2.2.2.2.2.2.1
theorem NI.n5 {u v : Int} {n : Nat} {A : Nat → Nat → Int} (h : NI u v n A) : ∀ e : Nat, e < n → A 0 e = 5 → A 6 e = -1 ∧ ∃ b : Nat, A 2 e = b ∧ b < e ∧ A 0 b = 4 ∧ A 2 b = e ∧ A 5 e = A 5 b := h.2.2.2.2.2.2.2.2.2.2.1
theorem NI.n6 {u v : Int} {n : Nat} {A : Nat → Nat → Int} (h : NI u v n A) : ∀ e : Nat, e < n → A 0 e = 4 → A 2 e ≠ -1 → ∃ b : Nat, A 2 e = b ∧ e < b ∧ b < n ∧ A 0 b = 5 ∧ A 2 b = e := h.2.2.2.2.2.2.2.2.2.2.2
theorem NI_0 (A : Nat → Nat → Int) : NI (-1) (-1) 0 A := by
  refine ⟨by omega, ?_, ?_, ?_, ?_, ?_, ?_, ?_, ?_, ?_, ?_, ?_⟩ <;> intros <;> omega
theorem NI_add {u v : Int} {n : Nat} {A A' : Nat → Nat → Int} (h : NI u v n A) (hA : ∀ a e : Nat, e < n → A' a e = A a e) (k4 : A' 0 n ≠ 4) (k5 : A' 0 n ≠ 5) (h5 : A' 5 n = u) (h6 : A' 6 n = v) : NI u v (n + 1) A' := by
  have hb := h.ub
  have open3 : ∀ b : Nat, b < n → A 0 b = 4 → (A 2 b = -1 ∨ (n : Int) < A 2 b) → A 2 b = -1 := by
    intro b hb' h4 hz
    rcases hz with z | z
    · exact z
    · obtain ⟨t, t1, t2, t3, _⟩ := h.n6 b hb' h4 (by omega)
      omega
  refine ⟨by omega, ?_, ?_, ?_, ?_, ?_, ?_, ?_, ?_, ?_, ?_, ?_⟩
  · intro b hu
    rw [hA 0 b (by omega), hA 5 b (by omega), hA 2 b (by omega)]; exact h.uo b hu
  · intro b hv
    rw [hA 0 b (by omega), hA 5 b (by omega), hA 2 b (by omega)]; exact h.vo b hv
  · intro e he h4
    by_cases q : e = n
    · subst q; exact absurd h4 k4
    · rw [hA 0 e (by omega)] at h4
      rw [hA 2 e (by omega)]; exact h.op e (by omega) h4
  · intro e he h4
    by_cases q : e = n
    · subst q; exact absurd h4 k4
    · rw [hA 0 e (by omega)] at h4
      rw [hA 6 e (by omega)]; exact h.b6 e (by omega) h4
  · intro e he
    by_cases q : e = n
    · subst q; omega
    · rw [hA 5 e (by omega), hA 6 e (by omega)]; exact h.r5 e (by omega)
  · intro e b he h5e
    by_cases q : e = n
    · subst q
      rw [h5] at h5e
      have := h.uo b h5e
      rw [hA 0 b (by omega), hA 5 b (by omega), hA 2 b (by omega)]
      exact ⟨this.1, this.2.1, by omega, Or.inl this.2.2⟩
    · rw [hA 5 e (by omega)] at h5e
      have := h.n1 e b (by omega) h5e
      rw [hA 0 b (by omega), hA 5 b (by omega), hA 2 b (by omega)]
      exact this
  · intro e b he h6e
    by_cases q : e = n
    · subst q
      rw [h6] at h6e
      have := h.vo b h6e
      rw [hA 0 b (by omega), hA 5 b (by omega), hA 2 b (by omega), h5]
      exact ⟨this.1, this.2.1, by omega, by omega, Or.inl this.2.2.1⟩
    · rw [hA 6 e (by omega)] at h6e
      have := h.n2 e b (by omega) h6e
      rw [hA 0 b (by omega), hA 5 b (by omega), hA 2 b (by omega), hA 5 e (by omega)]
      exact this
  · intro e b he hbe
    rw [hA 0 b (by omega), hA 5 b (by omega), hA 2 b (by omega)]
    by_cases q : e = n
    · subst q
      intro h4 h5b hz
      have ho := open3 b hbe h4 hz
      rw [h5]
      rcases h.op b hbe h4 ho with z | z
      · exact z.symm
      · have := h.vo b z.symm
        omega
    · rw [hA 5 e (by omega)]
      exact h.n3 e b (by omega) hbe
  · intro e b he hbe
    rw [hA 0 b (by omega), hA 5 b (by omega), hA 2 b (by omega)]
    by_cases q : e = n
    · subst q
      intro h4 h5b hz
      have ho := open3 b hbe h4 hz
      rw [h6]
      rcases h.op b hbe h4 ho with z | z
      · have := h.uo b z.symm
        omega
      · exact z.symm
    · rw [hA 6 e (by omega)]
      exact h.n4 e b (by omega) hbe
  · intro e he h5e
    by_cases q : e = n
    · subst q; exact absurd h5e k5
    · rw [hA 0 e (by omega)] at h5e
      obtain ⟨x, b, b1, b2, b3, b4, b5⟩ := h.n5 e (by omega) h5e
      rw [hA 6 e (by omega)]
      refine ⟨x, b, ?_, b2, ?_, ?_, ?_⟩
      · rw [hA 2 e (by omega)]; exact b1
      · rw [hA 0 b (by omega)]; exact b3
      · rw [hA 2 b (by omega)]; exact b4
      · rw [hA 5 e (by omega), hA 5 b (by omega)]; exact b5
  · intro e he h4 h2
    by_cases q : e = n
    · subst q; exact absurd h4 k4
    · rw [hA 0 e (by omega)] at h4
      rw [hA 2 e (by omega)] at h2
      obtain ⟨b, b1, b2, b3, b4, b5⟩ := h.n6 e (by omega) h4 h2
      refine ⟨b, ?_, b2, by omega, ?_, ?_⟩
      · rw [hA 2 e (by omega)]; exact b1
      · rw [hA 0 b (by omega)]; exact b4
      · rw [hA 2 b (by omega)]; exact b5
theorem NI_beg {u v : Int} {n : Nat} {A A' : Nat → Nat → Int} (h : NI u v n A) (hA : ∀ a e : Nat, e < n → A' a e = A a e) (hv : v < 0) (k4 : A' 0 n = 4) (h2 : A' 2 n = -1) (h5 : A' 5 n = u) (h6 : A' 6 n = v) : NI (if u < 0 then (n : Int) else u) (if u < 0 then -1 else (n : Int)) (n + 1) A' := by
  have hb := h.ub
  have open3 : ∀ b : Nat, b < n → A 0 b = 4 → (A 2 b = -1 ∨ (n : Int) < A 2 b) → A 2 b = -1 := by
    intro b hb' h4 hz
    rcases hz with z | z
    · exact z
    · obtain ⟨t, t1, t2, t3, _⟩ := h.n6 b hb' h4 (by omega)
      omega
  have hop : ∀ b : Nat, b < n → A 0 b = 4 → A 2 b = -1 → (b : Int) = u := by
    intro b hb' h4 ho
    rcases h.op b hb' h4 ho with z | z
    · exact z
    · omega
  refine ⟨?_, ?_, ?_, ?_, ?_, ?_, ?_, ?_, ?_, ?_, ?_, ?_⟩
  · by_cases q : u < 0
    · rw [if_pos q, if_pos q]; omega
    · rw [if_neg q, if_neg q]; omega
  · intro b hu
    by_cases q : u < 0
    · rw [if_pos q] at hu
      have : b = n := by omega
      subst this
      exact ⟨k4, by omega, h2⟩
    · rw [if_neg q] at hu
      rw [hA 0 b (by omega), hA 5 b (by omega), hA 2 b (by omega)]; exact h.uo b hu
  · intro b hv'
    by_cases q : u < 0
    · rw [if_pos q] at hv'; omega
    · rw [if_neg q] at hv' ⊢
      have : b = n := by omega
      subst this
      exact ⟨k4, h5, h2, by omega⟩
  · intro e he h4
    by_cases q : e = n
    · subst q
      intro _
      by_cases q : u < 0
      · rw [if_pos q]; exact Or.inl rfl
      · rw [if_neg q, if_neg q]; exact Or.inr rfl
    · rw [hA 0 e (by omega)] at h4
      rw [hA 2 e (by omega)]
      intro ho
      have := hop e (by omega) h4 ho
      rw [if_neg (show ¬ u < 0 by omega)]
      exact Or.inl this
  · intro e he h4
    by_cases q : e = n
    · subst q; omega
    · rw [hA 0 e (by omega)] at h4
      rw [hA 6 e (by omega)]; exact h.b6 e (by omega) h4
  · intro e he
    by_cases q : e = n
    · subst q; omega
    · rw [hA 5 e (by omega), hA 6 e (by omega)]; exact h.r5 e (by omega)
  · intro e b he h5e
    by_cases q : e = n
    · subst q
      rw [h5] at h5e
      have := h.uo b h5e
      rw [hA 0 b (by omega), hA 5 b (by omega), hA 2 b (by omega)]
      exact ⟨this.1, this.2.1, by omega, Or.inl this.2.2⟩
    · rw [hA 5 e (by omega)] at h5e
      have := h.n1 e b (by omega) h5e
      rw [hA 0 b (by omega), hA 5 b (by omega), hA 2 b (by omega)]
      exact this
  · intro e b he h6e
    by_cases q : e = n
    · subst q
      omega
    · rw [hA 6 e (by omega)] at h6e
      have := h.n2 e b (by omega) h6e
      rw [hA 0 b (by omega), hA 5 b (by omega), hA 2 b (by omega), hA 5 e (by omega)]
      exact this
  · intro e b he hbe
    rw [hA 0 b (by omega), hA 5 b (by omega), hA 2 b (by omega)]
    by_cases q : e = n
    · subst q
      intro h4 h5b hz
      have ho := open3 b hbe h4 hz
      rw [h5]
      exact (hop b hbe h4 ho).symm
    · rw [hA 5 e (by omega)]
      exact h.n3 e b (by omega) hbe
  · intro e b he hbe
    rw [hA 0 b (by omega), hA 5 b (by omega), hA 2 b (by omega)]
    by_cases q : e = n
    · subst q
      intro h4 h5b hz
      have ho := hop b hbe h4 (open3 b hbe h4 hz)
      have := h.uo b ho.symm
      omega
    · rw [hA 6 e (by omega)]
      exact h.n4 e b (by omega) hbe
  · intro e he h5e
    by_cases q : e = n
    · subst q; omega
    · rw [hA 0 e (by omega)] at h5e
      obtain ⟨x, b, b1, b2, b3, b4, b5⟩ := h.n5 e (by omega) h5e
      rw [hA 6 e (by omega)]
      refine ⟨x, b, ?_, b2, ?_, ?_, ?_⟩
      · rw [hA 2 e (by omega)]; exact b1
      · rw [hA 0 b (by omega)]; exact b3
      · rw [hA 2 b (by omega)]; exact b4
      · rw [hA 5 e (by omega), hA 5 b (by omega)]; exact b5
  · intro e he h4 h2'
    by_cases q : e = n
    · subst q; exact absurd h2 h2'
    · rw [hA 0 e (by omega)] at h4
      rw [hA 2 e (by omega)] at h2'
      obtain ⟨b, b1, b2, b3, b4, b5⟩ := h.n6 e (by omega) h4 h2'
      refine ⟨b, ?_, b2, by omega, ?_, ?_⟩
      · rw [hA 2 e (by omega)]; exact b1
      · rw [hA 0 b (by omega)]; exact b4
      · rw [hA 2 b (by omega)]; exact b5
theorem NI_end {u v : Int} {n b : Nat} {A A' : Nat → Nat → Int} (h : NI u v n A) (hA : AK A A' n b) (hbn : b < n) (hb' : (b : Int) = if v < 0 then u else v) (h2b : A' 2 b = n) (k5 : A' 0 n = 5) (h2 : A' 2 n = b) (h5 : A' 5 n = if v < 0 then -1 else u) (h6 : A' 6 n = -1) : NI (if v < 0 then -1 else u) (-1) (n + 1) A' := by
  have hb := h.ub
  have g0 : ∀ e : Nat, e < n → A' 0 e = A 0 e := fun e he => hA.2 0 e he (by omega)
  have g5 : ∀ e : Nat, e < n → A' 5 e = A 5 e := fun e he => hA.2 5 e he (by omega)
  have g6 : ∀ e : Nat, e < n → A' 6 e = A 6 e := fun e he => hA.2 6 e he (by omega)
  have g2 : ∀ e : Nat, e < n → e ≠ b → A' 2 e = A 2 e := fun e he hne => hA.1 2 e he hne
  have hB : A 0 b = 4 ∧ A 2 b = -1 ∧ A 5 b = (if v < 0 then -1 else u) := by
    by_cases q : v < 0
    · rw [if_pos q] at hb' ⊢
      have := h.uo b hb'.symm
      exact ⟨this.1, this.2.2, this.2.1⟩
    · rw [if_neg q] at hb' ⊢
      have := h.vo b hb'.symm
      exact ⟨this.1, this.2.2.1, this.2.1⟩
  have open3 : ∀ b2 : Nat, b2 < n → A 0 b2 = 4 → (A' 2 b2 = -1 ∨ (n : Int) < A' 2 b2) → b2 ≠ b ∧ A 2 b2 = -1 := by
    intro b2 hb2 h4 hz
    by_cases q : b2 = b
    · subst q; omega
    · rw [g2 b2 hb2 q] at hz
      rcases hz with z | z
      · exact ⟨q, z⟩
      · obtain ⟨t, t1, t2, t3, _⟩ := h.n6 b2 hb2 h4 (by omega)
        omega
  have two : ∀ e b2 : Nat, e < n → b2 < n → (A 2 b2 = -1 ∨ (e : Int) < A 2 b2) → (A' 2 b2 = -1 ∨ (e : Int) < A' 2 b2) := by
    intro e b2 he hb2 hz
    by_cases q : b2 = b
    · subst q; right; omega
    · rw [g2 b2 hb2 q]; exact hz
  have owt : ∀ e b2 : Nat, e < n → b2 < n → (A' 2 b2 = -1 ∨ (e : Int) < A' 2 b2) → (A 2 b2 = -1 ∨ (e : Int) < A 2 b2) := by
    intro e b2 he hb2 hz
    by_cases q : b2 = b
    · subst q; exact Or.inl hB.2.1
    · rw [g2 b2 hb2 q] at hz; exact hz
  refine ⟨?_, ?_, ?_, ?_, ?_, ?_, ?_, ?_, ?_, ?_, ?_, ?_⟩
  · by_cases q : v < 0
    · rw [if_pos q]; omega
    · rw [if_neg q]; omega
  · intro b2 hu
    by_cases q : v < 0
    · rw [if_pos q] at hu; omega
    · rw [if_neg q] at hu hb'
      have := h.vo b hb'.symm
      rw [g0 b2 (by omega), g5 b2 (by omega), g2 b2 (by omega) (by omega)]; exact h.uo b2 hu
  · intro b2 hv'; omega
  · intro e he h4 ho
    by_cases q : e = n
    · subst q; omega
    · rw [g0 e (by omega)] at h4
      obtain ⟨o1, o2⟩ := open3 e (by omega) h4 (Or.inl ho)
      rcases h.op e (by omega) h4 o2 with z | z
      · by_cases q : v < 0
        · rw [if_pos q] at hb'; omega
        · rw [if_neg q]; exact Or.inl z
      · rw [if_neg (show ¬ v < 0 by omega)] at hb'; omega
  · intro e he h4
    by_cases q : e = n
    · subst q; omega
    · rw [g0 e (by omega)] at h4
      rw [g6 e (by omega)]; exact h.b6 e (by omega) h4
  · intro e he
    by_cases q : e = n
    · subst q
      rw [h5, h6]
      by_cases q : v < 0
      · rw [if_pos q]; omega
      · rw [if_neg q]; omega
    · rw [g5 e (by omega), g6 e (by omega)]; exact h.r5 e (by omega)
  · intro e b2 he h5e
    by_cases q : e = n
    · subst q
      rw [h5] at h5e
      by_cases q : v < 0
      · rw [if_pos q] at h5e; omega
      · rw [if_neg q] at h5e hb'
        have hvo := h.vo b hb'.symm
        have := h.uo b2 h5e
        rw [g0 b2 (by omega), g5 b2 (by omega), g2 b2 (by omega) (by omega)]
        exact ⟨this.1, this.2.1, by omega, Or.inl this.2.2⟩
    · rw [g5 e (by omega)] at h5e
      obtain ⟨x1, x2, x3, x4⟩ := h.n1 e b2 (by omega) h5e
      rw [g0 b2 (by omega), g5 b2 (by omega)]
      exact ⟨x1, x2, x3, two e b2 (by omega) (by omega) x4⟩
  · intro e b2 he h6e
    by_cases q : e = n
    · subst q
      omega
    · rw [g6 e (by omega)] at h6e
      obtain ⟨x1, x2, x3, x4, x5⟩ := h.n2 e b2 (by omega) h6e
      rw [g0 b2 (by omega), g5 b2 (by omega), g5 e (by omega)]
      exact ⟨x1, x2, x3, x4, two e b2 (by omega) (by omega) x5⟩
  · intro e b2 he hbe
    rw [g0 b2 (by omega), g5 b2 (by omega)]
    intro h4 h5b hz
    by_cases q : e = n
    · subst q
      obtain ⟨o1, o2⟩ := open3 b2 hbe h4 hz
      rw [h5]
      rcases h.op b2 hbe h4 o2 with z | z
      · by_cases q : v < 0
        · rw [if_pos q] at hb'; omega
        · rw [if_neg q]; exact z.symm
      · rw [if_neg (show ¬ v < 0 by omega)] at hb'; omega
    · rw [g5 e (by omega)]
      exact h.n3 e b2 (by omega) hbe h4 h5b (owt e b2 (by omega) (by omega) hz)
  · intro e b2 he hbe
    rw [g0 b2 (by omega), g5 b2 (by omega)]
    intro h4 h5b hz
    by_cases q : e = n
    · subst q
      obtain ⟨o1, o2⟩ := open3 b2 hbe h4 hz
      exfalso
      rcases h.op b2 hbe h4 o2 with z | z
      · have := h.uo b2 z.symm
        omega
      · rw [if_neg (show ¬ v < 0 by omega)] at hb'; omega
    · rw [g6 e (by omega)]
      exact h.n4 e b2 (by omega) hbe h4 h5b (owt e b2 (by omega) (by omega) hz)
  · intro e he h5e
    by_cases q : e = n
    · subst q
      refine ⟨h6, b, h2, hbn, by rw [g0 b hbn]; exact hB.1, h2b, by rw [h5, g5 b hbn]; exact hB.2.2.symm⟩
    · rw [g0 e (by omega)] at h5e
      obtain ⟨x, b2, b1, b2', b3, b4, b5⟩ := h.n5 e (by omega) h5e
      rw [g6 e (by omega)]
      have hne : b2 ≠ b := by
        intro z; subst z; omega
      have hne' : e ≠ b := by
        intro z; subst z; omega
      refine ⟨x, b2, ?_, b2', ?_, ?_, ?_⟩
      · rw [g2 e (by omega) hne']; exact b1
      · rw [g0 b2 (by omega)]; exact b3
      · rw [g2 b2 (by omega) hne]; exact b4
      · rw [g5 e (by omega), g5 b2 (by omega)]; exact b5
  · intro e he h4 h2'
    by_cases q : e = n
    · subst q; omega
    · rw [g0 e (by omega)] at h4
      by_cases q2 : e = b
      · subst q2
        exact ⟨n, h2b, hbn, by omega, k5, h2⟩
      · rw [g2 e (by omega) q2] at h2'
        obtain ⟨b2, b1, b2', b3, b4, b5⟩ := h.n6 e (by omega) h4 h2'
        have hne' : b2 ≠ b := by
          intro z; subst z; omega
        refine ⟨b2, ?_, b2', by omega, ?_, ?_⟩
        · rw [g2 e (by omega) q2]; exact b1
        · rw [g0 b2 (by omega)]; exact b4
        · rw [g2 b2 (by omega) hne']; exact b5
/-- every part of a row keeps it -/
theorem NI_st (pat : Bool) (C : Nat → Int) (i0 : Nat) (s : RS) (t : CS) (hx : XG pat C i0 s t) (h : NI s.2.2.2.1 s.2.2.2.2.1 s.2.2.2.2.2.1 s.2.2.2.2.2.2.2) (s' : RS) (z : Nat) (hz : z ≠ 1) (hr : rst pat C s = (z, s')) : NI s'.2.2.2.1 s'.2.2.2.2.1 s'.2.2.2.2.2.1 s'.2.2.2.2.2.2.2 := by
  obtain ⟨i, d, S, u, v, n, q, A⟩ := s
  obtain ⟨⟨x1, x2, x3, x4, x5, x6, x7, x8, x9, x10, xa, xs⟩, _⟩ := hx
  dsimp only at xa xs h
  have add : ∀ (k c mk p : Int), k ≠ 4 → k ≠ 5 → NI u v (n + 1) (r_add A n k c mk u v p) := by
    intro k c mk p k4 k5
    obtain ⟨r0', r1, r2, r3, r4, r5, r6, r7⟩ := ra A n k c mk u v p
    refine NI_add h (fun a e he => ?_) (by rw [r0']; exact k4) (by rw [r0']; exact k5) r5 r6
    unfold r_add
    rw [if_neg (by omega)]
  have en : ∀ (sp mk p : Int), 0 < d → ¬ S 1 (d - 1) < 0 → NI (if v < 0 then -1 else u) (-1) (n + 1) (r_end pat A n (S 1 (d - 1)).toNat sp mk (if v < 0 then -1 else u) p) := by
    intro sp mk p hd hs
    obtain ⟨t1, t2, t3, t4⟩ := XS_top xa xs hd (by omega)
    have hub := h.ub
    have hbn : (S 1 (d - 1)).toNat < n := by
      rw [t2]
      split <;> omega
    obtain ⟨e0, e2, e3, e4, e5, e6, e7⟩ := re_n pat A n (S 1 (d - 1)).toNat sp mk (if v < 0 then -1 else u) p hbn
    refine NI_end h (re_AK pat A n _ sp mk _ p hbn) hbn ?_ (re_b pat A n _ sp mk _ p hbn).1 e0 e2 e5 e6
    rw [Int.toNat_of_nonneg (by omega)]
    exact t2
  unfold rst at hr
  dsimp only at hr
  by_cases c0 : C i ≤ 0
  · rw [if_pos c0] at hr; cases hr; exact absurd rfl hz
  rw [if_neg c0] at hr
  by_cases c1 : cls (C i)
  · rw [if_pos c1] at hr
    by_cases c2 : d = 0
    · rw [if_pos c2] at hr
      by_cases c3 : C i = (if pat = true then 41 else 125)
      · rw [if_pos c3] at hr; cases hr; exact add 6 0 0 i (by decide) (by decide)
      · rw [if_neg c3] at hr; cases hr; exact absurd rfl hz
    rw [if_neg c2] at hr
    by_cases c3 : C i ≠ clo (S 0 (d - 1))
    · rw [if_pos c3] at hr; cases hr; exact absurd rfl hz
    rw [if_neg c3] at hr
    by_cases c4 : S 1 (d - 1) < 0
    · rw [if_pos c4] at hr
      cases hr
      exact add _ _ _ _ (by split <;> decide) (by split <;> decide)
    rw [if_neg c4] at hr
    by_cases c5 : C (i + 1) = 42 ∨ C (i + 1) = 43 ∨ C (i + 1) = 63
    · rw [if_pos c5] at hr
      cases hr
      exact en _ _ _ (by omega) c4
    rw [if_neg c5] at hr
    by_cases c6 : 0 < C (i + 1) ∧ ¬ opn (C (i + 1)) ∧ ¬ cls (C (i + 1)) ∧ C (i + 1) ≠ 36
    · rw [if_pos c6] at hr
      by_cases c7 : C (i + 2) = 42 ∨ C (i + 2) = 43
      · rw [if_pos c7] at hr
        cases hr
        exact en _ _ _ (by omega) c4
      · rw [if_neg c7] at hr; cases hr; exact absurd rfl hz
    · rw [if_neg c6] at hr; cases hr; exact absurd rfl hz
  rw [if_neg c1] at hr
  by_cases c2 : C i = 36
  · rw [if_pos c2] at hr
    by_cases c3 : wd (C (i + 1))
    · rw [if_pos c3] at hr
      by_cases c4 : pat = true
      · rw [if_pos c4] at hr
        by_cases c5 : C (i + 2) ≠ 58
        · rw [if_pos c5] at hr; cases hr; exact absurd rfl hz
        rw [if_neg c5] at hr
        by_cases c6 : knd (C (i + 3))
        · rw [if_pos c6] at hr; cases hr; exact add _ _ _ _ (by decide) (by decide)
        · rw [if_neg c6] at hr; cases hr; exact absurd rfl hz
      · rw [if_neg c4] at hr; cases hr; exact add _ _ _ _ (by decide) (by decide)
    rw [if_neg c3] at hr
    by_cases c4 : C (i + 1) ≠ 40 ∨ 0 ≤ v ∨ (pat = true ∧ 4 ≤ q) ∨ 9 ≤ d
    · rw [if_pos c4] at hr; cases hr; exact absurd rfl hz
    rw [if_neg c4] at hr
    cases hr
    obtain ⟨r0', r1, r2, r3, r4, r5, r6, r7⟩ := ra A n 4 0 0 u v i
    refine NI_beg h (fun a e he => ?_) (by omega) r0' r2 r5 r6
    show r_add A n 4 0 0 u v i a e = A a e
    unfold r_add
    exact if_neg (by omega)
  rw [if_neg c2] at hr
  by_cases c3 : opn (C i)
  · rw [if_pos c3] at hr
    by_cases c4 : 9 ≤ d
    · rw [if_pos c4] at hr; cases hr; exact absurd rfl hz
    · rw [if_neg c4] at hr; cases hr; exact add _ _ _ _ (by split <;> decide) (by split <;> decide)
  rw [if_neg c3] at hr
  cases hr
  exact add _ _ _ _ (by decide) (by decide)
theorem NI_row (pat : Bool) (C : Nat → Int) (i0 : Nat) : ∀ (f : Nat) (s : RS) (t : CS), XG pat C i0 s t → RI s → NI s.2.2.2.1 s.2.2.2.2.1 s.2.2.2.2.2.1 s.2.2.2.2.2.2.2 → (rrn pat C f s).1 = 2 →
    NI (-1) (-1) (rrn pat C f s).2.2.2.2.2.2.1 (rrn pat C f s).2.2.2.2.2.2.2.2 := by
  intro f
  induction f with
  | zero => intro s t _ _ _ h2; cases h2
  | succ f ih =>
    intro s t hx hri hn h2
    rw [rrn] at h2 ⊢
    by_cases z : (rst pat C s).1 = 0
    · rw [if_pos z] at h2 ⊢
      obtain ⟨k, t', hk4, e1, e2, e3, e4⟩ := sim_go pat C i0 s t hx hri (rst pat C s).2 (by rw [← z])
      exact ih _ t' e3 (RI_st pat C s hri z) (NI_st pat C i0 s t hx hn (rst pat C s).2 0 (by decide) (by rw [← z])) h2
    · rw [if_neg z] at h2 ⊢
      have := NI_st pat C i0 s t hx hn (rst pat C s).2 2 (by decide) (by rw [← h2])
      obtain ⟨t', e1, e2, e3, e4, e5⟩ := sim_dn pat C i0 s t hx (rst pat C s).2 (by rw [← h2])
      have hu : (rst pat C s).2.2.2.2.1 = -1 ∧ (rst pat C s).2.2.2.2.2.1 = -1 := by
        obtain ⟨i, d, S, u, v, n, q, A⟩ := s
        obtain ⟨⟨x1, x2, x3, x4, x5, x6, x7, x8, x9, x10, xa, xs⟩, _⟩ := hx
        have hcn := xs.2.2.2.2.1
        have hub := hn.ub
        dsimp only at hcn hub
        clear e1 e2 e3 e4 e5 this z ih x1 x2 x3 x4 x5 x6 x7 x8 xa
        by_cases c2 : d = 0
        · subst c2
          rw [show cntr S 0 = 0 from rfl] at hcn
          have hv : ¬ 0 ≤ v := fun z => by rw [if_pos z] at hcn; omega
          have hu : ¬ 0 ≤ u := fun z => by rw [if_neg hv, if_pos z] at hcn; omega
          have hu' : u = -1 := by omega
          have hv' : v = -1 := by omega
          revert h2
          unfold rst
          dsimp only
          repeat' split
          all_goals intro h2
          all_goals first | exact ⟨hu', hv'⟩ | cases h2
        · exfalso
          revert h2
          unfold rst
          dsimp only
          repeat' split
          all_goals intro h2
          all_goals first | cases h2 | exact absurd ‹d = 0› c2
      rw [hu.1, hu.2] at this
      exact this
/-- the repetitions of a row that has been read lie in each other as they should -/
theorem NI_prw (pat : Bool) (C : Nat → Int) (i : Nat) (hi : 1 ≤ i) (h36 : C (i - 1) ≠ 36) (hc : C i = (if pat = true then 40 else 123)) (h2 : (prw pat C (i + 1)).1 = 2) : NI (-1) (-1) (prw pat C (i + 1)).2.2.2.2.2.2.1 (prw pat C (i + 1)).2.2.2.2.2.2.2.2 := by
  have hx := XG_0 pat C i 0 0 (fun _ _ => 0) (fun j p => if j = 1 then C p else -1) 0 (fun _ => 0) hi h36 hc (fun p _ => if_pos rfl) (by decide) (fun _ => rfl)
  exact NI_row pat C i 130 (r0 (i + 1)) _ hx (RI_0 _) (NI_0 _) h2
