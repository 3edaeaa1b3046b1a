/-! Ways without a token: they end. -/
/-- how many i below n are so -/
def cn (P : Nat → Bool) : Nat → Nat
  | 0 => 0
  | e + 1 => cn P e + (if P e = true then 1 else 0)
theorem cn_eq {P Q : Nat → Bool} : ∀ n : Nat, (∀ i, i < n → P i = Q i) → cn P n = cn Q n := by
  intro n
  induction n with
  | zero => intro _; rfl
  | succ n ih => intro h; rw [cn, cn, ih (fun i hi => h i (by omega)), h n (by omega)]
theorem cn_one {P Q : Nat → Bool} (b : Nat) : ∀ n : Nat, b < n → (∀ i, i < n → i ≠ b → P i = Q i) → P b = true → Q b = false → cn P n = cn Q n + 1 := by
  intro n
  induction n with
  | zero => intro h; omega
  | succ n ih =>
    intro hb h h1 h2
    rw [cn, cn]
    by_cases q : b = n
    · subst q
      rw [h1, h2, cn_eq b (fun i hi => h i (by omega) (by omega)), if_pos rfl, if_neg (by decide)]
    · rw [ih (by omega) (fun i hi => h i (by omega)) h1 h2, h n (by omega) (by omega)]
      omega
/-- repetitions begun and ended -/
def bge (A : Nat → Nat → Int) (k : Nat) : Bool := decide (A 0 k = 4 ∨ A 0 k = 5)
abbrev sd (A : Nat → Nat → Int) (k : Nat) : Prop := A 0 k ≠ 4 ∧ (A 0 k = 5 → A 4 k ≠ 3 ∧ A 3 k ≠ 0)
abbrev on1 (A : Nat → Nat → Int) (k : Nat) : Prop := A 0 k = 4 ∨ A 0 k = 5
abbrev on2 (A : Nat → Nat → Int) (k : Nat) : Prop := (A 0 k = 4 ∧ A 4 k ≠ 2) ∨ (A 0 k = 5 ∧ A 4 k ≠ 3 ∧ A 3 k = 0)
def tg2 (A : Nat → Nat → Int) (k : Nat) : Nat := (A 2 k + 1).toNat
def phi (A : Nat → Nat → Int) (N k : Nat) : Nat := (cn (bge A) N - cn (bge A) k) + (if A 0 (ce A k) = 5 then 8 else 0)
theorem cn_mono (P : Nat → Bool) (e : Nat) : ∀ k : Nat, cn P e ≤ cn P (e + k) := by
  intro k
  induction k with
  | zero => exact Nat.le_refl _
  | succ k ih =>
    rw [show e + (k + 1) = (e + k) + 1 by omega, cn]
    omega
theorem cn_le (P : Nat → Bool) (e e' : Nat) (h : e ≤ e') : cn P e ≤ cn P e' := by
  have := cn_mono P e (e' - e)
  rw [show e + (e' - e) = e' by omega] at this
  exact this
section
variable {C : Nat → Int} {Y A : Nat → Nat → Int} {N i0 z : Nat}
theorem cn_bge (h : RX true C Y A N i0 z) : ∀ k : Nat, k ≤ N → cn (bge A) k + 2 * cn (fun e => decide (A 0 e = 4 ∧ (k : Int) ≤ A 2 e)) k = 2 * cn (fun e => decide (A 0 e = 4)) k + cn (fun e => decide (A 0 e = 4 ∧ (k : Int) ≤ A 2 e)) k := by
  intro k
  induction k with
  | zero => intro _; rfl
  | succ k ih =>
    intro hk
    have ih := ih (by omega)
    by_cases q4 : A 0 k = 4
    · obtain ⟨t, g1, g2, g3, g4, _⟩ := x_beg h k (by omega) q4
      have e1 : cn (fun e => decide (A 0 e = 4 ∧ ((k + 1 : Nat) : Int) ≤ A 2 e)) k = cn (fun e => decide (A 0 e = 4 ∧ (k : Int) ≤ A 2 e)) k := by
        apply cn_eq
        intro i hi
        apply decide_eq_decide.2
        constructor
        · rintro ⟨a1, a2⟩; exact ⟨a1, by omega⟩
        · rintro ⟨a1, a2⟩
          obtain ⟨t', f1, f2, f3, f4, _⟩ := x_beg h i (by omega) a1
          have : t' ≠ k := fun c => by rw [c, q4] at f4; omega
          exact ⟨a1, by omega⟩
      rw [cn, cn, cn, e1, if_pos (show bge A k = true from decide_eq_true (Or.inl q4)), if_pos (decide_eq_true ⟨q4, by omega⟩), if_pos (decide_eq_true q4)]
      omega
    · by_cases q5 : A 0 k = 5
      · obtain ⟨b, g1, g2, g3, g4, g5⟩ := x_end h k (by omega) q5
        have e1 : cn (fun e => decide (A 0 e = 4 ∧ (k : Int) ≤ A 2 e)) k = cn (fun e => decide (A 0 e = 4 ∧ ((k + 1 : Nat) : Int) ≤ A 2 e)) k + 1 := by
          apply cn_one b k g2
          · intro i hi hib
            apply decide_eq_decide.2
            constructor
            · rintro ⟨a1, a2⟩
              obtain ⟨t', f1, f2, f3, f4, f5, _⟩ := x_beg h i (by omega) a1
              have : t' ≠ k := fun c => by rw [c] at f5; omega
              exact ⟨a1, by omega⟩
            · rintro ⟨a1, a2⟩; exact ⟨a1, by omega⟩
          · exact decide_eq_true ⟨g4, by omega⟩
          · exact decide_eq_false (fun c => by omega)
        rw [cn, cn, cn, if_pos (show bge A k = true from decide_eq_true (Or.inr q5)), if_neg (by rw [decide_eq_true_eq]; exact fun c => q4 c.1), if_neg (by rw [decide_eq_true_eq]; exact q4)]
        omega
      · have e1 : cn (fun e => decide (A 0 e = 4 ∧ ((k + 1 : Nat) : Int) ≤ A 2 e)) k = cn (fun e => decide (A 0 e = 4 ∧ (k : Int) ≤ A 2 e)) k := by
          apply cn_eq
          intro i hi
          apply decide_eq_decide.2
          constructor
          · rintro ⟨a1, a2⟩; exact ⟨a1, by omega⟩
          · rintro ⟨a1, a2⟩
            obtain ⟨t', f1, f2, f3, f4, _⟩ := x_beg h i (by omega) a1
            have : t' ≠ k := fun c => by rw [c] at f4; omega
            exact ⟨a1, by omega⟩
        have hb : ¬ bge A k = true := by
          unfold bge
          rw [decide_eq_true_eq]
          exact fun c => by omega
        rw [cn, cn, cn, e1, if_neg hb, if_neg (by rw [decide_eq_true_eq]; exact fun c => q4 c.1), if_neg (by rw [decide_eq_true_eq]; exact q4)]
        omega
theorem cn_ord (A : Nat → Nat → Int) : ∀ k : Nat, ((cn (fun e => decide (A 0 e = 4)) k : Nat) : Int) = ordf A k := by
  intro k
  induction k with
  | zero => rfl
  | succ k ih =>
    rw [cn, ordf, ← ih]
    by_cases q : A 0 k = 4
    · rw [if_pos (decide_eq_true q), if_pos q]; omega
    · rw [if_neg (by rw [decide_eq_true_eq]; exact q), if_neg q]; omega
theorem cn_8 (h : RX true C Y A N i0 z) : cn (bge A) N ≤ 8 := by
  have h1 := cn_bge h N (by omega)
  have h2 := cn_ord A N
  have h3 := h.2.2.2.2.2.2.2.2.2.2.2.2.2.2 rfl
  omega
theorem cn_s (A : Nat → Nat → Int) (k : Nat) (h : A 0 k = 4 ∨ A 0 k = 5) : cn (bge A) (k + 1) = cn (bge A) k + 1 := by
  rw [cn, if_pos (show bge A k = true from decide_eq_true h)]
theorem ce_N (h : RX true C Y A N i0 z) : ∀ f k : Nat, N ≤ k + f → k ≤ N → ce A k ≤ N := by
  intro f
  induction f with
  | zero =>
    intro k h1 h2
    have : k = N := by omega
    subst this
    have h6 := h.2.2.2.1
    rw [ce_n (fun c => by have := c.1; omega)]
    omega
  | succ f ih =>
    intro k h1 h2
    by_cases q : psb A k
    · have hk : k < N := by
        by_cases c : k = N
        · have := q.1
          rw [c, h.2.2.2.1] at this
          exact absurd this (by decide)
        · omega
      obtain ⟨t, g1, g2, g3, g4, g5, _⟩ := x_beg h k hk q.1
      rw [ce_s h k t hk q g1]
      exact ih (t + 1) (by omega) (by omega)
    · rw [ce_n q]
      exact h2
/-- if the chain ends at an END, its repetition has begun before -/
theorem ce_end (h : RX true C Y A N i0 z) : ∀ f k : Nat, N ≤ k + f → k ≤ N → A 0 (ce A k) = 5 → k ≤ ce A k ∧ A 2 (ce A k) < k := by
  intro f
  induction f with
  | zero =>
    intro k h1 h2 h3
    have : k = N := by omega
    subst this
    have h6 := h.2.2.2.1
    rw [ce_n (fun c => by have := c.1; omega)] at h3
    omega
  | succ f ih =>
    intro k h1 h2 h3
    by_cases q : psb A k
    · have hk : k < N := by
        by_cases c : k = N
        · have := q.1
          rw [c, h.2.2.2.1] at this
          exact absurd this (by decide)
        · omega
      obtain ⟨t, g1, g2, g3, g4, g5, _⟩ := x_beg h k hk q.1
      rw [ce_s h k t hk q g1] at h3 ⊢
      obtain ⟨i1, i2⟩ := ih (t + 1) (by omega) (by omega) h3
      have hs : ce A (t + 1) ≤ N := ce_N h N (t + 1) (by omega) (by omega)
      obtain ⟨b, b1, b2, b3, b4, b5⟩ := x_end h (ce A (t + 1)) hs h3
      refine ⟨by omega, ?_⟩
      rw [b1]
      have c1 : b ≠ k := fun c => by rw [c] at b5; omega
      have c2 : b ≠ t := fun c => by rw [c] at b4; omega
      by_cases c3 : k < b
      · have := x_nest h k b t hk q.1 g1 c3 (by omega) b4
        omega
      · omega
    · rw [ce_n q] at h3 ⊢
      obtain ⟨b, b1, b2, _⟩ := x_end h k h2 h3
      omega
/-- behind a repetition's beginning the chain comes to no END, if its elements don't match nothing -/
theorem ce_no (h : RX true C Y A N i0 z) (k : Nat) (hk : k < N) (h4 : A 0 k = 4) (hne : ¬ em A k) : A 0 (ce A (k + 1)) ≠ 5 := by
  intro c
  obtain ⟨t, g1, g2, g3, g4, g5, _⟩ := x_beg h k hk h4
  have i1 := ce_in h k t hk h4 g1 t (k + 1) (by omega) (by omega) (by omega)
  obtain ⟨j1, j2⟩ := ce_end h N (k + 1) (by omega) (by omega) c
  obtain ⟨b, b1, b2, b3, b4, b5⟩ := x_end h (ce A (k + 1)) (by omega) c
  by_cases q : b = k
  · subst q
    exact hne ⟨h4, b5⟩
  · have hs : ce A (k + 1) ≠ k := by omega
    have := x_nest h b k (ce A (k + 1)) (by omega) b4 b5 (by omega) (by omega) h4
    omega
theorem phi_16 (h : RX true C Y A N i0 z) (k : Nat) : phi A N k ≤ 16 := by
  have := cn_8 h
  unfold phi
  split <;> omega
theorem phi_1 (h : RX true C Y A N i0 z) (hne : ∀ e : Nat, e < N → ¬ em A e) (k : Nat) (hk : k < N) (h1 : on1 A k) : phi A N (k + 1) < phi A N k := by
  have e1 := cn_s A k h1
  have e2 := cn_le (bge A) (k + 1) N (by omega)
  unfold phi
  rcases h1 with c | c
  · rw [if_neg (ce_no h k hk c (hne k hk))]
    omega
  · rw [ce_n (show ¬ psb A k from fun d => by have := d.1; omega), if_pos c]
    split <;> omega
theorem on2_t (h : RX true C Y A N i0 z) (k : Nat) (hk : k ≤ N) (h2 : on1 A k) : k < N ∧ ∃ t : Nat, A 2 k = t ∧ t < N ∧ tg2 A k = t + 1 ∧ A 2 t = k ∧ (A 0 k = 4 → k < t ∧ A 0 t = 5) ∧ (A 0 k = 5 → t < k ∧ A 0 t = 4) := by
  have hkN : k < N := by
    by_cases c : k = N
    · rw [c] at h2
      have := h.2.2.2.1
      omega
    · omega
  refine ⟨hkN, ?_⟩
  unfold tg2
  rcases h2 with c | c
  · obtain ⟨t, g1, g2, g3, g4, g5, _⟩ := x_beg h k hkN c
    exact ⟨t, g1, g3, by omega, g5, fun _ => ⟨g2, g4⟩, fun d => by omega⟩
  · obtain ⟨t, g1, g2, g3, g4, g5⟩ := x_end h k hk c
    exact ⟨t, g1, by omega, by omega, g5, fun d => by omega, fun _ => ⟨g2, g4⟩⟩
theorem on2_1 {k : Nat} (h : on2 A k) : on1 A k := by
  rcases h with c | c
  · exact Or.inl c.1
  · exact Or.inr c.1
theorem phi_2 (h : RX true C Y A N i0 z) (hne : ∀ e : Nat, e < N → ¬ em A e) (k : Nat) (hk : k < N) (h1 : on2 A k) : phi A N (tg2 A k) < phi A N k := by
  obtain ⟨_, t, g1, g2, g3, g4, g5, g6⟩ := on2_t h k (by omega) (on2_1 h1)
  rw [g3]
  have e1 := cn_s A k (on2_1 h1)
  rcases h1 with c | c
  · have := g5 c.1
    have e2 := cn_le (bge A) (k + 1) (t + 1) (by omega)
    have e3 := cn_le (bge A) (t + 1) N (by omega)
    unfold phi
    rw [ce_s h k t hk c g1]
    omega
  · have g6 := g6 c.1
    have e2 := cn_s A t (Or.inl g6.2)
    have e3 := cn_le (bge A) (k + 1) N (by omega)
    have e4 := cn_8 h
    unfold phi
    rw [if_neg (ce_no h t g2 g6.2 (hne t g2)), ce_n (show ¬ psb A k from fun d => by have := d.1; omega), if_pos c.1]
    omega
end
/-- the ways from k to where j stands -/
def Wy (A : Nat → Nat → Int) : Nat → Nat → Nat → List (List Nat)
  | 0, _, _ => []
  | f + 1, k, j => (if sd A k ∧ k = j then [[k]] else []) ++ ((if on1 A k then (Wy A f (k + 1) j).map (fun p => k :: p) else []) ++ (if on2 A k then (Wy A f (tg2 A k) j).map (fun p => k :: p) else []))
def ways (A : Nat → Nat → Int) (k j : Nat) : List (List Nat) := Wy A 17 k j
def wc (A : Nat → Nat → Int) (k j : Nat) : Nat := (ways A k j).length
section
variable {C : Nat → Int} {Y A : Nat → Nat → Int} {N i0 z : Nat}
theorem W_sat (h : RX true C Y A N i0 z) (hne : ∀ e : Nat, e < N → ¬ em A e) (j : Nat) : ∀ f k : Nat, k ≤ N → phi A N k < f → Wy A (f + 1) k j = Wy A f k j := by
  intro f
  induction f with
  | zero => intro k _ h; omega
  | succ f ih =>
    intro k hk hf
    rw [show Wy A (f + 1 + 1) k j = (if sd A k ∧ k = j then [[k]] else []) ++ ((if on1 A k then (Wy A (f + 1) (k + 1) j).map (fun p => k :: p) else []) ++ (if on2 A k then (Wy A (f + 1) (tg2 A k) j).map (fun p => k :: p) else [])) from rfl]
    rw [show Wy A (f + 1) k j = (if sd A k ∧ k = j then [[k]] else []) ++ ((if on1 A k then (Wy A f (k + 1) j).map (fun p => k :: p) else []) ++ (if on2 A k then (Wy A f (tg2 A k) j).map (fun p => k :: p) else [])) from rfl]
    congr 1
    congr 1
    · by_cases q : on1 A k
      · obtain ⟨hkN, _⟩ := on2_t h k hk q
        have := phi_1 h hne k hkN q
        rw [if_pos q, if_pos q, ih (k + 1) (by omega) (by omega)]
      · rw [if_neg q, if_neg q]
    · by_cases q : on2 A k
      · obtain ⟨hkN, t, g1, g2, g3, _⟩ := on2_t h k hk (on2_1 q)
        have := phi_2 h hne k hkN q
        rw [if_pos q, if_pos q, ih (tg2 A k) (by omega) (by omega)]
      · rw [if_neg q, if_neg q]
theorem ways_eq (h : RX true C Y A N i0 z) (hne : ∀ e : Nat, e < N → ¬ em A e) (k j : Nat) (hk : k ≤ N) : ways A k j = (if sd A k ∧ k = j then [[k]] else []) ++ ((if on1 A k then (ways A (k + 1) j).map (fun p => k :: p) else []) ++ (if on2 A k then (ways A (tg2 A k) j).map (fun p => k :: p) else [])) := by
  have := phi_16 h k
  have e := W_sat h hne j 17 k hk (by omega)
  show Wy A 17 k j = _
  rw [← e]
  rfl
theorem wc_eq (h : RX true C Y A N i0 z) (hne : ∀ e : Nat, e < N → ¬ em A e) (k j : Nat) (hk : k ≤ N) : wc A k j = (if sd A k ∧ k = j then 1 else 0) + ((if on1 A k then wc A (k + 1) j else 0) + (if on2 A k then wc A (tg2 A k) j else 0)) := by
  unfold wc
  rw [ways_eq h hne k j hk, List.length_append, List.length_append]
  congr 1
  · split <;> rfl
  · congr 1
    · split
      · rw [List.length_map]
      · rfl
    · split
      · rw [List.length_map]
      · rfl
end
