/-! Elements and places of a row. -/
def pl (A : Nat → Nat → Int) (e : Nat) : Nat := (A 7 e).toNat
section
variable {pat : Bool} {C : Nat → Int} {Y A : Nat → Nat → Int} {N i0 z : Nat}
theorem x_pl (h : RX pat C Y A N i0 z) (e : Nat) (he : e ≤ N) : A 7 e = pl A e ∧ i0 < pl A e ∧ pl A e ≤ z ∧ (e < N → (pl A e : Int) + lnf A e ≤ z) := by
  obtain ⟨h1, h2, h3, h4, h5, h6, h7, h8⟩ := h
  unfold pl
  by_cases q : e = N
  · subst q
    rw [h5]
    omega
  · have := PL_in h2 e (by omega)
    have := lnf_pos A e
    omega
theorem x_nx (h : RX pat C Y A N i0 z) (e : Nat) (he : e < N) : (pl A (e + 1) : Int) = pl A e + lnf A e := by
  have h1 := (x_pl h e (by omega)).1
  have h2 := (x_pl h (e + 1) (by omega)).1
  obtain ⟨_, g2, g3, g4, g5, g6⟩ := h
  by_cases q : e + 1 = N
  · have := (g2.2.1 (by omega)).2
    rw [show N - 1 = e by omega] at this
    rw [q] at h2 ⊢
    omega
  · have := g2.2.2 e (by omega)
    omega
theorem x_0 (h : RX pat C Y A N i0 z) : pl A 0 = i0 + 1 := by
  have h1 := (x_pl h 0 (by omega)).1
  obtain ⟨_, g2, g3, g4, g5, g6⟩ := h
  by_cases q : N = 0
  · have := g2.1 q
    rw [q] at g5
    omega
  · have := (g2.2.1 (by omega)).1
    omega
theorem x_N (h : RX pat C Y A N i0 z) : pl A N = z := by
  have h1 := (x_pl h N (by omega)).1
  have := h.2.2.2.2.1
  omega
theorem x_lt (h : RX pat C Y A N i0 z) (e e' : Nat) (he : e < e') (he' : e' ≤ N) : (pl A e : Int) + lnf A e ≤ pl A e' := by
  obtain ⟨k, rfl⟩ : ∃ k, e' = e + 1 + k := ⟨e' - e - 1, by omega⟩
  clear he
  induction k with
  | zero => rw [Nat.add_zero, x_nx h e (by omega)]; omega
  | succ k ih =>
    have h1 := ih (by omega)
    have h2 := x_nx h (e + 1 + k) (by omega)
    have := lnf_pos A (e + 1 + k)
    rw [show e + 1 + (k + 1) = e + 1 + k + 1 by omega]
    omega
theorem x_inj (h : RX pat C Y A N i0 z) (e e' : Nat) (he : e ≤ N) (he' : e' ≤ N) (hp : pl A e = pl A e') : e = e' := by
  rcases Nat.lt_trichotomy e e' with q | q | q
  · have := x_lt h e e' q he'
    have := lnf_pos A e
    omega
  · exact q
  · have := x_lt h e' e q he
    have := lnf_pos A e'
    omega
theorem x_mono (h : RX pat C Y A N i0 z) (e e' : Nat) (he : e ≤ N) (he' : e' ≤ N) : e < e' ↔ pl A e < pl A e' := by
  constructor
  · intro q
    have := x_lt h e e' q he'
    have := lnf_pos A e
    omega
  · intro q
    rcases Nat.lt_trichotomy e e' with w | w | w
    · exact w
    · rw [w] at q; omega
    · have := x_lt h e' e w he
      have := lnf_pos A e'
      omega
/-- the element that a place belongs to -/
theorem x_at (h : RX pat C Y A N i0 z) (p : Nat) (h1 : i0 < p) (h2 : p < z) : ∃ e : Nat, e < N ∧ pl A e ≤ p ∧ (p : Int) < pl A e + lnf A e := by
  have go : ∀ k : Nat, k ≤ N → p < pl A k → ∃ e : Nat, e < N ∧ pl A e ≤ p ∧ (p : Int) < pl A e + lnf A e := by
    intro k
    induction k with
    | zero => intro _ hp; rw [x_0 h] at hp; omega
    | succ k ih =>
      intro hk hp
      by_cases q : p < pl A k
      · exact ih (by omega) q
      · refine ⟨k, by omega, by omega, ?_⟩
        have := x_nx h k (by omega)
        omega
  exact go N (Nat.le_refl _) (by rw [x_N h]; exact h2)
theorem x_e (h : RX pat C Y A N i0 z) (e : Nat) (he : e < N) : EK pat C Y A N e := h.2.2.1 e he
/-- a dollar stands at the beginning of its element -/
theorem x_36 (h : RX pat C Y A N i0 z) (p : Nat) (h1 : i0 < p) (h2 : p < z) (h36 : C p = 36) : ∃ e : Nat, e < N ∧ p = pl A e ∧ (A 0 e = 3 ∨ A 0 e = 4 ∨ A 0 e = 7) := by
  obtain ⟨e, he, e1, e2⟩ := x_at h p h1 h2
  have ek := x_e h e he
  have hp := (x_pl h e (by omega)).1
  obtain ⟨k1, k2, k3, k4, k5, k6, k7, k8, k9, k10, k11⟩ := ek
  have hln : lnf A e = if A 0 e = 3 then 4 else if A 0 e = 4 ∨ A 0 e = 7 then 2 else if A 0 e = 5 then (if A 3 e = 0 then 2 else 3) else 1 := rfl
  unfold pl at e1 e2 hp ⊢
  generalize hpe : (A 7 e).toNat = pe at *
  refine ⟨e, he, ?_⟩
  have lit : A 0 e = 0 ∨ A 0 e = 1 ∨ A 0 e = 2 → False := by
    intro w
    obtain ⟨a1, a2, a3, a4⟩ := k7 w
    have : lnf A e = 1 := by rw [hln, if_neg (by omega), if_neg (by omega), if_neg (by omega)]
    have : p = pe := by omega
    subst this
    omega
  rcases k6 with w | w | w | w | w | w | w
  · exact absurd (Or.inl w) lit
  · exact absurd (Or.inr (Or.inl w)) lit
  · exact absurd (Or.inr (Or.inr w)) lit
  · obtain ⟨a1, a2, a3, a4, a5, a6, a7, a8⟩ := k8 w
    rw [if_pos w] at hln
    have : p = pe ∨ p = pe + 1 ∨ p = pe + 2 ∨ p = pe + 3 := by omega
    rcases this with r | r | r | r
    · exact ⟨by rw [hpe]; exact r, Or.inl w⟩
    · rw [r] at h36; omega
    · rw [r] at h36; omega
    · rw [r] at h36; omega
  · obtain ⟨a1, a2, a3, a4, a5, a6⟩ := k10 w
    rw [if_neg (by omega), if_pos (Or.inl w)] at hln
    have : p = pe ∨ p = pe + 1 := by omega
    rcases this with r | r
    · exact ⟨by rw [hpe]; exact r, Or.inr (Or.inl w)⟩
    · rw [r] at h36; omega
  · obtain ⟨a1, a2, a3, a4, a5, a6, a7⟩ := k11 w
    rw [if_neg (by omega), if_neg (by omega), if_pos w] at hln
    rcases a7 with ⟨b1, b2, b3⟩ | ⟨b1, b2, b3, b4, b5, b6, b7⟩
    · rw [if_pos b1] at hln
      have : p = pe ∨ p = pe + 1 := by omega
      rcases this with r | r <;> rw [r] at h36 <;> omega
    · rw [if_neg (by omega)] at hln
      have : p = pe ∨ p = pe + 1 ∨ p = pe + 2 := by omega
      rcases this with r | r | r <;> rw [r] at h36 <;> omega
  · obtain ⟨a1, a2, a3, a4, a5⟩ := k9 w
    rw [if_neg (by omega), if_pos (Or.inr w)] at hln
    have : p = pe ∨ p = pe + 1 := by omega
    rcases this with r | r
    · exact ⟨by rw [hpe]; exact r, Or.inr (Or.inr w)⟩
    · rw [r] at h36; omega
/-- a variable begins at an element -/
theorem x_sv (h : RX pat C Y A N i0 z) (p : Nat) (h1 : i0 < p) (h2 : p < z) : (C p = 36 ∧ C (p + 1) ≠ 40) ↔ ∃ e : Nat, e < N ∧ p = pl A e ∧ (A 0 e = 3 ∨ A 0 e = 7) := by
  constructor
  · intro ⟨w1, w2⟩
    obtain ⟨e, he, e1, e2⟩ := x_36 h p h1 h2 w1
    refine ⟨e, he, e1, ?_⟩
    rcases e2 with r | r | r
    · exact Or.inl r
    · have := (x_e h e he).2.2.2.2.2.2.2.2.2.1 r
      rw [e1] at w2
      exact absurd this.2.1 w2
    · exact Or.inr r
  · intro ⟨e, he, e1, e2⟩
    rw [e1]
    rcases e2 with r | r
    · have := (x_e h e he).2.2.2.2.2.2.2.1 r
      unfold pl
      omega
    · have := (x_e h e he).2.2.2.2.2.2.2.2.1 r
      unfold pl
      omega
theorem x_sr (h : RX pat C Y A N i0 z) (p : Nat) (h1 : i0 < p) (h2 : p < z) : (C p = 36 ∧ C (p + 1) = 40) ↔ ∃ e : Nat, e < N ∧ p = pl A e ∧ A 0 e = 4 := by
  constructor
  · intro ⟨w1, w2⟩
    obtain ⟨e, he, e1, e2⟩ := x_36 h p h1 h2 w1
    refine ⟨e, he, e1, ?_⟩
    rw [e1] at w2
    rcases e2 with r | r | r
    · have := (x_e h e he).2.2.2.2.2.2.2.1 r
      unfold pl at w2
      omega
    · exact r
    · have := (x_e h e he).2.2.2.2.2.2.2.2.1 r
      unfold pl at w2
      omega
  · intro ⟨e, he, e1, r⟩
    rw [e1]
    have := (x_e h e he).2.2.2.2.2.2.2.2.2.1 r
    exact ⟨this.1, this.2.1⟩
/-- at an element's own place -/
theorem x_srE (h : RX pat C Y A N i0 z) (e : Nat) (he : e ≤ N) : (C (pl A e) = 36 ∧ C (pl A e + 1) = 40) ↔ A 0 e = 4 := by
  by_cases q : e = N
  · subst q
    have hN := h.2.2.2.1
    have hz := h.2.2.2.2.2.1
    rw [x_N h]
    constructor
    · intro w
      rw [hz] at w
      cases pat <;> exact absurd w.1 (by decide)
    · intro w; omega
  · have hp := x_pl h e he
    have hl := lnf_pos A e
    rw [x_sr h (pl A e) hp.2.1 (by have := hp.2.2.2 (by omega); omega)]
    constructor
    · intro ⟨e', a1, a2, a3⟩
      rw [x_inj h e e' he (by omega) a2]; exact a3
    · intro w
      exact ⟨e, by omega, rfl, w⟩
theorem x_svE (h : RX pat C Y A N i0 z) (e : Nat) (he : e ≤ N) : (C (pl A e) = 36 ∧ C (pl A e + 1) ≠ 40) ↔ (A 0 e = 3 ∨ A 0 e = 7) := by
  by_cases q : e = N
  · subst q
    have hN := h.2.2.2.1
    have hz := h.2.2.2.2.2.1
    rw [x_N h]
    constructor
    · intro w
      rw [hz] at w
      cases pat <;> exact absurd w.1 (by decide)
    · intro w; omega
  · have hp := x_pl h e he
    have hl := lnf_pos A e
    rw [x_sv h (pl A e) hp.2.1 (by have := hp.2.2.2 (by omega); omega)]
    constructor
    · intro ⟨e', a1, a2, a3⟩
      rw [x_inj h e e' he (by omega) a2]; exact a3
    · intro w
      exact ⟨e, by omega, rfl, w⟩
/-- a repetition's end and its beginning -/
theorem x_beg (h : RX pat C Y A N i0 z) (e : Nat) (he : e < N) (h4 : A 0 e = 4) : ∃ t : Nat, A 2 e = t ∧ e < t ∧ t < N ∧ A 0 t = 5 ∧ A 2 t = e ∧ A 5 t = A 5 e ∧ A 6 t = -1 ∧ A 6 e = -1 ∧ Y 2 (pl A e + 1) = pl A t ∧ Y 4 (pl A e) = (pl A t : Int) + (if A 3 t = 0 then 1 else 2) ∧ (pat = true → A 3 e = A 3 t ∧ A 4 e = A 4 t) ∧ Y 3 (pl A e) = innf A (A 5 e) (-1) ∧ (pat = true → Y 5 (pl A e) = ordf A e) := by
  have hn := h.1
  have h2 : A 2 e ≠ -1 := by
    intro w
    rcases hn.op e (by omega) h4 w with r | r <;> omega
  obtain ⟨t, t1, t2, t3, t4, t5⟩ := hn.n6 e (by omega) h4 h2
  have htN : t < N := by
    by_cases q : t = N
    · subst q; have := h.2.2.2.1; omega
    · omega
  obtain ⟨n1, b, n2, n3, n4, n5, n6⟩ := hn.n5 t (by omega) t4
  have hb : b = e := by omega
  subst hb
  obtain ⟨a1, a2, a3, a4, a5, a6⟩ := (x_e h b he).2.2.2.2.2.2.2.2.2.1 h4
  have hpt := x_pl h t (by omega)
  rcases a6 with w | ⟨b1, b2, b3, b4, b5, b6, b7⟩
  · omega
  · rw [t1, Int.toNat_natCast] at b5 b6 b7
    rw [hpt.1] at b5 b6
    exact ⟨t, t1, t2, htN, t4, t5, n6, n1, hn.b6 b (by omega) h4, b5, b6, b7, by rw [show A 6 b = -1 from a4] at a3; exact a3, a5⟩
theorem x_end (h : RX pat C Y A N i0 z) (t : Nat) (ht : t ≤ N) (h5 : A 0 t = 5) : ∃ e : Nat, A 2 t = e ∧ e < t ∧ t < N ∧ A 0 e = 4 ∧ A 2 e = t := by
  have hn := h.1
  obtain ⟨n1, b, n2, n3, n4, n5, n6⟩ := hn.n5 t (by omega) h5
  refine ⟨b, n2, n3, ?_, n4, n5⟩
  by_cases q : t = N
  · subst q; have := h.2.2.2.1; omega
  · omega
/-- the class's repetitionEndedAt, at an element -/
theorem x_re (h : RX pat C Y A N i0 z) (e : Nat) (he : e ≤ N) : repE C Y (pl A e) = if A 0 e = 5 then (pl A (A 2 e).toNat : Int) else -1 := by
  unfold repE
  by_cases q : e = N
  · subst q
    have hN := h.2.2.2.1
    rw [if_neg (show ¬ A 0 e = 5 by omega), x_N h]
    rw [if_neg]
    intro w
    have h10 := h.2.2.2.2.2.2.2.2.2
    rw [h10.1] at w
    have : ((i0 : Int) - 1).toNat = i0 - 1 := by omega
    rw [this] at w
    exact h10.2.2.1 w.2.2
  · have ek := x_e h e (by omega)
    by_cases q5 : A 0 e = 5
    · rw [if_pos q5]
      obtain ⟨b, n2, n3, n4, n5, n6⟩ := x_end h e he q5
      obtain ⟨a1, a2, a3, a4, a5, a6, a7⟩ := ek.2.2.2.2.2.2.2.2.2.2 q5
      have hb := x_pl h b (by omega)
      rw [n2, Int.toNat_natCast] at a6
      have hC := ((x_srE h b (by omega)).2 n5).1
      unfold pl at *
      have hC2 : C (A 7 b + 1 - 1).toNat = 36 := by
        rw [show A 7 b + 1 - 1 = A 7 b by omega]
        exact hC
      rw [a6, n2, Int.toNat_natCast, if_pos ⟨a1, by omega, hC2⟩]
      omega
    · rw [if_neg q5, if_neg]
      intro ⟨w1, w2, w3⟩
      rcases ek.2.2.2.2.2.1 with w | w | w | w | w | w | w
      · obtain ⟨a1, a2, a3, a4⟩ := ek.2.2.2.2.2.2.1 (Or.inl w)
        have := a4 (by unfold pl at w1; omega)
        unfold pl at w2 w3
        rcases this.2 with r | r
        · omega
        · exact r w3
      · obtain ⟨a1, a2, a3, a4⟩ := ek.2.2.2.2.2.2.1 (Or.inr (Or.inl w))
        have := a4 (by unfold pl at w1; omega)
        unfold pl at w2 w3
        rcases this.2 with r | r
        · omega
        · exact r w3
      · obtain ⟨a1, a2, a3, a4⟩ := ek.2.2.2.2.2.2.1 (Or.inr (Or.inr w))
        have := a4 (by unfold pl at w1; omega)
        unfold pl at w2 w3
        rcases this.2 with r | r
        · omega
        · exact r w3
      · have := ((x_svE h e he).2 (Or.inl w)).1; omega
      · have := ((x_srE h e he).2 w).1; omega
      · exact q5 w
      · have := ((x_svE h e he).2 (Or.inr w)).1; omega
end
