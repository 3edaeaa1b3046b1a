/-! A row, whole, on both sides. -/
/-- the automaton stands where the pure reading stands -/
def XG (pat : Bool) (C : Nat → Int) (i0 : Nat) (s : RS) (t : CS) : Prop := XR pat C i0 s t ∧ 0 ≤ t.2.2.1 ∧ t.2.2.1 ≤ 4
theorem sim_go (pat : Bool) (C : Nat → Int) (i0 : Nat) (s : RS) (t : CS) (h : XG pat C i0 s t) (hri : RI s) (s' : RS) (hr : rst pat C s = (0, s')) : ∃ (k : Nat) (t' : CS), (1 ≤ k ∧ k ≤ 4) ∧ s'.1 = s.1 + k ∧ (∀ f, crn C (f + k) s.1 t = crn C f s'.1 t') ∧ XG pat C i0 s' t' ∧ t'.2.2.2.2.2.2.2.2 = t.2.2.2.2.2.2.2.2 := by
  obtain ⟨hx, h1, h2⟩ := h
  obtain ⟨i, d, S, u, v, n, q, A⟩ := s
  obtain ⟨ph, pt, rp, inn, cl, dd, St, Y, a, P⟩ := t
  obtain ⟨x1, x2, x3, x4, x5, x6, x7, x8, x9, x10, xa, xs⟩ := id hx
  dsimp only at x1 x2 x4 x5 h1 h2
  subst x1 x2 x4 x5
  obtain ⟨a1, a2, a3, a4, a5, a6, a7, a8, a9, a10⟩ := hri
  dsimp only at a1 a2 a3 a4 a5 a6 a7 a8 a9 a10 xs
  unfold rst at hr
  dsimp only at hr
  by_cases c0 : C i ≤ 0
  · rw [if_pos c0] at hr; cases hr
  rw [if_neg c0] at hr
  by_cases c1 : cls (C i)
  · rw [if_pos c1] at hr
    by_cases c2 : d = 0
    · rw [if_pos c2] at hr
      by_cases c3 : C i = (if pt = true then 41 else 125)
      · rw [if_pos c3] at hr; cases hr
      · rw [if_neg c3] at hr; cases hr
    rw [if_neg c2] at hr
    by_cases c3 : C i ≠ clo (S 0 (d - 1))
    · rw [if_pos c3] at hr; cases hr
    rw [if_neg c3] at hr
    by_cases c4 : S 1 (d - 1) < 0
    · rw [if_pos c4] at hr
      cases hr
      obtain ⟨t', y1, y2, y3, y4⟩ := sim_cls hx c1 (by omega) (Decidable.of_not_not c3) c4
      exact ⟨1, t', by omega, rfl, fun f => crn_go f (show 0 < C i by omega) y1, ⟨y2, y4 ⟨h1, h2⟩⟩, y3⟩
    rw [if_neg c4] at hr
    by_cases c5 : C (i + 1) = 42 ∨ C (i + 1) = 43 ∨ C (i + 1) = 63
    · rw [if_pos c5] at hr
      cases hr
      obtain ⟨t', y1, y2, y3, y4⟩ := sim_end hx c1 (by omega) (Decidable.of_not_not c3) (by omega) 0 (r_mk (C (i + 1))) 2 (Or.inl ⟨rfl, rfl, c5, rfl⟩)
      exact ⟨2, t', by omega, rfl, y1, ⟨y2, y4 ⟨h1, h2⟩⟩, y3⟩
    rw [if_neg c5] at hr
    by_cases c6 : 0 < C (i + 1) ∧ ¬ opn (C (i + 1)) ∧ ¬ cls (C (i + 1)) ∧ C (i + 1) ≠ 36
    · rw [if_pos c6] at hr
      by_cases c7 : C (i + 2) = 42 ∨ C (i + 2) = 43
      · rw [if_pos c7] at hr
        cases hr
        obtain ⟨t', y1, y2, y3, y4⟩ := sim_end hx c1 (by omega) (Decidable.of_not_not c3) (by omega) (C (i + 1)) (r_mk (C (i + 2))) 3 (Or.inr ⟨rfl, rfl, c6.1, c6.2.2.2, c6.2.1, c6.2.2.1, c5, c7, rfl⟩)
        exact ⟨3, t', by omega, rfl, y1, ⟨y2, y4 ⟨h1, h2⟩⟩, y3⟩
      · rw [if_neg c7] at hr; cases hr
    · rw [if_neg c6] at hr; cases hr
  rw [if_neg c1] at hr
  by_cases c2 : C i = 36
  · rw [if_pos c2] at hr
    by_cases c3 : wd (C (i + 1))
    · rw [if_pos c3] at hr
      cases pt with
      | true =>
        rw [if_pos rfl] at hr
        by_cases c5 : C (i + 2) ≠ 58
        · rw [if_pos c5] at hr; cases hr
        rw [if_neg c5] at hr
        by_cases c6 : knd (C (i + 3))
        · rw [if_pos c6] at hr
          cases hr
          obtain ⟨t', y1, y2, y3, y4⟩ := sim_frag hx c2 c3 (Decidable.of_not_not c5) c6
          exact ⟨4, t', by omega, rfl, y1, ⟨y2, y4 ⟨h1, h2⟩⟩, y3⟩
        · rw [if_neg c6] at hr; cases hr
      | false =>
        rw [if_neg (by decide)] at hr
        cases hr
        obtain ⟨t', y1, y2, y3, y4⟩ := sim_use hx c2 c3
        exact ⟨2, t', by omega, rfl, y1, ⟨y2, y4 ⟨h1, h2⟩⟩, y3⟩
    rw [if_neg c3] at hr
    by_cases c4 : C (i + 1) ≠ 40 ∨ 0 ≤ v ∨ (pt = true ∧ 4 ≤ q) ∨ 9 ≤ d
    · rw [if_pos c4] at hr; cases hr
    rw [if_neg c4] at hr
    cases hr
    have z2 : v < 0 := by
      have : ¬ 0 ≤ v := fun z => c4 (Or.inr (Or.inl z))
      omega
    have z4 : d < 9 := by
      have : ¬ 9 ≤ d := fun z => c4 (Or.inr (Or.inr (Or.inr z)))
      omega
    obtain ⟨t', y1, y2, y3, y4⟩ := sim_rep hx c2 (Decidable.of_not_not (fun z => c4 (Or.inl z))) z2 (fun z => c4 (Or.inr (Or.inr (Or.inl z)))) z4
    exact ⟨2, t', by omega, rfl, y1, ⟨y2, y4 ⟨h1, h2⟩⟩, y3⟩
  rw [if_neg c2] at hr
  by_cases c3 : opn (C i)
  · rw [if_pos c3] at hr
    by_cases c4 : 9 ≤ d
    · rw [if_pos c4] at hr; cases hr
    rw [if_neg c4] at hr
    cases hr
    obtain ⟨t', y1, y2, y3, y4⟩ := sim_opn hx c3 (by omega)
    exact ⟨1, t', by omega, rfl, fun f => crn_go f (show 0 < C i by omega) y1, ⟨y2, y4 ⟨h1, h2⟩⟩, y3⟩
  rw [if_neg c3] at hr
  cases hr
  obtain ⟨t', y1, y2, y3, y4⟩ := sim_lit hx (by omega) c2 c3 c1
  exact ⟨1, t', by omega, rfl, fun f => crn_go f (show 0 < C i by omega) y1, ⟨y2, y4 ⟨h1, h2⟩⟩, y3⟩
theorem sim_dn (pat : Bool) (C : Nat → Int) (i0 : Nat) (s : RS) (t : CS) (h : XG pat C i0 s t) (s' : RS) (hr : rst pat C s = (2, s')) : ∃ t' : CS, s'.1 = s.1 + 1 ∧ (∀ f, crn C (f + 1) s.1 t = crn C f s'.1 t') ∧ XD pat C i0 s' t' ∧ t'.2.2.2.2.2.2.2.2 = t.2.2.2.2.2.2.2.2 ∧ t'.2.2.1 = t.2.2.1 := by
  obtain ⟨hx, h1, h2⟩ := h
  obtain ⟨i, d, S, u, v, n, q, A⟩ := s
  obtain ⟨ph, pt, rp, inn, cl, dd, St, Y, a, P⟩ := t
  obtain ⟨x1, x2, x3, x4, x5, x6, x7, x8, x9, x10, xa, xs⟩ := id hx
  dsimp only at x1 x2 x4 x5 h1 h2
  subst x1 x2 x4 x5
  have hr0 := hr
  unfold rst at hr
  dsimp only at hr
  by_cases c0 : C i ≤ 0
  · rw [if_pos c0] at hr; cases hr
  rw [if_neg c0] at hr
  by_cases c1 : cls (C i)
  · rw [if_pos c1] at hr
    by_cases c2 : d = 0
    · rw [if_pos c2] at hr
      by_cases c3 : C i = (if pt = true then 41 else 125)
      · rw [if_pos c3] at hr
        cases hr
        subst c2
        obtain ⟨t', y1, y2, y3, y4⟩ := sim_done hx c1 c3
        exact ⟨t', rfl, fun f => crn_go f (show 0 < C i by omega) y1, y2, y3, y4⟩
      · rw [if_neg c3] at hr; cases hr
    · exfalso
      rw [if_neg c2] at hr
      repeat' split at hr
      all_goals cases hr
  · exfalso
    rw [if_neg c1] at hr
    repeat' split at hr
    all_goals cases hr
/-- the class reads a row as the pure reading does -/
theorem sim_row (pat : Bool) (C : Nat → Int) (hC : ∀ p, C p = 0 ∨ C p = -1 ∨ vt (C p)) (hz : ∀ p, 120 ≤ p → C p = 0) (i0 : Nat) : ∀ (f : Nat) (s : RS) (t : CS), XG pat C i0 s t → RI s → 120 ≤ s.1 + f →
    ((rrn pat C f s).1 = 1 ∧ ∃ K : Nat, K ≤ 4 * f + 4 ∧ ∀ g, (crn C (g + K) s.1 t).1 = 1 ∧ (crn C (g + K) s.1 t).2.1 = (rrn pat C f s).2.1) ∨
    ((rrn pat C f s).1 = 2 ∧ ∃ (k : Nat) (t' : CS), (rrn pat C f s).2.1 = s.1 + k ∧ (∀ g, crn C (g + k) s.1 t = crn C g (rrn pat C f s).2.1 t') ∧ XD pat C i0 (rrn pat C f s).2 t' ∧ t'.2.2.2.2.2.2.2.2 = t.2.2.2.2.2.2.2.2 ∧ 0 ≤ t'.2.2.1 ∧ t'.2.2.1 ≤ 4) := by
  intro f
  induction f with
  | zero =>
    intro s t h hri hf
    obtain ⟨k, e1, e2, e3⟩ := FB_0 (t := t) (show C s.1 ≤ 0 by rw [hz s.1 (by omega)]; omega) (by rw [h.1.1]; decide)
    refine Or.inl ⟨rfl, k + 1, by omega, fun g => ?_⟩
    rw [show g + (k + 1) = g + k + 1 by omega]
    exact e3 g
  | succ f ih =>
    intro s t h hri hf
    rw [rrn]
    by_cases z : (rst pat C s).1 = 0
    · rw [if_pos z]
      obtain ⟨k, t', hk4, e1, e2, e3, e4⟩ := sim_go pat C i0 s t h hri (rst pat C s).2 (by rw [← z])
      rcases ih (rst pat C s).2 t' e3 (RI_st pat C s hri z) (by omega) with ⟨w, K, c1, c2⟩ | ⟨w, k2, t2, c0, c1, c2, c3, c4⟩
      · refine Or.inl ⟨w, K + k, by omega, fun g => ?_⟩
        rw [show g + (K + k) = (g + K) + k by omega, e2]
        exact c2 g
      · refine Or.inr ⟨w, k + k2, t2, by omega, fun g => ?_, c2, c3.trans e4, c4⟩
        rw [show g + (k + k2) = (g + k2) + k by omega, e2, c1]
    · rw [if_neg z]
      by_cases w : (rst pat C s).1 = 1
      · left
        have hfb : FB C s.1 t (rst pat C s).2.1 := by
          obtain ⟨hx, h1, h2⟩ := h
          obtain ⟨i, d, S, u, v, n, q, A⟩ := s
          obtain ⟨ph, pt, rp, inn, cl, dd, St, Y, a, P⟩ := t
          obtain ⟨x1, x2, x3, x4, x5, x6, x7, x8, x9, x10, xa, xs⟩ := id hx
          dsimp only at x1 x2 x4 x5 h1 h2
          subst x1 x2 x4 x5
          exact sim_bad hC hx hri.1 ⟨h1, h2⟩ (rst pt C (i, d, S, u, v, n, q, A)).2 (by rw [← w])
        obtain ⟨k, e1, e2, e3⟩ := hfb
        refine ⟨w, k + 1, by omega, fun g => ?_⟩
        rw [show g + (k + 1) = g + k + 1 by omega]
        exact e3 g
      · have w2 : (rst pat C s).1 = 2 := by
          obtain ⟨i, d, S, u, v, n, q, A⟩ := s
          revert z w
          unfold rst
          dsimp only
          repeat' split
          all_goals simp
        obtain ⟨t', e1, e2, e3, e4, e5⟩ := sim_dn pat C i0 s t h (rst pat C s).2 (by rw [← w2])
        exact Or.inr ⟨w2, 1, t', e1, e2, e3, e4, by rw [e5]; exact h.2⟩
