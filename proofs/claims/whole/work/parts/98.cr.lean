/-! A row that has been read: elements and places. -/
def KB (pat : Bool) (n : Nat) (A : Nat → Nat → Int) : Prop := pat = false → ∀ e : Nat, e < n → A 0 e ≠ 1 ∧ A 0 e ≠ 2
theorem KB_add {pat : Bool} {n : Nat} {A : Nat → Nat → Int} (h : KB pat n A) (k c mk u v p : Int) (hk : pat = false → k ≠ 1 ∧ k ≠ 2) : KB pat (n + 1) (r_add A n k c mk u v p) := by
  intro hp e he
  by_cases q : e = n
  · subst q
    rw [(ra A e k c mk u v p).1]; exact hk hp
  · have : r_add A n k c mk u v p 0 e = A 0 e := by unfold r_add; rw [if_neg q]
    rw [this]; exact h hp e (by omega)
theorem KB_st (pat : Bool) (C : Nat → Int) (s : RS) (h : KB pat s.2.2.2.2.2.1 s.2.2.2.2.2.2.2) (hri : RI s) (s' : RS) (z : Nat) (hz : z ≠ 1) (hr : rst pat C s = (z, s')) : KB pat s'.2.2.2.2.2.1 s'.2.2.2.2.2.2.2 := by
  obtain ⟨i, d, S, u, v, n, q, A⟩ := s
  have hS := hri.2.2.1
  dsimp only at h hS
  have en : ∀ (sp mk u' p : Int), 0 < d → ¬ S 1 (d - 1) < 0 → KB pat (n + 1) (r_end pat A n (S 1 (d - 1)).toNat sp mk u' p) := by
    intro sp mk u' p hd hs
    have hb : (S 1 (d - 1)).toNat < n := by have := hS (d - 1) (by omega); omega
    have hak := re_AK pat A n (S 1 (d - 1)).toNat sp mk u' p hb
    have hn := re_n pat A n (S 1 (d - 1)).toNat sp mk u' p hb
    intro hp e he
    by_cases q : e = n
    · subst q; rw [hn.1]; decide
    · rw [hak.2 0 e (by omega) (by decide)]; exact h hp e (by omega)
  unfold rst at hr
  dsimp only at hr
  by_cases c0 : C i ≤ 0
  · rw [if_pos c0] at hr; cases hr; exact absurd rfl hz
  rw [if_neg c0] at hr
  by_cases c1 : cls (C i)
  · rw [if_pos c1] at hr
    by_cases c2 : d = 0
    · rw [if_pos c2] at hr
      by_cases c3 : C i = (if pat = true then 41 else 125)
      · rw [if_pos c3] at hr; cases hr; exact KB_add h _ _ _ _ _ _ (fun _ => by decide)
      · rw [if_neg c3] at hr; cases hr; exact absurd rfl hz
    rw [if_neg c2] at hr
    by_cases c3 : C i ≠ clo (S 0 (d - 1))
    · rw [if_pos c3] at hr; cases hr; exact absurd rfl hz
    rw [if_neg c3] at hr
    by_cases c4 : S 1 (d - 1) < 0
    · rw [if_pos c4] at hr
      cases hr
      exact KB_add h _ _ _ _ _ _ (fun w => by rw [w]; decide)
    rw [if_neg c4] at hr
    by_cases c5 : C (i + 1) = 42 ∨ C (i + 1) = 43 ∨ C (i + 1) = 63
    · rw [if_pos c5] at hr
      cases hr
      exact en _ _ _ _ (by omega) c4
    rw [if_neg c5] at hr
    by_cases c6 : 0 < C (i + 1) ∧ ¬ opn (C (i + 1)) ∧ ¬ cls (C (i + 1)) ∧ C (i + 1) ≠ 36
    · rw [if_pos c6] at hr
      by_cases c7 : C (i + 2) = 42 ∨ C (i + 2) = 43
      · rw [if_pos c7] at hr
        cases hr
        exact en _ _ _ _ (by omega) c4
      · rw [if_neg c7] at hr; cases hr; exact absurd rfl hz
    · rw [if_neg c6] at hr; cases hr; exact absurd rfl hz
  rw [if_neg c1] at hr
  by_cases c2 : C i = 36
  · rw [if_pos c2] at hr
    by_cases c3 : wd (C (i + 1))
    · rw [if_pos c3] at hr
      by_cases c4 : pat = true
      · rw [if_pos c4] at hr
        by_cases c5 : C (i + 2) ≠ 58
        · rw [if_pos c5] at hr; cases hr; exact absurd rfl hz
        rw [if_neg c5] at hr
        by_cases c6 : knd (C (i + 3))
        · rw [if_pos c6] at hr; cases hr; exact KB_add h _ _ _ _ _ _ (fun _ => by decide)
        · rw [if_neg c6] at hr; cases hr; exact absurd rfl hz
      · rw [if_neg c4] at hr; cases hr; exact KB_add h _ _ _ _ _ _ (fun _ => by decide)
    rw [if_neg c3] at hr
    by_cases c4 : C (i + 1) ≠ 40 ∨ 0 ≤ v ∨ (pat = true ∧ 4 ≤ q) ∨ 9 ≤ d
    · rw [if_pos c4] at hr; cases hr; exact absurd rfl hz
    rw [if_neg c4] at hr
    cases hr
    exact KB_add h _ _ _ _ _ _ (fun _ => by decide)
  rw [if_neg c2] at hr
  by_cases c3 : opn (C i)
  · rw [if_pos c3] at hr
    by_cases c4 : 9 ≤ d
    · rw [if_pos c4] at hr; cases hr; exact absurd rfl hz
    · rw [if_neg c4] at hr; cases hr; exact KB_add h _ _ _ _ _ _ (fun w => by rw [w]; decide)
  rw [if_neg c3] at hr
  cases hr
  exact KB_add h _ _ _ _ _ _ (fun _ => by decide)
theorem OR_row (pat : Bool) (C : Nat → Int) (i0 : Nat) : ∀ (f : Nat) (s : RS) (t : CS), XG pat C i0 s t → RI s → KB pat s.2.2.2.2.2.1 s.2.2.2.2.2.2.2 → (rrn pat C f s).1 = 2 →
    KB pat (rrn pat C f s).2.2.2.2.2.2.1 (rrn pat C f s).2.2.2.2.2.2.2.2 ∧ (pat = true → ordf (rrn pat C f s).2.2.2.2.2.2.2.2 ((rrn pat C f s).2.2.2.2.2.2.1 - 1) ≤ 4) := by
  intro f
  induction f with
  | zero => intro s t _ _ _ h2; cases h2
  | succ f ih =>
    intro s t hx hri hk h2
    rw [rrn] at h2 ⊢
    by_cases z : (rst pat C s).1 = 0
    · rw [if_pos z] at h2 ⊢
      obtain ⟨k, t', hk4, e1, e2, e3, e4⟩ := sim_go pat C i0 s t hx hri (rst pat C s).2 (by rw [← z])
      exact ih _ t' e3 (RI_st pat C s hri z) (KB_st pat C s hk hri (rst pat C s).2 0 (by decide) (by rw [← z])) h2
    · rw [if_neg z] at h2 ⊢
      refine ⟨KB_st pat C s hk hri (rst pat C s).2 2 (by decide) (by rw [← h2]), fun hp => ?_⟩
      obtain ⟨i, d, S, u, v, n, q, A⟩ := s
      obtain ⟨⟨x1, x2, x3, x4, x5, x6, x7, x8, x9, x10, xa, xs⟩, y1, y2⟩ := hx
      have hq := xa.2.2.2.1
      have hq2 := x3 hp
      dsimp only at hq hq2
      have hA : (rst pat C (i, d, S, u, v, n, q, A)).2.2.2.2.2.2.1 = n + 1 ∧ (rst pat C (i, d, S, u, v, n, q, A)).2.2.2.2.2.2.2.2 = r_add A n 6 0 0 u v i := by
        clear x1 x2 x3 x4 x5 x6 x7 x8 xa xs ih z hk hri
        revert h2
        unfold rst
        dsimp only
        repeat' split
        all_goals intro h2
        all_goals first | exact ⟨rfl, rfl⟩ | cases h2
      obtain ⟨h1, h2'⟩ := hA
      rw [h1, h2', Nat.add_sub_cancel, ordf_k (AK_add A n 6 0 0 u v i n) n (Nat.le_refl _), ← hq]
      omega
theorem OR_prw (pat : Bool) (C : Nat → Int) (i : Nat) (hi : 1 ≤ i) (h36 : C (i - 1) ≠ 36) (hc : C i = (if pat = true then 40 else 123)) (h2 : (prw pat C (i + 1)).1 = 2) : KB pat (prw pat C (i + 1)).2.2.2.2.2.2.1 (prw pat C (i + 1)).2.2.2.2.2.2.2.2 ∧ (pat = true → ordf (prw pat C (i + 1)).2.2.2.2.2.2.2.2 ((prw pat C (i + 1)).2.2.2.2.2.2.1 - 1) ≤ 4) := by
  have hx := XG_0 pat C i 0 0 (fun _ _ => 0) (fun j p => if j = 1 then C p else -1) 0 (fun _ => 0) hi h36 hc (fun p _ => if_pos rfl) (by decide) (fun _ => rfl)
  exact OR_row pat C i 130 (r0 (i + 1)) _ hx (RI_0 _) (fun _ e he => absurd he (by show ¬ e < 0; omega)) h2
/-- a row that has been read, whole: N elements, the last one's place z -/
def RX (pat : Bool) (C : Nat → Int) (Y A : Nat → Nat → Int) (N i0 z : Nat) : Prop :=
  NI (-1) (-1) (N + 1) A ∧ PL A N i0 z ∧ (∀ e : Nat, e < N → EK pat C Y A N e) ∧ A 0 N = 6 ∧ A 7 N = z ∧ C z = lb pat ∧ i0 < z ∧ z < 120 ∧ Y 2 i0 = z ∧ Y 2 z = i0 ∧ 1 ≤ i0 ∧ C (i0 - 1) ≠ 36 ∧ C i0 = (if pat = true then 40 else 123) ∧ KB pat N A ∧ (pat = true → ordf A N ≤ 4)
theorem RX_of {pat : Bool} {C : Nat → Int} {Y : Nat → Nat → Int} {i : Nat} (hz : ∀ p, 120 ≤ p → C p = 0) (hi : 1 ≤ i) (h36 : C (i - 1) ≠ 36) (hc : C i = (if pat = true then 40 else 123)) (h2 : (prw pat C (i + 1)).1 = 2) (h : RD pat C i (prw pat C (i + 1)).2 Y) : RX pat C Y (prw pat C (i + 1)).2.2.2.2.2.2.2.2 ((prw pat C (i + 1)).2.2.2.2.2.2.1 - 1) i ((prw pat C (i + 1)).2.1 - 1) := by
  obtain ⟨p1, p2, p3, p4, p5, p6, p7, p8, p9, p10, p11⟩ := h
  have hn := NI_prw pat C i hi h36 hc h2
  obtain ⟨o1, o2⟩ := OR_prw pat C i hi h36 hc h2
  rw [show (prw pat C (i + 1)).2.2.2.2.2.2.1 = (prw pat C (i + 1)).2.2.2.2.2.2.1 - 1 + 1 by omega] at hn
  refine ⟨hn, p8, p9, p10, p11, p3, p4, ?_, p5, p6, hi, h36, hc, fun hp e he => o1 hp e (by omega), o2⟩
  by_cases q : (prw pat C (i + 1)).2.1 - 1 < 120
  · exact q
  · have := hz _ (show 120 ≤ (prw pat C (i + 1)).2.1 - 1 by omega)
    rw [p3] at this
    cases pat <;> exact absurd this (by decide)
/-- an arm, whole -/
def RM (C : Nat → Int) (i : Nat) (Y : Nat → Nat → Int) : Prop :=
  RX true C Y (armP C i).2.2.2.2.2.2.2.2 ((armP C i).2.2.2.2.2.2.1 - 1) i ((armP C i).2.1 - 1) ∧ RX false C Y (armB C i).2.2.2.2.2.2.2.2 ((armB C i).2.2.2.2.2.2.1 - 1) (armP C i).2.1 ((armB C i).2.1 - 1) ∧ 1 ≤ (armP C i).2.1 ∧ 1 ≤ (armB C i).2.1 ∧ 1 ≤ (armP C i).2.2.2.2.2.2.1 ∧ 1 ≤ (armB C i).2.2.2.2.2.2.1
theorem RM_of {C : Nat → Int} {i : Nat} {Y : Nat → Nat → Int} (hz : ∀ p, 120 ≤ p → C p = 0) (h : RA C i Y) : RM C i Y := by
  obtain ⟨h1, h2, h3, h4, h5, h6, h7, h8⟩ := h
  have hb : C ((armP C i).2.1 - 1) ≠ 36 := by rw [h7.2.2.1]; decide
  exact ⟨RX_of hz h1 h2 (by rw [if_pos rfl]; exact h3) h4 h7, RX_of hz h7.1 hb (by rw [if_neg (by decide)]; exact h5) h6 h8, h7.1, h8.1, h7.2.1, h8.2.1⟩
