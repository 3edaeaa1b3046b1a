/-! What lies behind is not touched; where rows begin. -/
def LBd (B i : Nat) (t : CS) : Prop := B ≤ i ∧ (0 < t.2.2.2.2.2.1 → B < i) ∧ (∀ k : Nat, k < t.2.2.2.2.2.1 → (B : Int) ≤ t.2.2.2.2.2.2.1 0 k ∧ (0 < k → (B : Int) < t.2.2.2.2.2.2.1 0 k)) ∧ (¬ (0 ≤ t.1 ∧ t.1 ≤ 7) → (B : Int) ≤ t.2.2.2.2.1) ∧ (t.1 = 5 → B < i)
theorem YB_st (B : Nat) (c : Int) (i : Nat) (t t' : CS) (h : LBd B i t) (e : cst c i t = some t') : LBd B (i + 1) t' ∧ ∀ j p : Nat, p < B → t'.2.2.2.2.2.2.2.1 j p = t.2.2.2.2.2.2.2.1 j p := by
  obtain ⟨ph, pat, rp, inn, cl, d, S, Y, a, P⟩ := t
  obtain ⟨h1, h2, h3, h4, h5⟩ := h
  dsimp only at h1 h2 h3 h4 h5
  have ya : ∀ j p : Nat, p < B → c_app Y i c inn j p = Y j p := fun j p hp => app_lt _ _ _ _ _ _ (by omega)
  have ys : ∀ (j0 p0 : Nat) (x : Int) (Z : Nat → Nat → Int), B ≤ p0 → (∀ j p : Nat, p < B → Z j p = Y j p) → ∀ j p : Nat, p < B → r_set Z j0 p0 x j p = Y j p := by
    intro j0 p0 x Z hp0 hZ j p hp
    unfold r_set
    rw [if_neg (fun z => by omega)]
    exact hZ j p hp
  have hps : ∀ k : Nat, k < d + 1 → (B : Int) ≤ c_psh S d i c 0 k ∧ (0 < k → (B : Int) < c_psh S d i c 0 k) := by
    intro k hk
    unfold c_psh
    by_cases q : k = d
    · rw [if_pos q]
      simp
      exact ⟨h1, fun w => h2 (by omega)⟩
    · rw [if_neg q]
      exact h3 k (by omega)
  have mk : ∀ (ph' : Int) (pat' : Bool) (rp' inn' cl' : Int) (d' : Nat) (S' Y' : Nat → Nat → Int) (a' : Nat) (P' : Nat → Int), (0 < d' → B < i + 1) → (∀ k : Nat, k < d' → (B : Int) ≤ S' 0 k ∧ (0 < k → (B : Int) < S' 0 k)) → (¬ (0 ≤ ph' ∧ ph' ≤ 7) → (B : Int) ≤ cl') → (∀ j p : Nat, p < B → Y' j p = Y j p) → LBd B (i + 1) (ph', pat', rp', inn', cl', d', S', Y', a', P') ∧ ∀ j p : Nat, p < B → Y' j p = Y j p := by
    intro ph' pat' rp' inn' cl' d' S' Y' a' P' k1 k2 k3 k4
    exact ⟨⟨by omega, k1, k2, k3, fun _ => by omega⟩, k4⟩
  unfold cst at e
  dsimp only at e
  by_cases c0 : ph = 0
  · rw [if_pos c0] at e
    split at e
    · cases e; exact mk _ _ _ _ _ _ _ _ _ _ (fun _ => by omega) h3 (by omega) ya
    · cases e
  rw [if_neg c0] at e
  by_cases c1 : ph = 1
  · rw [if_pos c1] at e
    split at e
    · cases e; exact mk _ _ _ _ _ _ _ _ _ _ (fun _ => by omega) hps (by omega) ya
    · cases e
  rw [if_neg c1] at e
  by_cases c2 : ph = 2
  · rw [if_pos c2] at e
    split at e
    · cases e; exact mk _ _ _ _ _ _ _ _ _ _ (fun _ => by omega) hps (by omega) ya
    · cases e
  rw [if_neg c2] at e
  by_cases c3 : ph = 3
  · rw [if_pos c3] at e
    split at e
    · cases e; exact mk _ _ _ _ _ _ _ _ _ _ (fun _ => by omega) h3 (by omega) ya
    · cases e
  rw [if_neg c3] at e
  by_cases c4 : ph = 4
  · rw [if_pos c4] at e
    by_cases q1 : c = 36
    · rw [if_pos q1] at e
      cases e; exact mk _ _ _ _ _ _ _ _ _ _ (fun _ => by omega) h3 (by omega) ya
    rw [if_neg q1] at e
    by_cases q2 : opn c
    · rw [if_pos q2] at e
      split at e
      · cases e; exact mk _ _ _ _ _ _ _ _ _ _ (fun _ => by omega) hps (by omega) ya
      · cases e
    rw [if_neg q2] at e
    by_cases q3 : cls c
    · rw [if_pos q3] at e
      by_cases q4 : d = 0
      · rw [if_pos q4] at e; cases e
      rw [if_neg q4] at e
      by_cases q5 : S 1 (d - 1) = c
      · rw [if_pos q5] at e
        have hs0 := h3 (d - 1) (by omega)
        have hY2 := ys 2 i (S 0 (d - 1)) _ h1 (ys 2 (S 0 (d - 1)).toNat i _ (by omega) ya)
        have hp2 : r_set (r_set (c_app Y i c inn) 2 (S 0 (d - 1)).toNat i) 2 i (S 0 (d - 1)) 2 i = S 0 (d - 1) := by simp [r_set]
        generalize r_set (r_set (c_app Y i c inn) 2 (S 0 (d - 1)).toNat i) 2 i (S 0 (d - 1)) = Y2 at e hY2 hp2
        have hS' : ∀ k : Nat, k < d - 1 → (B : Int) ≤ S 0 k ∧ (0 < k → (B : Int) < S 0 k) := fun k hk => h3 k (by omega)
        by_cases q6 : d = 1
        · rw [if_pos q6] at e
          cases e
          exact mk _ _ _ _ _ _ _ _ _ _ (fun _ => by omega) hS' (by split <;> omega) hY2
        rw [if_neg q6] at e
        by_cases q7 : c_rpe Y2 i = -1
        · rw [if_pos q7] at e
          cases e
          exact mk _ _ _ _ _ _ _ _ _ _ (fun _ => by omega) hS' (by omega) hY2
        · rw [if_neg q7] at e
          have hcl : (B : Int) ≤ c_rpe Y2 i := by
            unfold c_rpe at q7 ⊢
            split at q7
            · rename_i z
              rw [if_pos z]
              rw [hp2] at z ⊢
              have := hs0.2 (by omega)
              omega
            · exact absurd rfl q7
          cases e
          exact mk _ _ _ _ _ _ _ _ _ _ (fun _ => by omega) hS' (fun _ => hcl) hY2
      · rw [if_neg q5] at e; cases e
    rw [if_neg q3] at e
    cases e
    exact mk _ _ _ _ _ _ _ _ _ _ (fun _ => by omega) h3 (by omega) ya
  rw [if_neg c4] at e
  by_cases c5 : ph = 5
  · rw [if_pos c5] at e
    have hi5 := h5 c5
    split at e
    · cases e; exact mk _ _ _ _ _ _ _ _ _ _ (fun _ => by omega) h3 (by split <;> omega) ya
    · split at e
      · split at e
        · split at e
          · cases e; exact mk _ _ _ _ _ _ _ _ _ _ (fun _ => by omega) hps (by omega) (ys 5 (i - 1) rp _ (by omega) ya)
          · cases e
        · cases e; exact mk _ _ _ _ _ _ _ _ _ _ (fun _ => by omega) hps (by omega) ya
      · cases e
  rw [if_neg c5] at e
  by_cases c6 : ph = 6
  · rw [if_pos c6] at e
    split at e
    · cases e; exact mk _ _ _ _ _ _ _ _ _ _ (fun _ => by omega) h3 (by omega) ya
    · cases e
  rw [if_neg c6] at e
  by_cases c7 : ph = 7
  · rw [if_pos c7] at e
    split at e
    · cases e; exact mk _ _ _ _ _ _ _ _ _ _ (fun _ => by omega) h3 (by omega) ya
    · cases e
  rw [if_neg c7] at e
  have hcl := h4 (by omega)
  by_cases c8 : ph = 8
  · rw [if_pos c8] at e
    split at e
    · cases e; exact mk _ _ _ _ _ _ _ _ _ _ (fun _ => by omega) h3 (by omega) (ys 4 cl.toNat i _ (by omega) ya)
    · split at e
      · cases e; exact mk _ _ _ _ _ _ _ _ _ _ (fun _ => by omega) h3 (fun _ => hcl) ya
      · cases e
  rw [if_neg c8] at e
  split at e
  · cases e; exact mk _ _ _ _ _ _ _ _ _ _ (fun _ => by omega) h3 (by omega) (ys 4 cl.toNat i _ (by omega) ya)
  · cases e
/-- the arrays at the end of a run are, below B, what they were -/
theorem YB_run (C : Nat → Int) (B : Nat) : ∀ (f i : Nat) (t : CS), LBd B i t → (crn C f i t).1 = 2 → ∀ j p : Nat, p < B → (crn C f i t).2.2.2.2.2.2.2.2.2.1 j p = t.2.2.2.2.2.2.2.1 j p := by
  intro f
  induction f with
  | zero => intro i t _ h; cases h
  | succ f ih =>
    intro i t hl h j p hp
    rw [crn] at h ⊢
    by_cases c0 : C i = 0
    · rw [if_pos c0] at h ⊢
      by_cases c1 : t.1 = 3
      · rw [if_pos c1]
      · rw [if_neg c1] at h; cases h
    · rw [if_neg c0] at h ⊢
      by_cases c1 : C i < 0
      · rw [if_pos c1] at h; cases h
      · rw [if_neg c1] at h ⊢
        cases hs : cst (C i) i t with
        | none => simp [hs] at h
        | some t' =>
          rw [hs] at h
          obtain ⟨a1, a2⟩ := YB_st B (C i) i t t' hl hs
          have := ih (i + 1) t' a1 h j p hp
          show (crn C f (i + 1) t').2.2.2.2.2.2.2.2.2.1 j p = _
          rw [this, a2 j p hp]
/-- a row begins -/
theorem XG_0 (pat : Bool) (C : Nat → Int) (i : Nat) (rp cl : Int) (St Y : Nat → Nat → Int) (a : Nat) (P : Nat → Int) (hi : 1 ≤ i) (h36 : C (i - 1) ≠ 36) (hc : C i = (if pat = true then 40 else 123)) (hY : ∀ p : Nat, p < i → Y 1 p = C p) (hr : 0 ≤ rp ∧ rp ≤ 4) (hrp : pat = true → rp = 0) : XG pat C i (r0 (i + 1)) (4, pat, rp, -1, cl, 0 + 1, c_psh St 0 i (C i), c_app Y i (C i) (-1), a, P) := by
  have h36i : C i ≠ 36 := by rw [hc]; split <;> omega
  refine ⟨⟨rfl, rfl, hrp, rfl, rfl, ?_, ?_, fun k hk => absurd hk (by show ¬ k < 0; omega), hi, h36, ?_, ?_⟩, hr⟩
  · show c_psh St 0 i (C i) 0 0 = i
    simp [c_psh]
  · show c_psh St 0 i (C i) 1 0 = lb pat
    rw [hc]
    cases pat <;> simp [c_psh, lb, clo]
  · refine ⟨⟨fun _ => by show ((i + 1 : Nat) : Int) = (i : Int) + 1; omega, fun z => absurd z (by show ¬ 0 < 0; omega), fun e he => absurd he (by show ¬ e + 1 < 0; omega)⟩, fun e he => absurd he (by show ¬ e < 0; omega), ?_, rfl, by show 1 ≤ i + 1; omega, by show C (i + 1 - 1) ≠ 36; rw [show i + 1 - 1 = i by omega]; exact h36i⟩
    intro p hp
    show c_app Y i (C i) (-1) 1 p = C p
    have hp' : p < i + 1 := hp
    by_cases z : p = i
    · subst z; exact (app_at _ _ _ _).1
    · rw [app_lt _ _ _ _ _ _ z]; exact hY p (by omega)
  · refine ⟨(app_at _ _ _ _).2.1, by show i < i + 1; omega, fun k hk => absurd hk (by show ¬ k < 0; omega), fun k k' _ hk => absurd hk (by show ¬ k' < 0; omega), rfl, fun k hk => absurd hk (by show ¬ k < 0; omega), by show (-1 : Int) ≤ -1; omega, by show (-1 : Int) < ((0 : Nat) : Int); omega, by show (-1 : Int) ≤ -1; omega, by show (-1 : Int) < ((0 : Nat) : Int); omega, fun z => absurd z (by show ¬ (0 : Int) ≤ -1; omega), fun z => absurd z (by show ¬ (0 : Int) ≤ -1; omega)⟩
