/-! A definition: the class's automaton against the pure reading. -/
theorem c_3 (c : Int) (i : Nat) (pat : Bool) (rp inn cl : Int) (d : Nat) (S Y : Nat → Nat → Int) (a : Nat) (P : Nat → Int) : cst c i (3, pat, rp, inn, cl, d, S, Y, a, P) = if c = 59 ∧ a < 3 then some (1, pat, rp, inn, cl, d, S, c_app Y i c inn, a, P) else none := by
  unfold cst
  dsimp only
  rw [if_neg (by decide), if_neg (by decide), if_neg (by decide), if_pos rfl]
theorem c_0 (c : Int) (i : Nat) (pat : Bool) (rp inn cl : Int) (d : Nat) (S Y : Nat → Nat → Int) (a : Nat) (P : Nat → Int) : cst c i (0, pat, rp, inn, cl, d, S, Y, a, P) = if wd c then some (1, pat, rp, inn, cl, d, S, c_app Y i c inn, a, P) else none := by
  unfold cst
  dsimp only
  rw [if_pos rfl]
/-- a row that has been read, in the class's arrays -/
def RD (pat : Bool) (C : Nat → Int) (i0 : Nat) (s : RS) (Y : Nat → Nat → Int) : Prop :=
  1 ≤ s.1 ∧ 1 ≤ s.2.2.2.2.2.1 ∧ C (s.1 - 1) = lb pat ∧ i0 < s.1 - 1 ∧
  Y 2 i0 = ((s.1 - 1 : Nat) : Int) ∧ Y 2 (s.1 - 1) = i0 ∧ (∀ p : Nat, p < s.1 → Y 1 p = C p) ∧
  PL s.2.2.2.2.2.2.2 (s.2.2.2.2.2.1 - 1) i0 ((s.1 - 1 : Nat) : Int) ∧ (∀ e : Nat, e < s.2.2.2.2.2.1 - 1 → EK pat C Y s.2.2.2.2.2.2.2 (s.2.2.2.2.2.1 - 1) e) ∧ s.2.2.2.2.2.2.2 0 (s.2.2.2.2.2.1 - 1) = 6 ∧ s.2.2.2.2.2.2.2 7 (s.2.2.2.2.2.1 - 1) = ((s.1 - 1 : Nat) : Int)
theorem RD_of {pat : Bool} {C : Nat → Int} {i0 : Nat} {s : RS} {t : CS} {Y : Nat → Nat → Int} (h : XD pat C i0 s t) (hY : ∀ j p : Nat, p < s.1 → Y j p = t.2.2.2.2.2.2.2.1 j p) : RD pat C i0 s Y := by
  obtain ⟨p1, p2, p3, p4, p5, p6, p7, p8, p9, p10, p11, p12, p13, p14, p15⟩ := h
  refine ⟨p5, p6, p7, p8, by rw [hY 2 i0 (by omega)]; exact p9, by rw [hY 2 (s.1 - 1) (by omega)]; exact p10, fun p hp => by rw [hY 1 p hp]; exact p11 p hp, p12, ?_, p14, p15⟩
  intro e he
  refine EK_k p12 (by omega) (p13 e he) he (Nat.le_refl _) (i := s.1 - 1) ?_ ⟨fun _ _ _ _ => rfl, fun _ _ _ _ => rfl⟩ (Or.inr (Nat.le_refl _)) (by omega)
  intro p hp
  rw [hY 3 p (by omega), hY 5 p (by omega), hY 1 p (by omega), hY 2 p (by omega), hY 4 p (by omega)]
  exact ⟨rfl, rfl, rfl, fun _ => rfl, fun _ => rfl⟩
/-- an arm that begins at token i, in the class's arrays -/
def RA (C : Nat → Int) (i : Nat) (Y : Nat → Nat → Int) : Prop :=
  1 ≤ i ∧ C (i - 1) ≠ 36 ∧ C i = 40 ∧ (armP C i).1 = 2 ∧ C (armP C i).2.1 = 123 ∧ (armB C i).1 = 2 ∧ RD true C i (armP C i).2 Y ∧ RD false C (armP C i).2.1 (armB C i).2 Y
theorem armr_2 (C : Nat → Int) (i : Nat) (h : (armr C i).1 = 2) (hB : (armP C i).1 = 1 ∨ (armP C i).1 = 2) (hB2 : (armB C i).1 = 1 ∨ (armB C i).1 = 2) : C i = 40 ∧ (armP C i).1 = 2 ∧ C (armP C i).2.1 = 123 ∧ (armB C i).1 = 2 := by
  unfold armr at h
  by_cases c1 : C i ≠ 40
  · rw [if_pos c1] at h; cases h
  rw [if_neg c1] at h
  by_cases c2 : (armP C i).1 = 1
  · rw [if_pos c2] at h; cases h
  rw [if_neg c2] at h
  by_cases c3 : C (armP C i).2.1 ≠ 123
  · rw [if_pos c3] at h; cases h
  rw [if_neg c3] at h
  by_cases c4 : (armB C i).1 = 1
  · rw [if_pos c4] at h; cases h
  exact ⟨by simpa using c1, by omega, by simpa using c3, by omega⟩
theorem rst_012 (pat : Bool) (C : Nat → Int) (s : RS) : (rst pat C s).1 = 0 ∨ (rst pat C s).1 = 1 ∨ (rst pat C s).1 = 2 := by
  obtain ⟨i, d, S, u, v, n, q, A⟩ := s
  unfold rst
  dsimp only
  repeat' split
  all_goals simp
theorem rrn_12 (pat : Bool) (C : Nat → Int) : ∀ (f : Nat) (s : RS), (rrn pat C f s).1 = 1 ∨ (rrn pat C f s).1 = 2 := by
  intro f
  induction f with
  | zero => intro s; exact Or.inl rfl
  | succ f ih =>
    intro s
    rw [rrn]
    by_cases z : (rst pat C s).1 = 0
    · rw [if_pos z]; exact ih _
    · rw [if_neg z]
      rcases rst_012 pat C s with w | w | w
      · exact absurd w z
      · exact Or.inl w
      · exact Or.inr w
theorem df_c (C : Nat → Int) (hC : ∀ p, C p = 0 ∨ C p = -1 ∨ vt (C p)) (hz : ∀ p, 120 ≤ p → C p = 0) : ∀ (f a : Nat) (t : CS), a + f = 3 → 1 ≤ f → AT C (armst C a) t → t.2.2.2.2.2.2.2.2.1 = a →
    ((dfs C f a).1 = 1 ∧ ∃ K, K ≤ 2001 * f ∧ BDr C (armst C a) t (dfs C f a).2.1 K) ∨
    ((dfs C f a).1 = 2 ∧ ∃ (K : Nat) (t' : CS), K ≤ 2001 * f ∧ (∀ g, crn C (g + K) (armst C a) t = (2, (dfs C f a).2.1, t')) ∧ t'.2.2.2.2.2.2.2.2.1 = (dfs C f a).2.2 ∧ a < (dfs C f a).2.2 ∧ (∀ u : Nat, u < a → t'.2.2.2.2.2.2.2.2.2 u = t.2.2.2.2.2.2.2.2.2 u) ∧ (armst C a ≤ (dfs C f a).2.1) ∧ (∀ p : Nat, p < (dfs C f a).2.1 → t'.2.2.2.2.2.2.2.1 1 p = C p) ∧
      ∀ u : Nat, a ≤ u → u < (dfs C f a).2.2 → t'.2.2.2.2.2.2.2.2.2 u = armst C u ∧ RA C (armst C u) t'.2.2.2.2.2.2.2.1 ∧ (armB C (armst C u)).2.1 ≤ (dfs C f a).2.1) := by
  intro f
  induction f with
  | zero => intro a t _ h1; exact absurd h1 (by omega)
  | succ f ih =>
    intro a t haf h1 hat hta
    rw [dfs]
    have hp12 := rrn_12 true C 130 (r0 (armst C a + 1))
    have hb12 := rrn_12 false C 130 (r0 ((armP C (armst C a)).2.1 + 1))
    rcases arm_c C hC hz (armst C a) t hat with ⟨w, K, k1, k2⟩ | ⟨w, k, kP, tP, t1, e1, e2, e3, e4, e5, e6, e7, e8⟩
    · rw [if_pos w]
      exact Or.inl ⟨rfl, K, by omega, k2⟩
    · rw [if_neg (show ¬ (armr C (armst C a)).1 = 1 by omega)]
      obtain ⟨a1, a2, a3, a4⟩ := armr_2 C (armst C a) w hp12 hb12
      obtain ⟨h1', h2', h3', h4', h5', h6', h7'⟩ := hat
      obtain ⟨p1, p2, p3, p4, p5, p6, p7, p8, p9, p10, p11, p12⟩ := id e5
      obtain ⟨q1, q2, q3, q4, q5, q6, q7, q8, q9, q10, q11, q12⟩ := id e6
      rw [if_neg (by decide)] at q1
      rw [if_pos rfl] at p1
      have hle : armst C a < (armr C (armst C a)).2 := by rw [e7]; omega
      have hB1 : (armB C (armst C a)).2.1 = (armr C (armst C a)).2 := e7.symm
      obtain ⟨ph, pat, rp, inn, cl, d, S, Y, a', P'⟩ := t1
      dsimp only at q1 q2 q3 q4 q11 e8 q9 q10
      subst q1 q2 q3 q4
      obtain ⟨e8a, e8b⟩ := Prod.mk.inj e8
      rw [hta] at e8a e8b
      have hP : P' a = (armst C a : Int) ∧ ∀ u : Nat, u < a → P' u = t.2.2.2.2.2.2.2.2.2 u := by
        rw [e8b]
        exact ⟨if_pos rfl, fun u hu => if_neg (by omega)⟩
      -- what a later run leaves of this arm
      have keep : ∀ (K : Nat) (t' : CS) (j0 : Nat), k ≤ K → (∀ g, crn C (g + K) (armst C a) t = (2, j0, t')) → RA C (armst C a) t'.2.2.2.2.2.2.2.1 := by
        intro K t' j0 hK hrun
        refine ⟨h4', h5', a1, a2, a3, a4, RD_of e5 ?_, RD_of e6 ?_⟩
        · have hr := hrun 0
          rw [show 0 + K = (K - kP) + kP by omega, e4] at hr
          have := YB_run C (armP C (armst C a)).2.1 (K - kP) (armP C (armst C a)).2.1 tP ⟨Nat.le_refl _, fun z => by omega, fun k hk => by omega, fun z => absurd (show 0 ≤ tP.1 ∧ tP.1 ≤ 7 by omega) z, fun z => by omega⟩ (by rw [hr])
          rw [hr] at this
          exact this
        · have hr := hrun 0
          rw [show 0 + K = (K - k) + k by omega, e3] at hr
          have := YB_run C (armr C (armst C a)).2 (K - k) (armr C (armst C a)).2 (3, false, rp, -1, cl, 0, S, Y, a', P') ⟨Nat.le_refl _, fun z => absurd (show 0 < 0 from z) (by decide), fun k hk => absurd hk (by show ¬ k < 0; omega), fun z => absurd (by decide : (0 : Int) ≤ 3 ∧ (3 : Int) ≤ 7) z, fun z => absurd (show (3 : Int) = 5 from z) (by decide)⟩ (by rw [hr])
          rw [hr] at this
          rw [hB1]
          exact this
      by_cases c1 : C (armr C (armst C a)).2 = 59 ∧ a + 1 < 3
      · rw [if_pos c1]
        have hc3 := c_3 (C (armr C (armst C a)).2) (armr C (armst C a)).2 false rp (-1) cl 0 S Y a' P'
        rw [if_pos ⟨c1.1, by omega⟩] at hc3
        have hg : ∀ g, crn C (g + (k + 1)) (armst C a) t = crn C g (armst C (a + 1)) (1, false, rp, -1, cl, 0, S, c_app Y (armr C (armst C a)).2 (C (armr C (armst C a)).2) (-1), a', P') := by
          intro g
          rw [show g + (k + 1) = (g + 1) + k by omega, e3]
          exact crn_go g (by omega) hc3
        have hat2 : AT C (armst C (a + 1)) (1, false, rp, -1, cl, 0, S, c_app Y (armr C (armst C a)).2 (C (armr C (armst C a)).2) (-1), a', P') := by
          refine ⟨rfl, rfl, rfl, by rw [armst]; omega, by rw [armst, Nat.add_sub_cancel, c1.1]; decide, ?_, by show a' < 3; omega⟩
          intro p hp
          rw [armst] at hp
          show c_app Y (armr C (armst C a)).2 (C (armr C (armst C a)).2) (-1) 1 p = C p
          by_cases z : p = (armr C (armst C a)).2
          · rw [z]
            exact (app_at _ _ _ _).1
          · rw [app_lt _ _ _ _ _ _ z]
            exact q11 p (by rw [hB1]; omega)
        rcases ih (a + 1) _ (by omega) (by omega) hat2 (by show a' = a + 1; omega) with ⟨w2, K, k1, k2⟩ | ⟨w2, K, t', k1, k2, k3, k4, k5, k6, k7, k8⟩
        · exact Or.inl ⟨w2, K + (k + 1), by omega, BDr_tr hg k2⟩
        · have hrun : ∀ g, crn C (g + (K + (k + 1))) (armst C a) t = (2, (dfs C f (a + 1)).2.1, t') := by
            intro g
            rw [show g + (K + (k + 1)) = (g + K) + (k + 1) by omega, hg]
            exact k2 g
          refine Or.inr ⟨w2, K + (k + 1), t', by omega, hrun, k3, by omega, ?_, by rw [armst] at k6; omega, k7, ?_⟩
          · intro u hu
            rw [k5 u (by omega)]
            exact hP.2 u hu
          · intro u hu1 hu2
            by_cases z : u = a
            · subst z
              refine ⟨?_, keep _ _ _ (by omega) hrun, by rw [hB1]; rw [armst] at k6; omega⟩
              rw [k5 u (by omega)]
              exact hP.1
            · exact k8 u (by omega) hu2
      · rw [if_neg c1]
        by_cases c2 : C (armr C (armst C a)).2 = 0
        · rw [if_pos c2]
          have hrun : ∀ g, crn C (g + (1 + k)) (armst C a) t = (2, (armr C (armst C a)).2, (3, false, rp, -1, cl, 0, S, Y, a', P')) := by
            intro g
            rw [show g + (1 + k) = (g + 1) + k by omega, e3, crn, if_pos c2]
            exact if_pos rfl
          refine Or.inr ⟨rfl, 1 + k, (3, false, rp, -1, cl, 0, S, Y, a', P'), by omega, hrun, by show a' = a + 1; omega, by show a < a + 1; omega, fun u hu => hP.2 u hu, by show armst C a ≤ (armr C (armst C a)).2; omega, ?_, ?_⟩
          · intro p hp
            exact q11 p (by rw [hB1]; exact hp)
          · intro u hu1 hu2
            have : u = a := by
              have : u < a + 1 := hu2
              omega
            subst this
            exact ⟨hP.1, keep _ _ _ (by omega) hrun, by rw [hB1]; exact Nat.le_refl _⟩
        · rw [if_neg c2]
          refine Or.inl ⟨rfl, 1 + k, by omega, BDr_tr e3 ?_⟩
          intro g
          rw [crn, if_neg c2]
          by_cases c3 : C (armr C (armst C a)).2 < 0
          · rw [if_pos c3]; exact ⟨rfl, rfl⟩
          · rw [if_neg c3, c_3, if_neg (fun z => c1 ⟨z.1, by omega⟩)]; exact ⟨rfl, rfl⟩
/-- the class reads a definition as the pure reading does -/
theorem def_c (C : Nat → Int) (hC : ∀ p, C p = 0 ∨ C p = -1 ∨ vt (C p)) (hz : ∀ p, 120 ≤ p → C p = 0) (pat : Bool) (rp cl : Int) (S Y : Nat → Nat → Int) (P : Nat → Int) :
    ((dfn C).1 = 1 ∧ ∃ K, K ≤ 7000 ∧ BDr C 0 (0, pat, rp, -1, cl, 0, S, Y, 0, P) (dfn C).2.1 K) ∨
    ((dfn C).1 = 2 ∧ ∃ (K : Nat) (t' : CS), K ≤ 7000 ∧ (∀ g, crn C (g + K) 0 (0, pat, rp, -1, cl, 0, S, Y, 0, P) = (2, (dfn C).2.1, t')) ∧ t'.2.2.2.2.2.2.2.2.1 = (dfn C).2.2 ∧ 0 < (dfn C).2.2 ∧ 1 ≤ (dfn C).2.1 ∧ wd (C 0) ∧ (∀ p : Nat, p < (dfn C).2.1 → t'.2.2.2.2.2.2.2.1 1 p = C p) ∧
      ∀ u : Nat, u < (dfn C).2.2 → t'.2.2.2.2.2.2.2.2.2 u = armst C u ∧ RA C (armst C u) t'.2.2.2.2.2.2.2.1 ∧ (armB C (armst C u)).2.1 ≤ (dfn C).2.1) := by
  unfold dfn
  have hc0 := c_0 (C 0) 0 pat rp (-1) cl 0 S Y 0 P
  by_cases w : wd (C 0)
  · rw [if_pos w] at hc0 ⊢
    have hw : 1000 < C 0 := w
    have hg : ∀ g, crn C (g + 1) 0 (0, pat, rp, -1, cl, 0, S, Y, 0, P) = crn C g (armst C 0) (1, pat, rp, -1, cl, 0, S, c_app Y 0 (C 0) (-1), 0, P) := fun g => crn_go g (by omega) hc0
    have hat : AT C (armst C 0) (1, pat, rp, -1, cl, 0, S, c_app Y 0 (C 0) (-1), 0, P) := by
      refine ⟨rfl, rfl, rfl, by show 1 ≤ 1; omega, by show C 0 ≠ 36; omega, ?_, by show 0 < 3; omega⟩
      intro p hp
      have : p = 0 := by
        have : p < 1 := hp
        omega
      subst this
      exact (app_at Y 0 (C 0) (-1)).1
    rcases df_c C hC hz 3 0 _ rfl (by omega) hat rfl with ⟨w2, K, k1, k2⟩ | ⟨w2, K, t', k1, k2, k3, k4, k5, k6, k7, k8⟩
    · exact Or.inl ⟨w2, K + 1, by omega, BDr_tr hg k2⟩
    · refine Or.inr ⟨w2, K + 1, t', by omega, fun g => ?_, k3, k4, k6, w, k7, fun u hu => k8 u (by omega) hu⟩
      rw [show g + (K + 1) = (g + K) + 1 by omega, hg]
      exact k2 g
  · rw [if_neg w] at hc0 ⊢
    refine Or.inl ⟨rfl, 1, by omega, fun g => ?_⟩
    rw [crn]
    by_cases c1 : C 0 = 0
    · rw [if_pos c1]; rw [if_neg (show ¬ (0 : Int) = 3 by decide)]; exact ⟨rfl, rfl⟩
    · rw [if_neg c1]
      by_cases c2 : C 0 < 0
      · rw [if_pos c2]; exact ⟨rfl, rfl⟩
      · rw [if_neg c2, hc0]; exact ⟨rfl, rfl⟩
