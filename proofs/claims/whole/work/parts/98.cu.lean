/-! DefinitionReader.read -/
def wr7 (b : Nat) : List (Nat × Nat) := (3, 1) :: wre b
theorem crn_le (C : Nat → Int) (hz : ∀ p, 120 ≤ p → C p = 0) : ∀ (f i : Nat) (s : CS), i ≤ 120 → (crn C f i s).2.1 ≤ 120 := by
  intro f
  induction f with
  | zero => intro i s hi; exact hi
  | succ f ih =>
    intro i s hi
    rw [crn]
    by_cases q : C i = 0
    · rw [if_pos q]
      split <;> exact hi
    · rw [if_neg q]
      have h120 : i ≠ 120 := fun e => q (hz i (by omega))
      split
      · exact hi
      · split
        · exact ih _ _ (by omega)
        · exact hi
theorem rd_127 (n : Nat) (hn : 10000 ≤ n) (T : Nat → Int) (L b : Nat) (hb : isD b) (m : ZM) (hcc : CC T L 0 m) (hq : q34 m) :
    ((dfn (tc T L)).1 = 1 ∧ ∃ m', zF127 n b m = some ((ts T L (dfn (tc T L)).2.1 : Int), m') ∧ q34 m' ∧ kp (wl (wr7 b)) m m') ∨
    ((dfn (tc T L)).1 = 2 ∧ ∃ (m' : ZM) (Y : Nat → Nat → Int), zF127 n b m = some (-1, m') ∧ q34 m' ∧ kp (wl (wr7 b)) m m' ∧ DM b (dfn (tc T L)).2.1 (dfn (tc T L)).2.2 (tc T L) Y (armst (tc T L)) m' ∧ 0 < (dfn (tc T L)).2.2 ∧ 1 ≤ (dfn (tc T L)).2.1 ∧ wd (tc T L 0) ∧ ∀ u : Nat, u < (dfn (tc T L)).2.2 → RM (tc T L) (armst (tc T L) u) Y ∧ (armB (tc T L) (armst (tc T L) u)).2.1 ≤ (dfn (tc T L)).2.1) := by
  have hge := isD_ge hb
  obtain ⟨hct, h2⟩ := hcc
  have hL := hct.1
  have hch := hct.2.1
  have hC : ∀ p, tc T L p = 0 ∨ tc T L p = -1 ∨ vt (tc T L p) := fun p => tc_vt T L p hch
  have hz : ∀ p, 120 ≤ p → tc T L p = 0 := fun p hp => tc_end T L p (by omega)
  obtain ⟨pat, hpat⟩ : ∃ pat : Bool, m.1 3 4 = pb pat := by
    rcases hq with e | e
    · exact ⟨false, e⟩
    · exact ⟨true, e⟩
  obtain ⟨m5, hm5, he5⟩ : ∃ m5 : ZM, m5 = z_i (z_i (z_i (z_i (z_i (z_r m 3 1 (some b)) b 6 0) b 7 0) 4 2 0) 3 2 0) 3 6 (-1) ∧ zF127 n b m = zL127_31 n b n 0 m5 := by
    refine ⟨_, rfl, ?_⟩
    unfold zF127 zlet
    have r1 : (z_r m 3 1 (some b)).2.1 3 1 = some b := by rw [z_r_rd]; exact if_pos ⟨rfl, rfl⟩
    dsimp only
    rw [r1]
    dsimp only
    rw [if_pos hb]
    rfl
  have g5 : kp (wl (wr7 b)) m m5 := by
    rw [hm5]
    exact kp_i (kp_i (kp_i (kp_i (kp_i (kp_r (kp_refl _ m) (by simp [wr7])) (by simp [wr7, wre, wrd])) (by simp [wr7, wre, wrd])) (by simp [wr7, wre, wrd])) (by simp [wr7, wre, wrd])) (by simp [wr7, wre, wrd])
  have k1 : ∀ k, m5.1 1 k = m.1 1 k := fun k => by
    rw [hm5, z_nc _ _ _ _ _ _ (by omega), z_nc _ _ _ _ _ _ (by omega), z_nc _ _ _ _ _ _ (by omega), z_nc _ _ _ _ _ _ (by omega), z_nc _ _ _ _ _ _ (by omega)]
    rfl
  have k2 : ∀ k, m5.1 2 k = m.1 2 k := fun k => by
    rw [hm5, z_nc _ _ _ _ _ _ (by omega), z_nc _ _ _ _ _ _ (by omega), z_nc _ _ _ _ _ _ (by omega), z_nc _ _ _ _ _ _ (by omega), z_nc _ _ _ _ _ _ (by omega)]
    rfl
  have k3 : ∀ k, k ≠ 2 → k ≠ 6 → m5.1 3 k = m.1 3 k := fun k q q' => by
    rw [hm5, z_nk _ _ _ _ _ _ (by omega), z_nk _ _ _ _ _ _ (by omega), z_nc _ _ _ _ _ _ (by omega), z_nc _ _ _ _ _ _ (by omega), z_nc _ _ _ _ _ _ (by omega)]
    rfl
  have c5 : CC T L 0 m5 := ⟨⟨hL, hch, by rw [k1]; exact hct.2.2.1, fun k hk => by rw [k2]; exact hct.2.2.2 k hk⟩, by rw [k1]; exact h2⟩
  have hq5 : q34 m5 := by unfold q34; rw [k3 4 (by omega) (by omega)]; exact hq
  have cq5 : CQ b 0 (0, pat, m.1 3 5, -1, m.1 3 7, 0, (fun _ _ => 0), (fun _ _ => 0), 0, (fun _ => 0)) m5 := by
    refine ⟨?_, ?_, ?_, k3 5 (by omega) (by omega), ?_, k3 7 (by omega) (by omega), ?_, fun k hk => absurd hk (Nat.not_lt_zero k), ?_, fun p hp => absurd hp (Nat.not_lt_zero p), ?_, fun k hk => absurd hk (Nat.not_lt_zero k)⟩
    · rw [hm5]
      show (z_r m 3 1 (some b)).2.1 3 1 = some b
      rw [z_r_rd]; exact if_pos ⟨rfl, rfl⟩
    · rw [hm5, z_nk _ _ _ _ _ _ (by omega), z_eq]
    · rw [k3 4 (by omega) (by omega)]; exact hpat
    · rw [hm5, z_eq]
    · rw [hm5, z_nc _ _ _ _ _ _ (by omega), z_nc _ _ _ _ _ _ (by omega), z_eq]; rfl
    · rw [hm5, z_nc _ _ _ _ _ _ (by omega), z_nc _ _ _ _ _ _ (by omega), z_nc _ _ _ _ _ _ (by omega), z_nk _ _ _ _ _ _ (by omega), z_eq]; rfl
    · rw [hm5, z_nc _ _ _ _ _ _ (by omega), z_nc _ _ _ _ _ _ (by omega), z_nc _ _ _ _ _ _ (by omega), z_eq]; rfl
  have ws5 : WS 0 (0, pat, m.1 3 5, -1, m.1 3 7, 0, (fun _ _ => 0), (fun _ _ => 0), 0, (fun _ => 0)) := by
    refine ⟨by show (0:Int) ≤ 0; omega, by show (0:Int) ≤ 9; omega, fun q => absurd q (by show ¬ (2:Int) ≤ 0; omega), by show (-1:Int) ≤ -1; omega, by show (-1:Int) < 0; omega, by show 0 ≤ 10; omega, fun k hk => absurd hk (Nat.not_lt_zero k), fun p hp => absurd hp (Nat.not_lt_zero p), by show 0 ≤ 3; omega, fun q => absurd q (by show ¬ (0:Int) = 1; omega), fun q => absurd q (by show ¬ (0:Int) = 5; omega), fun q => absurd q (by show ¬ ((0:Int) = 8 ∨ (0:Int) = 9); omega), fun _ => rfl⟩
  have wp5 : WP 0 (0, pat, m.1 3 5, -1, m.1 3 7, 0, (fun _ _ => 0), (fun _ _ => 0), 0, (fun _ => 0)) := fun p hp => absurd hp (Nat.not_lt_zero p)
  obtain ⟨m', e1, e2, e3⟩ := cl_run n (by omega) T L b hb n 0 _ m5 c5 cq5 ws5 (by omega) (by omega)
  have gk : kp (wl (wr7 b)) m m' := kp_tr g5 (kp_sub (fun p hp => List.mem_cons_of_mem _ hp) e2)
  have qm : q34 m' := o127l n 0 m5 e1 hq5
  replace e1 := he5.trans e1
  rcases def_c (tc T L) hC hz pat (m.1 3 5) (m.1 3 7) (fun _ _ => 0) (fun _ _ => 0) (fun _ => 0) with ⟨w, K, hK, hB⟩ | ⟨w, K, t', hK, hB, t1, t2, t3, t4, t5, t6⟩
  · refine Or.inl ⟨w, m', ?_, qm, gk⟩
    have hb2 := hB (n - K)
    rw [show n - K + K = n by omega] at hb2
    rw [e1, hb2.1, hb2.2, if_neg (by decide)]
  · have hb2 := hB (n - K)
    rw [show n - K + K = n by omega] at hb2
    rw [hb2, if_pos rfl] at e1
    rw [hb2] at e3
    have q := e3 rfl
    obtain ⟨v1, v2⟩ := WP_run (tc T L) n 0 _ ws5 wp5 (by rw [hb2])
    rw [hb2] at v1 v2
    obtain ⟨q1, q2, q3, q4, q5, q6, q7, q8, q9, q10, q11, q12⟩ := q
    refine Or.inr ⟨w, m', t'.2.2.2.2.2.2.2.1, e1, qm, gk, ?_, t2, t3, t4, fun u hu => ⟨RM_of hz (t6 u hu).2.1, (t6 u hu).2.2⟩⟩
    have hsz : (dfn (tc T L)).2.1 ≤ 120 := by
      have := crn_le (tc T L) hz n 0 (0, pat, m.1 3 5, -1, m.1 3 7, 0, (fun _ _ => 0), (fun _ _ => 0), 0, (fun _ => 0)) (by omega)
      rw [hb2] at this
      exact this
    refine ⟨hsz, q9, q10, t5, fun p hp => ?_, by rw [q11, ← t1], by rw [← t1]; exact v1.2.2.2.2.2.2.2.2.1, fun k hk => ⟨?_, ?_⟩⟩
    · have a1 := v1.2.2.2.2.2.2.2.1 p hp
      have a2 := v2 p hp
      exact ⟨a2.1, a2.2.1, a1.1, a1.2, a2.2.2.1, a2.2.2.2⟩
    · rw [q12 k (by show k < t'.2.2.2.2.2.2.2.2.1; omega)]
      exact (t6 k hk).1
    · have := (t6 k hk).2
      have r := RM_of hz this.1
      have r1 := r.1.2.2.2.2.2.2.1
      have r2 := r.2.1.2.2.2.2.2.2.1
      have := this.2
      omega
