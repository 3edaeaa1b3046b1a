/-! The reference reads a text. -/
theorem srt_c (c : Int) (h : c = 0 ∨ c = -1 ∨ vt c) : (srt c = 6 ↔ c = 0) ∧ (srt c = 0 ↔ c = -1) ∧ (srt c = 4 ↔ opn c) ∧ (srt c = 5 ↔ cls c) ∧ (srt c = 1 ↔ wd c) ∧ (srt c = 2 ↔ nmb c) ∧ (srt c = 3 ↔ (0 < c ∧ c < 300 ∧ ¬ opn c ∧ ¬ cls c)) := by
  unfold srt
  repeat' split
  all_goals omega
def rtq (T : Nat → Int) (L : Nat) (m m' : ZM) (b : Bool × Nat) (v : Int) : Prop := v = (if b.1 = true then 1 else 0) ∧ kp (wl w78) m m' ∧
  (b.1 = true → m'.1 83 34 = b.2 ∧ b.2 ≤ 120 ∧ (∀ j : Nat, j < b.2 → m'.1 105 j = tc T L j ∧ m'.1 106 j = 0 ∧ 0 < tc T L j)) ∧ (b.1 = false → m'.1 83 8 = ts T L b.2)
theorem rt_m (n : Nat) (hn : 200 ≤ n) (T : Nat → Int) (L : Nat) : ∀ (k i d : Nat) (s : Nat → Int) (m : ZM), CU T L i m → d ≤ 10 → (∀ j : Nat, j < d → clo (m.1 103 j) = s j) → m.1 83 34 = i → (∀ j : Nat, j < i → m.1 105 j = tc T L j ∧ m.1 106 j = 0 ∧ 0 < tc T L j) → i ≤ 120 → 121 - i ≤ k →
    ∃ v m', zL78_7 n k d m = some (v, m') ∧ rtq T L m m' (bal (tc T L) k i d s) v := by
  intro k
  induction k with
  | zero => intro i d s m _ _ _ _ _ _ hk; exact absurd hk (by omega)
  | succ k ih =>
    intro i d s m hcu hd10 hst hsz hrw hi hk
    have hv := tc_vt T L i hcu.1.2.1
    have hs := srt_c (tc T L i) hv
    have fail : ∀ m2 : ZM, kp (wl w78) m m2 → m2.1 83 6 = ts T L i → kp (wl w78) m (z_i m2 83 8 (m2.1 83 6)) ∧ (z_i m2 83 8 (m2.1 83 6)).1 83 8 = ts T L i := by
      intro m2 g2 h6
      exact ⟨kp_i g2 (by simp [w78]), by rw [z_eq, h6]⟩
    have wr : ∃ v m', zJ78_72 n m = some (v, m') ∧ rtq T L m m' (false, i) v := by
      unfold zJ78_72
      rw [zF29_eq]
      dsimp only
      rw [if_pos (by decide)]
      exact ⟨_, _, rfl, rfl, (fail m (kp_refl _ m) hcu.2.2.2.1).1, (fun z => by cases z), fun _ => (fail m (kp_refl _ m) hcu.2.2.2.1).2⟩
    have wr2 : ∃ v m', zJ78_37 n m = some (v, m') ∧ rtq T L m m' (false, i) v := wr
    rw [zL78_7, hcu.2.1, bal]
    by_cases q0 : tc T L i = 0
    · rw [if_pos (hs.1.mpr q0), if_pos q0]
      by_cases qd : d = 0
      · rw [if_pos (by omega), if_pos qd]
        unfold zJ78_176 zJ78_181
        rw [if_pos (by decide)]
        exact ⟨_, m, rfl, rfl, kp_refl _ m, fun _ => ⟨hsz, hi, hrw⟩, (fun z => by cases z)⟩
      · rw [if_neg (by omega), if_neg qd, zF29_eq]
        dsimp only
        rw [if_pos rfl]
        unfold zJ78_180 zJ78_181
        rw [if_pos (by decide)]
        exact ⟨_, _, rfl, rfl, (fail m (kp_refl _ m) hcu.2.2.2.1).1, (fun z => by cases z), fun _ => (fail m (kp_refl _ m) hcu.2.2.2.1).2⟩
    · rw [if_neg (fun z => q0 (hs.1.mp z)), if_neg q0]
      by_cases qb : tc T L i = -1
      · rw [if_pos (hs.2.1.mpr qb), if_pos (show tc T L i < 0 by omega)]
        exact wr2
      · rw [if_neg (fun z => qb (hs.2.1.mp z)), if_neg (show ¬ tc T L i < 0 by omega)]
        have h5 : m.1 83 5 = tc T L i := hcu.2.2.1 (by omega)
        have hi120 : i < 120 := by
          have hL := hcu.1.1
          by_cases z : i < 120
          · exact z
          · exact absurd (tc_end T L i (by omega)) q0
        -- the token is kept
        have take : ∀ (d' : Nat) (s' : Nat → Int) (m2 : ZM), kp (wl w78) m m2 → CU T L i m2 → d' ≤ 10 → (∀ j : Nat, j < d' → clo (m2.1 103 j) = s' j) → m2.1 83 34 = i → (∀ j : Nat, j < i → m2.1 105 j = tc T L j ∧ m2.1 106 j = 0 ∧ 0 < tc T L j) →
            ∃ v m', zJ78_124 n (zL78_7 n k) d' m2 = some (v, m') ∧ rtq T L m m' (bal (tc T L) k (i + 1) d' s') v := by
          intro d' s' m2 g2 c2 hd3 hst2 hs2 hrw2
          unfold zJ78_124 zJ78_148
          rw [hs2, if_neg (by omega), zlet, z_nc _ 105 _ _ 83 34 (by decide), hs2, if_neg (by omega), zlet, Int.toNat_natCast, z_nc _ 106 _ _ 83 34 (by decide), z_nc _ 105 _ _ 83 34 (by decide), hs2, if_pos (by omega), zlet, c2.2.2.1 (by omega)]
          have g3 : kp (wl [(105, 1000), (106, 1000), (83, 34)]) m2 (z_i (z_i (z_i m2 105 i (tc T L i)) 106 i 0) 83 34 (i + 1)) := kp_i (kp_ia (kp_ia (kp_refl _ m2) (by simp)) (by simp)) (by simp)
          have c3 := CU_kp c2 g3 rfl (fun _ => rfl) rfl rfl rfl rfl
          obtain ⟨m4, e1, e2, e3⟩ := nx_cu n hn c3
          rw [e1]
          dsimp only
          have y4 : ∀ j : Nat, j < i + 1 → m4.1 105 j = tc T L j ∧ m4.1 106 j = 0 ∧ 0 < tc T L j := by
            intro j hj
            rw [(e3.1 105 j rfl).1, (e3.1 106 j rfl).1, z_nc _ 83 _ _ 105 _ (by decide), z_nc _ 83 _ _ 106 _ (by decide), z_nc _ 106 _ _ 105 _ (by decide)]
            by_cases e : j = i
            · subst e
              rw [z_eq, z_eq]
              exact ⟨rfl, rfl, by omega⟩
            · rw [z_nk _ _ _ _ _ _ e, z_nk _ _ _ _ _ _ e, z_nk _ _ _ _ _ _ e]
              exact hrw2 j (by omega)
          obtain ⟨v, m', x1, x2, x3, x4, x5⟩ := ih (i + 1) d' s' m4 e2 hd3 (fun j hj => by rw [(e3.1 103 j rfl).1, z_nc _ _ _ _ _ _ (by decide), z_nc _ _ _ _ _ _ (by decide), z_nc _ _ _ _ _ _ (by decide)]; exact hst2 j hj) (by rw [(e3.1 83 34 rfl).1, z_eq, Int.natCast_add]; rfl) y4 (by omega) (by omega)
          exact ⟨v, m', x1, x2, kp_tr g2 (kp_tr (kp_sub (by simp [w78]) g3) (kp_tr (kp_sub (by simp [w78, w28]) e3) x3)), x4, x5⟩
        by_cases qo : opn (tc T L i)
        · rw [if_pos (hs.2.2.1.mpr qo), if_pos qo]
          unfold zJ78_31
          by_cases q10 : 10 ≤ d
          · rw [if_neg (by omega), if_pos q10]
            exact wr2
          · rw [if_pos (by omega), if_neg q10]
            unfold zJ78_42
            rw [hcu.2.1, if_neg (fun z => by have := hs.2.2.2.1.mp z; omega)]
            unfold zJ78_77
            rw [hcu.2.1, if_pos (hs.2.2.1.mpr qo), if_neg (by omega), zlet, Int.toNat_natCast, h5]
            have g3 : kp (wl [(103, 1000)]) m (z_i m 103 d (tc T L i)) := kp_ia (kp_refl _ m) (by simp)
            have c3 := CU_kp hcu g3 rfl (fun _ => rfl) rfl rfl rfl rfl
            unfold zJ78_95
            rw [c3.2.1, if_pos (hs.2.2.1.mpr qo), if_pos (by omega)]
            have := take (d + 1) (fun k => if k = d then clo (tc T L i) else s k) _ (kp_sub (by simp [w78]) g3) c3 (by omega) (by
              intro j hj
              by_cases e : j = d
              · subst e
                rw [z_eq, if_pos rfl]
              · rw [z_nk _ _ _ _ _ _ e, if_neg e]
                exact hst j (by omega)) (by rw [z_nc _ _ _ _ _ _ (by decide)]; exact hsz) (fun j hj => by rw [z_nc _ _ _ _ 105 _ (by decide), z_nc _ _ _ _ 106 _ (by decide)]; exact hrw j hj)
            rw [Int.natCast_add] at this
            exact this
        · rw [if_neg (fun z => qo (hs.2.2.1.mp z)), if_neg qo]
          unfold zJ78_42
          rw [hcu.2.1]
          by_cases qc : cls (tc T L i)
          · rw [if_pos (hs.2.2.2.1.mpr qc), if_pos qc]
            by_cases qd0 : d = 0
            · rw [if_pos (by omega), if_pos qd0]
              exact wr
            · rw [if_neg (by omega), if_neg qd0, if_pos (by omega), if_neg (by omega), show Int.toNat ((d : Int) - 1) = d - 1 by omega, zF23_eq]
              dsimp only
              rw [hst (d - 1) (by omega), h5]
              by_cases qs : tc T L i = s (d - 1)
              · rw [if_pos qs, if_pos qs]
                unfold zJ78_77
                rw [hcu.2.1, if_neg (fun z => qo (hs.2.2.1.mp z))]
                unfold zJ78_95
                rw [hcu.2.1, if_neg (fun z => qo (hs.2.2.1.mp z)), if_pos (hs.2.2.2.1.mpr qc), if_pos (by omega)]
                have := take (d - 1) s m (kp_refl _ m) hcu (by omega) (fun j hj => hst j (by omega)) hsz hrw
                rw [show ((d - 1 : Nat) : Int) = (d : Int) - 1 by omega] at this
                exact this
              · rw [if_neg qs, if_neg qs]
                exact wr
          · rw [if_neg (fun z => qc (hs.2.2.2.1.mp z)), if_neg qc]
            unfold zJ78_77
            rw [hcu.2.1, if_neg (fun z => qo (hs.2.2.1.mp z))]
            unfold zJ78_95
            rw [hcu.2.1, if_neg (fun z => qo (hs.2.2.1.mp z)), if_neg (fun z => qc (hs.2.2.2.1.mp z))]
            exact take d s m (kp_refl _ m) hcu hd10 hst hsz hrw
