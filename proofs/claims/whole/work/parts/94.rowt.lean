/-! A step of the reference is a step of the pure reading. -/
theorem r_mk_le (c : Int) : 0 ≤ r_mk c ∧ r_mk c < 256 := by
  unfold r_mk
  repeat' split
  all_goals omega
theorem row_st (pat : Bool) (n : Nat) (hn : 200 ≤ n) (T : Nat → Int) (L : Nat) (s : RS) (m : ZM) (h : MR pat T L s m) (hri : RI s) (h120 : s.1 ≤ 120) (k : Nat) :
    RT pat T L (zL44_39 n (k + 2) (pb pat) (lb pat) 1 m) m (rst pat (tc T L) s) (fun m' => zL44_39 n (k + 1) (pb pat) (lb pat) 1 m') := by
  obtain ⟨i, d, S, u, v, N, q, A⟩ := s
  obtain ⟨a1, a2, a3, a4, a5, a6, a7, a8, a9, a10⟩ := hri
  dsimp only at a1 a2 a3 a4 a5 a6 a7 a8 a9 a10 h120
  have hch := h.1.1.2.1
  have hL := h.1.1.1
  have hv := tc_vt T L i hch
  have hs := srt_c _ hv
  have hN : N < 128 := by omega
  have h4 : m.1 83 4 = srt (tc T L i) := h.1.2.1
  have bad : ∃ m', zF29 n m = some (0, m') ∧ BD T L i m m' (w44x pat) := by
    obtain ⟨m', g1, g2⟩ := wr_eq n h.1
    exact ⟨m', g1, bd44 g2⟩
  have bad59 : ∃ m', zJ44_59 n m = some (0, m') ∧ BD T L i m m' (w44x pat) := by
    obtain ⟨m', g1, g2⟩ := bad
    refine ⟨m', ?_, g2⟩
    unfold zJ44_59
    rw [g1]
    rfl
  rw [zL44_39, if_neg (by decide), h4]
  unfold rst
  dsimp only
  by_cases c0 : tc T L i ≤ 0
  · rw [if_pos c0]
    refine RT_bad ?_
    by_cases z : tc T L i = 0
    · rw [if_neg (fun w => by have := hs.2.1.mp w; omega), if_pos (hs.1.mpr z)]
      exact bad59
    · rw [if_pos (hs.2.1.mpr (by omega))]
      exact bad59
  rw [if_neg c0, if_neg (fun w => by have := hs.2.1.mp w; omega), if_neg (fun w => by have := hs.1.mp w; omega)]
  have h5 : m.1 83 5 = tc T L i := h.1.2.2.1 (by show 0 < tc T L i; omega)
  have hi120 : i < 120 := tc_lt (T := T) hL (by omega)
  by_cases c1 : cls (tc T L i)
  · rw [if_pos c1, if_pos (hs.2.2.2.1.mpr c1)]
    unfold zJ44_72
    rw [h.2.1]
    dsimp only
    have bad97 : ∀ x : Int, ¬ tc T L i = x → ∃ m', zJ44_97 n (zL44_39 n (k + 1)) (pb pat) (lb pat) x m = some (0, m') ∧ BD T L i m m' (w44x pat) := by
      intro x hx
      obtain ⟨m', g1, g2⟩ := bad
      refine ⟨m', ?_, g2⟩
      unfold zJ44_97
      rw [h5, if_neg hx, g1]
      rfl
    by_cases c2 : d = 0
    · rw [if_pos c2, if_pos (by omega)]
      have hlb : (if pat = true then (41 : Int) else 125) = lb pat := rfl
      rw [hlb]
      by_cases c3 : tc T L i = lb pat
      · rw [if_pos c3]
        refine RT_done ?_
        obtain ⟨m1, e1, e2, e3⟩ := MR_nx pat n hn h
        obtain ⟨m', f1, f2, f3⟩ := fin_add pat n 6 6 0 0 i e2 hN (fun M => zJ44_276 n M)
        have k6 : (if pat = true then (6 : Int) else 6) = 6 := by split <;> rfl
        rw [k6] at f2
        subst c2
        refine ⟨m', ?_, f2, kp_tr (kp_sub (s28 _) e3) f3⟩
        unfold zJ44_97 zJ44_125 zJ44_140
        rw [h5, if_pos c3, h.2.1, if_pos (by show ((0 : Nat) : Int) ≤ 0; omega), if_pos rfl, zL44_39, if_pos rfl, e1]
        exact f1
      · rw [if_neg c3]
        exact RT_bad (bad97 _ c3)
    rw [if_neg c2, if_neg (by omega), if_pos (by omega), if_neg (by omega), show Int.toNat ((d : Int) - 1) = d - 1 by omega, zF23_eq]
    dsimp only
    have h103 := h.2.2.1 (d - 1) (by show d - 1 < d; omega)
    dsimp only at h103
    rw [h103.1]
    by_cases c3 : tc T L i ≠ clo (S 0 (d - 1))
    · rw [if_pos c3]
      exact RT_bad (bad97 _ c3)
    rw [if_neg c3]
    have c3' : tc T L i = clo (S 0 (d - 1)) := Decidable.of_not_not c3
    obtain ⟨m1, e1, e2, e3⟩ := clo_1 pat n hn h (by omega) (by omega)
    have e97 : zJ44_97 n (zL44_39 n (k + 1)) (pb pat) (lb pat) (clo (S 0 (d - 1))) m = (match zF43 n (pb pat) m with | some (v29, M30) => (if v29 = 0 then (some (0, M30)) else (zL44_39 n (k + 1) (pb pat) (lb pat) 1 M30)) | none => none) := by
      unfold zJ44_97 zJ44_125 zJ44_140
      rw [h5, if_pos c3', h.2.1, if_neg (by show ¬ (d : Int) ≤ 0; omega), if_neg (by decide)] <;> rfl
    rw [e97]
    by_cases c4 : S 1 (d - 1) < 0
    · rw [if_pos c4]
      refine RT_go ?_
      obtain ⟨m', f1, f2, f3⟩ := fin_add pat n 0 2 (tc T L i) 0 i e2 hN (fun M => zJ43_53 n M)
      refine ⟨m', ?_, f2, kp_tr e3 f3⟩
      have : zF43 n (pb pat) m = some (1, m') := by
        rw [e1, if_neg (by omega)]
        exact f1
      rw [this]
      rfl
    rw [if_neg c4]
    obtain ⟨m2, g1, g2, g3⟩ := clo_2 pat n e2
    have hb : (S 1 (d - 1)).toNat < N := by have := (a3 (d - 1) (by omega)).2; omega
    have hbe : S 1 (d - 1) = (((S 1 (d - 1)).toNat : Nat) : Int) := by omega
    have e43 : zF43 n (pb pat) m = zJ43_59 n (pb pat) (((S 1 (d - 1)).toNat : Nat) : Int) m2 := by
      rw [e1, if_pos (by omega), g1, ← hbe]
    have hv1 := tc_vt T L (i + 1) hch
    by_cases c5 : tc T L (i + 1) = 42 ∨ tc T L (i + 1) = 43 ∨ tc T L (i + 1) = 63
    · rw [if_pos c5]
      refine RT_go ?_
      obtain ⟨m3, x1, x2, x3⟩ := mk_1 n hn g2.1 c5
      have hmk := r_mk_le (tc T L (i + 1))
      obtain ⟨m', y1, y2, y3⟩ := clo_3 pat n (S 1 (d - 1)).toNat 0 (r_mk (tc T L (i + 1))) i g2 (x1.trans (by show some (r_mk (tc T L (i + 1)), m3) = some (256 * 0 + r_mk (tc T L (i + 1)), m3); rw [show (256 : Int) * 0 + r_mk (tc T L (i + 1)) = r_mk (tc T L (i + 1)) by omega])) x2 x3 hN hb (by omega) hmk
      refine ⟨m', ?_, y2, kp_tr e3 (kp_tr g3 y3)⟩
      rw [e43, y1]
      rfl
    rw [if_neg c5]
    by_cases c6 : 0 < tc T L (i + 1) ∧ ¬ opn (tc T L (i + 1)) ∧ ¬ cls (tc T L (i + 1)) ∧ tc T L (i + 1) ≠ 36
    · rw [if_pos c6]
      by_cases c7 : tc T L (i + 2) = 42 ∨ tc T L (i + 2) = 43
      · rw [if_pos c7]
        refine RT_go ?_
        obtain ⟨m3, x1, x2, x3⟩ := mk_2 n hn g2.1 c5 c6 c7
        have hmk := r_mk_le (tc T L (i + 2))
        obtain ⟨m', y1, y2, y3⟩ := clo_3 pat n (S 1 (d - 1)).toNat (tc T L (i + 1)) (r_mk (tc T L (i + 2))) i g2 x1 x2 x3 hN hb (by omega) hmk
        refine ⟨m', ?_, y2, kp_tr e3 (kp_tr g3 y3)⟩
        rw [e43, y1]
        rfl
      · rw [if_neg c7]
        refine RT_bad ?_
        obtain ⟨m', x1, x2⟩ := mk_g n hn g2.1 c5 c6 c7
        refine ⟨m', ?_, x2.1, kp_tr e3 (kp_tr g3 (kp_sub (s40 _) x2.2))⟩
        rw [e43]
        unfold zJ43_59
        rw [x1]
        rfl
    · rw [if_neg c6]
      refine RT_bad ?_
      obtain ⟨m', x1, x2⟩ := mk_f n hn g2.1 c5 c6
      refine ⟨m', ?_, x2.1, kp_tr e3 (kp_tr g3 (kp_sub (s40 _) x2.2))⟩
      rw [e43]
      unfold zJ43_59
      rw [x1]
      rfl
  rw [if_neg c1, if_neg (fun w => c1 (hs.2.2.2.1.mp w))]
  unfold zJ44_143
  rw [ic_eq n h.1 36 (by decide)]
  dsimp only
  rw [ib]
  by_cases c2 : tc T L i = 36
  · rw [if_pos c2, if_pos c2]
    obtain ⟨m1, e1, e2, e3⟩ := MR_nx pat n hn h
    rw [e1]
    dsimp only
    unfold zJ44_156
    have gob : ∀ j : Nat, (∃ m', zF42 n (pb pat) m1 = some (0, m') ∧ BD T L j m1 m' (w44x pat)) → ∃ m', (match zF42 n (pb pat) m1 with | some (v70, M71) => (if v70 = 0 then (some (0, M71)) else (zL44_39 n (k + 1) (pb pat) (lb pat) 1 M71)) | none => none) = some (0, m') ∧ BD T L j m m' (w44x pat) := by
      rintro j ⟨m', x1, x2⟩
      refine ⟨m', ?_, x2.1, kp_tr (kp_sub (s28 _) e3) x2.2⟩
      rw [x1]
      rfl
    have gog : ∀ s' : RS, (∃ m', zF42 n (pb pat) m1 = some (1, m') ∧ MR pat T L s' m' ∧ kp (wl (w44x pat)) m1 m') → ∃ m', (match zF42 n (pb pat) m1 with | some (v70, M71) => (if v70 = 0 then (some (0, M71)) else (zL44_39 n (k + 1) (pb pat) (lb pat) 1 M71)) | none => none) = zL44_39 n (k + 1) (pb pat) (lb pat) 1 m' ∧ MR pat T L s' m' ∧ kp (wl (w44x pat)) m m' := by
      rintro s' ⟨m', x1, x2, x3⟩
      refine ⟨m', ?_, x2, kp_tr (kp_sub (s28 _) e3) x3⟩
      rw [x1]
      rfl
    by_cases c3 : wd (tc T L (i + 1))
    · rw [if_pos c3]
      cases pat with
      | true =>
        rw [if_pos rfl]
        obtain ⟨d1, d2, d3⟩ := dol_frag n hn e2 hN c3
        by_cases c5 : tc T L (i + 2) ≠ 58
        · rw [if_pos c5]
          exact RT_bad (gob _ (d1 c5))
        rw [if_neg c5]
        have c5' : tc T L (i + 2) = 58 := Decidable.of_not_not c5
        by_cases c6 : knd (tc T L (i + 3))
        · rw [if_pos c6]
          exact RT_go (gog _ (d3 c5' c6))
        · rw [if_neg c6]
          exact RT_bad (gob _ (d2 c5' c6))
      | false =>
        rw [if_neg (by decide)]
        exact RT_go (gog _ (dol_use n hn e2 hN c3))
    rw [if_neg c3]
    by_cases c4 : tc T L (i + 1) ≠ 40 ∨ 0 ≤ v ∨ (pat = true ∧ 4 ≤ q) ∨ 9 ≤ d
    · rw [if_pos c4]
      exact RT_bad (gob _ (dol_bad pat n e2 a1 (by omega) c3 c4))
    rw [if_neg c4]
    have z1 : tc T L (i + 1) = 40 := Decidable.of_not_not (fun z => c4 (Or.inl z))
    have z2 : v < 0 := by
      have : ¬ 0 ≤ v := fun z => c4 (Or.inr (Or.inl z))
      omega
    have z4 : d < 9 := by
      have : ¬ 9 ≤ d := fun z => c4 (Or.inr (Or.inr (Or.inr z)))
      omega
    exact RT_go (gog _ (dol_rep pat n hn e2 hN (by omega) z1 z2 (fun z => c4 (Or.inr (Or.inr (Or.inl z)))) z4 a6))
  rw [if_neg c2, if_neg c2, h4, h5]
  by_cases c3 : opn (tc T L i)
  · rw [if_pos c3, if_pos (hs.2.2.1.mpr c3)]
    by_cases c4 : 9 ≤ d
    · rw [if_pos c4]
      refine RT_bad ?_
      obtain ⟨m', x1, x2⟩ := op_no n (-1) h.1 h.2.1 (by show d = 9; omega)
      refine ⟨m', ?_, bd44 x2⟩
      unfold zJ44_180
      rw [x1]
      rfl
    · rw [if_neg c4]
      exact RT_go (row_opn pat n hn h (by omega) (by omega) hN (zL44_39 n (k + 1)) (lb pat) 1)
  · rw [if_neg c3, if_neg (fun w => c3 (hs.2.2.1.mp w))]
    exact RT_go (row_lit pat n hn 0 0 (tc T L i) h hN (zL44_39 n (k + 1)) (lb pat) 1)
/-- tokens that are read lie in the text -/
theorem rst_le (pat : Bool) (T : Nat → Int) (L : Nat) (hL : L ≤ 120) (s : RS) (h : s.1 ≤ 120) (h0 : (rst pat (tc T L) s).1 ≠ 1) : s.1 < (rst pat (tc T L) s).2.1 ∧ (rst pat (tc T L) s).2.1 ≤ 120 := by
  have lt : ∀ j, 0 < tc T L j → j < 120 := fun j hj => tc_lt hL hj
  obtain ⟨i, d, S, u, v, n, q, A⟩ := s
  dsimp only at h
  unfold rst at h0 ⊢
  dsimp only at h0 ⊢
  by_cases c0 : tc T L i ≤ 0
  · rw [if_pos c0] at h0; exact absurd rfl h0
  rw [if_neg c0] at h0 ⊢
  have l0 := lt i (by omega)
  by_cases c1 : cls (tc T L i)
  · rw [if_pos c1] at h0 ⊢
    by_cases c2 : d = 0
    · rw [if_pos c2] at h0 ⊢
      by_cases c3 : tc T L i = (if pat = true then 41 else 125)
      · rw [if_pos c3] at h0 ⊢; exact ⟨by show i < i + 1; omega, by show i + 1 ≤ 120; omega⟩
      · rw [if_neg c3] at h0; exact absurd rfl h0
    rw [if_neg c2] at h0 ⊢
    by_cases c3 : tc T L i ≠ clo (S 0 (d - 1))
    · rw [if_pos c3] at h0; exact absurd rfl h0
    rw [if_neg c3] at h0 ⊢
    by_cases c4 : S 1 (d - 1) < 0
    · rw [if_pos c4] at h0 ⊢; exact ⟨by show i < i + 1; omega, by show i + 1 ≤ 120; omega⟩
    rw [if_neg c4] at h0 ⊢
    by_cases c5 : tc T L (i + 1) = 42 ∨ tc T L (i + 1) = 43 ∨ tc T L (i + 1) = 63
    · rw [if_pos c5] at h0 ⊢
      have l1 := lt (i + 1) (by omega)
      exact ⟨by show i < i + 2; omega, by show i + 2 ≤ 120; omega⟩
    rw [if_neg c5] at h0 ⊢
    by_cases c6 : 0 < tc T L (i + 1) ∧ ¬ opn (tc T L (i + 1)) ∧ ¬ cls (tc T L (i + 1)) ∧ tc T L (i + 1) ≠ 36
    · rw [if_pos c6] at h0 ⊢
      by_cases c7 : tc T L (i + 2) = 42 ∨ tc T L (i + 2) = 43
      · rw [if_pos c7] at h0 ⊢
        have l1 := lt (i + 2) (by omega)
        exact ⟨by show i < i + 3; omega, by show i + 3 ≤ 120; omega⟩
      · rw [if_neg c7] at h0; exact absurd rfl h0
    · rw [if_neg c6] at h0; exact absurd rfl h0
  rw [if_neg c1] at h0 ⊢
  by_cases c2 : tc T L i = 36
  · rw [if_pos c2] at h0 ⊢
    by_cases c3 : wd (tc T L (i + 1))
    · rw [if_pos c3] at h0 ⊢
      have l1 := lt (i + 1) (by omega)
      by_cases c4 : pat = true
      · rw [if_pos c4] at h0 ⊢
        by_cases c5 : tc T L (i + 2) ≠ 58
        · rw [if_pos c5] at h0; exact absurd rfl h0
        rw [if_neg c5] at h0 ⊢
        by_cases c6 : knd (tc T L (i + 3))
        · rw [if_pos c6] at h0 ⊢
          have l3 := lt (i + 3) (by omega)
          exact ⟨by show i < i + 4; omega, by show i + 4 ≤ 120; omega⟩
        · rw [if_neg c6] at h0; exact absurd rfl h0
      · rw [if_neg c4] at h0 ⊢
        exact ⟨by show i < i + 2; omega, by show i + 2 ≤ 120; omega⟩
    rw [if_neg c3] at h0 ⊢
    by_cases c4 : tc T L (i + 1) ≠ 40 ∨ 0 ≤ v ∨ (pat = true ∧ 4 ≤ q) ∨ 9 ≤ d
    · rw [if_pos c4] at h0; exact absurd rfl h0
    rw [if_neg c4] at h0 ⊢
    have z1 : tc T L (i + 1) = 40 := Decidable.of_not_not (fun z => c4 (Or.inl z))
    have l1 := lt (i + 1) (by omega)
    exact ⟨by show i < i + 2; omega, by show i + 2 ≤ 120; omega⟩
  rw [if_neg c2] at h0 ⊢
  by_cases c3 : opn (tc T L i)
  · rw [if_pos c3] at h0 ⊢
    by_cases c4 : 9 ≤ d
    · rw [if_pos c4] at h0; exact absurd rfl h0
    rw [if_neg c4] at h0 ⊢
    exact ⟨by show i < i + 1; omega, by show i + 1 ≤ 120; omega⟩
  rw [if_neg c3] at h0 ⊢
  exact ⟨by show i < i + 1; omega, by show i + 1 ≤ 120; omega⟩
/-- a row: where the pure reading comes to -/
def RZ (pat : Bool) (T : Nat → Int) (L : Nat) (E : Option (Int × ZM)) (m : ZM) (t : Nat × RS) : Prop :=
  (t.1 = 1 ∧ ∃ m', E = some (0, m') ∧ BD T L t.2.1 m m' (w44x pat)) ∨ (t.1 = 2 ∧ ∃ m', E = some (1, m') ∧ MR pat T L t.2 m' ∧ kp (wl (w44x pat)) m m')
theorem row_m (pat : Bool) (n : Nat) (hn : 200 ≤ n) (T : Nat → Int) (L : Nat) : ∀ (f k : Nat) (s : RS) (m : ZM), MR pat T L s m → RI s → s.1 ≤ 120 → 121 - s.1 ≤ f → f + 1 ≤ k → RZ pat T L (zL44_39 n k (pb pat) (lb pat) 1 m) m (rrn pat (tc T L) f s) := by
  intro f
  induction f with
  | zero => intro k s m _ _ h1 h2; exact absurd h2 (by omega)
  | succ f ih =>
    intro k s m h hri h120 hf hk
    obtain ⟨k, rfl⟩ : ∃ q, k = q + 2 := ⟨k - 2, by omega⟩
    have hst := row_st pat n hn T L s m h hri h120 k
    rw [rrn]
    by_cases z : (rst pat (tc T L) s).1 = 0
    · rw [if_pos z]
      obtain ⟨m1, e1, e2, e3⟩ := hst.1 z
      rw [e1]
      have hle := rst_le pat T L h.1.1.1 s h120 (by omega)
      rcases ih (k + 1) (rst pat (tc T L) s).2 m1 e2 (RI_st pat (tc T L) s hri z) hle.2 (by omega) (by omega) with ⟨w, m', x1, x2⟩ | ⟨w, m', x1, x2, x3⟩
      · exact Or.inl ⟨w, m', x1, x2.1, kp_tr e3 x2.2⟩
      · exact Or.inr ⟨w, m', x1, x2, kp_tr e3 x3⟩
    · rw [if_neg z]
      by_cases z1 : (rst pat (tc T L) s).1 = 1
      · exact Or.inl ⟨z1, hst.2.1 z1⟩
      · have z2 : (rst pat (tc T L) s).1 = 2 := by
          obtain ⟨i, d, S, u, v, n, q, A⟩ := s
          revert z z1
          unfold rst
          dsimp only
          repeat' split
          all_goals simp
        exact Or.inr ⟨z2, hst.2.2 z2⟩
