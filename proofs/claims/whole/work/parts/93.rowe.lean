/-! The reference at a closing bracket; a row, whole. -/
theorem td256 (a b : Int) (ha : 0 ≤ a ∧ a ≤ 100000) (hb : 0 ≤ b ∧ b < 256) : Int.tdiv (256 * a + b) 256 = a := by
  rw [Int.tdiv_eq_ediv_of_nonneg (by omega)]
  omega
section CLO
variable {T : Nat → Int} {L i d N : Nat} {S A : Nat → Nat → Int} {u v q : Int} {m : ZM}
theorem MR_st {pat : Bool} {s : RS} {l : List (Nat × Nat)} {m' : ZM} (h : MR pat T L s m) (g : kp (wl l) m m') (A' : Nat → Nat → Int) (hax : AX pat m' A' s.2.2.2.2.2.1)
    (x1 : wl l 83 3 = false) (x2 : ∀ k, wl l 85 k = false) (x4 : wl l 83 4 = false) (x5 : wl l 83 5 = false) (x6 : wl l 83 6 = false) (x7 : wl l 83 7 = false) (x27 : wl l 83 27 = false) (x103 : ∀ k, wl l 103 k = false) (x104 : ∀ k, wl l 104 k = false) (x30 : wl l 83 30 = false) (x31 : wl l 83 31 = false) (x32 : wl l 83 32 = false) (x33 : wl l 83 33 = false) :
    MR pat T L (s.1, s.2.1, s.2.2.1, s.2.2.2.1, s.2.2.2.2.1, s.2.2.2.2.2.1, s.2.2.2.2.2.2.1, A') m' := by
  obtain ⟨h1, h2, h3, h4, h5, h6, h7, h8⟩ := h
  refine ⟨CU_kp h1 g x1 x2 x4 x5 x6 x7, ?_, ?_, ?_, ?_, ?_, ?_, hax⟩
  · rw [(g.1 83 27 x27).1]; exact h2
  · intro k hk
    rw [(g.1 103 k (x103 k)).1, (g.1 104 k (x104 k)).1]; exact h3 k hk
  · rw [(g.1 83 30 x30).1]; exact h4
  · rw [(g.1 83 31 x31).1]; exact h5
  · rw [(g.1 83 32 x32).1]; exact h6
  · rw [(g.1 83 33 x33).1]; exact h7
theorem end_p (n b : Nat) (sp mk p : Int) (h : MR true T L (i, d, S, u, -1, N, q, A) m) (hN : N < 128) (hb : b < N) (hsp : 0 ≤ sp ∧ sp ≤ 100000) (hmk : 0 ≤ mk ∧ mk < 256) :
    ∃ m', zJ43_82 n b (256 * sp + mk) N m = some (1, m') ∧ MR true T L (i, d, S, u, -1, N + 1, q, r_end true A N b sp mk u p) m' ∧ kp (wl (w44x true)) m m' := by
  have td := td256 sp mk hsp hmk
  have tm : 256 * sp + mk - Int.tdiv (256 * sp + mk) 256 * 256 = mk := by rw [td]; omega
  obtain ⟨h1, h2, h3, h4, h5, h6, h7, h8⟩ := h
  obtain ⟨m1, e1, e2, e3, e4⟩ := ad_p n N 5 0 mk p A m h6 hN h8
  rw [h4, h5] at e2
  have hm : MR true T L (i, d, S, u, -1, N + 1, q, r_add A N 5 0 mk u (-1) p) m1 := by
    refine ⟨CU_kp h1 e4 rfl (fun _ => rfl) rfl rfl rfl rfl, ?_, ?_, ?_, ?_, ?_, ?_, e2⟩
    · rw [(e4.1 83 27 rfl).1]; exact h2
    · intro k hk
      rw [(e4.1 103 k rfl).1, (e4.1 104 k rfl).1]; exact h3 k hk
    · rw [(e4.1 83 30 rfl).1]; exact h4
    · rw [(e4.1 83 31 rfl).1]; exact h5
    · rw [e3, Int.natCast_add]; rfl
    · rw [(e4.1 83 33 rfl).1]; exact h7
  have g : kp (wl [(92, 1000), (93, 1000), (94, 1000)]) m1 (z_i (z_i (z_i (z_i (z_i m1 92 N b) 93 N sp) 92 b N) 93 b sp) 94 b mk) := by
    refine kp_ia (kp_ia (kp_ia (kp_ia (kp_ia (kp_refl _ m1) ?_) ?_) ?_) ?_) ?_ <;> simp
  refine ⟨z_i (z_i (z_i (z_i (z_i m1 92 N b) 93 N sp) 92 b N) 93 b sp) 94 b mk, ?_, ?_, kp_tr (kp_sub s35 e4) (kp_sub s92 g)⟩
  · unfold zJ43_82 zJ43_115 zJ43_135 zJ43_185
    rw [tm, td, if_pos (by omega), e1]
    dsimp only
    rw [if_neg (by omega), zlet, if_pos (by omega), zlet, if_neg (by omega), zlet, if_pos (by omega), zlet, if_neg (by omega), if_pos (by omega), zlet, Int.toNat_natCast, Int.toNat_natCast]
  · refine MR_st hm g _ ?_ rfl (fun _ => rfl) rfl rfl rfl rfl rfl (fun _ => rfl) (fun _ => rfl) rfl rfl rfl rfl
    intro j hj
    have z := e2 j hj
    simp only [if_true] at z ⊢
    obtain ⟨z0, z1, z2, z3, z4, z5, z6⟩ := z
    unfold r_end
    rw [if_pos rfl]
    by_cases q1 : j = N
    · subst q1
      have hne : ¬ j = b := by omega
      simp [z_i_rd, r_set, hne, z0, z1, z4, z5, z6]
    · by_cases q2 : j = b
      · subst q2
        simp [z_i_rd, r_set, z0, z1, z5, z6]
      · simp [z_i_rd, r_set, q1, q2, z0, z1, z2, z3, z4, z5, z6]
theorem end_b (n b : Nat) (sp mk p : Int) (h : MR false T L (i, d, S, u, -1, N, q, A) m) (hN : N < 128) (hb : b < N) (hsp : 0 ≤ sp ∧ sp ≤ 100000) (hmk : 0 ≤ mk ∧ mk < 256) :
    ∃ m', zJ43_150 n b (256 * sp + mk) N m = some (1, m') ∧ MR false T L (i, d, S, u, -1, N + 1, q, r_end false A N b sp mk u p) m' ∧ kp (wl (w44x false)) m m' := by
  have td := td256 sp mk hsp hmk
  obtain ⟨h1, h2, h3, h4, h5, h6, h7, h8⟩ := h
  obtain ⟨m1, e1, e2, e3, e4⟩ := ad_b n N 5 0 mk p A m h6 hN h8
  rw [h4, h5] at e2
  have hm : MR false T L (i, d, S, u, -1, N + 1, q, r_add A N 5 0 mk u (-1) p) m1 := by
    refine ⟨CU_kp h1 e4 rfl (fun _ => rfl) rfl rfl rfl rfl, ?_, ?_, ?_, ?_, ?_, ?_, e2⟩
    · rw [(e4.1 83 27 rfl).1]; exact h2
    · intro k hk
      rw [(e4.1 103 k rfl).1, (e4.1 104 k rfl).1]; exact h3 k hk
    · rw [(e4.1 83 30 rfl).1]; exact h4
    · rw [(e4.1 83 31 rfl).1]; exact h5
    · rw [e3, Int.natCast_add]; rfl
    · rw [(e4.1 83 33 rfl).1]; exact h7
  have g : kp (wl [(99, 1000), (100, 1000)]) m1 (z_i (z_i (z_i m1 99 N b) 100 N sp) 99 b N) := by
    refine kp_ia (kp_ia (kp_ia (kp_refl _ m1) ?_) ?_) ?_ <;> simp
  refine ⟨z_i (z_i (z_i m1 99 N b) 100 N sp) 99 b N, ?_, ?_, kp_tr (kp_sub s36 e4) (kp_sub s99 g)⟩
  · unfold zJ43_150 zJ43_177 zJ43_185
    rw [td, e1]
    dsimp only
    rw [if_neg (by omega), zlet, if_pos (by omega), zlet, if_neg (by omega), zlet, Int.toNat_natCast, Int.toNat_natCast]
  · refine MR_st hm g _ ?_ rfl (fun _ => rfl) rfl rfl rfl rfl rfl (fun _ => rfl) (fun _ => rfl) rfl rfl rfl rfl
    intro j hj
    have z := e2 j hj
    simp only [Bool.false_eq_true, if_false] at z ⊢
    obtain ⟨z0, z1, z2, z3, z5, z6⟩ := z
    unfold r_end
    rw [if_neg (by decide)]
    by_cases q1 : j = N
    · subst q1
      have hne : ¬ j = b := by omega
      simp [z_i_rd, r_set, hne, z0, z1, z5, z6]
    · by_cases q2 : j = b
      · subst q2
        simp [z_i_rd, r_set, q1, z0, z1, z3, z5, z6]
      · simp [z_i_rd, r_set, q1, q2, z0, z1, z2, z3, z5, z6]
/-- the bracket is taken off the open ones -/
theorem clo_1 (pat : Bool) (n : Nat) (hn : 200 ≤ n) (h : MR pat T L (i, d, S, u, v, N, q, A) m) (hd : 0 < d ∧ d ≤ 9) (h0 : 0 < tc T L i) :
    ∃ m1, zF43 n (pb pat) m = (if 0 ≤ S 1 (d - 1) then (match zF39 n m1 with | some (v7, M8) => (zJ43_59 n (pb pat) (S 1 (d - 1)) M8) | none => none) else (if (pb pat) = 0 then (match zF36 n 0 (tc T L i) m1 with | some (v38, M39) => (zJ43_53 n M39) | none => none) else (match zF35 n 2 (tc T L i) 0 m1 with | some (v41, M42) => (zJ43_53 n M42) | none => none))) ∧ MR pat T L (i + 1, d - 1, S, u, v, N, q, A) m1 ∧ kp (wl (w44x pat)) m m1 := by
  have g : kp (wl [(83, 27)]) m (z_i m 83 27 ((d : Int) - 1)) := kp_i (kp_refl _ m) (by simp)
  have hm : MR pat T L (i, d - 1, S, u, v, N, q, A) (z_i m 83 27 ((d : Int) - 1)) := by
    obtain ⟨h1, h2, h3, h4, h5, h6, h7, h8⟩ := h
    refine ⟨CU_kp h1 g rfl (fun _ => rfl) rfl rfl rfl rfl, ?_, ?_, ?_, ?_, ?_, ?_, AX_kp h8 g ?_⟩
    · rw [z_eq]; show (d : Int) - 1 = ((d - 1 : Nat) : Int); omega
    · intro k hk
      rw [z_nc _ _ _ _ _ _ (by decide), z_nc _ _ _ _ _ _ (by decide)]
      exact h3 k (by have : k < d - 1 := hk; show k < d; omega)
    · rw [z_nk _ _ _ _ _ _ (by decide)]; exact h4
    · rw [z_nk _ _ _ _ _ _ (by decide)]; exact h5
    · rw [z_nk _ _ _ _ _ _ (by decide)]; exact h6
    · rw [z_nk _ _ _ _ _ _ (by decide)]; exact h7
    · intro c hc k
      cases pat <;> simp [ca] at hc <;> rcases hc with rfl | rfl | rfl | rfl | rfl | rfl | rfl <;> rfl
  obtain ⟨m1, e1, e2, e3⟩ := MR_nx pat n hn hm
  refine ⟨m1, ?_, e2, kp_tr (kp_sub (s27 _) g) (kp_sub (s28 _) e3)⟩
  unfold zF43
  rw [h.2.1]
  dsimp only
  have h104 : (z_i m 83 27 ((d : Int) - 1)).1 104 (d - 1) = S 1 (d - 1) := by
    rw [z_nc _ _ _ _ _ _ (by decide)]
    exact (h.2.2.1 (d - 1) (by show d - 1 < d; omega)).2
  rw [if_pos (by omega), zlet, z_eq, if_neg (by omega), show Int.toNat ((d : Int) - 1) = d - 1 by omega, h104, hm.1.2.2.1 h0]
  unfold zJ43_25
  rw [e1] <;> rfl
theorem clo_2 (pat : Bool) (n : Nat) (h : MR pat T L (i, d, S, u, v, N, q, A) m) : ∃ m1, zF39 n m = some ((), m1) ∧ MR pat T L (i, d, S, (if v < 0 then -1 else u), -1, N, q, A) m1 ∧ kp (wl (w44x pat)) m m1 := by
  obtain ⟨h1, h2, h3, h4, h5, h6, h7, h8⟩ := h
  have e : zF39 n m = some ((), z_i (z_i m 83 30 (if v < 0 then -1 else u)) 83 31 (-1)) := by
    unfold zF39 zJ39_16
    rw [h5, h4]
    dsimp only
    by_cases q1 : v < 0
    · rw [if_pos q1, if_pos q1, zlet, zlet]
    · rw [if_neg q1, if_neg q1, zlet, zlet]
  have k := zF39_kp n m _ _ e
  refine ⟨_, e, ⟨CU_kp h1 k rfl (fun _ => rfl) rfl rfl rfl rfl, ?_, ?_, ?_, ?_, ?_, ?_, AX_kp h8 k ?_⟩, kp_sub (s39 _) k⟩
  · rw [(k.1 83 27 rfl).1]; exact h2
  · intro k2 hk
    rw [(k.1 103 k2 rfl).1, (k.1 104 k2 rfl).1]; exact h3 k2 hk
  · rw [z_nk _ _ _ _ _ _ (by decide), z_eq]
  · rw [z_eq]
  · rw [(k.1 83 32 rfl).1]; exact h6
  · rw [(k.1 83 33 rfl).1]; exact h7
  · intro c hc j
    cases pat <;> simp [ca] at hc <;> rcases hc with rfl | rfl | rfl | rfl | rfl | rfl | rfl <;> rfl
/-- behind the closing bracket of a repetition -/
theorem clo_3 (pat : Bool) (n b : Nat) (sp mk p : Int) {i' : Nat} (h : MR pat T L (i, d, S, u, -1, N, q, A) m) {m1 : ZM} (he : zF40 n m = some (256 * sp + mk, m1)) (hc : CU T L i' m1) (hk : kp (wl w40) m m1) (hN : N < 128) (hb : b < N) (hsp : 0 ≤ sp ∧ sp ≤ 100000) (hmk : 0 ≤ mk ∧ mk < 256) :
    ∃ m', zJ43_59 n (pb pat) b m = some (1, m') ∧ MR pat T L (i', d, S, u, -1, N + 1, q, r_end pat A N b sp mk u p) m' ∧ kp (wl (w44x pat)) m m' := by
  have hm : MR pat T L (i', d, S, u, -1, N, q, A) m1 := by
    obtain ⟨h1, h2, h3, h4, h5, h6, h7, h8⟩ := h
    refine ⟨hc, ?_, ?_, ?_, ?_, ?_, ?_, AX_kp h8 hk (ca_w40 pat)⟩
    · rw [(hk.1 83 27 rfl).1]; exact h2
    · intro k2 hk2
      rw [(hk.1 103 k2 rfl).1, (hk.1 104 k2 rfl).1]; exact h3 k2 hk2
    · rw [(hk.1 83 30 rfl).1]; exact h4
    · rw [(hk.1 83 31 rfl).1]; exact h5
    · rw [(hk.1 83 32 rfl).1]; exact h6
    · rw [(hk.1 83 33 rfl).1]; exact h7
  unfold zJ43_59
  rw [he]
  dsimp only
  rw [if_pos (by omega), hm.2.2.2.2.2.1]
  cases pat with
  | true =>
    rw [if_neg (by decide)]
    obtain ⟨m', f1, f2, f3⟩ := end_p n b sp mk p hm hN hb hsp hmk
    exact ⟨m', f1, f2, kp_tr (kp_sub (s40 _) hk) f3⟩
  | false =>
    rw [if_pos (by decide)]
    obtain ⟨m', f1, f2, f3⟩ := end_b n b sp mk p hm hN hb hsp hmk
    exact ⟨m', f1, f2, kp_tr (kp_sub (s40 _) hk) f3⟩
end CLO
