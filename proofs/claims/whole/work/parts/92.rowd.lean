/-! The reference behind a $, and at a closing bracket. -/
section DOL
variable {T : Nat → Int} {L i d N : Nat} {S A : Nat → Nat → Int} {u v q : Int} {m : ZM}
/-- a use of a body, a fragment of a pattern: m stands before the word -/
theorem dol_use (n : Nat) (hn : 200 ≤ n) (h : MR false T L (i + 1, d, S, u, v, N, q, A) m) (hN : N < 128) (hw : wd (tc T L (i + 1))) : ∃ m', zF42 n 0 m = some (1, m') ∧ MR false T L (i + 2, d, S, u, v, N + 1, q, r_add A N 7 (tc T L (i + 1)) 0 u v i) m' ∧ kp (wl (w44x false)) m m' := by
  have hv := tc_vt T L (i + 1) h.1.1.2.1
  have hs := srt_c _ hv
  obtain ⟨m1, e1, e2, e3⟩ := MR_nx false n hn h
  obtain ⟨m', f1, f2, f3, f4⟩ := ad_b n N 7 (tc T L (i + 1)) 0 i A m1 e2.2.2.2.2.2.1 hN e2.2.2.2.2.2.2.2
  rw [e2.2.2.2.1, e2.2.2.2.2.1] at f2
  refine ⟨m', ?_, ⟨CU_kp e2.1 f4 rfl (fun _ => rfl) rfl rfl rfl rfl, ?_, ?_, ?_, ?_, ?_, ?_, f2⟩, kp_tr (kp_sub (s28 _) e3) (kp_sub s36 f4)⟩
  · unfold zF42 zJ42_21
    rw [h.1.2.1, if_pos (hs.2.2.2.2.1.mpr hw), e1, h.1.2.2.1 (show 0 < tc T L (i + 1) by omega)]
    dsimp only
    rw [if_pos rfl, f1]
  · rw [(f4.1 83 27 rfl).1]; exact e2.2.1
  · intro k hk
    rw [(f4.1 103 k rfl).1, (f4.1 104 k rfl).1]; exact e2.2.2.1 k hk
  · rw [(f4.1 83 30 rfl).1]; exact e2.2.2.2.1
  · rw [(f4.1 83 31 rfl).1]; exact e2.2.2.2.2.1
  · rw [f3, Int.natCast_add]; rfl
  · rw [(f4.1 83 33 rfl).1]; exact e2.2.2.2.2.2.2.1
theorem dol_frag (n : Nat) (hn : 200 ≤ n) (h : MR true T L (i + 1, d, S, u, v, N, q, A) m) (hN : N < 128) (hw : wd (tc T L (i + 1))) :
    (tc T L (i + 2) ≠ 58 → ∃ m', zF42 n 1 m = some (0, m') ∧ BD T L (i + 2) m m' (w44x true)) ∧
    (tc T L (i + 2) = 58 → ¬ knd (tc T L (i + 3)) → ∃ m', zF42 n 1 m = some (0, m') ∧ BD T L (i + 3) m m' (w44x true)) ∧
    (tc T L (i + 2) = 58 → knd (tc T L (i + 3)) → ∃ m', zF42 n 1 m = some (1, m') ∧ MR true T L (i + 4, d, S, u, v, N + 1, q, r_add A N 3 (tc T L (i + 1)) (r_kd (tc T L (i + 3))) u v i) m' ∧ kp (wl (w44x true)) m m') := by
  have hv := tc_vt T L (i + 1) h.1.1.2.1
  have hs := srt_c _ hv
  obtain ⟨m1, e1, e2, e3⟩ := MR_nx true n hn h
  have e0 : zF42 n 1 m = zJ42_30 n (tc T L (i + 1)) m1 := by
    unfold zF42
    rw [h.1.2.1, if_pos (hs.2.2.2.2.1.mpr hw), e1, h.1.2.2.1 (show 0 < tc T L (i + 1) by omega)]
    dsimp only
    rw [if_neg (by decide)]
  rw [e0]
  refine ⟨fun q1 => ?_, ?_⟩
  · unfold zJ42_30
    rw [ic_eq n e2.1 58 (by decide)]
    dsimp only
    rw [bi_n (show ¬ tc T L (i + 1 + 1) = 58 from q1)]
    obtain ⟨m', g1, g2⟩ := ps_f n e2.1
    rw [g1]
    dsimp only
    rw [if_pos rfl]
    exact ⟨m', rfl, BD_kp g2 e3 (s8 _) (s28 _)⟩
  · have main : tc T L (i + 2) = 58 → ∃ m3, MR true T L (i + 3, d, S, u, v, N, q, A) m3 ∧ kp (wl w28) m1 m3 ∧ zJ42_30 n (tc T L (i + 1)) m1 = (if wd (tc T L (i + 3)) then zJ42_64 n (tc T L (i + 1)) (r_kd (tc T L (i + 3))) m3 else zJ42_64 n (tc T L (i + 1)) 0 m3) := by
      intro q1
      unfold zJ42_30
      rw [ic_eq n e2.1 58 (by decide)]
      dsimp only
      rw [bi_p (show tc T L (i + 1 + 1) = 58 from q1)]
      obtain ⟨m3, g1, g2, g3⟩ := MR_nx true n hn e2
      refine ⟨m3, g2, g3, ?_⟩
      have g4 : zF30 n 1 m1 = some (1, m3) := by
        unfold zF30
        rw [if_neg (by decide), g1]
      rw [g4]
      dsimp only
      have hv3 := tc_vt T L (i + 3) h.1.1.2.1
      have hs3 := srt_c _ hv3
      rw [if_neg (by decide), g2.1.2.1]
      by_cases q2 : wd (tc T L (i + 3))
      · rw [if_pos (hs3.2.2.2.2.1.mpr q2), if_pos q2]
        unfold zJ42_53
        rw [zF41_eq, g2.1.2.2.1 (by show 0 < tc T L (i + 3); omega)]
        rfl
      · rw [if_neg (fun z => q2 (hs3.2.2.2.2.1.mp z)), if_neg q2]
        rfl
    have add : ∀ m3, MR true T L (i + 3, d, S, u, v, N, q, A) m3 → ∀ kd : Int, ∃ m4, zF35 n 3 (tc T L (i + 1)) kd m3 = some ((), m4) ∧ MR true T L (i + 3, d, S, u, v, N + 1, q, r_add A N 3 (tc T L (i + 1)) kd u v i) m4 ∧ kp (wl w35) m3 m4 := by
      intro m3 g2 kd
      obtain ⟨m', f1, f2, f3, f4⟩ := ad_p n N 3 (tc T L (i + 1)) kd i A m3 g2.2.2.2.2.2.1 hN g2.2.2.2.2.2.2.2
      rw [g2.2.2.2.1, g2.2.2.2.2.1] at f2
      refine ⟨m', f1, ⟨CU_kp g2.1 f4 rfl (fun _ => rfl) rfl rfl rfl rfl, ?_, ?_, ?_, ?_, ?_, ?_, f2⟩, f4⟩
      · rw [(f4.1 83 27 rfl).1]; exact g2.2.1
      · intro k hk
        rw [(f4.1 103 k rfl).1, (f4.1 104 k rfl).1]; exact g2.2.2.1 k hk
      · rw [(f4.1 83 30 rfl).1]; exact g2.2.2.2.1
      · rw [(f4.1 83 31 rfl).1]; exact g2.2.2.2.2.1
      · rw [f3, Int.natCast_add]; rfl
      · rw [(f4.1 83 33 rfl).1]; exact g2.2.2.2.2.2.2.1
    have badk : ∀ m3, MR true T L (i + 3, d, S, u, v, N, q, A) m3 → kp (wl w28) m1 m3 → ∃ m', zJ42_64 n (tc T L (i + 1)) 0 m3 = some (0, m') ∧ BD T L (i + 3) m m' (w44x true) := by
      intro m3 g2 g3
      obtain ⟨m4, a1, a2, a3⟩ := add m3 g2 0
      obtain ⟨m', b1, b2⟩ := ps_f n a2.1
      refine ⟨m', ?_, b2.1, kp_tr (kp_sub (s28 _) e3) (kp_tr (kp_sub (s28 _) g3) (kp_tr (kp_sub s35 a3) (kp_sub (s8 _) b2.2)))⟩
      unfold zJ42_64 zJ42_82
      rw [a1]
      dsimp only
      rw [if_pos (by decide), b1]
      rfl
    refine ⟨fun q1 q2 => ?_, fun q1 q2 => ?_⟩
    · obtain ⟨m3, g2, g3, g4⟩ := main q1
      rw [g4]
      by_cases qw : wd (tc T L (i + 3))
      · rw [if_pos qw, show r_kd (tc T L (i + 3)) = 0 from by unfold r_kd; rw [if_neg (by omega), if_neg (by omega), if_neg (by omega), if_neg (by omega)]]
        exact badk m3 g2 g3
      · rw [if_neg qw]
        exact badk m3 g2 g3
    · obtain ⟨m3, g2, g3, g4⟩ := main q1
      rw [g4, if_pos (by omega)]
      obtain ⟨m4, a1, a2, a3⟩ := add m3 g2 (r_kd (tc T L (i + 3)))
      obtain ⟨m5, b1, b2, b3⟩ := MR_nx true n hn a2
      refine ⟨m5, ?_, b2, kp_tr (kp_sub (s28 _) e3) (kp_tr (kp_sub (s28 _) g3) (kp_tr (kp_sub s35 a3) (kp_sub (s28 _) b3)))⟩
      unfold zJ42_64 zJ42_82
      rw [a1]
      dsimp only
      have hk : ¬ r_kd (tc T L (i + 3)) ≤ 0 := by
        unfold r_kd
        repeat' split
        all_goals omega
      have g5 : zF30 n 1 m4 = some (1, m5) := by
        unfold zF30
        rw [if_neg (by decide), b1]
      rw [if_neg hk, g5]
      rfl
/-- a repetition begins: m stands before what follows the $ -/
theorem dol_bad (pat : Bool) (n : Nat) (h : MR pat T L (i + 1, d, S, u, v, N, q, A) m) (hd : d ≤ 9) (hq : 0 ≤ q ∧ q ≤ 1000) (hw : ¬ wd (tc T L (i + 1))) (hb : tc T L (i + 1) ≠ 40 ∨ 0 ≤ v ∨ (pat = true ∧ 4 ≤ q) ∨ 9 ≤ d) : ∃ m', zF42 n (pb pat) m = some (0, m') ∧ BD T L (i + 1) m m' (w44x pat) := by
  have hv := tc_vt T L (i + 1) h.1.1.2.1
  have hs := srt_c _ hv
  obtain ⟨m', g1, g2⟩ := wr_eq n h.1
  have wr : zJ42_114 n m = some (0, m') := by
    unfold zJ42_114
    rw [g1]
    rfl
  unfold zF42
  rw [h.1.2.1, if_neg (fun z => hw (hs.2.2.2.2.1.mp z)), ic_eq n h.1 40 (by decide)]
  dsimp only
  rw [ib]
  by_cases q1 : tc T L (i + 1) = 40
  · rw [if_pos q1, h.2.2.2.2.1]
    by_cases q2 : 0 ≤ v
    · rw [if_pos q2, wr]
      exact ⟨m', rfl, bd44 g2⟩
    · rw [if_neg q2]
      unfold zJ42_102
      by_cases q3 : pat = true ∧ 4 ≤ q
      · rw [q3.1, if_neg (by decide), h.2.2.2.2.2.2.1, if_neg (show ¬ q < 4 by omega), wr]
        exact ⟨m', rfl, bd44 g2⟩
      · have h9 : d = 9 := by
          rcases hb with z | z | z | z
          · exact absurd q1 z
          · exact absurd z q2
          · exact absurd z q3
          · omega
        have go : ∃ m', zJ42_119 n (pb pat) m = some (0, m') ∧ BD T L (i + 1) m m' (w44x pat) := by
          unfold zJ42_119 zJ42_142
          rw [h.2.2.2.2.2.2.1, if_pos (show rg (q + 1) by omega), zlet]
          have g3 : kp (wl [(83, 33)]) m (z_i m 83 33 (q + 1)) := kp_i (kp_refl _ m) (by simp)
          obtain ⟨m2, x1, x2⟩ := op_no n ((z_i m 83 33 (q + 1)).1 83 32) (CU_kp h.1 g3 rfl (fun _ => rfl) rfl rfl rfl rfl) (show (z_i m 83 33 (q + 1)).1 83 27 = (d : Int) by rw [z_nk _ _ _ _ _ _ (by decide)]; exact h.2.1) h9
          rw [x1]
          dsimp only
          rw [if_pos rfl]
          exact ⟨m2, rfl, BD_kp x2 g3 (s8 _) (s33 _)⟩
        cases pat with
        | true =>
          rw [if_neg (by decide), h.2.2.2.2.2.2.1, if_pos (show q < 4 by have : ¬ 4 ≤ q := fun z => q3 ⟨rfl, z⟩; omega)]
          exact go
        | false =>
          rw [if_pos (by decide)]
          exact go
  · rw [if_neg q1, wr]
    exact ⟨m', rfl, bd44 g2⟩
theorem dol_rep (pat : Bool) (n : Nat) (hn : 200 ≤ n) (h : MR pat T L (i + 1, d, S, u, v, N, q, A) m) (hN : N < 128) (hq : 0 ≤ q ∧ q ≤ 1000) (hw : tc T L (i + 1) = 40) (hv0 : v < 0) (hq4 : ¬ (pat = true ∧ 4 ≤ q)) (h9 : d < 9) (hu : -1 ≤ u) :
    ∃ m', zF42 n (pb pat) m = some (1, m') ∧ MR pat T L (i + 2, d + 1, r_psh S d 40 N (i + 1 : Nat), (if u < 0 then (N : Int) else u), (if u < 0 then -1 else (N : Int)), N + 1, q + 1, r_add A N 4 0 0 u v i) m' ∧ kp (wl (w44x pat)) m m' := by
  have hv := tc_vt T L (i + 1) h.1.1.2.1
  have hs := srt_c _ hv
  have g3 : kp (wl [(83, 33)]) m (z_i m 83 33 (q + 1)) := kp_i (kp_refl _ m) (by simp)
  have hN2 : (z_i m 83 33 (q + 1)).1 83 32 = (N : Int) := by rw [z_nk _ _ _ _ _ _ (by decide)]; exact h.2.2.2.2.2.1
  obtain ⟨m2, x1, x2, x3, x4, x5⟩ := op_yes n hn N (CU_kp h.1 g3 rfl (fun _ => rfl) rfl rfl rfl rfl) (show (z_i m 83 33 (q + 1)).1 83 27 = (d : Int) by rw [z_nk _ _ _ _ _ _ (by decide)]; exact h.2.1) h9 (show 0 < tc T L (i + 1) by omega)
  have ax0 : AX pat (z_i m 83 33 (q + 1)) A N := AX_kp h.2.2.2.2.2.2.2 g3 (by
    intro c hc k
    cases pat <;> simp [ca] at hc <;> rcases hc with rfl | rfl | rfl | rfl | rfl | rfl | rfl <;> rfl)
  have hm : MR pat T L (i + 2, d + 1, r_psh S d 40 N (i + 1 : Nat), u, v, N, q + 1, A) m2 := by
    refine ⟨x2, x3, ?_, ?_, ?_, ?_, ?_, AX_kp ax0 x5 (ca_w37 pat)⟩
    · intro k hk
      have := x4 k (by show k ≤ d; have : k < d + 1 := hk; omega)
      rw [this.1, this.2]
      unfold r_psh
      by_cases e : k = d
      · subst e; simp [hw]
      · simp only [if_neg e]
        rw [z_nc _ _ _ _ _ _ (by decide), z_nc _ _ _ _ _ _ (by decide)]
        exact h.2.2.1 k (by have : k < d + 1 := hk; show k < d; omega)
    · rw [(x5.1 83 30 rfl).1, z_nk _ _ _ _ _ _ (by decide)]; exact h.2.2.2.1
    · rw [(x5.1 83 31 rfl).1, z_nk _ _ _ _ _ _ (by decide)]; exact h.2.2.2.2.1
    · rw [(x5.1 83 32 rfl).1]; exact hN2
    · rw [(x5.1 83 33 rfl).1, z_eq]
  obtain ⟨m3, f1, f2, f3⟩ := fin_add pat n 4 4 0 0 i hm hN (fun M => zJ42_164 n N M)
  have k4 : (if pat = true then (4 : Int) else 4) = 4 := by split <;> rfl
  rw [k4] at f2
  have hent : ∃ m4, zF38 n N m3 = some ((), m4) ∧ MR pat T L (i + 2, d + 1, r_psh S d 40 N (i + 1 : Nat), (if u < 0 then (N : Int) else u), (if u < 0 then -1 else (N : Int)), N + 1, q + 1, r_add A N 4 0 0 u v i) m4 ∧ kp (wl w38) m3 m4 := by
    have e : zF38 n N m3 = some ((), z_i (z_i m3 83 31 (if u < 0 then -1 else (N : Int))) 83 30 (if u < 0 then (N : Int) else u)) := by
      unfold zF38 zJ38_13 zJ38_32
      rw [f2.2.2.2.1]
      by_cases e : u < 0
      · simp only [if_pos e, zlet]
        rw [z_nk _ _ _ _ _ _ (by decide), f2.2.2.2.1, if_pos e]
      · simp only [if_neg e, zlet]
        rw [z_nk _ _ _ _ _ _ (by decide), f2.2.2.2.1, if_neg e]
    have k := zF38_kp n N m3 _ _ e
    refine ⟨_, e, ⟨CU_kp f2.1 k rfl (fun _ => rfl) rfl rfl rfl rfl, ?_, ?_, ?_, ?_, ?_, ?_, AX_kp f2.2.2.2.2.2.2.2 k ?_⟩, k⟩
    · rw [(k.1 83 27 rfl).1]; exact f2.2.1
    · intro k2 hk
      rw [(k.1 103 k2 rfl).1, (k.1 104 k2 rfl).1]; exact f2.2.2.1 k2 hk
    · rw [z_eq]
    · rw [z_nk _ _ _ _ _ _ (by decide), z_eq]
    · rw [(k.1 83 32 rfl).1]; exact f2.2.2.2.2.2.1
    · rw [(k.1 83 33 rfl).1]; exact f2.2.2.2.2.2.2.1
    · intro c hc j
      cases pat <;> simp [ca] at hc <;> rcases hc with rfl | rfl | rfl | rfl | rfl | rfl | rfl <;> rfl
  obtain ⟨m4, y1, y2, y3⟩ := hent
  refine ⟨m4, ?_, y2, kp_tr (kp_sub (s33 _) g3) (kp_tr (kp_sub (s37 _) x5) (kp_tr f3 (kp_sub (s38 _) y3)))⟩
  have hgo : zJ42_119 n (pb pat) m = some (1, m4) := by
    unfold zJ42_119
    rw [h.2.2.2.2.2.2.1, if_pos (show rg (q + 1) by omega), zlet, hN2, x1]
    dsimp only
    rw [if_neg (by decide)]
    unfold zJ42_144
    refine Eq.trans f1 ?_
    unfold zJ42_164
    rw [y1]
  unfold zF42
  rw [h.1.2.1, if_neg (fun z => by have := hs.2.2.2.2.1.mp z; omega), ic_eq n h.1 40 (by decide)]
  dsimp only
  rw [ib, if_pos hw, h.2.2.2.2.1, if_neg (show ¬ 0 ≤ v by omega)]
  unfold zJ42_102
  cases pat with
  | true =>
    rw [if_neg (by decide), h.2.2.2.2.2.2.1, if_pos (show q < 4 by have : ¬ 4 ≤ q := fun z => hq4 ⟨rfl, z⟩; omega)]
    exact hgo
  | false =>
    rw [if_pos (by decide)]
    exact hgo
end DOL
