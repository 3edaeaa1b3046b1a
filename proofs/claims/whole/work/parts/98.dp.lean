/-! define, both sides. -/
def wdf (c : Nat) : List (Nat × Nat) := [(0, 5), (1, 1), (1, 2), (1, 3)] ++ (wr7 (41 + 7 * c) ++ w90)
theorem wdf_n {c a k : Nat} (h : (12 ≤ a ∧ a < 41 + 7 * c) ∨ 41 + 7 * c + 7 ≤ a) : wl (wdf c) a k = false := by
  unfold wl wdf wr7 wre wrd w90
  simp
  omega
theorem m_pl_c (c : Nat) (h : c ≤ 5) : m_pl c = some (41 + 7 * c) ∧ isD (41 + 7 * c) := by
  obtain rfl | rfl | rfl | rfl | rfl | rfl : c = 0 ∨ c = 1 ∨ c = 2 ∨ c = 3 ∨ c = 4 ∨ c = 5 := by omega
  all_goals exact ⟨rfl, by unfold isD; omega⟩
theorem w58_lo {a k : Nat} (h : a < 83) : wl w58 a k = false := by
  unfold wl w58
  simp
  omega
theorem op_def (n : Nat) (hn : 200000 ≤ n) (L : Nat) (T : Nat → Int) (m : ZM) (hX : TX L T m) (hq : q34 m) (hF : DFS m) :
    ∃ r m1 m2 c, zF2 n m = some (r, m1) ∧ zF58 n m1 = some (r, m2) ∧ TX 0 T m2 ∧ q34 m2 ∧ DFS m2 ∧ kp (wl (wdf c)) m m1 ∧ kp (wl w58) m1 m2 ∧ c ≤ 5 := by
  obtain ⟨c, hc, c1, c2, c3⟩ := hF
  obtain ⟨x1, x2, x3, x4, x5, x6⟩ := hX
  obtain ⟨pl1, hb⟩ := m_pl_c c hc
  have hge := isD_ge hb
  have hch : chs T L := fun k hk => (x6 k hk).2.2
  have hcc : CC T L 0 m := ⟨⟨x1, hch, x2, fun k hk => (x6 k hk).1⟩, x3⟩
  have st : ∀ v m', zF127 n (41 + 7 * c) m = some (v, m') → zF2 n m = zJ2_23 n (41 + 7 * c) v m' := by
    intro v m' e
    unfold zF2
    rw [c1, if_neg (by omega), Int.toNat_natCast, pl1]
    dsimp only
    rw [if_pos hb, e]
  have st2 : ∀ v m', zJ2_23 n (41 + 7 * c) v m' = if v = -1 then (match zF90 n (41 + 7 * c) (z_i (z_i (z_i m' 1 1 0) 1 2 0) 1 3 0) with | some (v12, M13) => (zJ2_48 n v12 M13) | none => none) else (if rg (-1 - v) then some (-1 - v, z_i (z_i (z_i m' 1 1 0) 1 2 0) 1 3 0) else none) := by
    intro v m'
    unfold zJ2_23 zF198
    rw [zlet, zlet, zlet] <;> rfl
  have fin : ∀ (r : Int) (m1 : ZM) (Y : Nat → Nat → Int), zF2 n m = some (r, m1) → q34 m1 → kp (wl (wdf c)) m m1 → m1.1 1 1 = 0 → m1.1 1 2 = 0 → m1.1 1 3 = 0 →
      ((dfn (tc T L)).1 = 2 → ∀ u : Nat, u < (dfn (tc T L)).2.2 → RM (tc T L) (armst (tc T L) u) Y) →
      (((dfn (tc T L)).1 = 1 ∧ r = -1 - (ts T L (dfn (tc T L)).2.1 : Int) ∧ m1.1 0 5 = c) ∨
       ((dfn (tc T L)).1 = 2 ∧ ∃ r0, ckd (tc T L) (dfn (tc T L)).2.2 r0 ∧ ((r0 ≠ 0 ∧ r = r0 ∧ m1.1 0 5 = c) ∨ (r0 = 0 ∧ c = 5 ∧ r = -1004 ∧ m1.1 0 5 = c) ∨ (r0 = 0 ∧ c < 5 ∧ r = (c : Int) + 1 ∧ m1.1 0 5 = (c : Int) + 1 ∧ GD (41 + 7 * c) T L Y m1)))) →
      ∃ r m1 m2 c, zF2 n m = some (r, m1) ∧ zF58 n m1 = some (r, m2) ∧ TX 0 T m2 ∧ q34 m2 ∧ DFS m2 ∧ kp (wl (wdf c)) m m1 ∧ kp (wl w58) m1 m2 ∧ c ≤ 5 := by
    intro r m1 Y e1 q1 g1 t1 t2 t3 hR hr
    obtain ⟨r', m2, f1, f2, f3, f4⟩ := m58 hn m1 x1 hch (by rw [(g1.1 83 1 (wdf_n (by omega))).1]; exact x5) (fun k hk => by rw [(g1.1 84 k (wdf_n (by omega))).1]; exact (x6 k hk).2.1) c hc (by rw [(g1.1 83 9 (wdf_n (by omega))).1]; exact c2) Y hR
    have g2 := zF58_kp n m1 _ _ f1
    have s1 : SL c m m1 := SL_kp g1 hc (fun k => wdf_n (by omega)) (fun k => wdf_n (by omega)) (fun k _ => wdf_n (by omega)) (fun k _ => wdf_n (by omega))
    have s2 := SL_tr s1 f3
    have lo : ∀ a k : Nat, a < 83 → m2.1 a k = m1.1 a k := fun a k ha => (g2.1 a k (w58_lo ha)).1
    have hx : TX 0 T m2 := ⟨by omega, by rw [lo 1 1 (by decide)]; exact t1, by rw [lo 1 2 (by decide)]; exact t2, by rw [lo 1 3 (by decide)]; exact t3, f2, fun k hk => by omega⟩
    have hq2 : q34 m2 := by unfold q34; rw [lo 3 4 (by decide)]; exact q1
    have old : ∀ d : Nat, d < c → DF d m2 := by
      intro d hd
      obtain ⟨T', L', Y', h1, h2⟩ := c3 d hd
      refine ⟨T', L', Y', GD_kp (GD_kp h1 g1 (fun a k p1 p2 => wdf_n (by omega))) g2 (fun a k p1 p2 => w58_lo (by omega)), KT_SL h2 h1.1 s2 hd⟩
    have same : m1.1 0 5 = c → m2.1 83 9 = c → DFS m2 := fun p1 p2 => ⟨c, hc, by rw [lo 0 5 (by decide)]; exact p1, p2, old⟩
    rcases hr with ⟨a1, a2, a3⟩ | ⟨a1, r0, a2, a3⟩
    · rcases f4 with ⟨b1, b2, b3⟩ | ⟨b1, _⟩
      · exact ⟨r, m1, m2, c, e1, by rw [f1, a2, b2], hx, hq2, same a3 b3, g1, g2, hc⟩
      · omega
    · rcases f4 with ⟨b1, _⟩ | ⟨b1, r0', b2, b3⟩
      · omega
      · have := ckd_fun a2 b2
        subst this
        rcases a3 with ⟨a3, a4, a5⟩ | ⟨a3, a4, a5, a6⟩ | ⟨a3, a4, a5, a6, a7⟩ <;> rcases b3 with ⟨b3, b4, b5⟩ | ⟨b3, b4, b5, b6⟩ | ⟨b3, b4, b5, b6, b7⟩
        · exact ⟨r, m1, m2, c, e1, by rw [f1, a4, b4], hx, hq2, same a5 b5, g1, g2, hc⟩
        · exact absurd b3 a3
        · exact absurd b3 a3
        · exact absurd a3 b3
        · exact ⟨r, m1, m2, c, e1, by rw [f1, a5, b5], hx, hq2, same a6 b6, g1, g2, hc⟩
        · omega
        · exact absurd a3 b3
        · omega
        · refine ⟨r, m1, m2, c, e1, by rw [f1, a5, b5], hx, hq2, ⟨c + 1, by omega, by rw [lo 0 5 (by decide), a6]; omega, by rw [b6]; omega, fun d hd => ?_⟩, g1, g2, hc⟩
          by_cases z : d = c
          · subst z
            exact ⟨T, L, Y, GD_kp a7 g2 (fun a k p1 p2 => w58_lo (by omega)), b7⟩
          · exact old d (by omega)
  have sub1 : ∀ p ∈ wr7 (41 + 7 * c), p ∈ wdf c := fun p hp => List.mem_append_right _ (List.mem_append_left _ hp)
  have sub2 : ∀ p ∈ w90, p ∈ wdf c := fun p hp => List.mem_append_right _ (List.mem_append_right _ hp)
  have clr : ∀ m', kp (wl (wdf c)) m m' → kp (wl (wdf c)) m (z_i (z_i (z_i m' 1 1 0) 1 2 0) 1 3 0) := fun m' g => kp_i (kp_i (kp_i g (by simp [wdf])) (by simp [wdf])) (by simp [wdf])
  have qcl : ∀ m', q34 m' → q34 (z_i (z_i (z_i m' 1 1 0) 1 2 0) 1 3 0) := fun m' h => by
    unfold q34
    rw [z_nc _ _ _ _ _ _ (by decide), z_nc _ _ _ _ _ _ (by decide), z_nc _ _ _ _ _ _ (by decide)]
    exact h
  rcases rd_127 n (by omega) T L (41 + 7 * c) hb m hcc hq with ⟨d1, m', e1, e2, e3⟩ | ⟨d1, m', Y, e1, e2, e3, e4, e5, e6, e7, e8⟩
  · have hts := (show (ts T L (dfn (tc T L)).2.1) ≤ L from (sk_le T L _).2 (tpo_le T L _).1)
    refine fin (-1 - (ts T L (dfn (tc T L)).2.1 : Int)) (z_i (z_i (z_i m' 1 1 0) 1 2 0) 1 3 0) (fun _ _ => 0) ?_ (qcl m' e2) (clr m' (kp_sub sub1 e3)) ?_ ?_ ?_ (fun h2 => by omega) (Or.inl ⟨d1, rfl, ?_⟩)
    · rw [st _ _ e1, st2, if_neg (by omega), if_pos (by omega)]
    · rw [z_nk _ _ _ _ _ _ (by decide), z_nk _ _ _ _ _ _ (by decide), z_eq]
    · rw [z_nk _ _ _ _ _ _ (by decide), z_eq]
    · rw [z_eq]
    · rw [z_nc _ _ _ _ _ _ (by decide), z_nc _ _ _ _ _ _ (by decide), z_nc _ _ _ _ _ _ (by decide), (e3.1 0 5 (by unfold wl wr7 wre wrd; simp)).1]
      exact c1
  · obtain ⟨m9, hm9⟩ : ∃ m9, m9 = z_i (z_i (z_i m' 1 1 0) 1 2 0) 1 3 0 := ⟨_, rfl⟩
    have k9 : kp (wl [(1, 1), (1, 2), (1, 3)]) m' m9 := by
      rw [hm9]
      exact kp_i (kp_i (kp_i (kp_refl _ m') (by simp)) (by simp)) (by simp)
    have d9 := DM_kp e4 k9 (fun a k p1 p2 => by unfold wl; simp; omega)
    obtain ⟨r0, m13, f1, f2, f3, f4⟩ := c90 (n := n) (by omega) hb d9 e8
    have g13 : kp (wl (wdf c)) m m13 := by
      have := clr m' (kp_sub sub1 e3)
      rw [← hm9] at this
      exact kp_tr this (kp_sub sub2 f3)
    have w90_1 : ∀ a k : Nat, a < 8 → wl w90 a k = false := fun a k ha => by
      unfold wl w90
      simp
      omega
    have z1 : m13.1 1 1 = 0 ∧ m13.1 1 2 = 0 ∧ m13.1 1 3 = 0 := by
      rw [(f3.1 1 1 (w90_1 _ _ (by decide))).1, (f3.1 1 2 (w90_1 _ _ (by decide))).1, (f3.1 1 3 (w90_1 _ _ (by decide))).1, hm9]
      rw [z_nk _ _ _ _ _ _ (by decide), z_nk _ _ _ _ _ _ (by decide), z_eq, z_nk _ _ _ _ _ _ (by decide), z_eq, z_eq]
      exact ⟨rfl, rfl, rfl⟩
    have q13 : q34 m13 := by
      have := qcl m' e2
      rw [← hm9] at this
      unfold q34
      rw [(f3.1 3 4 (w90_1 _ _ (by decide))).1]
      exact this
    have n13 : m13.1 0 5 = c := by
      rw [(f3.1 0 5 (w90_1 _ _ (by decide))).1, (k9.1 0 5 rfl).1, (e3.1 0 5 (by unfold wl wr7 wre wrd; simp)).1]
      exact c1
    have s2 : zF2 n m = zJ2_48 n r0 m13 := by
      rw [st _ _ e1, st2, if_pos rfl, ← hm9, f1]
    have hR : (dfn (tc T L)).1 = 2 → ∀ u : Nat, u < (dfn (tc T L)).2.2 → RM (tc T L) (armst (tc T L) u) Y := fun _ u hu => (e8 u hu).1
    by_cases q0 : r0 = 0
    · by_cases q5 : c = 5
      · refine fin (-1004) m13 Y ?_ q13 g13 z1.1 z1.2.1 z1.2.2 hR (Or.inr ⟨d1, r0, f2, Or.inr (Or.inl ⟨q0, q5, rfl, n13⟩)⟩)
        rw [s2]
        unfold zJ2_48
        rw [if_pos q0, n13, if_neg (by omega)]
      · refine fin ((c : Int) + 1) (z_i m13 0 5 ((c : Int) + 1)) Y ?_ ?_ (kp_i g13 (by simp [wdf])) ?_ ?_ ?_ hR (Or.inr ⟨d1, r0, f2, Or.inr (Or.inr ⟨q0, by omega, rfl, z_eq _ _ _ _, ?_⟩)⟩)
        · rw [s2]
          unfold zJ2_48 zJ2_76
          rw [if_pos q0, n13, if_pos (by omega), if_pos (by omega), zlet, z_eq]
        · unfold q34
          rw [z_nc _ _ _ _ _ _ (by decide)]
          exact q13
        · rw [z_nc _ _ _ _ _ _ (by decide)]; exact z1.1
        · rw [z_nc _ _ _ _ _ _ (by decide)]; exact z1.2.1
        · rw [z_nc _ _ _ _ _ _ (by decide)]; exact z1.2.2
        · have hall : ∀ u : Nat, u < (dfn (tc T L)).2.2 → ckr (tc T L) (armst (tc T L) u) 0 := by
            rcases f2 with ⟨_, p⟩ | ⟨p, _⟩
            · exact p
            · exact absurd q0 p
          exact ⟨x1, hch, d1, DM_kp f4 (kp_i (kp_refl (wl [(0, 5)]) m13) (by simp)) (fun a k p1 p2 => by unfold wl; simp; omega), e5, e6, e7, fun u hu => ⟨(e8 u hu).1, (e8 u hu).2, hall u hu⟩⟩
    · refine fin r0 m13 Y ?_ q13 g13 z1.1 z1.2.1 z1.2.2 hR (Or.inr ⟨d1, r0, f2, Or.inl ⟨q0, rfl, n13⟩⟩)
      rw [s2]
      unfold zJ2_48
      rw [if_neg q0]
