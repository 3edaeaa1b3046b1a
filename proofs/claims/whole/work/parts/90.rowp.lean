/-! The reference's helpers at a token. -/
theorem ic_eq (n : Nat) {T : Nat → Int} {L i : Nat} {m : ZM} (h : CU T L i m) (c : Int) (hc : 33 ≤ c ∧ c ≤ 125) : zF31 n c m = some (bi (tc T L i = c), m) := by
  rw [zF31_eq]
  have hv := tc_vt T L i h.1.2.1
  have hs := srt_c (tc T L i) hv
  congr 2
  unfold bi
  by_cases q : tc T L i = c
  · rw [if_pos q, if_pos]
    rw [h.2.1, h.2.2.1 (by omega)]
    refine ⟨?_, ?_, q⟩
    · unfold srt; repeat' split
      all_goals omega
    · unfold srt; repeat' split
      all_goals omega
  · rw [if_neg q, if_neg]
    rintro ⟨a, b, e⟩
    rw [h.2.1] at a b
    have : 0 < tc T L i := by
      rcases hv with z | z | z
      · rw [z] at b; exact absurd b (by decide)
      · rw [z] at a; exact absurd a (by decide)
      · omega
    rw [h.2.2.1 this] at e
    exact q e
theorem ps_t (n : Nat) (hn : 200 ≤ n) {T : Nat → Int} {L i : Nat} {m : ZM} (h : CU T L i m) (x : Int) (hx : x ≠ 0) : ∃ m', zF30 n x m = some (1, m') ∧ CU T L (i + 1) m' ∧ kp (wl w28) m m' := by
  obtain ⟨m', e1, e2, e3⟩ := nx_cu n hn h
  refine ⟨m', ?_, e2, e3⟩
  unfold zF30
  rw [if_neg hx, e1]
/-- a fault at token i -/
def BD (T : Nat → Int) (L i : Nat) (m m' : ZM) (l : List (Nat × Nat)) : Prop := m'.1 83 8 = ts T L i ∧ kp (wl l) m m'
theorem wr_eq (n : Nat) {T : Nat → Int} {L i : Nat} {m : ZM} (h : CU T L i m) : ∃ m', zF29 n m = some (0, m') ∧ BD T L i m m' [(83, 8)] := ⟨_, zF29_eq n m, by rw [z_eq]; exact h.2.2.2.1, kp_i (kp_refl _ m) (by simp)⟩
theorem ps_f (n : Nat) {T : Nat → Int} {L i : Nat} {m : ZM} (h : CU T L i m) : ∃ m', zF30 n 0 m = some (0, m') ∧ BD T L i m m' [(83, 8)] := by
  obtain ⟨m', e1, e2⟩ := wr_eq n h
  refine ⟨m', ?_, e2⟩
  unfold zF30
  rw [if_pos rfl, e1]
  rfl
theorem BD_kp {T : Nat → Int} {L i : Nat} {a m m' : ZM} {l l1 l2 : List (Nat × Nat)} (h : BD T L i m m' l1) (g : kp (wl l2) a m) (h1 : ∀ p ∈ l1, p ∈ l) (h2 : ∀ p ∈ l2, p ∈ l) : BD T L i a m' l := ⟨h.1, kp_tr (kp_sub h2 g) (kp_sub h1 h.2)⟩
theorem op_no (n : Nat) (b : Int) {T : Nat → Int} {L i d : Nat} {m : ZM} (h : CU T L i m) (hd : m.1 83 27 = d) (h9 : d = 9) : ∃ m', zF37 n b m = some (0, m') ∧ BD T L i m m' [(83, 8)] := by
  obtain ⟨m', e1, e2⟩ := wr_eq n h
  refine ⟨m', ?_, e2⟩
  unfold zF37
  rw [hd, if_pos (by omega), if_neg (by omega), e1]
  rfl
theorem op_yes (n : Nat) (hn : 200 ≤ n) (b : Int) {T : Nat → Int} {L i d : Nat} {m : ZM} (h : CU T L i m) (hd : m.1 83 27 = d) (h9 : d < 9) (h0 : 0 < tc T L i) : ∃ m', zF37 n b m = some (1, m') ∧ CU T L (i + 1) m' ∧ m'.1 83 27 = ((d + 1 : Nat) : Int) ∧ (∀ k : Nat, k ≤ d → m'.1 103 k = (if k = d then tc T L i else m.1 103 k) ∧ m'.1 104 k = (if k = d then b else m.1 104 k)) ∧ kp (wl w37) m m' := by
  have g3 : kp (wl [(103, 1000), (104, 1000), (83, 27)]) m (z_i (z_i (z_i m 103 d (tc T L i)) 104 d b) 83 27 (d + 1)) := kp_i (kp_ia (kp_ia (kp_refl _ m) (by simp)) (by simp)) (by simp)
  have c3 := CU_kp h g3 rfl (fun _ => rfl) rfl rfl rfl rfl
  obtain ⟨m', e1, e2, e3⟩ := nx_cu n hn c3
  have e : zF37 n b m = some (1, m') := by
    unfold zF37 zJ37_29 zJ37_49
    rw [hd, if_pos (by omega), if_pos (by omega), if_neg (by omega), zlet, Int.toNat_natCast, h.2.2.1 h0, z_nc _ 103 _ _ 83 27 (by decide), hd, if_neg (by omega), zlet, Int.toNat_natCast, z_nc _ 104 _ _ 83 27 (by decide), z_nc _ 103 _ _ 83 27 (by decide), hd, if_pos (by omega), zlet, e1]
  refine ⟨m', e, e2, ?_, ?_, zF37_kp n b m _ _ e⟩
  · rw [(e3.1 83 27 rfl).1, z_eq, Int.natCast_add]; rfl
  · intro k hk
    rw [(e3.1 103 k rfl).1, (e3.1 104 k rfl).1, z_nc _ 83 _ _ 103 _ (by decide), z_nc _ 83 _ _ 104 _ (by decide), z_nc _ 104 _ _ 103 _ (by decide)]
    by_cases q : k = d
    · subst q
      rw [if_pos rfl, if_pos rfl, z_eq, z_eq]
      exact ⟨rfl, rfl⟩
    · rw [if_neg q, if_neg q, z_nk _ _ _ _ _ _ q, z_nk _ _ _ _ _ _ q, z_nk _ _ _ _ _ _ q]
      exact ⟨rfl, rfl⟩
/-- readMark -/
theorem mk_1 (n : Nat) (hn : 200 ≤ n) {T : Nat → Int} {L i : Nat} {m : ZM} (h : CU T L i m) (hc : tc T L i = 42 ∨ tc T L i = 43 ∨ tc T L i = 63) : ∃ m', zF40 n m = some (r_mk (tc T L i), m') ∧ CU T L (i + 1) m' ∧ kp (wl w40) m m' := by
  obtain ⟨m', e1, e2, e3⟩ := nx_cu n hn h
  have e : zF40 n m = some (r_mk (tc T L i), m') := by
    unfold zF40 zJ40_22 zJ40_26 zJ40_40
    rw [ic_eq n h 42 (by decide)]
    dsimp only
    rw [ic_eq n h 43 (by decide)]
    dsimp only
    rw [ic_eq n h 63 (by decide)]
    dsimp only
    rw [ib, ib, ib, e1]
    unfold r_mk
    rcases hc with z | z | z
    · rw [if_pos z, if_neg (by decide), if_pos z]
    · rw [if_neg (by omega), if_pos z, if_neg (by decide), if_neg (by omega), if_pos z]
    · rw [if_neg (by omega), if_neg (by omega), if_pos z, if_neg (by decide), if_neg (by omega), if_neg (by omega)]
  exact ⟨m', e, e2, zF40_kp n m _ _ e⟩
theorem mk_s (n : Nat) {T : Nat → Int} {L i : Nat} {m : ZM} (h : CU T L i m) (hc : ¬ (tc T L i = 42 ∨ tc T L i = 43 ∨ tc T L i = 63)) : zF40 n m = if 0 < tc T L i ∧ ¬ opn (tc T L i) ∧ ¬ cls (tc T L i) ∧ tc T L i ≠ 36 then zJ40_83 n (tc T L i) 1 m else zJ40_83 n (m.1 83 5) 0 m := by
  have hv := tc_vt T L i h.1.2.1
  unfold zF40 zJ40_26 zJ40_40
  rw [ic_eq n h 42 (by decide)]
  dsimp only
  rw [ic_eq n h 43 (by decide)]
  dsimp only
  rw [ic_eq n h 63 (by decide)]
  dsimp only
  rw [ib, ib, ib, if_neg (by omega), if_neg (by omega), if_neg (by omega), if_pos (by decide), zF19_eq]
  dsimp only
  rw [ib, ic_eq n h 36 (by decide)]
  dsimp only
  rw [ib]
  have hsr : (1 ≤ m.1 83 4 ∧ m.1 83 4 ≤ 3) ↔ (0 < tc T L i ∧ ¬ opn (tc T L i) ∧ ¬ cls (tc T L i)) := by
    rw [h.2.1]
    unfold srt
    repeat' split
    all_goals omega
  by_cases q : 0 < tc T L i ∧ ¬ opn (tc T L i) ∧ ¬ cls (tc T L i)
  · rw [if_pos (hsr.mpr q)]
    by_cases q2 : tc T L i = 36
    · rw [if_pos q2, if_neg (fun z => z.2.2.2 q2)]
      rfl
    · rw [if_neg q2, if_pos ⟨q.1, q.2.1, q.2.2, q2⟩, h.2.2.1 q.1]
  · rw [if_neg (fun z => q (hsr.mp z)), if_neg (fun z => q ⟨z.1, z.2.1, z.2.2.1⟩)]
    rfl
theorem mk_2 (n : Nat) (hn : 200 ≤ n) {T : Nat → Int} {L i : Nat} {m : ZM} (h : CU T L i m) (hc : ¬ (tc T L i = 42 ∨ tc T L i = 43 ∨ tc T L i = 63)) (hs : 0 < tc T L i ∧ ¬ opn (tc T L i) ∧ ¬ cls (tc T L i) ∧ tc T L i ≠ 36) (h2 : tc T L (i + 1) = 42 ∨ tc T L (i + 1) = 43) : ∃ m', zF40 n m = some (256 * tc T L i + r_mk (tc T L (i + 1)), m') ∧ CU T L (i + 2) m' ∧ kp (wl w40) m m' := by
  have hv := tc_vt T L i h.1.2.1
  obtain ⟨m1, a1, a2, a3⟩ := ps_t n hn h 1 (by decide)
  obtain ⟨m2, b1, b2, b3⟩ := ps_t n hn a2 1 (by decide)
  have e : zF40 n m = some (256 * tc T L i + r_mk (tc T L (i + 1)), m2) := by
    rw [mk_s n h hc, if_pos hs]
    unfold zJ40_83
    rw [a1]
    dsimp only
    rw [if_neg (by decide), ic_eq n a2 42 (by decide)]
    dsimp only
    rw [ib]
    unfold zJ40_100 zJ40_104
    rw [ic_eq n a2 43 (by decide)]
    dsimp only
    rw [ib]
    unfold zJ40_118 zJ40_129 zJ40_146 r_mk
    rcases h2 with z | z
    · rw [if_pos z, if_neg (by decide), b1, if_pos z]
      dsimp only
      rw [if_neg (by decide), if_pos (by omega)]
    · rw [if_neg (by omega), if_pos z, if_neg (by decide), b1, if_neg (by omega), if_pos z]
      dsimp only
      rw [if_neg (by decide), if_pos (by omega)]
  exact ⟨m2, e, b2, zF40_kp n m _ _ e⟩
theorem mk_f (n : Nat) (hn : 200 ≤ n) {T : Nat → Int} {L i : Nat} {m : ZM} (h : CU T L i m) (hc : ¬ (tc T L i = 42 ∨ tc T L i = 43 ∨ tc T L i = 63)) (h2 : ¬ (0 < tc T L i ∧ ¬ opn (tc T L i) ∧ ¬ cls (tc T L i) ∧ tc T L i ≠ 36) ) : ∃ m', zF40 n m = some (-1, m') ∧ BD T L i m m' w40 := by
  obtain ⟨m', e1, e2⟩ := ps_f n h
  have e : zF40 n m = some (-1, m') := by
    rw [mk_s n h hc, if_neg h2]
    unfold zJ40_83
    rw [e1]
    dsimp only
    rw [if_pos rfl]
  exact ⟨m', e, e2.1, zF40_kp n m _ _ e⟩
theorem mk_g (n : Nat) (hn : 200 ≤ n) {T : Nat → Int} {L i : Nat} {m : ZM} (h : CU T L i m) (hc : ¬ (tc T L i = 42 ∨ tc T L i = 43 ∨ tc T L i = 63)) (hs : 0 < tc T L i ∧ ¬ opn (tc T L i) ∧ ¬ cls (tc T L i) ∧ tc T L i ≠ 36) (h2 : ¬ (tc T L (i + 1) = 42 ∨ tc T L (i + 1) = 43)) : ∃ m', zF40 n m = some (-1, m') ∧ BD T L (i + 1) m m' w40 := by
  obtain ⟨m1, a1, a2, a3⟩ := ps_t n hn h 1 (by decide)
  obtain ⟨m2, b1, b2⟩ := ps_f n a2
  have e : zF40 n m = some (-1, m2) := by
    rw [mk_s n h hc, if_pos hs]
    unfold zJ40_83
    rw [a1]
    dsimp only
    rw [if_neg (by decide), ic_eq n a2 42 (by decide)]
    dsimp only
    rw [ib]
    unfold zJ40_100 zJ40_104
    rw [ic_eq n a2 43 (by decide)]
    dsimp only
    rw [ib]
    unfold zJ40_118 zJ40_129 zJ40_146
    rw [if_neg (fun z => h2 (Or.inl z)), if_neg (fun z => h2 (Or.inr z)), if_pos (by decide), b1]
    dsimp only
    rw [if_pos rfl]
  exact ⟨m2, e, b2.1, zF40_kp n m _ _ e⟩
