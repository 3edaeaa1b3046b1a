/-! The row of tokens of a text. -/
def tpo (T : Nat → Int) (L : Nat) : Nat → Nat
  | 0 => 0
  | i + 1 => tke T L (tpo T L i)
def tc (T : Nat → Int) (L i : Nat) : Int := tkc T L (tpo T L i)
def ts (T : Nat → Int) (L i : Nat) : Nat := sk T L (tpo T L i)
theorem tke_le (T : Nat → Int) (L p : Nat) (h : p ≤ L) : tke T L p ≤ L ∧ (p < tke T L p ∨ tke T L p = L) := by
  have hs := sk_le T L p
  unfold tke
  by_cases q : L ≤ sk T L p
  · rw [if_pos q]; omega
  · rw [if_neg q]
    by_cases q1 : ltr (T (sk T L p))
    · rw [if_pos q1]
      have a := rn_gt isl T L (sk T L p) (by omega) (decide_eq_true q1)
      have b := (rn_le isl T L (sk T L p)).2 (by omega)
      omega
    · rw [if_neg q1]
      by_cases q2 : dgt (T (sk T L p))
      · rw [if_pos q2]
        have a := rn_gt isd T L (sk T L p) (by omega) (decide_eq_true q2)
        have b := (rn_le isd T L (sk T L p)).2 (by omega)
        omega
      · rw [if_neg q2]; omega
theorem tpo_le (T : Nat → Int) (L : Nat) : ∀ i, tpo T L i ≤ L ∧ (i ≤ tpo T L i ∨ tpo T L i = L) := by
  intro i
  induction i with
  | zero => exact ⟨Nat.zero_le _, Or.inl (Nat.le_refl _)⟩
  | succ i ih =>
    rw [tpo]
    have := tke_le T L (tpo T L i) ih.1
    have hz : tpo T L i = L → tke T L (tpo T L i) = L := by
      intro e
      rcases this.2 with h | h
      · omega
      · exact h
    omega
theorem tc_end (T : Nat → Int) (L i : Nat) (h : L ≤ i) : tc T L i = 0 := by
  have := tpo_le T L i
  have e : tpo T L i = L := by omega
  unfold tc tkc
  rw [e]
  have := sk_le T L L
  rw [if_pos this.1]
theorem ts_end (T : Nat → Int) (L i : Nat) (h : tc T L i = 0) : ts T L i = L := by
  have h1 := tpo_le T L i
  have h2 := sk_le T L (tpo T L i)
  unfold ts
  unfold tc tkc at h
  by_cases q : L ≤ sk T L (tpo T L i)
  · omega
  · rw [if_neg q] at h
    by_cases q1 : ltr (T (sk T L (tpo T L i)))
    · rw [if_pos q1] at h
      have hall := rn_all isl T L _ (sk T L (tpo T L i)) (Nat.le_refl _)
      have hb := vl_27 T (sk T L (tpo T L i)) (rn isl T L (sk T L (tpo T L i)) - sk T L (tpo T L i)) (fun k hk => of_decide_eq_true (hall _ (by omega) (by omega)))
      split at h <;> omega
    · rw [if_neg q1] at h
      by_cases q2 : dgt (T (sk T L (tpo T L i)))
      · rw [if_pos q2] at h
        have hall := rn_all isd T L _ (sk T L (tpo T L i)) (Nat.le_refl _)
        have hb := vl_10 T (sk T L (tpo T L i)) (rn isd T L (sk T L (tpo T L i)) - sk T L (tpo T L i)) (fun k hk => of_decide_eq_true (hall _ (by omega) (by omega)))
        split at h <;> omega
      · rw [if_neg q2] at h
        split at h <;> omega
theorem tc_vt (T : Nat → Int) (L i : Nat) (hch : chs T L) : tc T L i = 0 ∨ tc T L i = -1 ∨ vt (tc T L i) := by
  have h1 := tpo_le T L i
  have h2 := sk_le T L (tpo T L i)
  unfold tc tkc
  by_cases q : L ≤ sk T L (tpo T L i)
  · rw [if_pos q]; exact Or.inl rfl
  · rw [if_neg q]
    have hc := hch (sk T L (tpo T L i)) (by omega)
    by_cases q1 : ltr (T (sk T L (tpo T L i)))
    · rw [if_pos q1]
      have hg := rn_gt isl T L (sk T L (tpo T L i)) (by omega) (decide_eq_true q1)
      have hall := rn_all isl T L _ (sk T L (tpo T L i)) (Nat.le_refl _)
      have hb := vl_27 T (sk T L (tpo T L i)) (rn isl T L (sk T L (tpo T L i)) - sk T L (tpo T L i)) (fun k hk => of_decide_eq_true (hall _ (by omega) (by omega)))
      split <;> omega
    · rw [if_neg q1]
      by_cases q2 : dgt (T (sk T L (tpo T L i)))
      · rw [if_pos q2]
        have hg := rn_gt isd T L (sk T L (tpo T L i)) (by omega) (decide_eq_true q2)
        have hall := rn_all isd T L _ (sk T L (tpo T L i)) (Nat.le_refl _)
        have hb := vl_10 T (sk T L (tpo T L i)) (rn isd T L (sk T L (tpo T L i)) - sk T L (tpo T L i)) (fun k hk => of_decide_eq_true (hall _ (by omega) (by omega)))
        split <;> omega
      · rw [if_neg q2]
        split <;> omega
/-- the reference stands before token i -/
def CU (T : Nat → Int) (L i : Nat) (m : ZM) : Prop := NT T L m ∧ m.1 83 4 = srt (tc T L i) ∧ (0 < tc T L i → m.1 83 5 = tc T L i) ∧ m.1 83 6 = ts T L i ∧ m.1 83 7 = tpo T L (i + 1)
theorem NT_kp {T : Nat → Int} {L : Nat} {m m' : ZM} {l : List (Nat × Nat)} (h : NT T L m) (g : kp (wl l) m m') (h1 : wl l 83 3 = false) (h2 : ∀ k, wl l 85 k = false) : NT T L m' := ⟨h.1, h.2.1, by rw [(g.1 83 3 h1).1]; exact h.2.2.1, fun k hk => by rw [(g.1 85 k (h2 k)).1]; exact h.2.2.2 k hk⟩
theorem CU_kp {T : Nat → Int} {L i : Nat} {m m' : ZM} {l : List (Nat × Nat)} (h : CU T L i m) (g : kp (wl l) m m') (h1 : wl l 83 3 = false) (h2 : ∀ k, wl l 85 k = false) (h4 : wl l 83 4 = false) (h5 : wl l 83 5 = false) (h6 : wl l 83 6 = false) (h7 : wl l 83 7 = false) : CU T L i m' :=
  ⟨NT_kp h.1 g h1 h2, by rw [(g.1 83 4 h4).1]; exact h.2.1, fun z => by rw [(g.1 83 5 h5).1]; exact h.2.2.1 z, by rw [(g.1 83 6 h6).1]; exact h.2.2.2.1, by rw [(g.1 83 7 h7).1]; exact h.2.2.2.2⟩
theorem nx_cu (n : Nat) (hn : 200 ≤ n) {T : Nat → Int} {L i : Nat} {m : ZM} (h : CU T L i m) : ∃ m', zF28 n m = some ((), m') ∧ CU T L (i + 1) m' ∧ kp (wl w28) m m' := by
  obtain ⟨m', e1, e2, e3, e4, e5⟩ := nx_eq n hn T L (tpo T L (i + 1)) m h.1 h.2.2.2.2 (tpo_le T L (i + 1)).1
  have g := zF28_kp n m _ _ e1
  exact ⟨m', e1, ⟨NT_kp h.1 g rfl (fun _ => rfl), e2, e3, e4, e5⟩, g⟩
/-- the class stands before token i -/
def CC (T : Nat → Int) (L i : Nat) (m : ZM) : Prop := CT T L m ∧ m.1 1 2 = tpo T L i
theorem CC_kp {T : Nat → Int} {L i : Nat} {m m' : ZM} {l : List (Nat × Nat)} (h : CC T L i m) (g : kp (wl l) m m') (h1 : wl l 1 1 = false) (h2 : wl l 1 2 = false) (h3 : ∀ k, wl l 2 k = false) : CC T L i m' :=
  ⟨⟨h.1.1, h.1.2.1, by rw [(g.1 1 1 h1).1]; exact h.1.2.2.1, fun k hk => by rw [(g.1 2 k (h3 k)).1]; exact h.1.2.2.2 k hk⟩, by rw [(g.1 1 2 h2).1]; exact h.2⟩
theorem rd_cc (n : Nat) (hn : 200 ≤ n) {T : Nat → Int} {L i : Nat} {m : ZM} (h : CC T L i m) : ∃ m', zF201 n m = some (tc T L i, m') ∧ CC T L (i + 1) m' ∧ m'.1 1 3 = ts T L i ∧ kp (wl w201) m m' := by
  obtain ⟨m', e1, e2, e3⟩ := rd_eq n hn (tpo T L i) m h.1 h.2 (tpo_le T L i).1
  have g := zF201_kp n m _ _ e1
  refine ⟨m', e1, ⟨⟨h.1.1, h.1.2.1, ?_, ?_⟩, e3⟩, e2, g⟩
  · rw [(g.1 1 1 rfl).1]; exact h.1.2.2.1
  · intro k hk
    rw [(g.1 2 k rfl).1]
    exact h.1.2.2.2 k hk
/-- readTyped -/
theorem ty_cp (n : Nat) (L : Nat) (hL : L ≤ 120) : ∀ (f i : Nat) (m : ZM), m.1 83 1 = L → i ≤ L → L - i < f → ∃ m2, zL32_10 n f i m = (zlet (z_i m2 83 1 0) (fun M3 => zlet (z_i M3 83 8 (-1)) (fun M4 => zJ32_46 n M4))) ∧ (∀ k : Nat, i ≤ k → k < L → m2.1 85 k = m.1 84 k) ∧ (∀ k : Nat, k < i → m2.1 85 k = m.1 85 k) ∧ kp (wl [(85, 1000)]) m m2 := by
  intro f
  induction f with
  | zero => intro i m _ _ hf; exact absurd hf (by omega)
  | succ f ih =>
    intro i m h1 hi hf
    rw [zL32_10, h1]
    by_cases q : i < L
    · rw [if_neg (by omega), if_neg (by omega), Int.toNat_natCast, zlet]
      unfold zJ32_30
      rw [if_pos (by omega)]
      obtain ⟨m2, e1, e2, e3, e4⟩ := ih (i + 1) (z_i m 85 i (m.1 84 i)) (by simp [z_i_rd, h1]) (by omega) (by omega)
      rw [Int.natCast_add] at e1
      refine ⟨m2, e1, ?_, ?_, kp_tr (kp_ia (kp_refl _ m) (by simp)) e4⟩
      · intro k hk1 hk2
        by_cases e : k = i
        · subst e
          rw [e3 k (by omega), z_eq]
        · rw [e2 k (by omega) hk2, z_nc _ _ _ _ _ _ (by decide)]
      · intro k hk
        rw [e3 k (by omega), z_nk _ _ _ _ _ _ (by omega)]
    · rw [if_pos (by omega)]
      exact ⟨m, rfl, fun k h1 h2 => by omega, fun k _ => rfl, kp_refl _ m⟩
theorem rty_eq (n : Nat) (hn : 200 ≤ n) (T : Nat → Int) (L : Nat) (m : ZM) (hL : L ≤ 120) (hch : chs T L) (h1 : m.1 83 1 = L) (hT : ∀ k : Nat, k < L → m.1 84 k = T k) :
    ∃ m', zF32 n m = some ((), m') ∧ CU T L 0 m' ∧ m'.1 83 1 = 0 ∧ m'.1 83 8 = -1 ∧ kp (wl w32) m m' := by
  unfold zF32
  rw [zlet]
  obtain ⟨m2, e1, e2, e3, e4⟩ := ty_cp n L hL n 0 (z_i m 83 3 (m.1 83 1)) (by simp [z_i_rd, h1]) (by omega) (by omega)
  rw [Int.natCast_zero] at e1
  rw [e1]
  rw [zlet, zlet]
  unfold zJ32_46
  rw [zlet]
  have f3 : m2.1 83 3 = L := by rw [(e4.1 83 3 rfl).1]; simp [z_i_rd, h1]
  have fT : ∀ k : Nat, k < L → m2.1 85 k = T k := by
    intro k hk
    rw [e2 k (by omega) hk, z_nc _ _ _ _ _ _ (by decide), hT k hk]
  obtain ⟨m', g1, g2, g3, g4, g5⟩ := nx_eq n hn T L 0 (z_i (z_i (z_i m2 83 1 0) 83 8 (-1)) 83 7 0) ⟨hL, hch, by simp [z_i_rd, f3], fun k hk => by simp [z_i_rd, fT k hk]⟩ (by simp [z_i_rd]) (by omega)
  rw [g1]
  have hk := zF28_kp n _ _ _ g1
  refine ⟨m', rfl, ⟨⟨hL, hch, ?_, ?_⟩, g2, g3, g4, g5⟩, ?_, ?_, ?_⟩
  · rw [(hk.1 83 3 rfl).1]; simp [z_i_rd, f3]
  · intro k hk2
    rw [(hk.1 85 k rfl).1]
    simp [z_i_rd, fT k hk2]
  · rw [(hk.1 83 1 rfl).1]; simp [z_i_rd]
  · rw [(hk.1 83 8 rfl).1]; simp [z_i_rd]
  · refine kp_tr ?_ (kp_sub (by simp [w28, w32]) hk)
    refine kp_i (kp_i (kp_i (kp_tr (kp_i (kp_refl _ m) ?_) (kp_sub ?_ e4)) ?_) ?_) ?_ <;> simp [w32]
