/-! define -/
/-- the class's definition b is what text T says, and it has passed its checks -/
def GD (b : Nat) (T : Nat → Int) (L : Nat) (Y : Nat → Nat → Int) (m : ZM) : Prop :=
  L ≤ 120 ∧ chs T L ∧ (dfn (tc T L)).1 = 2 ∧ DM b (dfn (tc T L)).2.1 (dfn (tc T L)).2.2 (tc T L) Y (armst (tc T L)) m ∧ 0 < (dfn (tc T L)).2.2 ∧ 1 ≤ (dfn (tc T L)).2.1 ∧ wd (tc T L 0) ∧
  ∀ u : Nat, u < (dfn (tc T L)).2.2 → RM (tc T L) (armst (tc T L) u) Y ∧ (armB (tc T L) (armst (tc T L) u)).2.1 ≤ (dfn (tc T L)).2.1 ∧ ckr (tc T L) (armst (tc T L) u) 0
/-- the reference keeps text T as definition d -/
def KT (d : Nat) (T : Nat → Int) (L : Nat) (m : ZM) : Prop := m.1 87 d = L ∧ (∀ k : Nat, k < L → m.1 86 (120 * d + k) = T k) ∧ m.1 88 d = tc T L 0 ∧ m.1 89 d = (dfn (tc T L)).2.2
def DF (d : Nat) (m : ZM) : Prop := ∃ T L Y, GD (41 + 7 * d) T L Y m ∧ KT d T L m
def DFS (m : ZM) : Prop := ∃ c : Nat, c ≤ 5 ∧ m.1 0 5 = c ∧ m.1 83 9 = c ∧ ∀ d : Nat, d < c → DF d m
/-- slots below c are kept -/
def SL (c : Nat) (m m' : ZM) : Prop := ∀ d : Nat, d < c → m'.1 87 d = m.1 87 d ∧ m'.1 88 d = m.1 88 d ∧ m'.1 89 d = m.1 89 d ∧ ∀ k : Nat, k < 120 → m'.1 86 (120 * d + k) = m.1 86 (120 * d + k)
theorem SL_tr {c : Nat} {m m1 m2 : ZM} (h : SL c m m1) (h' : SL c m1 m2) : SL c m m2 := by
  intro d hd
  obtain ⟨a1, a2, a3, a4⟩ := h d hd
  obtain ⟨b1, b2, b3, b4⟩ := h' d hd
  exact ⟨b1.trans a1, b2.trans a2, b3.trans a3, fun k hk => (b4 k hk).trans (a4 k hk)⟩
theorem SL_kp {c : Nat} {m m' : ZM} {l : List (Nat × Nat)} (g : kp (wl l) m m') (hc : c ≤ 5) (h6 : ∀ k, wl l 86 k = false) (h7 : ∀ k, wl l 87 k = false) (h8 : ∀ k, k < 5 → wl l 88 k = false) (h9 : ∀ k, k < 5 → wl l 89 k = false) : SL c m m' := by
  intro d hd
  exact ⟨(g.1 87 d (h7 d)).1, (g.1 88 d (h8 d (by omega))).1, (g.1 89 d (h9 d (by omega))).1, fun k _ => (g.1 86 _ (h6 _)).1⟩
theorem KT_SL {c d : Nat} {T : Nat → Int} {L : Nat} {m m' : ZM} (h : KT d T L m) (hL : L ≤ 120) (hs : SL c m m') (hd : d < c) : KT d T L m' := by
  obtain ⟨a1, a2, a3, a4⟩ := hs d hd
  exact ⟨a1.trans h.1, fun k hk => (a4 k (by omega)).trans (h.2.1 k hk), a2.trans h.2.2.1, a3.trans h.2.2.2⟩
theorem GD_kp {b : Nat} {T : Nat → Int} {L : Nat} {Y : Nat → Nat → Int} {m m' : ZM} {l : List (Nat × Nat)} (h : GD b T L Y m) (g : kp (wl l) m m') (hl : ∀ c k, b ≤ c → c ≤ b + 6 → wl l c k = false) : GD b T L Y m' := by
  obtain ⟨a1, a2, a3, a4, a5⟩ := h
  exact ⟨a1, a2, a3, DM_kp a4 g hl, a5⟩
section
variable {T : Nat → Int} {L : Nat} {n : Nat}
def w34x : List (Nat × Nat) := [(83, 7)] ++ w28 ++ w45x
theorem m34 (hn : 200 ≤ n) (m : ZM) (hT : NT T L m) (hd : (dfn (tc T L)).1 = 2) (u : Nat) (hu : u < (dfn (tc T L)).2.2) : ∃ m', zF34 n u m = some (1, m') ∧ AA (tc T L) (armst (tc T L) u) m' ∧ kp (wl w34x) m m' := by
  have g0 : kp (wl w34x) m (z_i m 83 7 0) := kp_i (kp_refl _ m) (by simp [w34x])
  have hT1 : NT T L (z_i m 83 7 0) := ⟨hT.1, hT.2.1, by rw [z_nk _ _ _ _ _ _ (by decide)]; exact hT.2.2.1, fun k hk => by rw [z_nc _ _ _ _ _ _ (by decide)]; exact hT.2.2.2 k hk⟩
  obtain ⟨m1, e1, e2, e3, e4, e5⟩ := nx_eq n hn T L 0 (z_i m 83 7 0) hT1 (z_eq _ _ _ _) (by omega)
  have g1 := zF28_kp n _ _ _ e1
  have hC : CU T L 0 m1 := ⟨NT_kp hT1 g1 rfl (fun _ => rfl), e2, e3, e4, e5⟩
  obtain ⟨m2, f1, f2, f3⟩ := dfr_a n hn T L u m1 hC hd hu
  refine ⟨m2, ?_, f2, kp_tr g0 (kp_tr (kp_sub (by intro p hp; unfold w34x; exact List.mem_append_left _ (List.mem_append_right _ hp)) g1) (kp_sub (by intro p hp; unfold w34x; exact List.mem_append_right _ hp) f3))⟩
  unfold zF34
  rw [zlet, e1]
  dsimp only
  rw [f1]
  dsimp only
  rw [if_pos (Or.inr rfl)]
def wch : List (Nat × Nat) := w34x ++ w54
theorem wch_l {c k : Nat} (h : c < 83 ∨ c = 84 ∨ c = 85 ∨ c = 86 ∨ c = 87 ∨ (c = 88 ∧ k ≠ 5) ∨ (c = 89 ∧ k ≠ 5) ∨ (c = 83 ∧ (k = 1 ∨ k = 3 ∨ k = 9))) : wl wch c k = false := by
  unfold wl wch w34x w28 w45x w45y w44x w54
  simp
  omega
theorem m_arms (hn : 200000 ≤ n) (hd : (dfn (tc T L)).1 = 2) (Y : Nat → Nat → Int) (hR : ∀ u : Nat, u < (dfn (tc T L)).2.2 → RM (tc T L) (armst (tc T L) u) Y) (w : Int) : ∀ (f x : Nat) (m : ZM), NT T L m → (dfn (tc T L)).2.2 ≤ 3 → (dfn (tc T L)).2.2 + 2 ≤ x + f → x ≤ (dfn (tc T L)).2.2 → (∀ v : Nat, v < x → ckr (tc T L) (armst (tc T L) v) 0) →
    (∃ r m', r ≠ 0 ∧ zL58_36 n f (dfn (tc T L)).2.2 w x m = some (r, m') ∧ ckd (tc T L) (dfn (tc T L)).2.2 r ∧ kp (wl wch) m m') ∨ (∃ f' m', zL58_36 n f (dfn (tc T L)).2.2 w x m = zL58_36 n (f' + 1) (dfn (tc T L)).2.2 w (dfn (tc T L)).2.2 m' ∧ ckd (tc T L) (dfn (tc T L)).2.2 0 ∧ kp (wl wch) m m') := by
  intro f
  induction f with
  | zero => intro x m _ _ h1 h2; omega
  | succ f ih =>
    intro x m hT ha h1 h2 h3
    by_cases q : x = (dfn (tc T L)).2.2
    · rw [q] at h3 ⊢
      exact Or.inr ⟨f, m, rfl, Or.inl ⟨rfl, h3⟩, kp_refl _ m⟩
    · have hx : x < (dfn (tc T L)).2.2 := by omega
      obtain ⟨m1, e1, e2, e3⟩ := m34 (n := n) (by omega) m hT hd x hx
      have k1 : kp (wl wch) m m1 := kp_sub (fun p hp => List.mem_append_left _ hp) e3
      rcases m_chk hn (hR x hx) e2 (zL58_36 n f) (dfn (tc T L)).2.2 w x (by omega) with ⟨g1, g2⟩ | ⟨g1, r, m2, g2, g3, g4⟩
      · refine Or.inl ⟨-1000, m1, by decide, ?_, Or.inr ⟨by decide, x, hx, g2, h3⟩, k1⟩
        rw [zL58_36, if_neg (by omega), e1]
        dsimp only
        rw [g1]
        dsimp only
        rw [if_neg (by decide)]
        rfl
      · have k2 : kp (wl wch) m m2 := kp_tr k1 (kp_sub (fun p hp => List.mem_append_right _ hp) g4)
        have s1 : zL58_36 n (f + 1) (dfn (tc T L)).2.2 w x m = zJ58_58 n (zL58_36 n f) (dfn (tc T L)).2.2 w x m1 := by
          rw [zL58_36, if_neg (by omega), e1]
          dsimp only
          rw [g1]
          dsimp only
          rw [if_pos rfl]
        rw [s1, g2]
        by_cases q0 : r = 0
        · rw [if_pos q0]
          subst q0
          have := ih (x + 1) m2 (NT_kp hT k2 (wch_l (by omega)) (fun k => wch_l (by omega))) ha (by omega) (by omega) (fun v hv => by
            by_cases c : v = x
            · subst c; exact g3
            · exact h3 v (by omega))
          rw [show ((x + 1 : Nat) : Int) = (x : Int) + 1 by omega] at this
          rcases this with ⟨r, m', b1, b2, b3, b4⟩ | ⟨f', m', b2, b3, b4⟩
          · exact Or.inl ⟨r, m', b1, b2, b3, kp_tr k2 b4⟩
          · exact Or.inr ⟨f', m', b2, b3, kp_tr k2 b4⟩
        · rw [if_neg q0]
          exact Or.inl ⟨r, m2, q0, rfl, Or.inr ⟨q0, x, hx, g3, h3⟩, k2⟩
theorem m_cp (c : Nat) (hc : c < 5) (hL : L ≤ 120) : ∀ (f x : Nat) (m : ZM), m.1 83 3 = L → m.1 83 9 = c → (∀ k : Nat, k < L → m.1 85 k = T k) → (∀ k : Nat, k < x → m.1 86 (120 * c + k) = T k) → L + 1 ≤ x + f → x ≤ L →
    ∃ m', zL58_144 n f x m = some ((c : Int) + 1, m') ∧ m'.1 83 9 = (c : Int) + 1 ∧ (∀ k : Nat, k < L → m'.1 86 (120 * c + k) = T k) ∧ (∀ j : Nat, j < 120 * c → m'.1 86 j = m.1 86 j) ∧ (∀ a q : Nat, a ≠ 86 → (a = 83 → q ≠ 9) → m'.1 a q = m.1 a q) := by
  intro f
  induction f with
  | zero => intro x m _ _ _ _ h1 h2; omega
  | succ f ih =>
    intro x m h3 h9 h5 h6 h1 h2
    by_cases q : x = L
    · subst q
      refine ⟨z_i m 83 9 ((c : Int) + 1), ?_, z_eq _ _ _ _, fun k hk => by rw [z_nc _ _ _ _ _ _ (by decide)]; exact h6 k hk, fun j _ => z_nc _ _ _ _ _ _ (by decide), fun a q _ ha => by
        by_cases e : a = 83
        · exact z_nk _ _ _ _ _ _ (ha e)
        · exact z_nc _ _ _ _ _ _ e⟩
      rw [zL58_144, h3, if_pos (by omega), h9, if_pos (by omega), zlet, z_eq]
    · obtain ⟨m', b1, b2, b3, b4, b5⟩ := ih (x + 1) (z_i m 86 (120 * c + x) (T x)) (by rw [z_nc _ _ _ _ _ _ (by decide)]; exact h3) (by rw [z_nc _ _ _ _ _ _ (by decide)]; exact h9) (fun k hk => by rw [z_nc _ _ _ _ _ _ (by decide)]; exact h5 k hk) (fun k hk => by
        by_cases d : k = x
        · subst d; rw [z_eq]
        · rw [z_nk _ _ _ _ _ _ (by omega)]; exact h6 k (by omega)) (by omega) (by omega)
      refine ⟨m', ?_, b2, b3, fun j hj => by rw [b4 j hj, z_nk _ _ _ _ _ _ (by omega)], fun a q ha ha' => by rw [b5 a q ha ha', z_nc _ _ _ _ _ _ ha]⟩
      rw [zL58_144, h3, if_neg (by omega), if_neg (by omega), h9, if_pos (by omega), if_neg (by omega), zlet, Int.toNat_natCast, h5 x (by omega), show (120 * (c : Int) + x).toNat = 120 * c + x by omega]
      unfold zJ58_172
      rw [if_pos (by omega)]
      rw [show ((x + 1 : Nat) : Int) = (x : Int) + 1 by omega] at b1
      exact b1
/-- the reference's define -/
theorem m58 (hn : 200000 ≤ n) (m : ZM) (hL : L ≤ 120) (hch : chs T L) (h1 : m.1 83 1 = L) (hT : ∀ k : Nat, k < L → m.1 84 k = T k) (c : Nat) (hc : c ≤ 5) (h9 : m.1 83 9 = c) (Y : Nat → Nat → Int) (hR : (dfn (tc T L)).1 = 2 → ∀ u : Nat, u < (dfn (tc T L)).2.2 → RM (tc T L) (armst (tc T L) u) Y) :
    ∃ r m', zF58 n m = some (r, m') ∧ m'.1 83 1 = 0 ∧ SL c m m' ∧
      (((dfn (tc T L)).1 = 1 ∧ r = -1 - (ts T L (dfn (tc T L)).2.1 : Int) ∧ m'.1 83 9 = c) ∨
       ((dfn (tc T L)).1 = 2 ∧ ∃ r0, ckd (tc T L) (dfn (tc T L)).2.2 r0 ∧ ((r0 ≠ 0 ∧ r = r0 ∧ m'.1 83 9 = c) ∨ (r0 = 0 ∧ c = 5 ∧ r = -1004 ∧ m'.1 83 9 = c) ∨ (r0 = 0 ∧ c < 5 ∧ r = (c : Int) + 1 ∧ m'.1 83 9 = (c : Int) + 1 ∧ KT c T L m')))) := by
  obtain ⟨m1, a1, a2, a3, a4, a5⟩ := rty_eq n (by omega) T L m hL hch h1 hT
  have s1 : SL c m m1 := SL_kp a5 hc (fun k => by unfold wl w32; simp) (fun k => by unfold wl w32; simp) (fun k _ => by unfold wl w32; simp) (fun k _ => by unfold wl w32; simp)
  have n1 : m1.1 83 9 = c := by rw [(a5.1 83 9 rfl).1]; exact h9
  have w45_l : ∀ a k : Nat, a = 86 ∨ a = 87 ∨ (a = 88 ∧ k ≠ 5) ∨ (a = 89 ∧ k ≠ 5) ∨ (a = 83 ∧ (k = 1 ∨ k = 9 ∨ k = 3)) ∨ a = 85 → wl w45x a k = false := fun a k hk => by
    unfold wl w45x w45y w44x
    simp
    omega
  have s45 : ∀ m2, kp (wl w45x) m1 m2 → SL c m1 m2 := fun m2 g => SL_kp g hc (fun k => w45_l _ _ (by omega)) (fun k => w45_l _ _ (by omega)) (fun k _ => w45_l _ _ (by omega)) (fun k _ => w45_l _ _ (by omega))
  rcases dfr_m n (by omega) T L m1 a2 with ⟨d1, m2, e1, e2, e3⟩ | ⟨d1, d2, d3, d4, m2, e1, e2, e4, e3⟩
  · refine ⟨-1 - (ts T L (dfn (tc T L)).2.1 : Int), m2, ?_, by rw [(e3.1 83 1 (w45_l _ _ (by omega))).1]; exact a3, SL_tr s1 (s45 m2 e3), Or.inl ⟨d1, rfl, by rw [(e3.1 83 9 (w45_l _ _ (by omega))).1]; exact n1⟩⟩
    have hts := (show (ts T L (dfn (tc T L)).2.1) ≤ L from (sk_le T L _).2 (tpo_le T L _).1)
    unfold zF58
    rw [a1]
    dsimp only
    rw [e1]
    dsimp only
    rw [if_pos rfl]
    unfold zJ58_13
    rw [e2, if_pos (by omega)]
  · have s2 := SL_tr s1 (s45 m2 e3)
    have n2 : m2.1 83 9 = c := by rw [(e3.1 83 9 (w45_l _ _ (by omega))).1]; exact n1
    have z2 : m2.1 83 1 = 0 := by rw [(e3.1 83 1 (w45_l _ _ (by omega))).1]; exact a3
    have t2 : NT T L m2 := NT_kp a2.1 e3 (w45_l _ _ (by omega)) (fun k => w45_l _ _ (by omega))
    have st : zF58 n m = zL58_36 n n (dfn (tc T L)).2.2 (tc T L 0) ((0 : Nat) : Int) m2 := by
      unfold zF58
      rw [a1]
      dsimp only
      rw [e1]
      dsimp only
      rw [if_neg (by decide)]
      unfold zJ58_20
      rw [e2, e4]
      rfl
    have sch : ∀ m3, kp (wl wch) m2 m3 → SL c m2 m3 := fun m3 g => SL_kp g hc (fun k => wch_l (by omega)) (fun k => wch_l (by omega)) (fun k _ => wch_l (by omega)) (fun k _ => wch_l (by omega))
    rcases m_arms hn d1 Y (hR d1) (tc T L 0) n 0 m2 t2 d3 (by omega) (by omega) (fun v hv => by omega) with ⟨r, m3, f1, f2, f3, f4⟩ | ⟨f', m3, f2, f3, f4⟩
    · refine ⟨r, m3, by rw [st]; exact f2, by rw [(f4.1 83 1 (wch_l (by omega))).1]; exact z2, SL_tr s2 (sch m3 f4), Or.inr ⟨d1, r, f3, Or.inl ⟨f1, rfl, by rw [(f4.1 83 9 (wch_l (by omega))).1]; exact n2⟩⟩⟩
    · have s3 := SL_tr s2 (sch m3 f4)
      have n3 : m3.1 83 9 = c := by rw [(f4.1 83 9 (wch_l (by omega))).1]; exact n2
      have z3 : m3.1 83 1 = 0 := by rw [(f4.1 83 1 (wch_l (by omega))).1]; exact z2
      have t3 : NT T L m3 := NT_kp t2 f4 (wch_l (by omega)) (fun k => wch_l (by omega))
      by_cases q5 : c = 5
      · refine ⟨-1004, m3, ?_, z3, s3, Or.inr ⟨d1, 0, f3, Or.inr (Or.inl ⟨rfl, q5, rfl, n3⟩)⟩⟩
        rw [st, f2, zL58_36, if_pos (by omega), n3, if_neg (by omega)]
      · obtain ⟨m4, hm4⟩ : ∃ m4, m4 = z_i (z_i (z_i m3 88 c (tc T L 0)) 89 c (dfn (tc T L)).2.2) 87 c L := ⟨_, rfl⟩
        have o4 : ∀ a q : Nat, a ≠ 87 → a ≠ 88 → a ≠ 89 → m4.1 a q = m3.1 a q := fun a q h1 h2 h3 => by
          rw [hm4, z_nc _ _ _ _ _ _ h1, z_nc _ _ _ _ _ _ h3, z_nc _ _ _ _ _ _ h2]
        obtain ⟨m5, b1, b2, b3, b4, b5⟩ := m_cp (T := T) (n := n) c (by omega) hL n 0 m4 (by rw [o4 83 3 (by decide) (by decide) (by decide)]; exact t3.2.2.1) (by rw [o4 83 9 (by decide) (by decide) (by decide)]; exact n3) (fun k hk => by rw [o4 85 k (by decide) (by decide) (by decide)]; exact t3.2.2.2 k hk) (fun k hk => by omega) (by omega) (by omega)
        have e58 : zF58 n m = some ((c : Int) + 1, m5) := by
          rw [st, f2, zL58_36, if_pos (by omega), n3, if_pos (by omega), if_neg (by omega), zlet, Int.toNat_natCast]
          unfold zJ58_119 zJ58_142
          rw [z_nc _ _ _ _ _ _ (show 83 ≠ 88 by decide), n3, if_neg (by omega), zlet, Int.toNat_natCast]
          rw [z_nc _ _ _ _ _ _ (show 83 ≠ 89 by decide), z_nc _ _ _ _ _ _ (show 83 ≠ 88 by decide), n3, if_neg (by omega), zlet, Int.toNat_natCast]
          rw [z_nc _ _ _ _ _ _ (show 83 ≠ 89 by decide), z_nc _ _ _ _ _ _ (show 83 ≠ 88 by decide), t3.2.2.1, ← hm4]
          exact b1
        have z58 : m5.1 83 1 = 0 := by rw [b5 83 1 (by decide) (by decide), o4 83 1 (by decide) (by decide) (by decide)]; exact z3
        refine ⟨(c : Int) + 1, m5, e58, z58, ?_, Or.inr ⟨d1, 0, f3, Or.inr (Or.inr ⟨rfl, by omega, rfl, b2, ?_⟩)⟩⟩
        · refine SL_tr s3 (fun d hd => ?_)
          rw [b5 87 d (by decide) (fun e => absurd e (by decide)), b5 88 d (by decide) (fun e => absurd e (by decide)), b5 89 d (by decide) (fun e => absurd e (by decide)), hm4]
          rw [z_nk _ _ _ _ _ _ (by omega), z_nc _ _ _ _ _ _ (by decide), z_nc _ _ _ _ _ _ (by decide), z_nc _ _ _ _ _ _ (by decide), z_nc _ _ _ _ _ _ (by decide), z_nk _ _ _ _ _ _ (by omega), z_nc _ _ _ _ _ _ (by decide), z_nk _ _ _ _ _ _ (by omega), z_nc _ _ _ _ _ _ (by decide)]
          refine ⟨rfl, rfl, rfl, fun k hk => ?_⟩
          rw [b4 (120 * d + k) (by omega), hm4, z_nc _ _ _ _ _ _ (by decide), z_nc _ _ _ _ _ _ (by decide), z_nc _ _ _ _ _ _ (by decide)]
        · refine ⟨?_, b3, ?_, ?_⟩
          · rw [b5 87 c (by decide) (fun e => absurd e (by decide)), hm4, z_eq]
          · rw [b5 88 c (by decide) (fun e => absurd e (by decide)), hm4, z_nc _ _ _ _ _ _ (by decide), z_nc _ _ _ _ _ _ (by decide), z_eq]
          · rw [b5 89 c (by decide) (fun e => absurd e (by decide)), hm4, z_nc _ _ _ _ _ _ (by decide), z_eq]
end
