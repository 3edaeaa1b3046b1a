/-! The class chooses an arm. -/
/-- the definitions, one by one -/
def DFF (c : Nat) (TT : Nat → Nat → Int) (LL : Nat → Nat) (YY : Nat → Nat → Nat → Int) (m : ZM) : Prop := ∀ d : Nat, d < c → GD (41 + 7 * d) (TT d) (LL d) (YY d) m
def KFF (c : Nat) (TT : Nat → Nat → Int) (LL : Nat → Nat) (m : ZM) : Prop := ∀ d : Nat, d < c → KT d (TT d) (LL d) m
theorem DFS_f {m : ZM} (h : DFS m) : ∃ c TT LL YY, c ≤ 5 ∧ m.1 0 5 = (c : Nat) ∧ m.1 83 9 = (c : Nat) ∧ DFF c TT LL YY m ∧ KFF c TT LL m := by
  obtain ⟨c, c1, c2, c3, c4⟩ := h
  have key : ∀ k : Nat, k ≤ c → ∃ (TT : Nat → Nat → Int) (LL : Nat → Nat) (YY : Nat → Nat → Nat → Int), DFF k TT LL YY m ∧ KFF k TT LL m := by
    intro k
    induction k with
    | zero => intro _; exact ⟨fun _ _ => 0, fun _ => 0, fun _ _ _ => 0, fun d hd => by omega, fun d hd => by omega⟩
    | succ k ih =>
      intro hk
      obtain ⟨TT, LL, YY, g1, g2⟩ := ih (by omega)
      obtain ⟨T, L, Y, a1, a2⟩ := c4 k (by omega)
      refine ⟨fun d => if d = k then T else TT d, fun d => if d = k then L else LL d, fun d => if d = k then Y else YY d, fun d hd => ?_, fun d hd => ?_⟩
      · show GD (41 + 7 * d) (if d = k then T else TT d) (if d = k then L else LL d) (if d = k then Y else YY d) m
        by_cases q : d = k
        · rw [if_pos q, if_pos q, if_pos q, q]; exact a1
        · rw [if_neg q, if_neg q, if_neg q]; exact g1 d (by omega)
      · show KT d (if d = k then T else TT d) (if d = k then L else LL d) m
        by_cases q : d = k
        · rw [if_pos q, if_pos q, q]; exact a2
        · rw [if_neg q, if_neg q]; exact g2 d (by omega)
  obtain ⟨TT, LL, YY, g1, g2⟩ := key c (Nat.le_refl _)
  exact ⟨c, TT, LL, YY, c1, c2, c3, g1, g2⟩
/-- the latest definition of a name -/
def LDn (c : Nat) (TT : Nat → Nat → Int) (LL : Nat → Nat) (w : Int) (d : Nat) : Prop := d < c ∧ tc (TT d) (LL d) 0 = w ∧ ∀ d' : Nat, d < d' → d' < c → tc (TT d') (LL d') 0 ≠ w
def NDn (c : Nat) (TT : Nat → Nat → Int) (LL : Nat → Nat) (w : Int) : Prop := ∀ d : Nat, d < c → tc (TT d) (LL d) 0 ≠ w
/-- which arm, and what its body writes -/
def CHS (C : Nat → Int) (X K : Nat → Int) (lo en : Nat) (mk : Int) (a : Nat) : Nat → Nat → Int → Option OL → Prop
  | 0, _, _, _ => False
  | f + 1, u, v, o => (a ≤ u ∧ v = -2001 ∧ o = none) ∨ (u < a ∧ ∃ tr w, TV (eA C (armst C u)) (eN C (armst C u)) X en tr (H0 (eA C (armst C u))) lo w ∧ ((w = -2001 ∧ CHS C X K lo en mk a f (u + 1) v o) ∨ (w = -2002 ∧ v = -2002 ∧ o = none) ∨ (w = 0 ∧ v = (u : Int) ∧ ∃ hh, (PF (eA C (armst C u)) (eN C (armst C u)) tr (H0 (eA C (armst C u))) []).1 (eN C (armst C u)) = [hh] ∧ o = w0o (eA C (armst C u)) (eN C (armst C u)) (eB C (armst C u)) (eM C (armst C u)) X K mk (rtk (eA C (armst C u)) (PF (eA C (armst C u)) (eN C (armst C u)) tr (H0 (eA C (armst C u))) []).2 hh) (shs (eA C (armst C u)) hh))))
/-- what the class keeps of the arm that matched -/
def SUCm (C : Nat → Int) (X K : Nat → Int) (lo en : Nat) (mk : Int) (u : Nat) (o : Option OL) (m : ZM) : Prop := ∃ tr hh, TV (eA C (armst C u)) (eN C (armst C u)) X en tr (H0 (eA C (armst C u))) lo 0 ∧ (PF (eA C (armst C u)) (eN C (armst C u)) tr (H0 (eA C (armst C u))) []).1 (eN C (armst C u)) = [hh] ∧ o = w0o (eA C (armst C u)) (eN C (armst C u)) (eB C (armst C u)) (eM C (armst C u)) X K mk (rtk (eA C (armst C u)) (PF (eA C (armst C u)) (eN C (armst C u)) tr (H0 (eA C (armst C u))) []).2 hh) (shs (eA C (armst C u)) hh) ∧ KG (eA C (armst C u)) (ctk (eA C (armst C u)) (PF (eA C (armst C u)) (eN C (armst C u)) tr (H0 (eA C (armst C u))) []).2 hh) m ∧ ∀ q : Nat, q < 4 → m.1 22 q = Rd (eA C (armst C u)) hh q
theorem TV_r {A : Nat → Nat → Int} {N : Nat} {X : Nat → Int} {en : Nat} : ∀ (tr : List ((Nat → Bool) × Nat × Nat)) (H : Nat → List (List (Nat × List Nat))) (p : Nat) (r : Int), TV A N X en tr H p r → r = -2001 ∨ r = -2002 ∨ r = 0 := by
  intro tr
  induction tr with
  | nil =>
    intro H p r h
    rcases h with ⟨_, h⟩ | ⟨_, _, h⟩ | ⟨_, _, _, h⟩
    · rw [h]
      split
      · exact Or.inl rfl
      · split
        · exact Or.inr (Or.inr rfl)
        · exact Or.inr (Or.inl rfl)
    · exact Or.inr (Or.inl h)
    · exact Or.inl h
  | cons x tr ih =>
    obtain ⟨G, p0, v⟩ := x
    intro H p r h
    exact ih _ _ _ h.2.2.2.2.2.2
theorem ckr_0 {C : Nat → Int} {i : Nat} (h : ckr C i 0) : ¬ tw (eA C i) (eN C i) ∧ (∀ e : Nat, e < eN C i → ¬ em (eA C i) e) ∧ ¬ wu (eA C i) (eN C i) (eB C i) (eM C i) := by
  rcases h with ⟨c, _⟩ | ⟨h1, ⟨c, _⟩ | ⟨h2, ⟨c, _⟩ | ⟨_, ⟨c, _⟩ | ⟨_, h3⟩⟩⟩⟩
  · exact absurd c (by decide)
  · exact absurd c (by decide)
  · exact absurd c (by decide)
  · exact absurd c (by decide)
  · exact ⟨h1, h2, fun w => h3 (Or.inl w)⟩
section
variable {n b L : Nat} {T : Nat → Int} {Y : Nat → Nat → Int} {m : ZM}
theorem c107 (h : GD b T L Y m) : zF107 n b m = some (tc T L 0, m) := by
  obtain ⟨g1, g2, g3, ⟨h1, h2, h3, h4, h5, h6, h7, h8⟩, g5, g6, g7⟩ := h
  unfold zF107 zJ107_17
  rw [h2, if_neg (by omega), (h3 0 (by omega)).1, h4 0 (by omega)]
theorem c143 {c : Nat} {TT : Nat → Nat → Int} {LL : Nat → Nat} {YY : Nat → Nat → Nat → Int} (hn : 20 ≤ n) (hc : c ≤ 5) (h : DFF c TT LL YY m) (w : Int) : (∃ d : Nat, zF143 n c w m = some (some (41 + 7 * d), m) ∧ LDn c TT LL w d) ∨ (zF143 n c w m = some (none, m) ∧ NDn c TT LL w) := by
  have key : ∀ (j f : Nat), j ≤ c → j + 1 ≤ f → (∀ d : Nat, j ≤ d → d < c → tc (TT d) (LL d) 0 ≠ w) → (∃ d : Nat, zL143_9 n f w ((j : Int) - 1) m = some (some (41 + 7 * d), m) ∧ LDn c TT LL w d) ∨ (zL143_9 n f w ((j : Int) - 1) m = some (none, m) ∧ NDn c TT LL w) := by
    intro j
    induction j with
    | zero =>
      intro f h1 h2 h3
      obtain ⟨f, rfl⟩ : ∃ f', f = f' + 1 := ⟨f - 1, by omega⟩
      right
      refine ⟨?_, fun d hd => h3 d (Nat.zero_le _) hd⟩
      rw [zL143_9, if_pos (by omega)]
    | succ j ih =>
      intro f h1 h2 h3
      obtain ⟨f, rfl⟩ : ∃ f', f = f' + 1 := ⟨f - 1, by omega⟩
      obtain ⟨p1, p2⟩ := m_pl_d (show j < 6 by omega)
      have e1 : ((j + 1 : Nat) : Int) - 1 = (j : Int) := by omega
      rw [e1]
      have st : zL143_9 n (f + 1) w (j : Int) m = if tc (TT j) (LL j) 0 = w then zJ143_23 n (j : Int) m else zJ143_27 n (zL143_9 n f) w (j : Int) m := by
        rw [zL143_9, if_neg (by omega), if_neg (by omega), Int.toNat_natCast, p1]
        dsimp only
        rw [if_pos p2, c107 (h j (by omega))]
      rw [st]
      by_cases q : tc (TT j) (LL j) 0 = w
      · rw [if_pos q]
        left
        refine ⟨j, ?_, by omega, q, fun d' a1 a2 => h3 d' (by omega) a2⟩
        unfold zJ143_23
        rw [if_neg (by omega), Int.toNat_natCast, p1]
        dsimp only
        rw [if_pos p2]
      · rw [if_neg q]
        unfold zJ143_27
        rw [if_pos (by omega)]
        have := ih f (by omega) (by omega) (fun d a1 a2 => by
          by_cases e : d = j
          · rw [e]; exact q
          · exact h3 d (by omega) a2)
        rw [show (j : Int) + -1 = (j : Int) - 1 by omega]
        exact this
  unfold zF143
  rw [if_neg (show ¬ (6 : Int) < c by omega), if_pos (by omega)]
  exact key c n (Nat.le_refl _) (by omega) (fun d a1 a2 => by omega)
theorem GD_k {m' : ZM} {l : List (Nat × Nat)} (h : GD b T L Y m) (g : kp (wl l) m m') (hl : ∀ c k, b ≤ c → c ≤ b + 6 → wl l c k = false) : GD b T L Y m' := GD_kp h g hl
/-- chooseArm -/
theorem c145 (hn : 200000 ≤ n) (hb : isD b) (l : OL) (hl : l.length ≤ 150) (hv : ∀ x ∈ l, vt x.1) (r : Nat) (hr : isR r) (lo en : Nat) (hB : CB (xf l) l.length lo en) (hle : lo ≤ en) (mk : Int) : ∀ (f g u : Nat) (m : ZM), GD b T L Y m → (dfn (tc T L)).2.2 + 1 ≤ u + f → (dfn (tc T L)).2.2 + 1 ≤ u + g → u ≤ (dfn (tc T L)).2.2 → m.2.1 12 4 = some r → RL r l m → MI m →
    ∃ v o m', zL145_3 n b g lo en u m = some (v, m') ∧ CHS (tc T L) (xf l) (kf l) lo en mk (dfn (tc T L)).2.2 f u v o ∧ kp (wl wMm) m m' ∧ MI m' ∧ ((v < 0 ∧ o = none) ∨ ∃ u' : Nat, v = (u' : Int) ∧ u' < (dfn (tc T L)).2.2 ∧ SUCm (tc T L) (xf l) (kf l) lo en mk u' o m') := by
  have hge := isD_ge hb
  have hr34 : r = 34 ∨ r = 37 := hr
  intro f
  induction f with
  | zero => intro g u m _ h1 h2 h3; omega
  | succ f ih =>
    intro g u m hG h1 h2 h3 h12 hR hI
    obtain ⟨g, rfl⟩ : ∃ g', g = g' + 1 := ⟨g - 1, by omega⟩
    have hG' := hG
    obtain ⟨g1, g2, g3, hD, g5, g6, g7, g8⟩ := hG'
    have ha3 := hD.2.2.2.2.2.2.1
    have e108 : zF108 n b m = some (((dfn (tc T L)).2.2 : Int), m) := by
      rw [zF108_eq, hD.2.2.2.2.2.1]
    by_cases q : (dfn (tc T L)).2.2 ≤ u
    · refine ⟨-2001, none, m, ?_, Or.inl ⟨q, rfl, rfl⟩, kp_refl _ m, hI, Or.inl ⟨by decide, rfl⟩⟩
      rw [zL145_3, e108]
      dsimp only
      rw [if_pos (by omega)]
    · obtain ⟨a1, a2, a3⟩ := g8 u (by omega)
      obtain ⟨k1, k2, k3⟩ := ckr_0 a3
      obtain ⟨z1, z2, z3⟩ := RM_z a1 a2
      obtain ⟨tr, w, m1, b1, b2, b3, b4, b5⟩ := c149 hn (RM_p a1) k2 hb z1 hr hB hle m hD (show u < (dfn (tc T L)).2.2 by omega) rfl hI (RL_RT hR hl hv)
      have st : zL145_3 n b (g + 1) lo en u m = zJ145_30 n b (zL145_3 n b g) lo en u w m1 := by
        rw [zL145_3, e108]
        dsimp only
        rw [if_neg (by omega), h12]
        dsimp only
        rw [if_pos hr, b1]
      rw [st]
      unfold zJ145_30
      rcases TV_r tr _ _ _ b2 with c | c | c
      · subst c
        rw [if_pos rfl, if_pos (by omega)]
        have R1 : RL r l m1 := by
          obtain ⟨l1, l2, l3⟩ := hR
          refine ⟨by rw [(b3.1 r 2 (wMm_n _ _ (by omega))).1]; exact l1, by rw [(b3.1 r 3 (wMm_n _ _ (by omega))).1]; exact l2, fun i x hi hx => ?_⟩
          rw [(b3.1 (r + 1) i (wMm_n _ _ (by omega))).1, (b3.1 (r + 2) i (wMm_n _ _ (by omega))).1]
          exact l3 i x hi hx
        obtain ⟨v, o, m', d1, d2, d3, d4, d5⟩ := ih g (u + 1) m1 (GD_kp hG b3 (fun c k p1 p2 => wMm_n c k (by omega))) (by omega) (by omega) (by omega) (by rw [(b3.1 12 4 (wMm_n _ _ (by omega))).2]; exact h12) R1 b4
        refine ⟨v, o, m', ?_, Or.inr ⟨by omega, tr, _, b2, Or.inl ⟨rfl, d2⟩⟩, kp_tr b3 d3, d4, d5⟩
        rw [show (u : Int) + 1 = ((u + 1 : Nat) : Int) by omega]
        exact d1
      · subst c
        rw [if_neg (by decide), if_neg (by decide)]
        exact ⟨-2002, none, m1, rfl, Or.inr ⟨by omega, tr, _, b2, Or.inr (Or.inl ⟨rfl, rfl, rfl⟩)⟩, b3, b4, Or.inl ⟨by decide, rfl⟩⟩
      · subst c
        rw [if_neg (by decide), if_pos rfl]
        obtain ⟨hh, e1, e2, e3⟩ := b5 rfl
        exact ⟨(u : Int), _, m1, rfl, Or.inr ⟨by omega, tr, _, b2, Or.inr (Or.inr ⟨rfl, rfl, hh, e1, rfl⟩)⟩, b3, b4, Or.inr ⟨u, rfl, by omega, tr, hh, b2, e1, rfl, e2, e3⟩⟩
end
