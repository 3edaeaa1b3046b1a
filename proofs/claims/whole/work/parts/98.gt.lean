/-! Texts as rows. -/
theorem ts_le (T : Nat → Int) (L i : Nat) : ts T L i ≤ L := (sk_le T L _).2 (tpo_le T L i).1
theorem slc_get (X K : Nat → Int) (p : Nat) : ∀ k i : Nat, (slc X K p k)[i]? = if i < k then some (X (p + i), K (p + i)) else none := by
  intro k
  induction k with
  | zero => intro i; rw [if_neg (by omega)]; rfl
  | succ k ih =>
    intro i
    rw [slc, xf_app, slc_len, ih]
    by_cases c : i < k
    · rw [if_pos c, if_pos c, if_pos (by omega)]
    · rw [if_neg c]
      by_cases d : i = k
      · subst d
        rw [Nat.sub_self, if_pos (by omega)]
        rfl
      · rw [if_neg (by omega), List.getElem?_eq_none (by show 1 ≤ i - k; omega)]
theorem bal_D (C : Nat → Int) : ∀ (f i d : Nat) (s : Nat → Int) (S : Nat), bal C f i d s = (true, S) → i ≤ S ∧ Dp C S = Dp C i - d ∧ ∀ p : Nat, i ≤ p → p ≤ S → 0 ≤ (d : Int) + (Dp C p - Dp C i) := by
  intro f
  induction f with
  | zero => intro i d s S h; cases h
  | succ f ih =>
    intro i d s S h
    rw [bal] at h
    have go : ∀ (d' : Nat) (s' : Nat → Int), bal C f (i + 1) d' s' = (true, S) → (d' : Int) = d + br (C i) → i ≤ S ∧ Dp C S = Dp C i - d ∧ ∀ p : Nat, i ≤ p → p ≤ S → 0 ≤ (d : Int) + (Dp C p - Dp C i) := by
      intro d' s' h' hd
      obtain ⟨a1, a2, a3⟩ := ih (i + 1) d' s' S h'
      have e : Dp C (i + 1) = Dp C i + br (C i) := rfl
      refine ⟨by omega, by omega, fun p p1 p2 => ?_⟩
      by_cases q : p = i
      · rw [q]; omega
      · have := a3 p (by omega) p2
        omega
    by_cases c0 : C i = 0
    · rw [if_pos c0] at h
      by_cases c1 : d = 0
      · rw [if_pos c1] at h
        cases h
        subst c1
        refine ⟨Nat.le_refl _, by omega, fun p p1 p2 => ?_⟩
        have : p = i := by omega
        rw [this]; omega
      · rw [if_neg c1] at h; cases h
    rw [if_neg c0] at h
    by_cases c1 : C i < 0
    · rw [if_pos c1] at h; cases h
    rw [if_neg c1] at h
    by_cases c2 : opn (C i)
    · rw [if_pos c2] at h
      by_cases c3 : 10 ≤ d
      · rw [if_pos c3] at h; cases h
      · rw [if_neg c3] at h
        exact go _ _ h (by unfold br; rw [if_pos c2]; omega)
    rw [if_neg c2] at h
    by_cases c3 : cls (C i)
    · rw [if_pos c3] at h
      by_cases c4 : d = 0
      · rw [if_pos c4] at h; cases h
      rw [if_neg c4] at h
      by_cases c5 : C i = s (d - 1)
      · rw [if_pos c5] at h
        exact go _ _ h (by unfold br; rw [if_neg c2, if_pos c3]; omega)
      · rw [if_neg c5] at h; cases h
    rw [if_neg c3] at h
    exact go _ _ h (by unfold br; rw [if_neg c2, if_neg c3]; omega)
/-- a text that was read, as a row -/
def txl (C : Nat → Int) (S : Nat) : OL := slc C (fun _ => 0) 0 S
theorem txl_len (C : Nat → Int) (S : Nat) : (txl C S).length = S := slc_len _ _ _ _
theorem txl_ok (C : Nat → Int) (f S : Nat) (s : Nat → Int) (h : bal C f 0 0 s = (true, S)) (hv : ∀ p : Nat, p < S → vt (C p)) : OK0 (txl C S) := by
  obtain ⟨_, a2, a3⟩ := bal_D C f 0 0 s S h
  refine ⟨?_, slc_pf C _ 0 0 S (fun q hq => ?_), fun x hx => ?_⟩
  · unfold txl
    rw [slc_sm, Nat.zero_add, a2]
    omega
  · have := a3 q (by omega) hq
    rw [Nat.zero_add]
    omega
  · obtain ⟨q, _, q2, rfl⟩ := slc_mem C _ 0 S x hx
    exact hv q (by omega)
theorem txl_get (C : Nat → Int) (S p : Nat) (hp : p < S) : xf (txl C S) p = C p ∧ kf (txl C S) p = 0 := by
  have := slc_get C (fun _ => 0) 0 S p
  rw [if_pos hp, Nat.zero_add] at this
  exact getx this
/-! expand, both sides. -/
/-- how far the expansion went, and by which arms -/
def UD (m : ZM) : Prop := ∃ i : Nat, i ≤ 10 ∧ m.1 12 6 = i ∧ m.1 83 38 = i ∧ ∀ q : Nat, q < i → m.1 33 q = m.1 107 (q + 1)
def wE : List (Nat × Nat) := [(1, 1), (1, 2), (1, 3), (13, 2), (14, 1000), (15, 1000)] ++ wZ
theorem wE_n {c k : Nat} (h : c = 0 ∨ c = 2 ∨ c = 3 ∨ 39 < c) : wl wE c k = false := by
  have h1 := wZ_n (c := c) (k := k) (by omega)
  have h2 : wl [(1, 1), (1, 2), (1, 3), (13, 2), (14, 1000), (15, 1000)] c k = false := by
    unfold wl
    simp
    omega
  unfold wl at h1 h2 ⊢
  unfold wE
  rw [List.any_append, h1, h2]
  rfl
theorem wE_Z : ∀ p ∈ wZ, p ∈ wE := fun _ hp => List.mem_append_right _ hp
theorem wE_1 : ∀ p ∈ [((1, 1) : Nat × Nat), (1, 2), (1, 3), (13, 2), (14, 1000), (15, 1000)], p ∈ wE := fun _ hp => List.mem_append_left _ hp
theorem wE_Y : ∀ p ∈ wY, p ∈ wE := fun p hp => wE_Z p (wZ_Y p hp)
theorem wE_r {r : Nat} (hr : r = 34 ∨ r = 37) : ∀ p ∈ wrt r, p ∈ wE := by
  intro p hp
  by_cases c : p ∈ wRL r
  · exact wE_Y p (wRL_Y hr p c)
  · refine wE_1 p ?_
    unfold wrt at hp
    unfold wRL at c
    simp at hp c
    rcases hp with rfl | rfl | rfl | rfl | rfl | rfl | rfl | rfl <;> simp at c ⊢
section
variable {n : Nat}
/-- the class's expand -/
theorem c3 (hn : 200000 ≤ n) (L : Nat) (T : Nat → Int) (c : Nat) (TT : Nat → Nat → Int) (LL : Nat → Nat) (YY : Nat → Nat → Nat → Int) (m : ZM) (hL : L ≤ 120) (hch : chs T L) (h11 : m.1 1 1 = L) (h12 : m.1 1 2 = 0) (h2 : ∀ k : Nat, k < L → m.1 2 k = T k) (hc : c ≤ 5) (h05 : m.1 0 5 = c) (hDF : DFF c TT LL YY m) (hI : MI m) (r s : Nat) (hrs : (r = 34 ∧ s = 37) ∨ (r = 37 ∧ s = 34)) (h4 : m.2.1 12 4 = some r) (h5 : m.2.1 12 5 = some s) :
    ∃ (v : Int) (m' : ZM) (r' s' : Nat), zF3 n m = some (v, m') ∧ kp (wl wE) m m' ∧ m'.1 1 1 = 0 ∧ m'.1 1 2 = 0 ∧ m'.1 1 3 = 0 ∧ MI m' ∧ ((r' = 34 ∧ s' = 37) ∨ (r' = 37 ∧ s' = 34)) ∧ m'.2.1 12 4 = some r' ∧ m'.2.1 12 5 = some s' ∧
      (((bal (tc T L) n 0 0 (fun _ => 0)).1 = false ∧ v = -1 - (ts T L (bal (tc T L) n 0 0 (fun _ => 0)).2 : Int) ∧ m'.1 r' 2 = 0 ∧ m'.1 12 6 = 0) ∨
       ((bal (tc T L) n 0 0 (fun _ => 0)).1 = true ∧ (bal (tc T L) n 0 0 (fun _ => 0)).2 ≤ 120 ∧ OK0 (txl (tc T L) (bal (tc T L) n 0 0 (fun _ => 0)).2) ∧ ∃ tr : List (Nat × Nat × OL), XV c TT LL tr 0 0 (txl (tc T L) (bal (tc T L) n 0 0 (fun _ => 0)).2) v ∧ tr.length ≤ 10 ∧ m'.1 12 6 = tr.length ∧ ((0 ≤ v ∧ RL r' (lstL tr (txl (tc T L) (bal (tc T L) n 0 0 (fun _ => 0)).2)) m' ∧ v = (lstL tr (txl (tc T L) (bal (tc T L) n 0 0 (fun _ => 0)).2)).length ∧ v ≤ 150 ∧ OK0 (lstL tr (txl (tc T L) (bal (tc T L) n 0 0 (fun _ => 0)).2))) ∨ (v < 0 ∧ m'.1 r' 2 = 0)) ∧ UA 0 tr (m'.1 33))) := by
  have hr : isR r := by show r = 34 ∨ r = 37; omega
  have hr' : r = 34 ∨ r = 37 := hr
  obtain ⟨m1, hm1⟩ : ∃ m1, m1 = z_i (z_i (z_i (z_i m r 2 0) r 3 0) 13 2 0) 12 6 0 := ⟨_, rfl⟩
  have k1 : kp (wl [(r, 2), (r, 3), (13, 2), (12, 6)]) m m1 := by
    rw [hm1]
    exact kp_i (kp_i (kp_i (kp_i (kp_refl _ m) (by simp)) (by simp)) (by simp)) (by simp)
  have k1n : ∀ {a q : Nat}, a ≠ r → a ≠ 13 → (a = 12 → q ≠ 6) → wl [(r, 2), (r, 3), (13, 2), (12, 6)] a q = false := fun {a q} x1 x2 x3 => by
    unfold wl
    simp
    omega
  have s1 : ∀ p ∈ [((r, 2) : Nat × Nat), (r, 3), (13, 2), (12, 6)], p ∈ wE := by
    intro p hp
    simp at hp
    rcases hp with rfl | rfl | rfl | rfl
    · exact wE_Y _ (wRL_Y hr' _ (by simp [wRL]))
    · exact wE_Y _ (wRL_Y hr' _ (by simp [wRL]))
    · exact wE_1 _ (by simp)
    · exact wE_Y _ (by simp [wY])
  have CC1 : CC T L 0 m1 := ⟨⟨hL, hch, by rw [(k1.1 1 1 (k1n (by omega) (by omega) (by omega))).1]; exact h11, fun k hk => by rw [(k1.1 2 k (k1n (by omega) (by omega) (by omega))).1]; exact h2 k hk⟩, by rw [(k1.1 1 2 (k1n (by omega) (by omega) (by omega))).1]; exact h12⟩
  have r2 : m1.1 r 2 = 0 := by rw [hm1, z_nc _ _ _ _ _ _ (by omega), z_nc _ _ _ _ _ _ (by omega), z_nk _ _ _ _ _ _ (by decide), z_eq]
  have r3 : m1.1 r 3 = 0 := by rw [hm1, z_nc _ _ _ _ _ _ (by omega), z_nc _ _ _ _ _ _ (by omega), z_eq]
  have n2 : m1.1 13 2 = 0 := by rw [hm1, z_nc _ _ _ _ _ _ (by omega), z_eq]
  have d6 : m1.1 12 6 = 0 := by rw [hm1, z_eq]
  have f4 : m1.2.1 12 4 = some r := by rw [(k1.1 12 4 (k1n (by omega) (by omega) (by omega))).2]; exact h4
  obtain ⟨v0, m2, a1, a2, a3, a4⟩ := rt_c n (by omega) T L r hr n 0 0 (fun _ => 0) m1 CC1 n2 (by omega) (fun j hj => by omega) f4 r2 (fun j hj => by omega) (by omega) (by omega)
  obtain ⟨bb, hbb⟩ : ∃ bb, bb = bal (tc T L) n 0 0 (fun _ => 0) := ⟨_, rfl⟩
  rw [← hbb] at a2 a4 ⊢
  have wrn : ∀ {a q : Nat}, a ≠ r → a ≠ r + 1 → a ≠ r + 2 → a ≠ 13 → a ≠ 14 → a ≠ 15 → (a = 1 → q ≠ 2 ∧ q ≠ 3) → wl (wrt r) a q = false := fun {a q} x1 x2 x3 x4 x5 x6 x7 => by
    unfold wl wrt
    simp
    omega
  have e139 : zF139 n m = if v0 = -1 then some (v0, m2) else some (v0, z_i (z_i m2 r 2 0) r 3 0) := by
    unfold zF139
    rw [h4]
    dsimp only
    rw [if_pos hr]
    unfold zF165
    rw [zlet, zlet]
    dsimp only
    unfold zF160
    rw [zlet]
    dsimp only
    unfold zJ139_14
    rw [zlet, ← hm1]
    have e140 : zF140 n m1 = some (v0, m2) := a1
    rw [e140]
    dsimp only
    unfold zJ139_37 zJ139_30 zJ139_37
    rw [(a3.1 12 4 (wrn (by omega) (by omega) (by omega) (by omega) (by omega) (by omega) (by omega))).2, f4]
    dsimp only
    rw [if_pos hr]
    unfold zF165
    rw [zlet, zlet]
  have k12 : ∀ q : Nat, m2.1 12 q = m1.1 12 q ∧ m2.2.1 12 q = m1.2.1 12 q := fun q => a3.1 12 q (wrn (by omega) (by omega) (by omega) (by omega) (by omega) (by omega) (by omega))
  have kE2 : kp (wl wE) m m2 := kp_tr (kp_sub s1 k1) (kp_sub (wE_r hr') a3)
  have I2 : MI m2 := MI_k (MI_k hI k1 (k1n (by omega) (by omega) (by omega)) (k1n (by omega) (by omega) (by omega))) a3 (wrn (by omega) (by omega) (by omega) (by omega) (by omega) (by omega) (by omega)) (wrn (by omega) (by omega) (by omega) (by omega) (by omega) (by omega) (by omega))
  have cl : ∀ m3 : ZM, ∃ m4, m4 = z_i (z_i (z_i m3 1 1 0) 1 2 0) 1 3 0 ∧ zF198 n m3 = some ((), m4) ∧ kp (wl [(1, 1), (1, 2), (1, 3)]) m3 m4 ∧ m4.1 1 1 = 0 ∧ m4.1 1 2 = 0 ∧ m4.1 1 3 = 0 := by
    intro m3
    refine ⟨_, rfl, ?_, kp_i (kp_i (kp_i (kp_refl _ m3) (by simp)) (by simp)) (by simp), ?_, ?_, z_eq _ _ _ _⟩
    · unfold zF198
      rw [zlet, zlet, zlet]
    · rw [z_nk _ _ _ _ _ _ (by decide), z_nk _ _ _ _ _ _ (by decide), z_eq]
    · rw [z_nk _ _ _ _ _ _ (by decide), z_eq]
  have k11n : ∀ {a q : Nat}, a ≠ 1 → wl [(1, 1), (1, 2), (1, 3)] a q = false := fun {a q} x => by
    unfold wl
    simp
    omega
  have s11 : ∀ p ∈ [((1, 1) : Nat × Nat), (1, 2), (1, 3)], p ∈ wE := fun p hp => wE_1 p (by simp at hp; rcases hp with rfl | rfl | rfl <;> simp)
  cases hb1 : bb.1 with
  | false =>
    rw [hb1, if_neg (by decide)] at a2
    have hv0 : v0 ≠ -1 := by omega
    rw [if_neg hv0] at e139
    have kr : kp (wl (wRL r)) m2 (z_i (z_i m2 r 2 0) r 3 0) := kp_i (kp_i (kp_refl _ m2) (by simp [wRL])) (by simp [wRL])
    obtain ⟨m4, g0, g1, g2, g3, g4, g5⟩ := cl (z_i (z_i m2 r 2 0) r 3 0)
    refine ⟨-1 - v0, m4, r, s, ?_, kp_tr (kp_tr kE2 (kp_sub (fun p hp => wE_Y p (wRL_Y hr' p hp)) kr)) (kp_sub s11 g2), g3, g4, g5, MI_k (MI_k I2 kr (wRL_n (by omega)) (wRL_n (by omega))) g2 (k11n (by omega)) (k11n (by omega)), hrs, ?_, ?_, Or.inl ⟨rfl, by rw [a2], ?_, ?_⟩⟩
    · unfold zF3
      rw [e139]
      dsimp only
      rw [g1]
      dsimp only
      unfold zJ3_19 zJ3_45
      have : (ts T L bb.2 : Int) ≤ 120 := by
        have := ts_le T L bb.2
        omega
      rw [if_neg hv0, if_pos (by omega)]
    · rw [(g2.1 12 4 (k11n (by omega))).2, (kr.1 12 4 (wRL_n (by omega))).2, (k12 4).2]; exact f4
    · rw [(g2.1 12 5 (k11n (by omega))).2, (kr.1 12 5 (wRL_n (by omega))).2, (k12 5).2, (k1.1 12 5 (k1n (by omega) (by omega) (by omega))).2]; exact h5
    · rw [(g2.1 r 2 (k11n (by omega))).1, z_nk _ _ _ _ _ _ (by decide), z_eq]
    · rw [(g2.1 12 6 (k11n (by omega))).1, (kr.1 12 6 (wRL_n (by omega))).1, (k12 6).1]; exact d6
  | true =>
    rw [hb1, if_pos rfl] at a2
    obtain ⟨t1, t2, t3⟩ := a4 hb1
    rw [if_pos a2] at e139
    obtain ⟨m4, g0, g1, g2, g3, g4, g5⟩ := cl m2
    have hvt : ∀ p : Nat, p < bb.2 → vt (tc T L p) := fun p hp => by
      have := (t3 p hp).2.2
      rcases tc_vt T L p hch with q | q | q
      · omega
      · omega
      · exact q
    have hok : OK0 (txl (tc T L) bb.2) := txl_ok (tc T L) n bb.2 (fun _ => 0) (by rw [← hbb, ← hb1]) hvt
    have hlen := txl_len (tc T L) bb.2
    have R4 : RL r (txl (tc T L) bb.2) m4 := by
      refine ⟨?_, ?_, fun i x hi hx => ?_⟩
      · rw [(g2.1 r 2 (k11n (by omega))).1, t1, hlen, if_pos (by omega)]
      · rw [(g2.1 r 3 (k11n (by omega))).1, (a3.1 r 3 (by unfold wl wrt; simp; omega)).1, r3, hlen, if_pos (by omega)]
      · have hi2 : i < bb.2 := by
          apply Classical.byContradiction
          intro d
          rw [List.getElem?_eq_none (by omega)] at hx
          cases hx
        obtain ⟨y1, y2⟩ := getx hx
        obtain ⟨z1, z2⟩ := txl_get (tc T L) bb.2 i hi2
        rw [(g2.1 (r + 1) i (k11n (by omega))).1, (g2.1 (r + 2) i (k11n (by omega))).1, (t3 i hi2).1, (t3 i hi2).2.1, ← y1, ← y2, z1, z2]
        exact ⟨rfl, rfl⟩
    have kE4 : kp (wl wE) m m4 := kp_tr kE2 (kp_sub s11 g2)
    have D4 : DFF c TT LL YY m4 := DFF_k hDF kE4 (fun a q x1 x2 => wE_n (by omega)) hc
    have I4 : MI m4 := MI_k I2 g2 (k11n (by omega)) (k11n (by omega))
    have q4 : m4.2.1 12 4 = some r := by rw [(g2.1 12 4 (k11n (by omega))).2, (k12 4).2]; exact f4
    have q5 : m4.2.1 12 5 = some s := by rw [(g2.1 12 5 (k11n (by omega))).2, (k12 5).2, (k1.1 12 5 (k1n (by omega) (by omega) (by omega))).2]; exact h5
    have q6 : m4.1 12 6 = ((0 : Nat) : Int) := by rw [(g2.1 12 6 (k11n (by omega))).1, (k12 6).1]; exact d6
    obtain ⟨x4, b1, b2⟩ := c173 (RL_RT R4 (by omega) hok.2.2) n (by omega) 0 (by omega)
    obtain ⟨tr, v, m5, r', s', e1, e2, e3, e4, e5, e6, e7, e8, e9, e10, e11, e12⟩ := c142 hn hc 10 0 n 0 x4 (txl (tc T L) bb.2) r s m4 rfl (by omega) hrs D4 I4 q4 q5 q6 R4 (by omega) hok b2
    refine ⟨v, m5, r', s', ?_, kp_tr kE4 (kp_sub wE_Z e9), ?_, ?_, ?_, e8, e4, e5, e6, Or.inr ⟨rfl, t2, hok, tr, e2, by omega, ?_, e10, e11⟩⟩
    · unfold zF3
      rw [e139]
      dsimp only
      rw [g1]
      dsimp only
      unfold zJ3_19
      rw [if_pos a2, (kE4.1 0 5 (wE_n (by omega))).1, h05]
      have e142 : zF142 n c m4 = some (v, m5) := by
        unfold zF142
        rw [q4]
        dsimp only
        rw [if_pos hr]
        rw [show ((0 : Nat) : Int) = 0 from rfl] at b1
        rw [b1]
        exact e1
      rw [e142]
      rfl
    · rw [(e9.1 1 1 (wZ_n (by omega))).1]; exact g3
    · rw [(e9.1 1 2 (wZ_n (by omega))).1]; exact g4
    · rw [(e9.1 1 3 (wZ_n (by omega))).1]; exact g5
    · rw [e7, Nat.zero_add]
end
