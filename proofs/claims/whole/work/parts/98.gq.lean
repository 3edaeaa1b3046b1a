/-! The class expands, whole. -/
/-- what comes of the call at k: an answer below 0, or the arm and the row that follows -/
def CAL (c : Nat) (TT : Nat → Nat → Int) (LL : Nat → Nat) (i k : Nat) (l : OL) (v : Int) (o : Option (Nat × OL)) : Prop :=
  ∃ en : Nat, en < l.length ∧ CL (xf l) (k + 2) en ∧ ((NDn c TT LL (xf l k) ∧ v = -2000 ∧ o = none) ∨
    ∃ (d : Nat) (w : Int) (x : Option OL), LDn c TT LL (xf l k) d ∧ CHS (tc (TT d) (LL d)) (xf l) (kf l) (k + 3) en ((i : Int) + 1) (dfn (tc (TT d) (LL d))).2.2 4 0 w x ∧
      ((w < 0 ∧ v = w ∧ o = none) ∨ ∃ u : Nat, w = (u : Int) ∧ ((10 ≤ i ∧ v = -2004 ∧ o = none) ∨ (i < 10 ∧ x = none ∧ v = -2003 ∧ o = none) ∨ (i < 10 ∧ ∃ y, x = some y ∧ ((150 < (nwL l k en y).length ∧ v = -2005 ∧ o = none) ∨ ((nwL l k en y).length ≤ 150 ∧ v = 0 ∧ o = some (u, nwL l k en y)))))))
/-- the course of an expansion: its steps (place, arm, row that follows), and its answer -/
def XV (c : Nat) (TT : Nat → Nat → Int) (LL : Nat → Nat) : List (Nat × Nat × OL) → Nat → Nat → OL → Int → Prop
  | [], i, p, l, v => (NC (xf l) l.length p ∧ v = l.length) ∨ ∃ k : Nat, FC (xf l) l.length p k ∧ v < 0 ∧ CAL c TT LL i k l v none
  | (k, u, l1) :: tr, i, p, l, v => FC (xf l) l.length p k ∧ CAL c TT LL i k l 0 (some (u, l1)) ∧ OK0 l1 ∧ l1.length ≤ 150 ∧ XV c TT LL tr (i + 1) k l1 v
def lstL : List (Nat × Nat × OL) → OL → OL
  | [], l => l
  | (_, _, l1) :: tr, _ => lstL tr l1
def wZ : List (Nat × Nat) := wY ++ wMm
theorem wZ_Y : ∀ p ∈ wY, p ∈ wZ := fun _ hp => List.mem_append_left _ hp
theorem wZ_M : ∀ p ∈ wMm, p ∈ wZ := fun _ hp => List.mem_append_right _ hp
theorem wZ_n {c k : Nat} (h : c < 12 ∨ (12 < c ∧ c < 16) ∨ 39 < c) : wl wZ c k = false := by
  have h1 := wY_n (c := c) (k := k) (by omega)
  have h2 := wMm_n c k (by omega)
  unfold wl at h1 h2 ⊢
  unfold wZ
  rw [List.any_append, h1, h2]
  rfl
theorem wRL_Z {s : Nat} (hs : s = 34 ∨ s = 37) : ∀ p ∈ wRL s, p ∈ wZ := fun p hp => wZ_Y p (wRL_Y hs p hp)
/-- arms that were used -/
def UA (i : Nat) (tr : List (Nat × Nat × OL)) (f : Nat → Int) : Prop := ∀ (q : Nat) (x : Nat × Nat × OL), tr[q]? = some x → f (i + q) = x.2.1
theorem MI_k {m m' : ZM} {l : List (Nat × Nat)} (h : MI m) (k : kp (wl l) m m') (h1 : wl l 16 1 = false) (h2 : wl l 16 2 = false) : MI m' := by
  obtain ⟨c1, c2, a1, a2, a3⟩ := h
  exact ⟨c1, c2, by rw [(k.1 16 1 h1).2]; exact a1, by rw [(k.1 16 2 h2).2]; exact a2, a3⟩
theorem DFF_k {c : Nat} {TT : Nat → Nat → Int} {LL : Nat → Nat} {YY : Nat → Nat → Nat → Int} {m m' : ZM} {l : List (Nat × Nat)} (h : DFF c TT LL YY m) (k : kp (wl l) m m') (hl : ∀ a q : Nat, 41 ≤ a → a ≤ 82 → wl l a q = false) (hc : c ≤ 5) : DFF c TT LL YY m' := fun d hd => GD_kp (h d hd) k (fun a q h1 h2 => hl a q (by omega) (by omega))
theorem isR_l {r s : Nat} (h : (r = 34 ∧ s = 37) ∨ (r = 37 ∧ s = 34)) : isR r ∧ isR s ∧ ((s = 34 ∧ r = 37) ∨ (s = 37 ∧ r = 34)) := by
  show (r = 34 ∨ r = 37) ∧ (s = 34 ∨ s = 37) ∧ _
  omega
theorem c142 {n c : Nat} {TT : Nat → Nat → Int} {LL : Nat → Nat} {YY : Nat → Nat → Nat → Int} (hn : 200000 ≤ n) (hc : c ≤ 5) : ∀ (j i g p : Nat) (x4 : Int) (l : OL) (r s : Nat) (m : ZM), i + j = 10 → j + 3 ≤ g → ((r = 34 ∧ s = 37) ∨ (r = 37 ∧ s = 34)) → DFF c TT LL YY m → MI m → m.2.1 12 4 = some r → m.2.1 12 5 = some s → m.1 12 6 = i → RL r l m → l.length ≤ 150 → OK0 l → ((∃ k : Nat, x4 = k ∧ FC (xf l) l.length p k) ∨ (x4 = -1 ∧ NC (xf l) l.length p)) →
    ∃ (tr : List (Nat × Nat × OL)) (v : Int) (m' : ZM) (r' s' : Nat), zL142_15 n g c 0 x4 i m = some (v, m') ∧ XV c TT LL tr i p l v ∧ i + tr.length ≤ 10 ∧ ((r' = 34 ∧ s' = 37) ∨ (r' = 37 ∧ s' = 34)) ∧ m'.2.1 12 4 = some r' ∧ m'.2.1 12 5 = some s' ∧ m'.1 12 6 = ((i + tr.length : Nat) : Int) ∧ MI m' ∧ kp (wl wZ) m m' ∧ ((0 ≤ v ∧ RL r' (lstL tr l) m' ∧ v = (lstL tr l).length ∧ v ≤ 150 ∧ OK0 (lstL tr l)) ∨ (v < 0 ∧ m'.1 r' 2 = 0)) ∧ UA i tr (m'.1 33) ∧ ∀ q : Nat, q < i → m'.1 33 q = m.1 33 q := by
  have err : ∀ (g : Nat) (e x4 x5 : Int) (r : Nat) (m : ZM), isR r → e < 0 → m.2.1 12 4 = some r → zL142_15 n (g + 1) c e x4 x5 m = some (e, z_i (z_i m r 2 0) r 3 0) := by
    intro g e x4 x5 r m hr he h4
    have e126 : zJ142_126 n e m = some (e, z_i (z_i m r 2 0) r 3 0) := by
      unfold zJ142_126 zJ142_137
      rw [if_neg (by omega), h4]
      dsimp only
      rw [if_pos hr]
      unfold zF165
      rw [zlet, zlet]
    rw [zL142_15, e126]
    by_cases c1 : 10 < x5
    · rw [if_pos c1]
    · rw [if_neg c1]
      by_cases c2 : x4 = -1
      · rw [if_pos c2]
      · rw [if_neg c2, if_neg (by omega)]
  -- one turn, with what follows
  have turn : ∀ (i g p : Nat) (x4 : Int) (l : OL) (r s : Nat) (m : ZM), i ≤ 10 → 2 ≤ g → ((r = 34 ∧ s = 37) ∨ (r = 37 ∧ s = 34)) → DFF c TT LL YY m → MI m → m.2.1 12 4 = some r → m.2.1 12 5 = some s → m.1 12 6 = i → RL r l m → l.length ≤ 150 → OK0 l → ((∃ k : Nat, x4 = k ∧ FC (xf l) l.length p k) ∨ (x4 = -1 ∧ NC (xf l) l.length p)) →
      (∃ (v : Int) (m' : ZM), zL142_15 n (g + 1) c 0 x4 i m = some (v, m') ∧ XV c TT LL [] i p l v ∧ m'.2.1 12 4 = some r ∧ m'.2.1 12 5 = some s ∧ m'.1 12 6 = i ∧ MI m' ∧ kp (wl wZ) m m' ∧ ((0 ≤ v ∧ RL r l m' ∧ v = l.length) ∨ (v < 0 ∧ m'.1 r 2 = 0)) ∧ ∀ q : Nat, m'.1 33 q = m.1 33 q) ∨
      (∃ (k u : Nat) (l1 : OL) (x : Int) (m' : ZM), i < 10 ∧ zL142_15 n (g + 1) c 0 x4 i m = zL142_15 n g c 0 x ((i + 1 : Nat) : Int) m' ∧ FC (xf l) l.length p k ∧ CAL c TT LL i k l 0 (some (u, l1)) ∧ OK0 l1 ∧ l1.length ≤ 150 ∧ DFF c TT LL YY m' ∧ MI m' ∧ m'.2.1 12 4 = some s ∧ m'.2.1 12 5 = some r ∧ m'.1 12 6 = ((i + 1 : Nat) : Int) ∧ RL s l1 m' ∧ ((∃ k' : Nat, x = k' ∧ FC (xf l1) l1.length k k') ∨ (x = -1 ∧ NC (xf l1) l1.length k)) ∧ kp (wl wZ) m m' ∧ m'.1 33 i = u ∧ ∀ q : Nat, q ≠ i → m'.1 33 q = m.1 33 q) := by
    intro i g p x4 l r s m hi hg hrs hDF hI h4 h5 h6 hR hl hok hx
    have hr : isR r := (isR_l hrs).1
    have hs : isR s := (isR_l hrs).2.1
    have hr' : r = 34 ∨ r = 37 := hr
    have hRT := RL_RT hR hl hok.2.2
    rcases hx with ⟨k, rfl, hF⟩ | ⟨rfl, hN⟩
    · obtain ⟨fk1, hic, fk3⟩ := hF
      obtain ⟨ic1, ic2, ic3, ic4⟩ := hic
      obtain ⟨en, hen, hcl⟩ := CL_ex (xf l) l.length (k + 2) (OK_BL hok) ic1 ic4
      obtain ⟨hCB, hle⟩ := CB_of (OK_BL hok) hen hcl
      obtain ⟨g', rfl⟩ : ∃ g', g = g' + 1 := ⟨g - 1, by omega⟩
      -- an error ends it
      have fail : ∀ (e : Int) (m2 : ZM), e < 0 → m2.2.1 12 4 = some r → m2.2.1 12 5 = some s → m2.1 12 6 = i → MI m2 → RL r l m2 → kp (wl wZ) m m2 → (∀ q : Nat, m2.1 33 q = m.1 33 q) → zL142_15 n (g' + 1 + 1) c 0 k i m = zJ142_108 n (zL142_15 n (g' + 1)) c k i e m2 → CAL c TT LL i k l e none →
          ∃ (v : Int) (m' : ZM), zL142_15 n (g' + 1 + 1) c 0 k i m = some (v, m') ∧ XV c TT LL [] i p l v ∧ m'.2.1 12 4 = some r ∧ m'.2.1 12 5 = some s ∧ m'.1 12 6 = i ∧ MI m' ∧ kp (wl wZ) m m' ∧ ((0 ≤ v ∧ RL r l m' ∧ v = l.length) ∨ (v < 0 ∧ m'.1 r 2 = 0)) ∧ ∀ q : Nat, m'.1 33 q = m.1 33 q := by
        intro e m2 he a4 a5 a6 aI aR ak a33 es hcal
        obtain ⟨w, w1, w2⟩ := c173 (RL_RT aR hl hok.2.2) n (by omega) k (by omega)
        clear w2
        refine ⟨e, z_i (z_i m2 r 2 0) r 3 0, ?_, Or.inr ⟨k, ⟨fk1, ⟨ic1, ic2, ic3, ic4⟩, fk3⟩, he, hcal⟩, a4, a5, ?_, MI_k (l := wRL r) aI (kp_i (kp_i (kp_refl _ m2) (by simp [wRL])) (by simp [wRL])) (wRL_n (by omega)) (wRL_n (by omega)), kp_tr ak (kp_sub (wRL_Z hr') (kp_i (kp_i (kp_refl _ m2) (by simp [wRL])) (by simp [wRL]))), Or.inr ⟨he, by rw [z_nk _ _ _ _ _ _ (by decide), z_eq]⟩, fun q => ?_⟩
        · rw [es]
          unfold zJ142_108
          rw [a4]
          dsimp only
          rw [if_pos hr, w1]
          dsimp only
          rw [if_pos (by omega)]
          exact err g' e w ((i : Int) + 1) r m2 hr he a4
        · rw [z_nc _ _ _ _ _ _ (by omega), z_nc _ _ _ _ _ _ (by omega)]; exact a6
        · rw [z_nc _ _ _ _ _ _ (by omega), z_nc _ _ _ _ _ _ (by omega)]; exact a33 q
      rcases c143 (n := n) (by omega) hc hDF (xf l k) with ⟨d, d1, d2⟩ | ⟨d1, d2⟩
      · obtain ⟨_, hb⟩ := m_pl_d (show d < 6 by have := d2.1; omega)
        have hge := isD_ge hb
        have hG := hDF d d2.1
        obtain ⟨w, o, m1, e1, e2, e3, e4, e5⟩ := c145 hn hb l hl hok.2.2 r hr (k + 3) en hCB hle ((i : Int) + 1) 4 n 0 m hG (by have := hG.2.2.2.1.2.2.2.2.2.2.1; omega) (by have := hG.2.2.2.1.2.2.2.2.2.2.1; omega) (Nat.zero_le _) h4 hR hI
        have R1 : RL r l m1 := RL_kp hR e3 (wMm_n _ _ (by omega)) (wMm_n _ _ (by omega)) (fun q => ⟨wMm_n _ _ (by omega), wMm_n _ _ (by omega)⟩)
        have k12 : ∀ q : Nat, m1.1 12 q = m.1 12 q ∧ m1.2.1 12 q = m.2.1 12 q := fun q => e3.1 12 q (wMm_n _ _ (by omega))
        have k33 : ∀ q : Nat, m1.1 33 q = m.1 33 q := fun q => (e3.1 33 q (wMm_n _ _ (by omega))).1
        have G1 : GD (41 + 7 * d) (TT d) (LL d) (YY d) m1 := GD_kp hG e3 (fun a q h1 h2 => wMm_n _ _ (by omega))
        have st : zL142_15 n (g' + 1 + 1) c 0 k i m = if 0 ≤ w then (match zF144 n (41 + 7 * d) w k en m1 with | some (v57, M58) => (zJ142_108 n (zL142_15 n (g' + 1)) c k i v57 M58) | none => none) else (zJ142_108 n (zL142_15 n (g' + 1)) c k i w m1) := by
          rw [zL142_15, if_neg (by omega), if_neg (by omega), if_pos rfl, h4]
          dsimp only
          rw [if_pos hr, c170 hRT n k]
          dsimp only
          rw [d1]
          dsimp only
          rw [if_pos hb, h4]
          dsimp only
          rw [if_pos hr, if_pos (by omega), show (k : Int) + 2 = ((k + 2 : Nat) : Int) by omega, c172 hRT n (by omega) (k + 2) en hen hcl]
          dsimp only
          rw [if_pos (by omega)]
          have e145 : zF145 n (41 + 7 * d) ((k : Int) + 3) en m = some (w, m1) := by
            unfold zF145
            rw [show (k : Int) + 3 = ((k + 3 : Nat) : Int) by omega]
            exact e1
          rw [e145] <;> rfl
        rcases e5 with ⟨f1, f2⟩ | ⟨u, f1, f2, f3⟩
        · left
          refine fail w m1 f1 (by rw [(k12 4).2]; exact h4) (by rw [(k12 5).2]; exact h5) (by rw [(k12 6).1]; exact h6) e4 R1 (kp_sub wZ_M e3) k33 (by rw [st, if_neg (by omega)]) ⟨en, hen, hcl, Or.inr ⟨d, w, o, d2, e2, Or.inl ⟨f1, rfl, rfl⟩⟩⟩
        · subst f1
          obtain ⟨v, m2, a1, a2, a3⟩ := c144 hn hb l hl hok r s hrs k en ⟨ic1, ic2, ic3, ic4⟩ hen hcl i u o m1 G1 f2 (by rw [(k12 4).2]; exact h4) (by rw [(k12 5).2]; exact h5) (by rw [(k12 6).1]; exact h6) R1 f3
          have kz := kp_tr (kp_sub wZ_M e3) (kp_sub wZ_Y a2)
          have I2 : MI m2 := MI_k e4 a2 (wY_n (by omega)) (wY_n (by omega))
          have st2 : zL142_15 n (g' + 1 + 1) c 0 k i m = zJ142_108 n (zL142_15 n (g' + 1)) c k i v m2 := by
            rw [st, if_pos (by omega), a1]
          rcases a3 with ⟨b1, b2, b3, b4, b5, b6, b7⟩ | ⟨b1, b2, x, b3, b4, b5, b6, b7, b8, b9, b10, b11⟩
          · left
            refine fail v m2 b1 b3 b4 b5 I2 b6 kz (fun q => by rw [b7 q]; exact k33 q) st2 ⟨en, hen, hcl, Or.inr ⟨d, (u : Int), o, d2, e2, Or.inr ⟨u, rfl, ?_⟩⟩⟩
            rcases b2 with ⟨y1, y2⟩ | ⟨y1, y2, y3⟩ | ⟨y1, y, y2, y3, y4⟩
            · exact Or.inl ⟨y1, y2, rfl⟩
            · exact Or.inr (Or.inl ⟨y1, y2, y3, rfl⟩)
            · exact Or.inr (Or.inr ⟨y1, y, y2, Or.inl ⟨y3, y4, rfl⟩⟩)
          · right
            subst b1
            obtain ⟨w', w1, w2⟩ := c173 (RL_RT b8 b4 b9.2.2) n (by omega) k (by omega)
            refine ⟨k, u, nwL l k en x, w', m2, b2, ?_, ⟨fk1, ⟨ic1, ic2, ic3, ic4⟩, fk3⟩, ⟨en, hen, hcl, Or.inr ⟨d, (u : Int), o, d2, e2, Or.inr ⟨u, rfl, Or.inr (Or.inr ⟨b2, x, b3, Or.inr ⟨b4, rfl, rfl⟩⟩)⟩⟩⟩, b9, b4, DFF_k hDF kz (fun a q h1 h2 => wZ_n (by omega)) hc, I2, b5, b6, by rw [b7]; omega, b8, w2, kz, b10, fun q hq => by rw [b11 q hq]; exact k33 q⟩
            rw [st2]
            unfold zJ142_108
            rw [b5]
            dsimp only
            rw [if_pos hs, w1]
            dsimp only
            rw [if_pos (by omega), show ((i + 1 : Nat) : Int) = (i : Int) + 1 by omega]
      · left
        have st : zL142_15 n (g' + 1 + 1) c 0 k i m = zJ142_108 n (zL142_15 n (g' + 1)) c k i (-2000) m := by
          rw [zL142_15, if_neg (by omega), if_neg (by omega), if_pos rfl, h4]
          dsimp only
          rw [if_pos hr, c170 hRT n k]
          dsimp only
          rw [d1]
          dsimp only
          rw [h4]
          dsimp only
          rw [if_pos hr, if_pos (by omega), show (k : Int) + 2 = ((k + 2 : Nat) : Int) by omega, c172 hRT n (by omega) (k + 2) en hen hcl]
        exact fail (-2000) m (by decide) h4 h5 h6 hI hR (kp_refl _ m) (fun _ => rfl) st ⟨en, hen, hcl, Or.inl ⟨d2, rfl, rfl⟩⟩
    · left
      refine ⟨(l.length : Int), m, ?_, Or.inl ⟨hN, rfl⟩, h4, h5, h6, hI, kp_refl _ m, Or.inl ⟨by omega, hR, rfl⟩, fun _ => rfl⟩
      rw [zL142_15, if_neg (by omega), if_pos rfl]
      unfold zJ142_126
      rw [if_pos rfl, h4]
      dsimp only
      rw [if_pos hr]
      unfold zF166
      dsimp only
      rw [hRT.1]
  intro j
  induction j with
  | zero =>
    intro i g p x4 l r s m h1 h2 hrs hDF hI h4 h5 h6 hR hl hok hx
    obtain ⟨g, rfl⟩ : ∃ g', g = g' + 1 := ⟨g - 1, by omega⟩
    rcases turn i g p x4 l r s m (by omega) (by omega) hrs hDF hI h4 h5 h6 hR hl hok hx with ⟨v, m', a1, a2, a3, a4, a5, a6, a7, a8, a9⟩ | ⟨k, u, l1, x, m', a1, _⟩
    · refine ⟨[], v, m', r, s, a1, a2, by show i + 0 ≤ 10; omega, hrs, a3, a4, a5, a6, a7, ?_, fun q x hx => (by cases hx), fun q _ => a9 q⟩
      rcases a8 with ⟨b1, b2, b3⟩ | b
      · exact Or.inl ⟨b1, b2, b3, by omega, hok⟩
      · exact Or.inr b
    · omega
  | succ j ih =>
    intro i g p x4 l r s m h1 h2 hrs hDF hI h4 h5 h6 hR hl hok hx
    obtain ⟨g, rfl⟩ : ∃ g', g = g' + 1 := ⟨g - 1, by omega⟩
    rcases turn i g p x4 l r s m (by omega) (by omega) hrs hDF hI h4 h5 h6 hR hl hok hx with ⟨v, m', a1, a2, a3, a4, a5, a6, a7, a8, a9⟩ | ⟨k, u, l1, x, m1, a1, a2, a3, a4, a5, a6, a7, a8, a9, a10, a11, a12, a13, a14, a15, a16⟩
    · refine ⟨[], v, m', r, s, a1, a2, by show i + 0 ≤ 10; omega, hrs, a3, a4, a5, a6, a7, ?_, fun q x hx => (by cases hx), fun q _ => a9 q⟩
      rcases a8 with ⟨b1, b2, b3⟩ | b
      · exact Or.inl ⟨b1, b2, b3, by omega, hok⟩
      · exact Or.inr b
    · obtain ⟨tr, v, m', r', s', b1, b2, b3, b4, b5, b6, b7, b8, b9, b10, b11, b12⟩ := ih (i + 1) g k x l1 s r m1 (by omega) (by omega) (isR_l hrs).2.2 a7 a8 a9 a10 a11 a12 a6 a5 a13
      refine ⟨(k, u, l1) :: tr, v, m', r', s', by rw [a2]; exact b1, ⟨a3, a4, a5, a6, b2⟩, by rw [List.length_cons]; omega, b4, b5, b6, by rw [b7, List.length_cons]; omega, b8, kp_tr a14 b9, b10, fun q y hy => ?_, fun q hq => by rw [b12 q (by omega)]; exact a16 q (by omega)⟩
      cases q with
      | zero =>
        have : (k, u, l1) = y := Option.some.inj hy
        subst this
        show m'.1 33 (i + 0) = u
        rw [b12 (i + 0) (by omega)]
        exact a15
      | succ q =>
        have := b11 q y hy
        rw [show i + (q + 1) = i + 1 + q by omega]
        exact this
