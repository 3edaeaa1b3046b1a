/-! The reference calls, and expands. -/
def wR : List (Nat × Nat) := w33x ++ (w67 ++ (w73 ++ (wMK ++ (w80 ++ [(83, 37), (83, 38), (107, 1000)]))))
theorem wR_n {c k : Nat} (h : c < 83 ∨ c = 84 ∨ c = 86 ∨ c = 87 ∨ (c = 88 ∧ k ≠ 5) ∨ (c = 89 ∧ k ≠ 5) ∨ (c = 83 ∧ (k = 1 ∨ k = 9))) : wl wR c k = false := by
  unfold wl wR w33x w34x w28 w45x w45y w44x w67 w73 wMK w80
  simp
  omega
theorem wR_33 : ∀ p ∈ w33x, p ∈ wR := fun _ hp => List.mem_append_left _ hp
theorem wR_67 : ∀ p ∈ w67, p ∈ wR := fun _ hp => List.mem_append_right _ (List.mem_append_left _ hp)
theorem wR_73 : ∀ p ∈ w73, p ∈ wR := fun _ hp => List.mem_append_right _ (List.mem_append_right _ (List.mem_append_left _ hp))
theorem wR_MK : ∀ p ∈ wMK, p ∈ wR := fun _ hp => List.mem_append_right _ (List.mem_append_right _ (List.mem_append_right _ (List.mem_append_left _ hp)))
theorem wR_80 : ∀ p ∈ w80, p ∈ wR := fun _ hp => List.mem_append_right _ (List.mem_append_right _ (List.mem_append_right _ (List.mem_append_right _ (List.mem_append_left _ hp))))
theorem wR_e {p : Nat × Nat} (hp : p = (83, 37) ∨ p = (83, 38) ∨ p = (107, 1000)) : p ∈ wR := by
  refine List.mem_append_right _ (List.mem_append_right _ (List.mem_append_right _ (List.mem_append_right _ (List.mem_append_right _ ?_))))
  rcases hp with rfl | rfl | rfl <;> simp
theorem KFF_k {c : Nat} {TT : Nat → Nat → Int} {LL : Nat → Nat} {m m' : ZM} {l : List (Nat × Nat)} (h : KFF c TT LL m) (hc : c ≤ 5) (k : kp (wl l) m m') (hl : ∀ a q : Nat, (a = 86 ∨ a = 87 ∨ (a = 88 ∧ q ≠ 5) ∨ (a = 89 ∧ q ≠ 5)) → wl l a q = false) : KFF c TT LL m' := fun d hd => by
  obtain ⟨k1, k2, k3, k4⟩ := h d hd
  exact ⟨by rw [(k.1 87 d (hl _ _ (by omega))).1]; exact k1, fun q hq => by rw [(k.1 86 _ (hl _ _ (by omega))).1]; exact k2 q hq, by rw [(k.1 88 d (hl _ _ (by omega))).1]; exact k3, by rw [(k.1 89 d (hl _ _ (by omega))).1]; exact k4⟩
theorem RT2_k {l : OL} {m m' : ZM} {w : List (Nat × Nat)} (h : RT2 l m) (k : kp (wl w) m m') (h1 : wl w 83 34 = false) (h2 : ∀ q, wl w 105 q = false ∧ wl w 106 q = false) : RT2 l m' := ⟨by rw [(k.1 83 34 h1).1]; exact h.1, fun p hp => by rw [(k.1 105 p (h2 p).1).1, (k.1 106 p (h2 p).2).1]; exact h.2 p hp⟩
theorem w33_n {c k : Nat} (h : (c = 83 ∧ (k = 34 ∨ k = 38 ∨ k = 37 ∨ k = 9 ∨ k = 1)) ∨ 104 < c ∨ c = 86 ∨ c = 87 ∨ (c = 88 ∧ k ≠ 5) ∨ (c = 89 ∧ k ≠ 5)) : wl w33x c k = false := by
  unfold wl w33x w34x w28 w45x w45y w44x
  simp
  omega
theorem w67_n' {c k : Nat} (h : (c = 83 ∧ k ≠ 40) ∨ (c ≠ 83 ∧ c < 108) ∨ c = 115 ∨ 116 < c) : wl w67 c k = false := by
  unfold wl w67
  simp
  omega
theorem w80_n {c k : Nat} (h : (c = 83 ∧ k ≠ 34) ∨ (c ≠ 83 ∧ c ≠ 105 ∧ c ≠ 106)) : wl w80 c k = false := by
  unfold wl w80
  simp
  omega
section
variable {n c : Nat} {TT : Nat → Nat → Int} {LL : Nat → Nat} {YY : Nat → Nat → Nat → Int}
/-- what the reference is in the midst of an expansion: i expansions done, row l -/
def ME (c : Nat) (TT : Nat → Nat → Int) (LL : Nat → Nat) (i : Nat) (l : OL) (m : ZM) : Prop := m.1 83 9 = c ∧ KFF c TT LL m ∧ RT2 l m ∧ m.1 83 38 = i
/-- what is known of definition d, without memory -/
def PD (TT : Nat → Nat → Int) (LL : Nat → Nat) (YY : Nat → Nat → Nat → Int) (d : Nat) : Prop := LL d ≤ 120 ∧ chs (TT d) (LL d) ∧ (dfn (tc (TT d) (LL d))).1 = 2 ∧ (dfn (tc (TT d) (LL d))).2.2 ≤ 3 ∧ ∀ u : Nat, u < (dfn (tc (TT d) (LL d))).2.2 → RM (tc (TT d) (LL d)) (armst (tc (TT d) (LL d)) u) (YY d) ∧ ckr (tc (TT d) (LL d)) (armst (tc (TT d) (LL d)) u) 0
theorem DFF_PD {m : ZM} (h : DFF c TT LL YY m) (d : Nat) (hd : d < c) : PD TT LL YY d := by
  obtain ⟨g1, g2, g3, hD, g5, g6, g7, g8⟩ := h d hd
  exact ⟨g1, g2, g3, hD.2.2.2.2.2.2.1, fun u hu => ⟨(g8 u hu).1, (g8 u hu).2.2⟩⟩
/-- the arms are tried -/
theorem m81a (hn : 2000000000 ≤ n) (hc : c ≤ 5) (d : Nat) (hd : d < c) (hP : PD TT LL YY d) (l : OL) (hl : l.length ≤ 150) (hok : OK0 l) (k en : Nat) (hen : en < l.length) (hcl : CL (xf l) (k + 2) en) (i : Nat) (hi : i ≤ 10) (v : Int) (o : Option (Nat × OL)) : ∀ (f g u : Nat) (w : Int) (x : Option OL) (m : ZM), 2 * f + 2 ≤ g → u ≤ 3 → CHS (tc (TT d) (LL d)) (xf l) (kf l) (k + 3) en ((i : Int) + 1) (dfn (tc (TT d) (LL d))).2.2 f u w x → ((w < 0 ∧ v = w ∧ o = none) ∨ ∃ u : Nat, w = (u : Int) ∧ ((10 ≤ i ∧ v = -2004 ∧ o = none) ∨ (i < 10 ∧ x = none ∧ v = -2003 ∧ o = none) ∨ (i < 10 ∧ ∃ y, x = some y ∧ ((150 < (nwL l k en y).length ∧ v = -2005 ∧ o = none) ∨ ((nwL l k en y).length ≤ 150 ∧ v = 0 ∧ o = some (u, nwL l k en y)))))) → ME c TT LL i l m →
    ∃ m', zL81_61 n g k d en u 0 m = some (v, m') ∧ kp (wl wR) m m' ∧ ((v < 0 ∧ o = none ∧ m'.1 83 38 = i ∧ ∀ q : Nat, m'.1 107 q = m.1 107 q) ∨ (v = 0 ∧ ∃ u' l1, o = some (u', l1) ∧ ME c TT LL (i + 1) l1 m' ∧ m'.1 107 (i + 1) = (u' : Nat) ∧ ∀ q : Nat, q ≠ i + 1 → m'.1 107 q = m.1 107 q)) := by
  obtain ⟨p1, p2, p3, p4, p5⟩ := hP
  obtain ⟨hCB, hle⟩ := CB_of (OK_BL hok) hen hcl
  have hvX : ∀ p : Nat, p < l.length → vt (xf l p) := fun p hp => hok.2.2 _ (xf_mem l p hp)
  have hke : k + 2 < en := hcl.1
  intro f
  induction f with
  | zero => intro g u w x m _ _ h; exact absurd h not_false
  | succ f ih =>
    intro g u w x m hg hu3 hC hr hE
    obtain ⟨g, rfl⟩ : ∃ g', g = g' + 1 := ⟨g - 1, by omega⟩
    obtain ⟨e9, eK, eT, e38⟩ := hE
    have h89 : m.1 89 d = (dfn (tc (TT d) (LL d))).2.2 := (eK d hd).2.2.2
    rcases hC with ⟨c1, c2, c3⟩ | ⟨c1, tr, w', c2, c3⟩
    · subst c2
      have hv : v = -2001 ∧ o = none := by
        rcases hr with ⟨_, r2, r3⟩ | ⟨u', r1, _⟩
        · exact ⟨r2, r3⟩
        · omega
      obtain ⟨rfl, rfl⟩ := hv
      refine ⟨m, ?_, kp_refl _ m, Or.inl ⟨by decide, rfl, e38, fun _ => rfl⟩⟩
      rw [zL81_61, if_neg (by omega), Int.toNat_natCast, h89, if_pos (by omega)]
      unfold zJ81_113 zJ81_132
      rw [if_neg (by decide), if_pos (by decide)]
    · obtain ⟨a1, a2⟩ := p5 u c1
      obtain ⟨k1, k2, k3⟩ := ckr_0 a2
      have hp := RM_p a1
      have hbd := RM_b a1
      obtain ⟨m1, b1, b2, b3⟩ := m33 (n := n) (by omega) p1 p2 p3 d u (by omega) c1 m (eK d hd)
      have T1 : RT2 l m1 := RT2_k eT b3 (w33_n (by omega)) (fun q => ⟨w33_n (by omega), w33_n (by omega)⟩)
      have K1 : KFF c TT LL m1 := KFF_k eK hc b3 (fun a q h => w33_n (by omega))
      have A1 : AX true m1 (eA (tc (TT d) (LL d)) (armst (tc (TT d) (LL d)) u)) (eN (tc (TT d) (LL d)) (armst (tc (TT d) (LL d)) u) + 1) := by
        have := b2.1
        have h1 := a1.2.2.2.2.1
        unfold eA eN
        rw [show (armP (tc (TT d) (LL d)) (armst (tc (TT d) (LL d)) u)).2.2.2.2.2.2.1 - 1 + 1 = (armP (tc (TT d) (LL d)) (armst (tc (TT d) (LL d)) u)).2.2.2.2.2.2.1 by omega]
        exact this
      have B1 : AX false m1 (eB (tc (TT d) (LL d)) (armst (tc (TT d) (LL d)) u)) (eM (tc (TT d) (LL d)) (armst (tc (TT d) (LL d)) u) + 1) := by
        have := b2.2
        have h1 := a1.2.2.2.2.2
        unfold eB eM
        rw [show (armB (tc (TT d) (LL d)) (armst (tc (TT d) (LL d)) u)).2.2.2.2.2.2.1 - 1 + 1 = (armB (tc (TT d) (LL d)) (armst (tc (TT d) (LL d)) u)).2.2.2.2.2.2.1 by omega]
        exact this
      obtain ⟨y, m2, d1, d2, d3⟩ := m67 (n := n) (by omega) hp k2 hCB hle m1 A1 (RT2_RR T1 hl hok.2.2) tr w' c2
      have T2 : RT2 l m2 := RT2_k T1 d3 (w67_n' (by omega)) (fun q => ⟨w67_n' (by omega), w67_n' (by omega)⟩)
      have K2 : KFF c TT LL m2 := KFF_k K1 hc d3 (fun a q h => w67_n' (by omega))
      have kR2 : kp (wl wR) m m2 := kp_tr (kp_sub wR_33 b3) (kp_sub wR_67 d3)
      have e2 : ∀ a q : Nat, (a = 83 ∧ (q = 9 ∨ q = 38)) ∨ a = 107 → m2.1 a q = m.1 a q := fun a q h => by
        rw [(d3.1 a q (w67_n' (by omega))).1, (b3.1 a q (w33_n (by omega))).1]
      have E2 : ME c TT LL i l m2 := ⟨by rw [e2 83 9 (by omega)]; exact e9, K2, T2, by rw [e2 83 38 (by omega)]; exact e38⟩
      have st : zL81_61 n (g + 1) k d en u 0 m = if y = 0 then zL81_61 n g k d en ((u + 1 : Nat) : Int) 0 m2 else zL81_61 n g k d en u y m2 := by
        rw [zL81_61, if_neg (by omega), Int.toNat_natCast, h89, if_neg (by omega), if_pos rfl, b1]
        dsimp only
        unfold zJ81_84
        rw [if_pos (by omega), show (k : Int) + 3 = ((k + 3 : Nat) : Int) by omega, d1]
        dsimp only
        rw [if_pos (show rg ((u : Int) + 1) by omega), show ((u + 1 : Nat) : Int) = (u : Int) + 1 by omega]
        unfold zJ81_108
        by_cases q : y = 0
        · rw [if_pos q, if_pos q, q]
        · rw [if_neg q, if_neg q]
      have st2 : ∀ y' : Int, y' ≠ 0 → ∀ (g' : Nat) (m3 : ZM), m3.1 89 d = ((dfn (tc (TT d) (LL d))).2.2 : Int) → zL81_61 n (g' + 1) k d en u y' m3 = zJ81_113 n k en u y' m3 := by
        intro y' hy g' m3 h3
        rw [zL81_61, if_neg (by omega), Int.toNat_natCast, h3, if_neg (by omega), if_neg hy]
      obtain ⟨g, rfl⟩ : ∃ g', g = g' + 1 := ⟨g - 1, by omega⟩
      rw [st]
      rcases c3 with ⟨w1, w2⟩ | ⟨w1, w2, w3⟩ | ⟨w1, w2, hh, w3, w4⟩
      · subst w1
        have hy : y = 0 := by
          rcases d2 with ⟨q, _⟩ | ⟨_, q⟩ | ⟨q, _⟩
          · exact absurd q (by decide)
          · exact q
          · exact absurd q (by decide)
        rw [if_pos hy]
        have hu2 : u + 1 ≤ 3 := by omega
        obtain ⟨m', f1, f2, f3⟩ := ih (g + 1) (u + 1) w x m2 (by omega) hu2 w2 hr E2
        refine ⟨m', f1, kp_tr kR2 f2, ?_⟩
        rcases f3 with ⟨q1, q2, q3, q4⟩ | ⟨q1, u', l1, q2, q3, q4, q5⟩
        · exact Or.inl ⟨q1, q2, q3, fun q => by rw [q4 q]; exact e2 107 q (by omega)⟩
        · exact Or.inr ⟨q1, u', l1, q2, q3, q4, fun q hq => by rw [q5 q hq]; exact e2 107 q (by omega)⟩
      · subst w1
        subst w2
        have hy : y = -1 := by
          rcases d2 with ⟨_, q⟩ | ⟨q, _⟩ | ⟨q, _⟩
          · exact q
          · exact absurd q (by decide)
          · exact absurd q (by decide)
        have hv : v = -2002 ∧ o = none := by
          rcases hr with ⟨_, r2, r3⟩ | ⟨u', r1, _⟩
          · exact ⟨r2, r3⟩
          · omega
        obtain ⟨rfl, rfl⟩ := hv
        refine ⟨m2, ?_, kR2, Or.inl ⟨by decide, rfl, E2.2.2.2, fun q => e2 107 q (by omega)⟩⟩
        rw [if_neg (by omega), st2 y (by omega) g m2 (K2 d hd).2.2.2, hy]
        unfold zJ81_113 zJ81_132
        rw [if_neg (by decide), if_neg (by decide)]
      · subst w1
        subst w2
        rcases d2 with ⟨q, _⟩ | ⟨q, _⟩ | ⟨_, hy, dP, dH, dM, dT, d40, dl⟩
        · exact absurd q (by decide)
        · exact absurd q (by decide)
        subst hy
        obtain ⟨f1, f2, f3, f4, f5, f6, f7, f8, f9⟩ := suc_f hp k2 (fun p hp => by have := hvX p (by omega); omega) hen hl tr hh c2 w3
        rw [if_neg (by decide), st2 1 (by decide) g m2 (K2 d hd).2.2.2]
        have hr2 : (10 ≤ i ∧ v = -2004 ∧ o = none) ∨ (i < 10 ∧ x = none ∧ v = -2003 ∧ o = none) ∨ (i < 10 ∧ ∃ y, x = some y ∧ ((150 < (nwL l k en y).length ∧ v = -2005 ∧ o = none) ∨ ((nwL l k en y).length ≤ 150 ∧ v = 0 ∧ o = some (u, nwL l k en y)))) := by
          rcases hr with ⟨r1, _⟩ | ⟨u', r1, r2⟩
          · omega
          · have : u' = u := by omega
            subst this
            exact r2
        unfold zJ81_113
        rw [if_pos (by decide), E2.2.2.2]
        by_cases q10 : 10 ≤ i
        · rw [if_neg (by omega)]
          have hv : v = -2004 ∧ o = none := by
            rcases hr2 with ⟨_, r⟩ | ⟨r, _⟩ | ⟨r, _⟩
            · exact r
            · omega
            · omega
          obtain ⟨rfl, rfl⟩ := hv
          exact ⟨m2, rfl, kR2, Or.inl ⟨by decide, rfl, E2.2.2.2, fun q => e2 107 q (by omega)⟩⟩
        · rw [if_pos (by omega)]
          have A2 : AX true m2 (eA (tc (TT d) (LL d)) (armst (tc (TT d) (LL d)) u)) (eN (tc (TT d) (LL d)) (armst (tc (TT d) (LL d)) u) + 1) := AX_k A1 (fun a q h1 h2 => (d3.1 a q (w67_n' (by omega))).1)
          have B2 : AX false m2 (eB (tc (TT d) (LL d)) (armst (tc (TT d) (LL d)) u)) (eM (tc (TT d) (LL d)) (armst (tc (TT d) (LL d)) u) + 1) := AX_kp B1 d3 (fun c hc q => w67_n' (by simp [ca] at hc; omega))
          obtain ⟨m3, ks, h1, h2, h3, h4, h5, h6⟩ := m73 (n := n) (by omega) hp k2 _ _ hh m2 f2 f1 f3 dT dM w3 f4 d40 A2
          have T3 : RT2 l m3 := RT2_k T2 h5 (w73_n _ _ (by omega)) (fun q => ⟨w73_n _ _ (by omega), w73_n _ _ (by omega)⟩)
          have K3 : KFF c TT LL m3 := KFF_k K2 hc h5 (fun a q h => w73_n _ _ (by omega))
          have A3 : AX true m3 (eA (tc (TT d) (LL d)) (armst (tc (TT d) (LL d)) u)) (eN (tc (TT d) (LL d)) (armst (tc (TT d) (LL d)) u) + 1) := AX_k A2 (fun a q h1 h2 => (h5.1 a q (w73_n _ _ (by omega))).1)
          have B3 : AX false m3 (eB (tc (TT d) (LL d)) (armst (tc (TT d) (LL d)) u)) (eM (tc (TT d) (LL d)) (armst (tc (TT d) (LL d)) u) + 1) := AX_kp B2 h5 (fun c hc q => w73_n _ _ (by simp [ca] at hc; omega))
          have kR3 := kp_tr kR2 (kp_sub wR_73 h5)
          have e3 : ∀ a q : Nat, (a = 83 ∧ (q = 9 ∨ q = 38)) ∨ a = 107 → m3.1 a q = m.1 a q := fun a q h => by
            rw [(h5.1 a q (w73_n _ _ (by omega))).1]
            exact e2 a q h
          have h38 : m3.1 83 38 = i := by rw [e3 83 38 (by omega)]; exact e38
          have mb := m77 (n := n) (mk := (i : Int) + 1) hn hp hbd k1 k3 f5.2.2.1 f5.2.2.2.1 (fun x hx => ⟨(f6 x hx).2.1, (f6 x hx).2.2.1⟩) (by omega) (show ks ≤ 511 by omega) f7 f8 m3 ⟨A3, B3, h2, h4, RT2_MR T3 hl⟩
          rw [← w4] at mb
          rw [h1]
          dsimp only
          unfold zJ81_150
          rw [h38, if_pos (by omega)]
          cases hx : x with
          | none =>
            rw [hx] at mb hr2
            have hv : v = -2003 ∧ o = none := by
              rcases hr2 with ⟨r, _⟩ | ⟨_, _, r⟩ | ⟨_, y, r, _⟩
              · omega
              · exact r
              · cases r
            obtain ⟨rfl, rfl⟩ := hv
            obtain ⟨m4, n1, n2⟩ := mb
            refine ⟨m4, ?_, kp_tr kR3 (kp_sub wR_MK n2), Or.inl ⟨by decide, rfl, by rw [(n2.1 83 38 (wMK_n _ _ (by omega))).1]; exact h38, fun q => by rw [(n2.1 107 q (wMK_n _ _ (by omega))).1]; exact e3 107 q (by omega)⟩⟩
            rw [n1]
            dsimp only
            rw [if_pos rfl]
          | some y =>
            rw [hx] at mb hr2
            obtain ⟨m4, n1, n2, n3, n4⟩ := mb
            have T4 : RT2 l m4 := RT2_k T3 n3 (wMK_n _ _ (by omega)) (fun q => ⟨wMK_n _ _ (by omega), wMK_n _ _ (by omega)⟩)
            have K4 : KFF c TT LL m4 := KFF_k K3 hc n3 (fun a q h => wMK_n _ _ (by omega))
            have e4 : ∀ a q : Nat, (a = 83 ∧ (q = 9 ∨ q = 38)) ∨ a = 107 → m4.1 a q = m.1 a q := fun a q h => by
              rw [(n3.1 a q (wMK_n _ _ (by omega))).1]
              exact e3 a q h
            have kR4 := kp_tr kR3 (kp_sub wR_MK n3)
            rcases m80 (n := n) (by omega) l y hl k en (by omega) hen (by omega) m4 T4 n2 with ⟨z1, z2⟩ | ⟨z1, m5, z2, z3, z4⟩
            · have hv : v = -2005 ∧ o = none := by
                rcases hr2 with ⟨r, _⟩ | ⟨_, r, _⟩ | ⟨_, y', r, ⟨_, r2⟩ | ⟨r1, _⟩⟩
                · omega
                · cases r
                · exact r2
                · cases r
                  omega
              obtain ⟨rfl, rfl⟩ := hv
              refine ⟨m4, ?_, kR4, Or.inl ⟨by decide, rfl, by rw [e4 83 38 (by omega)]; exact e38, fun q => e4 107 q (by omega)⟩⟩
              rw [n1]
              dsimp only
              rw [if_neg (show ¬ (1 : Int) = 0 by decide), if_pos (by omega), z2]
              dsimp only
              rw [if_pos rfl]
              rfl
            · have hv : v = 0 ∧ o = some (u, nwL l k en y) := by
                rcases hr2 with ⟨r, _⟩ | ⟨_, r, _⟩ | ⟨_, y', r, ⟨r1, _⟩ | ⟨_, r2⟩⟩
                · omega
                · cases r
                · cases r
                  omega
                · cases r
                  exact r2
              obtain ⟨rfl, rfl⟩ := hv
              have h385 : m5.1 83 38 = i := by rw [(z4.1 83 38 (w80_n (by omega))).1, e4 83 38 (by omega)]; exact e38
              obtain ⟨m6, hm6⟩ : ∃ m6, m6 = z_i (z_i m5 83 38 ((i : Int) + 1)) 107 (i + 1) u := ⟨_, rfl⟩
              have k6 : kp (wl [(83, 38), (107, 1000)]) m5 m6 := by
                rw [hm6]
                exact kp_ia (kp_i (kp_refl _ m5) (by simp)) (by simp)
              have k6n : ∀ {a q : Nat}, (a = 83 ∧ q ≠ 38) ∨ (a ≠ 83 ∧ a ≠ 107) → wl [(83, 38), (107, 1000)] a q = false := fun {a q} h => by
                unfold wl
                simp
                omega
              refine ⟨m6, ?_, kp_tr (kp_tr kR4 (kp_sub wR_80 z4)) (kp_sub (fun p hp => wR_e (by simp at hp; rcases hp with hp | hp <;> simp [hp])) k6), Or.inr ⟨rfl, u, _, rfl, ⟨?_, ?_, ?_, ?_⟩, ?_, fun q hq => ?_⟩⟩
              · rw [n1]
                dsimp only
                rw [if_neg (show ¬ (1 : Int) = 0 by decide), if_pos (by omega), z2]
                dsimp only
                rw [if_neg (show ¬ (1 : Int) = 0 by decide)]
                unfold zJ81_182
                rw [h385, if_pos (by omega), zlet, z_eq, if_neg (by omega), zlet, show ((i : Int) + 1).toNat = i + 1 by omega, ← hm6]
                rfl
              · rw [(k6.1 83 9 (k6n (by omega))).1, (z4.1 83 9 (w80_n (by omega))).1, e4 83 9 (by omega)]; exact e9
              · exact KFF_k (KFF_k K4 hc z4 (fun a q h => w80_n (by omega))) hc k6 (fun a q h => k6n (by omega))
              · exact RT2_k z3 k6 (k6n (by omega)) (fun q => ⟨k6n (by omega), k6n (by omega)⟩)
              · rw [hm6, z_nc _ _ _ _ _ _ (by decide), z_eq]
                omega
              · rw [hm6, z_eq]
              · rw [hm6, z_nk _ _ _ _ _ _ hq, z_nc _ _ _ _ _ _ (by decide), (z4.1 107 q (w80_n (by omega))).1]
                exact e4 107 q (by omega)
theorem LD_un {w : Int} {d d' : Nat} (h : LDn c TT LL w d) (h' : LDn c TT LL w d') : d = d' := by
  obtain ⟨a1, a2, a3⟩ := h
  obtain ⟨b1, b2, b3⟩ := h'
  rcases Nat.lt_trichotomy d d' with q | q | q
  · exact absurd b2 (a3 d' q b1)
  · exact q
  · exact absurd a2 (b3 d q a1)
/-- call -/
theorem m81 (hn : 2000000000 ≤ n) (hc : c ≤ 5) (hP : ∀ d : Nat, d < c → PD TT LL YY d) (l : OL) (hl : l.length ≤ 150) (hok : OK0 l) (k : Nat) (hic : icl (xf l) l.length k) (i : Nat) (hi : i ≤ 10) (v : Int) (o : Option (Nat × OL)) (hcal : CAL c TT LL i k l v o) (m : ZM) (hE : ME c TT LL i l m) :
    ∃ m', zF81 n k m = some (v, m') ∧ kp (wl wR) m m' ∧ ((v < 0 ∧ o = none ∧ m'.1 83 38 = i ∧ ∀ q : Nat, m'.1 107 q = m.1 107 q) ∨ (v = 0 ∧ ∃ u' l1, o = some (u', l1) ∧ ME c TT LL (i + 1) l1 m' ∧ m'.1 107 (i + 1) = (u' : Nat) ∧ ∀ q : Nat, q ≠ i + 1 → m'.1 107 q = m.1 107 q)) := by
  obtain ⟨e9, eK, eT, e38⟩ := hE
  have hkl := hic.1
  have h105 : m.1 105 k = xf l k := (eT.2 k (by omega)).1
  have key : ∀ (f j : Nat) (x2 : Int), c + 1 ≤ j + f → j ≤ c → ((x2 = -1 ∧ ∀ d : Nat, d < j → tc (TT d) (LL d) 0 ≠ xf l k) ∨ ∃ d : Nat, d < j ∧ x2 = d ∧ tc (TT d) (LL d) 0 = xf l k ∧ ∀ d' : Nat, d < d' → d' < j → tc (TT d') (LL d') 0 ≠ xf l k) → ∃ (f' : Nat) (y : Int), zL81_4 n f k x2 j m = zL81_4 n (f' + 1) k y c m ∧ ((y = -1 ∧ NDn c TT LL (xf l k)) ∨ ∃ d : Nat, y = d ∧ LDn c TT LL (xf l k) d) := by
    intro f
    induction f with
    | zero => intro j x2 h1 h2; omega
    | succ f ih =>
      intro j x2 h1 h2 h3
      by_cases q : j = c
      · subst q
        refine ⟨f, x2, rfl, ?_⟩
        rcases h3 with ⟨a1, a2⟩ | ⟨d, a1, a2, a3, a4⟩
        · exact Or.inl ⟨a1, a2⟩
        · exact Or.inr ⟨d, a2, a1, a3, a4⟩
      · have h88 : m.1 88 j = tc (TT j) (LL j) 0 := (eK j (by omega)).2.2.1
        have st : zL81_4 n (f + 1) k x2 j m = zL81_4 n f k (if tc (TT j) (LL j) 0 = xf l k then (j : Int) else x2) ((j + 1 : Nat) : Int) m := by
          rw [zL81_4, e9, if_neg (by omega), if_neg (by omega), if_neg (by omega), Int.toNat_natCast, Int.toNat_natCast, h88, h105]
          unfold zJ81_27 zJ81_31 zJ81_32
          rw [if_pos (show rg ((j : Int) + 1) by omega), if_pos (show rg ((j : Int) + 1) by omega), show ((j + 1 : Nat) : Int) = (j : Int) + 1 by omega]
          by_cases d : tc (TT j) (LL j) 0 = xf l k
          · rw [if_pos d, if_pos d]
          · rw [if_neg d, if_neg d]
        rw [st]
        refine ih (j + 1) _ (by omega) (by omega) ?_
        by_cases d : tc (TT j) (LL j) 0 = xf l k
        · rw [if_pos d]
          exact Or.inr ⟨j, by omega, rfl, d, fun d' g1 g2 => by omega⟩
        · rw [if_neg d]
          rcases h3 with ⟨a1, a2⟩ | ⟨d0, a1, a2, a3, a4⟩
          · refine Or.inl ⟨a1, fun d' g1 => ?_⟩
            by_cases e : d' = j
            · rw [e]; exact d
            · exact a2 d' (by omega)
          · refine Or.inr ⟨d0, by omega, a2, a3, fun d' g1 g2 => ?_⟩
            by_cases e : d' = j
            · rw [e]; exact d
            · exact a4 d' g1 (by omega)
  obtain ⟨f', y, s1, s2⟩ := key n 0 (-1) (by omega) (Nat.zero_le _) (Or.inl ⟨rfl, fun d hd => by omega⟩)
  obtain ⟨en, hen, hcl, hh⟩ := hcal
  unfold zF81
  rw [show ((0 : Nat) : Int) = 0 from rfl] at s1
  rw [s1, zL81_4, e9, if_pos (Int.le_refl _)]
  rcases s2 with ⟨a1, a2⟩ | ⟨d, a1, a2⟩
  · rw [if_neg (by omega)]
    rcases hh with ⟨_, rfl, rfl⟩ | ⟨d, w, x, b1, _⟩
    · exact ⟨m, rfl, kp_refl _ m, Or.inl ⟨by decide, rfl, e38, fun _ => rfl⟩⟩
    · exact absurd b1.2.1 (a2 d b1.1)
  · rcases hh with ⟨b1, _⟩ | ⟨d', w, x, b1, b2, b3⟩
    · exact absurd a2.2.1 (b1 d a2.1)
    · have hdd := LD_un b1 a2
      subst hdd
      rw [if_pos (by omega), if_pos (by omega), show (k : Int) + 2 = ((k + 2 : Nat) : Int) by omega, m61 (RT2_RR eT hl hok.2.2) n (by omega) (k + 2) en hen hcl]
      dsimp only
      rw [a1]
      exact m81a hn hc d' b1.1 (hP d' b1.1) l hl hok k en hen hcl i hi v o 4 n 0 w x m (by omega) (by omega) b2 b3 ⟨e9, eK, eT, e38⟩
/-- expand, behind the reading -/
theorem m82 (hn : 2000000000 ≤ n) (hc : c ≤ 5) (hP : ∀ d : Nat, d < c → PD TT LL YY d) : ∀ (tr : List (Nat × Nat × OL)) (i p f : Nat) (l : OL) (v : Int) (m : ZM), XV c TT LL tr i p l v → ME c TT LL i l m → OK0 l → l.length ≤ 150 → i + tr.length ≤ 10 → p ≤ 200 → 400 * (tr.length + 1) ≤ f →
    ∃ m', zL82_30 n f p m = some (v, m') ∧ kp (wl wR) m m' ∧ m'.1 83 38 = ((i + tr.length : Nat) : Int) ∧ ((0 ≤ v ∧ RT2 (lstL tr l) m' ∧ m'.1 83 37 = v) ∨ (v < 0 ∧ m'.1 83 37 = m.1 83 37)) ∧ UA (i + 1) tr (m'.1 107) ∧ ∀ q : Nat, q ≤ i → m'.1 107 q = m.1 107 q := by
  have skip : ∀ (l : OL) (m : ZM) (i : Nat), ME c TT LL i l m → OK0 l → l.length ≤ 150 → ∀ (k p f : Nat), (∀ q : Nat, p ≤ q → q < p + k → ¬ icl (xf l) l.length q) → p + k ≤ l.length → zL82_30 n (f + k) p m = zL82_30 n f ((p + k : Nat) : Int) m := by
    intro l m i hE hok hl k
    induction k with
    | zero => intro p f _ _; rfl
    | succ k ih =>
      intro p f h1 h2
      have := ih (p + 1) f (fun q q1 q2 => h1 q (by omega) (by omega)) (by omega)
      rw [show f + (k + 1) = f + k + 1 by omega, zL82_30, hE.2.2.1.1, if_neg (by omega), m79 (RT2_RR hE.2.2.1 hl hok.2.2) hE.2.2.1.1 n p (by omega), bi_n (h1 p (Nat.le_refl _) (by omega))]
      dsimp only
      rw [if_pos rfl, if_pos (by omega)]
      rw [show ((p + 1 : Nat) : Int) = (p : Int) + 1 by omega] at this
      rw [this, show p + 1 + k = p + (k + 1) by omega]
  -- a call at k
  have atk : ∀ (l : OL) (m : ZM) (i k f : Nat) (v : Int) (o : Option (Nat × OL)), ME c TT LL i l m → OK0 l → l.length ≤ 150 → i ≤ 10 → icl (xf l) l.length k → CAL c TT LL i k l v o → ∃ m', zL82_30 n (f + 1) k m = (if 0 ≤ v then zL82_30 n f k m' else some (v, m')) ∧ kp (wl wR) m m' ∧ m'.1 83 37 = m.1 83 37 ∧ ((v < 0 ∧ o = none ∧ m'.1 83 38 = i ∧ ∀ q : Nat, m'.1 107 q = m.1 107 q) ∨ (v = 0 ∧ ∃ u' l1, o = some (u', l1) ∧ ME c TT LL (i + 1) l1 m' ∧ m'.1 107 (i + 1) = (u' : Nat) ∧ ∀ q : Nat, q ≠ i + 1 → m'.1 107 q = m.1 107 q)) := by
    intro l m i k f v o hE hok hl hi hic hcal
    obtain ⟨m', a1, a2, a3⟩ := m81 hn hc hP l hl hok k hic i hi v o hcal m hE
    have hkl := hic.1
    refine ⟨m', ?_, a2, ((zF81_kp n k m _ _ a1).1 83 37 rfl).1, a3⟩
    rw [zL82_30, hE.2.2.1.1, if_neg (by omega), m79 (RT2_RR hE.2.2.1 hl hok.2.2) hE.2.2.1.1 n k (by omega), bi_p hic]
    dsimp only
    rw [if_neg (by decide), a1]
    rfl
  intro tr
  induction tr with
  | nil =>
    intro i p f l v m hV hE hok hl hi hp hf
    rw [List.length_nil] at hf hi ⊢
    rcases hV with ⟨a1, a2⟩ | ⟨k, a1, a2, a3⟩
    · -- no call
      have fin : ∀ (p' f' : Nat), l.length ≤ p' → ∃ m', zL82_30 n (f' + 1) p' m = some (v, m') ∧ kp (wl wR) m m' ∧ m'.1 83 38 = ((i + 0 : Nat) : Int) ∧ ((0 ≤ v ∧ RT2 (lstL [] l) m' ∧ m'.1 83 37 = v) ∨ (v < 0 ∧ m'.1 83 37 = m.1 83 37)) ∧ UA (i + 1) [] (m'.1 107) ∧ ∀ q : Nat, q ≤ i → m'.1 107 q = m.1 107 q := by
        intro p' f' h1
        refine ⟨z_i m 83 37 l.length, ?_, kp_i (kp_refl _ m) (wR_e (Or.inl rfl)), ?_, Or.inl ⟨by omega, ⟨?_, fun q hq => ?_⟩, ?_⟩, fun q x hx => (by cases hx), fun q _ => ?_⟩
        · rw [zL82_30, hE.2.2.1.1, if_pos (by omega), zlet, z_eq, a2]
        · rw [z_nk _ _ _ _ _ _ (by decide)]; exact hE.2.2.2
        · rw [z_nk _ _ _ _ _ _ (by decide)]; exact hE.2.2.1.1
        · rw [z_nc _ _ _ _ _ _ (by decide), z_nc _ _ _ _ _ _ (by decide)]; exact hE.2.2.1.2 q hq
        · rw [z_eq]; exact a2.symm
        · rw [z_nc _ _ _ _ _ _ (by decide)]
      by_cases c1 : l.length ≤ p
      · obtain ⟨f', rfl⟩ : ∃ f', f = f' + 1 := ⟨f - 1, by omega⟩
        exact fin p f' c1
      · obtain ⟨f', hf'⟩ : ∃ f', f = (f' + 1) + (l.length - p) := ⟨f - 1 - (l.length - p), by omega⟩
        rw [hf', skip l m i hE hok hl (l.length - p) p (f' + 1) (fun q q1 _ => a1 q q1) (by omega)]
        exact fin _ f' (by omega)
    · obtain ⟨b1, b2, b3⟩ := a1
      have hkl := b2.1
      obtain ⟨f', hf'⟩ : ∃ f', f = (f' + 1) + (k - p) := ⟨f - 1 - (k - p), by omega⟩
      rw [hf', skip l m i hE hok hl (k - p) p (f' + 1) (fun q q1 q2 => b3 q q1 (by omega)) (by omega), show p + (k - p) = k by omega]
      obtain ⟨m', d1, d2, d3, d4⟩ := atk l m i k f' v none hE hok hl (by omega) b2 a3
      rcases d4 with ⟨_, _, e1, e2⟩ | ⟨e0, _⟩
      · exact ⟨m', by rw [d1, if_neg (by omega)], d2, e1, Or.inr ⟨a2, d3⟩, fun q x hx => (by cases hx), fun q _ => e2 q⟩
      · omega
  | cons x tr ih =>
    obtain ⟨k, u, l1⟩ := x
    intro i p f l v m hV hE hok hl hi hp hf
    rw [List.length_cons] at hf hi ⊢
    obtain ⟨⟨b1, b2, b3⟩, a2, a3, a4, a5⟩ := hV
    have hkl := b2.1
    obtain ⟨f', hf'⟩ : ∃ f', f = (f' + 1) + (k - p) := ⟨f - 1 - (k - p), by omega⟩
    rw [hf', skip l m i hE hok hl (k - p) p (f' + 1) (fun q q1 q2 => b3 q q1 (by omega)) (by omega), show p + (k - p) = k by omega]
    obtain ⟨m1, d1, d2, d3, d4⟩ := atk l m i k f' 0 (some (u, l1)) hE hok hl (by omega) b2 a2
    rcases d4 with ⟨e0, _⟩ | ⟨_, u', l', e1, e2, e3, e4⟩
    · omega
    · cases e1
      obtain ⟨m', g1, g2, g3, g4, g5, g6⟩ := ih (i + 1) k f' l1 v m1 a5 e2 a3 a4 (by omega) (by omega) (by omega)
      refine ⟨m', by rw [d1, if_pos (by decide)]; exact g1, kp_tr d2 g2, by rw [g3]; omega, ?_, fun q y hy => ?_, fun q hq => by rw [g6 q (by omega)]; exact e4 q (by omega)⟩
      · rcases g4 with g | ⟨g1, g2⟩
        · exact Or.inl g
        · exact Or.inr ⟨g1, by rw [g2]; exact d3⟩
      · cases q with
        | zero =>
          have : (k, u, l1) = y := Option.some.inj hy
          subst this
          show m'.1 107 (i + 1 + 0) = u
          rw [g6 (i + 1 + 0) (by omega)]
          exact e3
        | succ q =>
          have := g5 q y hy
          rw [show i + 1 + (q + 1) = i + 1 + 1 + q by omega]
          exact this
end
