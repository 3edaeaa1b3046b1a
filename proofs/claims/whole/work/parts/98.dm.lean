/-! What follows an expression: the class's side. -/
theorem lp_exv (L : Nat → Int → Option (Int × ZM)) (m : ZM) (v0 v1 : Int) (s z : Nat) (Q : Nat → Prop) (he : ∀ k, L (k + 1) z = some (v0, m)) (h1 : ∀ (k x : Nat), s ≤ x → x < z → Q x → L (k + 1) x = some (v1, m)) (h0 : ∀ (k x : Nat), s ≤ x → x < z → ¬ Q x → L (k + 1) x = L k ((x : Int) + 1)) :
    ∀ k x : Nat, z + 1 ≤ x + k → s ≤ x → x ≤ z → (L k x = some (v1, m) ∧ ∃ q : Nat, x ≤ q ∧ q < z ∧ Q q) ∨ (L k x = some (v0, m) ∧ ∀ q : Nat, x ≤ q → q < z → ¬ Q q) := by
  intro k
  induction k with
  | zero => intro x h; omega
  | succ k ih =>
    intro x h hs hx
    by_cases q : x = z
    · subst q
      exact Or.inr ⟨he k, fun q a b => by omega⟩
    by_cases c : Q x
    · exact Or.inl ⟨h1 k x hs (by omega) c, x, by omega, by omega, c⟩
    · rw [h0 k x hs (by omega) c]
      have g := ih (x + 1) (by omega) (by omega) (by omega)
      rw [show ((x + 1 : Nat) : Int) = (x : Int) + 1 by omega] at g
      rcases g with ⟨g1, q1, a1, a2, a3⟩ | ⟨g1, g2⟩
      · exact Or.inl ⟨g1, q1, by omega, a2, a3⟩
      · refine Or.inr ⟨g1, fun q1 a1 a2 => ?_⟩
        by_cases d : q1 = x
        · subst d; exact c
        · exact g2 q1 (by omega) a2
theorem lp_exm (L : Nat → Int → ZM → Option (Int × ZM)) (I : ZM → Prop) (v0 v1 : Int) (s z : Nat) (Q : Nat → Prop) (he : ∀ k m, I m → L (k + 1) z m = some (v0, m)) (h1 : ∀ (k x : Nat) (m : ZM), I m → s ≤ x → x < z → Q x → ∃ m', L (k + 1) x m = some (v1, m')) (h0 : ∀ (k x : Nat) (m : ZM), I m → s ≤ x → x < z → ¬ Q x → ∃ m', I m' ∧ L (k + 1) x m = L k ((x : Int) + 1) m') :
    ∀ (k x : Nat) (m : ZM), I m → z + 1 ≤ x + k → s ≤ x → x ≤ z → (∃ m', L k x m = some (v1, m') ∧ ∃ q : Nat, x ≤ q ∧ q < z ∧ Q q) ∨ (∃ m', L k x m = some (v0, m') ∧ I m' ∧ ∀ q : Nat, x ≤ q → q < z → ¬ Q q) := by
  intro k
  induction k with
  | zero => intro x m _ h; omega
  | succ k ih =>
    intro x m hI h hs hx
    by_cases q : x = z
    · subst q
      exact Or.inr ⟨m, he k m hI, hI, fun q a b => by omega⟩
    by_cases c : Q x
    · obtain ⟨m', e1⟩ := h1 k x m hI hs (by omega) c
      exact Or.inl ⟨m', e1, x, by omega, by omega, c⟩
    · obtain ⟨m', e1, e2⟩ := h0 k x m hI hs (by omega) c
      rw [e2]
      have g := ih (x + 1) m' e1 (by omega) (by omega) (by omega)
      rw [show ((x + 1 : Nat) : Int) = (x : Int) + 1 by omega] at g
      rcases g with ⟨m2, g1, q1, a1, a2, a3⟩ | ⟨m2, g1, g3, g2⟩
      · exact Or.inl ⟨m2, g1, q1, by omega, a2, a3⟩
      · refine Or.inr ⟨m2, g1, g3, fun q1 a1 a2 => ?_⟩
        by_cases d : q1 = x
        · subst d; exact c
        · exact g2 q1 (by omega) a2
section
variable {C : Nat → Int} {Y A : Nat → Nat → Int} {N i0 z : Nat} {n b sz a u : Nat} {P : Nat → Nat}
/-- the token at the place where a thread stands -/
theorem x_csp (h : RX true C Y A N i0 z) (j : Nat) (hj : j ≤ N) (hs : sd A j) : (A 0 j = 3 ∧ C (sp A j) = 36 ∧ bf A j = 0) ∨ (A 0 j = 6 ∧ j = N ∧ C (sp A j) = 41 ∧ bf A j = 0) ∨ (A 0 j ≠ 3 ∧ A 0 j ≠ 6 ∧ C (sp A j) = bf A j ∧ 0 < bf A j ∧ bf A j ≠ 36) := by
  by_cases qN : j = N
  · subst qN
    have h6 := h.2.2.2.1
    refine Or.inr (Or.inl ⟨h6, rfl, ?_, ?_⟩)
    · unfold sp
      rw [if_neg (by omega), x_N h]
      exact h.2.2.2.2.2.1
    · unfold bf
      rw [if_neg (by omega), if_neg (by omega), if_pos h6]
  · have hx := x_e h j (by omega)
    have hk := hx.2.2.2.2.2.1
    have h7 := x_p7 h j (by omega)
    by_cases q3 : A 0 j = 3
    · refine Or.inl ⟨q3, ?_, ?_⟩
      · unfold sp
        rw [if_neg (by omega)]
        exact (x_w3 h j (by omega) q3).1
      · unfold bf
        rw [if_neg (by omega), if_pos q3]
    · refine Or.inr (Or.inr ⟨q3, by omega, ?_⟩)
      unfold sp bf
      by_cases q5 : A 0 j = 5
      · rw [if_pos q5, if_pos q5]
        have g := (hx.2.2.2.2.2.2.2.2.2.2 q5).2.2.2.2.2.2
        have g0 := (hs.2 q5).2
        have hp : (A 7 j).toNat = pl A j := rfl
        rw [hp] at g
        rcases g with g | g
        · exact absurd g.1 g0
        · exact ⟨g.1.symm, g.2.1, g.2.2.1⟩
      · have g := hx.2.2.2.2.2.2.1 (by have := hs.1; omega)
        rw [if_neg q5, if_neg q5, if_neg q3, if_neg (by omega)]
        exact ⟨g.1, g.2.1, g.2.2.1⟩
theorem x_lk (h : RX true C Y A N i0 z) (j : Nat) (hj : j ≤ N) (hs : sd A j) : lk A j ↔ (C (sp A j) ≠ 44 ∧ C (sp A j) ≠ 59 ∧ ¬ cls (C (sp A j))) := by
  unfold lk
  rcases x_csp h j hj hs with ⟨g1, g2, g3⟩ | ⟨g1, g2, g3, g4⟩ | ⟨g1, g2, g3, g4, g5⟩
  · rw [g2, g3]
    refine ⟨fun _ => by decide, fun _ => ⟨by omega, by decide⟩⟩
  · rw [g3]
    exact ⟨fun d => absurd g1 d.1, fun d => absurd d.2.2 (by decide)⟩
  · rw [g3]
    constructor
    · rintro ⟨_, d⟩
      exact ⟨fun e => d (Or.inr (Or.inl e)), fun e => d (Or.inr (Or.inr e)), fun e => d (Or.inl e)⟩
    · rintro ⟨d1, d2, d3⟩
      refine ⟨g2, ?_⟩
      rintro (d | d | d)
      · exact d3 d
      · exact d1 d
      · exact d2 d
theorem c96 (hn : 200 ≤ n) (h : RX true C Y A N i0 z) (hne : ∀ e : Nat, e < N → ¬ em A e) (hb : isD b) (hz : z + 1 < sz) (m : ZM) (hD : DM b sz a C Y P m) (e : Nat) (he : e < N) :
    ∃ m', DM b sz a C Y P m' ∧ ((zF96 n b (pl A (e + 1)) z m = some (0, m') ∧ ∃ j : Nat, j ≤ N ∧ 0 < wc A (e + 1) j ∧ lk A j) ∨ (zF96 n b (pl A (e + 1)) z m = some (1, m') ∧ ¬ ∃ j : Nat, j ≤ N ∧ 0 < wc A (e + 1) j ∧ lk A j)) := by
  have hge := isD_ge hb
  have h120 := h.2.2.2.2.2.2.2.1
  obtain ⟨m2, hm2⟩ : ∃ m2, m2 = z_i (z_f (z_f (z_r m 8 4 (some b)) 9 0 120) 11 0 4) 8 3 1 := ⟨_, rfl⟩
  have st : zF96 n b (pl A (e + 1)) z m = zJ96_15 n b (pl A (e + 1)) z m2 := by
    unfold zF96 zF187 zF190
    rw [zlet, zlet]
    dsimp only
    rw [zlet, zlet, hm2]
  have k2 : kp (wl w96) m m2 := by
    rw [hm2]
    exact kp_i (kp_f (kp_f (kp_r (kp_refl _ m) (by simp [w96])) (by simp [w96])) (by simp [w96])) (by simp [w96])
  have w9 : ∀ c k : Nat, b ≤ c → wl w96 c k = false := fun c k hc => by
    unfold wl w96
    simp
    omega
  have d2 : DM b sz a C Y P m2 := DM_kp hD k2 (fun c k h1 _ => w9 c k h1)
  have mz : ∀ p : Nat, p < 120 → m2.1 9 p = 0 := fun p hp => by
    rw [hm2, z_nc _ _ _ _ _ _ (by decide), z_f_rd, if_neg (by omega), z_f_rd, if_pos ⟨rfl, hp⟩]
  have oz : ∀ o : Nat, o < 4 → m2.1 11 o = 0 := fun p hp => by
    rw [hm2, z_nc _ _ _ _ _ _ (by decide), z_f_rd, if_pos ⟨rfl, hp⟩]
  have T2 : TC 8 b sz a C Y P 1 0 m2 := by
    refine ⟨?_, d2, by rw [hm2, z_eq], fun p hp => by rw [mz p hp]; omega, fun o ho => by rw [oz o ho]; omega⟩
    rw [hm2]
    show (z_r m 8 4 (some b)).2.1 8 4 = some b
    rw [z_r_rd]; exact if_pos ⟨rfl, rfl⟩
  have p16 := phi_16 h (e + 1)
  obtain ⟨m3, e1, e2⟩ := wk (n := n) h hne (by omega) hb (show 8 + 3 < 41 by decide) hz (Or.inl rfl) 18 (e + 1) 0 0 m2 (by omega) (by omega) (by omega) (by omega) T2
  have T3 := TC_EF hb (by decide) (Or.inl rfl) T2 e2
  have st2 : zJ96_15 n b (pl A (e + 1)) z m2 = zL96_26 n b n z 0 m3 := by
    unfold zJ96_15 zF192 zF194
    rw [show ((0 : Nat) : Int) = 0 from rfl] at e1
    rw [e1]
  have e10 : ∀ (k x : Nat), x < z + 1 → zL96_26 n b (k + 1) z x m3 = if m3.1 9 x ≤ 0 then zL96_26 n b k z ((x : Int) + 1) m3 else if C x = 44 ∨ C x = 59 ∨ cls (C x) then zL96_26 n b k z ((x : Int) + 1) m3 else some (0, m3) := by
    intro k x hx
    have h76 : zJ96_76 n b (zL96_26 n b k) z x m3 = zL96_26 n b k z ((x : Int) + 1) m3 := by
      unfold zJ96_76
      rw [if_pos (by omega)]
    have h52 : zJ96_52 n b (zL96_26 n b k) z x (C x) m3 = if C x = 44 ∨ C x = 59 ∨ cls (C x) then zL96_26 n b k z ((x : Int) + 1) m3 else some (0, m3) := by
      unfold zJ96_52
      rw [h76, zF14_eq]
      by_cases c1 : C x = 44
      · rw [if_pos c1, if_pos (Or.inl c1)]
      rw [if_neg c1]
      by_cases c2 : C x = 59
      · rw [if_pos c2, if_pos (Or.inr (Or.inl c2))]
      rw [if_neg c2]
      dsimp only
      rw [ib]
      by_cases c3 : cls (C x)
      · rw [if_pos c3, if_pos (Or.inr (Or.inr c3)), h76]
      · rw [if_neg c3, if_neg (show ¬ (C x = 44 ∨ C x = 59 ∨ cls (C x)) from fun d => d.elim c1 (fun d => d.elim c2 c3))]
        rfl
    have h188 : zF188 n 8 x m3 = some (m3.1 9 x, m3) := by
      unfold zF188 zJ188_20
      rw [if_neg (by omega), if_neg (by omega), if_neg (by omega), Int.toNat_natCast]
    rw [zL96_26, if_neg (by omega), d_codeN T3.2.1 x (by omega)]
    dsimp only
    rw [h188]
    dsimp only
    rw [h76, h52]
  have many : ∀ x : Nat, x < z + 1 → (0 < m3.1 9 x ↔ ∃ j : Nat, j ≤ N ∧ 0 < wc A (e + 1) j ∧ x = sp A j) := by
    intro x hx
    by_cases q : ∃ j : Nat, j ≤ N ∧ sd A j ∧ x = sp A j
    · obtain ⟨j, j1, j2, j3⟩ := q
      have hv := (e2.2.2.2 j j1 j2).1
      rw [show (8 + 1 : Nat) = 9 from rfl, mz (sp A j) (by have := sp_b h j j1; omega)] at hv
      have hw : ((ways A (e + 1) j).length : Int) = wc A (e + 1) j := rfl
      rw [j3, hv, hw]
      constructor
      · intro d
        refine ⟨j, j1, ?_, rfl⟩
        unfold mn at d
        split at d <;> omega
      · rintro ⟨j', a1, a2, a3⟩
        have := sp_inj h j j' j1 a1 a3
        subst this
        unfold mn
        split <;> omega
    · rw [e2.2.2.1 x (by omega) (fun j j1 j2 j3 => q ⟨j, j1, j2, j3⟩), show (8 + 1 : Nat) = 9 from rfl, mz x (by omega)]
      constructor
      · intro d; omega
      · rintro ⟨j, a1, a2, a3⟩
        exact absurd ⟨j, a1, (wc_in h (e + 1) j (by omega) a2).2, a3⟩ q
  rw [st, st2]
  have hh := lp_exv (fun k x => zL96_26 n b k z x m3) m3 1 0 0 (z + 1) (fun x => 0 < m3.1 9 x ∧ ¬ (C x = 44 ∨ C x = 59 ∨ cls (C x))) (fun k => by
      show zL96_26 n b (k + 1) z ((z + 1 : Nat) : Int) m3 = _
      rw [zL96_26, if_pos (by omega)]) (fun k x _ hx hq => by
      show zL96_26 n b (k + 1) z x m3 = _
      rw [e10 k x hx, if_neg (by omega), if_neg hq.2]) (fun k x _ hx hq => by
      show zL96_26 n b (k + 1) z x m3 = _
      rw [e10 k x hx]
      by_cases c : m3.1 9 x ≤ 0
      · rw [if_pos c]
      · rw [if_neg c]
        by_cases d : C x = 44 ∨ C x = 59 ∨ cls (C x)
        · rw [if_pos d]
        · exact absurd ⟨by omega, d⟩ hq) n 0 (by omega) (by omega) (by omega)
  refine ⟨m3, T3.2.1, ?_⟩
  rcases hh with ⟨g1, q, _, g2, g3, g4⟩ | ⟨g1, g2⟩
  · refine Or.inl ⟨g1, ?_⟩
    obtain ⟨j, j1, j2, j3⟩ := (many q g2).1 g3
    refine ⟨j, j1, j2, (x_lk h j j1 (wc_in h (e + 1) j (by omega) j2).2).2 ?_⟩
    rw [← j3]
    exact ⟨fun d => g4 (Or.inl d), fun d => g4 (Or.inr (Or.inl d)), fun d => g4 (Or.inr (Or.inr d))⟩
  · refine Or.inr ⟨g1, ?_⟩
    rintro ⟨j, j1, j2, j3⟩
    have hs := (wc_in h (e + 1) j (by omega) j2).2
    have hb2 := sp_b h j j1
    obtain ⟨d1, d2, d3⟩ := (x_lk h j j1 hs).1 j3
    exact g2 (sp A j) (by omega) (by omega) ⟨(many (sp A j) (by omega)).2 ⟨j, j1, j2, rfl⟩, by rintro (d | d | d) <;> contradiction⟩
theorem c95 (hn : 200 ≤ n) (h : RX true C Y A N i0 z) (hne : ∀ e : Nat, e < N → ¬ em A e) (hb : isD b) (hz : z + 1 < sz) (m : ZM) (hD : DM b sz a C Y P m) (hu : u < a) (hP : P u = i0) :
    (∃ m', zF95 n b u m = some (1, m') ∧ kp (wl w95) m m' ∧ ∃ e : Nat, e < N ∧ lx A N e) ∨ (∃ m', zF95 n b u m = some (0, m') ∧ kp (wl w95) m m' ∧ DM b sz a C Y P m' ∧ ∀ e : Nat, e < N → ¬ lx A N e) := by
  have h120 := h.2.2.2.2.2.2.2.1
  have hi0 := h.2.2.2.2.2.2.1
  have hY := h.2.2.2.2.2.2.2.2.1
  have st : zF95 n b u m = zL95_13 n b n z ((i0 : Int) + 1) m := by
    unfold zF95
    rw [d_pe hD u hu, hP, hY]
    dsimp only
    rw [d_ps hD u hu, hP]
  have e57 : ∀ (k x : Nat) (m : ZM), x < z → zJ95_57 n b (zL95_13 n b k) z x m = zL95_13 n b k z ((x : Int) + 1) m := by
    intro k x m hx
    unfold zJ95_57
    rw [if_pos (by omega)]
  have e0 : ∀ (k x : Nat) (m : ZM), DM b sz a C Y P m → i0 + 1 ≤ x → x < z → ¬ (C x = 36 ∧ C (x + 1) ≠ 40) → zL95_13 n b (k + 1) z x m = zL95_13 n b k z ((x : Int) + 1) m := by
    intro k x m hD hx hxz q
    rw [zL95_13, if_neg (by omega), d_sv hD x (by omega)]
    dsimp only
    rw [ib, if_neg q, e57 k x m hxz]
  have eV : ∀ (k e : Nat) (m : ZM), DM b sz a C Y P m → e < N → A 0 e = 3 → ∃ m', DM b sz a C Y P m' ∧ ((lx A N e → zL95_13 n b (k + 1) z (pl A e) m = some (1, m')) ∧ (¬ lx A N e → zL95_13 n b (k + 1) z (pl A e) m = zL95_13 n b k z ((pl A e : Int) + 1) m')) := by
    intro k e m hD he h3
    have p1 := x_pl h e (by omega)
    have l1 := lnf_pos A e
    have p2 := p1.2.2.2 he
    have l4 : lnf A e = 4 := by unfold lnf; rw [if_pos h3]
    have xn := x_nx h e he
    have q := (x_svE h e (by omega)).2 (Or.inl h3)
    have x3 := x_w3 h e he h3
    have k4 : A 4 e = 4 ↔ C (pl A e + 3) = 1159 := by
      rw [x3.2.2.2.2.2.1]
      unfold r_kd
      repeat' split
      all_goals omega
    have s1 : zL95_13 n b (k + 1) z (pl A e) m = if C (pl A e + 3) = 1159 then zJ95_42 n b (zL95_13 n b k) z (pl A e) m else zL95_13 n b k z ((pl A e : Int) + 1) m := by
      rw [zL95_13, if_neg (by omega), d_sv hD (pl A e) (by omega)]
      dsimp only
      rw [ib, if_pos q, if_pos (by omega), d_code hD, if_pos (by omega), show ((pl A e : Int) + 3).toNat = pl A e + 3 by omega]
      dsimp only
      rw [e57 k (pl A e) m (by omega)]
    by_cases q4 : A 4 e = 4
    · obtain ⟨m', g1, g2⟩ := c96 hn h hne hb hz m hD e he
      refine ⟨m', g1, ?_⟩
      rw [show ((pl A (e + 1) : Nat) : Int) = (pl A e : Int) + 4 by omega] at g2
      rw [s1, if_pos (k4.1 q4)]
      unfold zJ95_42
      rw [if_pos (by omega)]
      rcases g2 with ⟨g2, g3⟩ | ⟨g2, g3⟩
      · rw [g2]
        refine ⟨fun _ => ?_, fun d => absurd ⟨h3, q4, g3⟩ d⟩
        dsimp only
        rw [if_pos rfl]
      · rw [g2]
        refine ⟨fun d => absurd d.2.2 g3, fun _ => ?_⟩
        dsimp only
        rw [if_neg (by decide), e57 k (pl A e) m' (by omega)]
    · refine ⟨m, hD, fun d => absurd d.2.1 q4, fun _ => ?_⟩
      rw [s1, if_neg (fun d => q4 (k4.2 d))]
  have hh := lp_exm (fun k x m => zL95_13 n b k z x m) (fun m => DM b sz a C Y P m) 0 1 (i0 + 1) z (fun x => ∃ e : Nat, e < N ∧ x = pl A e ∧ lx A N e) (fun k m hD => by
      show zL95_13 n b (k + 1) z z m = _
      rw [zL95_13, if_pos (by omega)]) (fun k x m hD h1 h2 hq => by
      obtain ⟨e, he, hp, hl⟩ := hq
      obtain ⟨m', g1, g2, g3⟩ := eV k e m hD he hl.1
      refine ⟨m', ?_⟩
      rw [hp]
      exact g2 hl) (fun k x m hD h1 h2 hq => by
      by_cases q : C x = 36 ∧ C (x + 1) ≠ 40
      · obtain ⟨e, he, hp, hk⟩ := (x_sv h x (by omega) h2).1 q
        have hk3 : A 0 e = 3 := by
          rcases hk with c | c
          · exact c
          · exact absurd c (x_p7 h e he)
        obtain ⟨m', g1, g2, g3⟩ := eV k e m hD he hk3
        refine ⟨m', g1, ?_⟩
        rw [hp]
        exact g3 (fun d => hq ⟨e, he, hp, d⟩)
      · exact ⟨m, hD, e0 k x m hD h1 h2 q⟩) n (i0 + 1) m hD (by omega) (by omega) (by omega)
  rw [show ((i0 + 1 : Nat) : Int) = (i0 : Int) + 1 by omega] at hh
  rcases hh with ⟨m', g1, q, a1, a2, e, a3, a4, a5⟩ | ⟨m', g1, g2, g⟩
  · have g1 : zF95 n b u m = some (1, m') := st.trans g1
    exact Or.inl ⟨m', g1, zF95_kp n b u m _ _ g1, e, a3, a5⟩
  · have g1 : zF95 n b u m = some (0, m') := st.trans g1
    refine Or.inr ⟨m', g1, zF95_kp n b u m _ _ g1, g2, fun e he d => ?_⟩
    have p1 := x_pl h e (by omega)
    have := lnf_pos A e
    have := p1.2.2.2 he
    exact g (pl A e) (by omega) (by omega) ⟨e, he, rfl, d⟩
end
