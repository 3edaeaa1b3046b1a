/-! Uses in a body: the class's side. -/
section
variable {C : Nat → Int} {Y A B : Nat → Nat → Int} {N i0 z NB j0 y : Nat} {m : ZM} {n b sz a u : Nat} {P : Nat → Nat}
theorem x_y3 {pat : Bool} (h : RX pat C Y A N i0 z) (e : Nat) (he : e < N) (hk : A 0 e = 3 ∨ A 0 e = 7) : Y 3 (pl A e) = innf A (A 5 e) (A 6 e) := by
  have hx := x_e h e he
  rcases hk with c | c
  · exact (hx.2.2.2.2.2.2.2.1 c).2.2.2.2.2.2.2
  · exact (hx.2.2.2.2.2.2.2.2.1 c).2.2.2.2
theorem x_dep {pat : Bool} (h : RX pat C Y A N i0 z) (e : Nat) (he : e < N) (hk : A 0 e = 3 ∨ A 0 e = 7) : c_dep Y (pl A e) = dpt (A 5 e) (A 6 e) := by
  have hy := x_y3 h e he hk
  have hni := h.1
  have r5 := hni.r5 e (by omega)
  unfold c_dep dpt
  rw [hy]
  unfold innf
  by_cases q6 : 0 ≤ A 6 e
  · obtain ⟨v, hv⟩ : ∃ v : Nat, A 6 e = v := ⟨(A 6 e).toNat, by omega⟩
    obtain ⟨g1, g2, g3, g4, g5⟩ := hni.n2 e v (by omega) hv
    obtain ⟨t, _, _, _, _, _, _, _, _, _, _, _, b1, _⟩ := x_beg h v (by omega) g1
    have p1 := x_pl h v (by omega)
    have p2 := x_pl h (A 5 e).toNat (by
      have := hni.n1 e (A 5 e).toNat (by omega) (by omega)
      omega)
    have i1 : innf A (A 5 v) (-1) = A 7 (A 5 e).toNat := by
      unfold innf
      rw [if_neg (by decide), g2, if_pos g3]
    rw [if_pos q6, hv, Int.toNat_natCast, p1.1, if_neg (by omega), Int.toNat_natCast, b1, i1, p2.1, if_neg (by omega), if_neg (by omega), if_neg (by omega)]
  · rw [if_neg q6]
    by_cases q5 : 0 ≤ A 5 e
    · obtain ⟨v, hv⟩ : ∃ v : Nat, A 5 e = v := ⟨(A 5 e).toNat, by omega⟩
      obtain ⟨g1, g2, g3, g4⟩ := hni.n1 e v (by omega) hv
      obtain ⟨t, _, _, _, _, _, _, _, _, _, _, _, b1, _⟩ := x_beg h v (by omega) g1
      have p1 := x_pl h v (by omega)
      have i1 : innf A (-1) (-1) = -1 := rfl
      rw [if_pos q5, hv, Int.toNat_natCast, p1.1, if_neg (by omega), Int.toNat_natCast, b1, g2, i1, if_pos rfl, if_neg (by omega), if_pos (by omega)]
    · rw [if_neg q5, if_pos rfl, if_pos (by omega)]
theorem c99 (hn : 200 ≤ n) (hD : DM b sz a C Y P m) (h : RX false C Y B NB j0 y) (hy : y < sz) (e : Nat) (he : e < NB) (h4 : B 0 e = 4) : (zF99 n b (pl B e) m = some (1, m) ∧ hu B e (B 2 e)) ∨ (zF99 n b (pl B e) m = some (0, m) ∧ ¬ hu B e (B 2 e)) := by
  obtain ⟨t, ht, h1, h2, t1, t2, t3, t4, t5, t6, _⟩ := x_beg h e he h4
  have pe := x_pl h e (by omega)
  have pt := x_pl h t (by omega)
  have le := x_lt h e t h1 (by omega)
  have h120 := h.2.2.2.2.2.2.2.1
  have l2 : lnf B e = 2 := by
    unfold lnf
    rw [if_neg (by omega), if_pos (Or.inl h4)]
  unfold zF99
  rw [if_pos (by omega), d_part hD, if_pos (by omega), show ((pl B e : Int) + 1).toNat = pl B e + 1 by omega, t6]
  dsimp only
  rw [if_pos (by omega)]
  have key : ∀ (k x : Nat), pl B e + 2 ≤ x → x < pl B t → zL99_12 n b (k + 1) (pl B t) x m = if C x = 36 ∧ C (x + 1) ≠ 40 then some (1, m) else zL99_12 n b k (pl B t) ((x : Int) + 1) m := by
    intro k x hx hxz
    rw [zL99_12, if_neg (by omega), d_sv hD x (by omega)]
    refine (ib _ _ _).trans ?_
    rw [if_pos (show rg ((x : Int) + 1) by omega)]
  obtain ⟨r, hr, hh⟩ := lp_ex (fun k x => zL99_12 n b k (pl B t) x m) m (pl B e + 2) (pl B t) (fun x => C x = 36 ∧ C (x + 1) ≠ 40) (fun k => by
      show zL99_12 n b (k + 1) (pl B t) (pl B t) m = _
      rw [zL99_12, if_pos (by omega)]) (fun k x h1 h2 hq => by
      show zL99_12 n b (k + 1) (pl B t) x m = _
      rw [key k x h1 h2, if_pos hq]) (fun k x h1 h2 hq => by
      show zL99_12 n b (k + 1) (pl B t) x m = _
      rw [key k x h1 h2, if_neg hq]; rfl) n (pl B e + 2) (by omega) (by omega) (by omega)
  rw [show ((pl B e + 2 : Nat) : Int) = (pl B e : Int) + 2 by omega] at hr
  rw [ht]
  rcases hh with ⟨rfl, q, a1, a2, a3⟩ | ⟨rfl, g⟩
  · refine Or.inl ⟨hr, ?_⟩
    obtain ⟨e', he', hpe, hk⟩ := (x_sv h q (by omega) (by omega)).1 a3
    have hk7 : B 0 e' = 7 := by
      rcases hk with c | c
      · exact absurd c (x_b3 h e' he')
      · exact c
    have m1 := (x_mono h e e' (by omega) (by omega)).2 (by omega)
    have m2 := (x_mono h e' t (by omega) (by omega)).2 (by omega)
    exact ⟨e', by omega, by omega, hk7⟩
  · refine Or.inr ⟨hr, ?_⟩
    rintro ⟨q, a1, a2, a3⟩
    have hqe : q ≠ e := fun c => by
      rw [c] at a3; omega
    have hq := x_lt h e q (by omega) (by omega)
    have m2 := (x_mono h q t (by omega) (by omega)).1 (by omega)
    exact g (pl B q) (by omega) (by omega) ((x_svE h q (by omega)).2 (Or.inr a3))
theorem c98 (hn : 200 ≤ n) (hD : DM b sz a C Y P m) (hu' : u < a) (hP : P u = i0) (h : RX true C Y A N i0 z) (h' : RX false C Y B NB (z + 1) y) (hy : y < sz) : (zF98 n b u m = some (1, m) ∧ ur B NB) ∨ (zF98 n b u m = some (0, m) ∧ ¬ ur B NB) := by
  have h120 := h'.2.2.2.2.2.2.2.1
  have hzy := h'.2.2.2.2.2.2.1
  have hY := h.2.2.2.2.2.2.2.2.1
  have hY' := h'.2.2.2.2.2.2.2.2.1
  unfold zF98
  rw [d_be hD u hu', hP, hY, if_pos (by omega), show ((z : Int) + 1).toNat = z + 1 by omega, hY']
  dsimp only
  rw [d_bs hD u hu', hP, hY]
  dsimp only
  have e0 : ∀ (k x : Nat), z + 2 ≤ x → x < y → ¬ (C x = 36 ∧ C (x + 1) = 40) → zL98_12 n b (k + 1) y x m = zL98_12 n b k y ((x : Int) + 1) m := by
    intro k x hx hxz q
    rw [zL98_12, if_neg (by omega), d_sr hD x (by omega)]
    dsimp only
    rw [ib, if_neg q]
    unfold zJ98_35
    rw [if_pos (by omega)]
  have eV : ∀ (k e : Nat), e < NB → B 0 e = 4 → (¬ hu B e (B 2 e) → zL98_12 n b (k + 1) y (pl B e) m = some (1, m)) ∧ (hu B e (B 2 e) → zL98_12 n b (k + 1) y (pl B e) m = zL98_12 n b k y ((pl B e : Int) + 1) m) := by
    intro k e he h4
    have p1 := x_pl h' e (by omega)
    have l1 := lnf_pos B e
    have p2 := p1.2.2.2 he
    have q := (x_srE h' e (by omega)).2 h4
    rcases c99 hn hD h' hy e he h4 with ⟨g1, g2⟩ | ⟨g1, g2⟩
    · refine ⟨fun c => absurd g2 c, fun _ => ?_⟩
      rw [zL98_12, if_neg (by omega), d_sr hD (pl B e) (by omega)]
      dsimp only
      rw [ib, if_pos q, g1]
      dsimp only
      rw [if_neg (by decide)]
      unfold zJ98_35
      rw [if_pos (by omega)]
    · refine ⟨fun _ => ?_, fun c => absurd c g2⟩
      rw [zL98_12, if_neg (by omega), d_sr hD (pl B e) (by omega)]
      dsimp only
      rw [ib, if_pos q, g1]
      dsimp only
      rw [if_pos rfl]
      rfl
  obtain ⟨r, hr, hh⟩ := lp_ex (fun k x => zL98_12 n b k y x m) m (z + 2) y (fun x => ∃ e : Nat, e < NB ∧ x = pl B e ∧ B 0 e = 4 ∧ ¬ hu B e (B 2 e)) (fun k => by
      show zL98_12 n b (k + 1) y y m = _
      rw [zL98_12, if_pos (by omega)]) (fun k x h1 h2 hq => by
      show zL98_12 n b (k + 1) y x m = _
      obtain ⟨e, he, hp, h4, hu4⟩ := hq
      rw [hp]
      exact (eV k e he h4).1 hu4) (fun k x h1 h2 hq => by
      show zL98_12 n b (k + 1) y x m = _
      by_cases q : C x = 36 ∧ C (x + 1) = 40
      · obtain ⟨e, he, hp, h4⟩ := (x_sr h' x (by omega) h2).1 q
        have := (eV k e he h4).2 (Classical.byContradiction fun c => hq ⟨e, he, hp, h4, c⟩)
        rw [hp]
        exact this
      · exact e0 k x h1 h2 q) n (z + 2) (by omega) (by omega) (by omega)
  rw [show ((z + 2 : Nat) : Int) = (z : Int) + 2 by omega] at hr
  rcases hh with ⟨rfl, q, a1, a2, e, a3, a4, a5, a6⟩ | ⟨rfl, g⟩
  · exact Or.inl ⟨hr, e, a3, a5, a6⟩
  · refine Or.inr ⟨hr, ?_⟩
    rintro ⟨e, a3, a5, a6⟩
    have p1 := x_pl h' e (by omega)
    have := lnf_pos B e
    have := p1.2.2.2 a3
    exact g (pl B e) (by omega) (by omega) ⟨e, a3, rfl, a5, a6⟩
theorem c97 (hn : 200 ≤ n) (hD : DM b sz a C Y P m) (hu : u < a) (hP : P u = i0) (h : RX true C Y A N i0 z) (h' : RX false C Y B NB (z + 1) y) (hy : y < sz) (ht : ¬ tw A N) : (zF97 n b u m = some (1, m) ∧ wu A N B NB) ∨ (zF97 n b u m = some (0, m) ∧ ¬ wu A N B NB) := by
  have h120 := h'.2.2.2.2.2.2.2.1
  have hzy := h'.2.2.2.2.2.2.1
  have hY := h.2.2.2.2.2.2.2.2.1
  have hY' := h'.2.2.2.2.2.2.2.2.1
  unfold zF97
  rw [d_be hD u hu, hP, hY, if_pos (by omega), show ((z : Int) + 1).toNat = z + 1 by omega, hY']
  dsimp only
  rw [d_bs hD u hu, hP, hY]
  dsimp only
  let W : Nat → Prop := fun e => B 0 e = 7 ∧ ∀ f : Nat, f < N → A 0 f = 3 → A 1 f = B 1 e → dpt (A 5 f) (A 6 f) ≠ dpt (B 5 e) (B 6 e)
  have e1 : ∀ (k x : Nat), z + 2 ≤ x → x < y → zL97_12 n b (k + 1) u y x m = if C x = 36 ∧ C (x + 1) ≠ 40 then (if rg ((x : Int) + 1) then (match zF109 n b ((x : Int) + 1) m with | some (v12, M13) => (match zF125 n b u v12 M13 with | some (v15, M16) => (zJ97_39 n b (zL97_12 n b k) u y x v15 M16) | none => none) | none => none) else none) else zJ97_61 n b (zL97_12 n b k) u y x m := by
    intro k x hx hxz
    rw [zL97_12, if_neg (by omega), d_sv hD x (by omega)]
    exact ib _ _ _
  have e61 : ∀ k x : Nat, x < y → zJ97_61 n b (zL97_12 n b k) u y x m = zL97_12 n b k u y ((x : Int) + 1) m := by
    intro k x hx
    unfold zJ97_61
    rw [if_pos (by omega)]
  have eV : ∀ (k e : Nat), e < NB → B 0 e = 7 → (W e → zL97_12 n b (k + 1) u y (pl B e) m = some (1, m)) ∧ (¬ W e → zL97_12 n b (k + 1) u y (pl B e) m = zL97_12 n b k u y ((pl B e : Int) + 1) m) := by
    intro k e he h7
    have p1 := x_pl h' e (by omega)
    have l1 := lnf_pos B e
    have p2 := p1.2.2.2 he
    have x7 := x_w7 h' e he h7
    obtain ⟨v, v1, v2⟩ := d_fr hn hD hu hP h (by omega) (B 1 e) x7.2.2.1
    have ee : zL97_12 n b (k + 1) u y (pl B e) m = zJ97_39 n b (zL97_12 n b k) u y (pl B e) v m := by
      rw [e1 k (pl B e) (by omega) (by omega), if_pos ((x_svE h' e (by omega)).2 (Or.inr h7)), if_pos (by omega), d_code hD, if_pos (by omega), show ((pl B e : Int) + 1).toNat = pl B e + 1 by omega, x7.2.1]
      dsimp only
      rw [v1]
    rw [ee]
    unfold zJ97_39 zJ97_59
    rcases v2 with ⟨a1, a2⟩ | ⟨f, a1, a2, a3, a4, a5⟩
    · rw [if_pos a1]
      exact ⟨fun _ => rfl, fun c => absurd ⟨h7, fun f b1 b2 b3 => absurd ⟨b2, b3⟩ (a2 f b1)⟩ c⟩
    · have q1 := x_pl h f (by omega)
      rw [a2, if_neg (by omega), d_rs hD (pl A f) (by omega)]
      dsimp only
      rw [d_rs hD (pl B e) (by omega)]
      dsimp only
      rw [x_dep h f a1 (Or.inl a3), x_dep h' e he (Or.inr h7), e61 k (pl B e) (by omega)]
      by_cases q : dpt (A 5 f) (A 6 f) = dpt (B 5 e) (B 6 e)
      · rw [if_pos q]
        exact ⟨fun c => absurd q (c.2 f a1 a3 a4), fun _ => rfl⟩
      · rw [if_neg q]
        refine ⟨fun _ => rfl, fun c => absurd ⟨h7, fun f' b1 b2 b3 => ?_⟩ c⟩
        have : f' = f := by
          rcases Nat.lt_trichotomy f' f with g | g | g
          · exact absurd ⟨f', f, g, a1, b2, a3, by rw [b3, a4]⟩ ht
          · exact g
          · exact absurd ⟨f, f', g, b1, a3, b2, by rw [b3, a4]⟩ ht
        rw [this]; exact q
  obtain ⟨r, hr, hh⟩ := lp_ex (fun k x => zL97_12 n b k u y x m) m (z + 2) y (fun x => ∃ e : Nat, e < NB ∧ x = pl B e ∧ W e) (fun k => by
      show zL97_12 n b (k + 1) u y y m = _
      rw [zL97_12, if_pos (by omega)]) (fun k x h1 h2 hq => by
      show zL97_12 n b (k + 1) u y x m = _
      obtain ⟨e, he, hp, hw⟩ := hq
      rw [hp]
      exact (eV k e he hw.1).1 hw) (fun k x h1 h2 hq => by
      show zL97_12 n b (k + 1) u y x m = _
      by_cases q : C x = 36 ∧ C (x + 1) ≠ 40
      · obtain ⟨e, he, hp, hk⟩ := (x_sv h' x (by omega) h2).1 q
        have hk7 : B 0 e = 7 := by
          rcases hk with c | c
          · exact absurd c (x_b3 h' e he)
          · exact c
        have := (eV k e he hk7).2 (fun c => hq ⟨e, he, hp, c⟩)
        rw [hp]
        exact this
      · rw [e1 k x h1 h2, if_neg q, e61 k x h2]
        rfl) n (z + 2) (by omega) (by omega) (by omega)
  rw [show ((z + 2 : Nat) : Int) = (z : Int) + 2 by omega] at hr
  rcases hh with ⟨rfl, q, a1, a2, e, a3, a4, a5⟩ | ⟨rfl, g⟩
  · exact Or.inl ⟨hr, e, a3, a5⟩
  · refine Or.inr ⟨hr, ?_⟩
    rintro ⟨e, a3, a5⟩
    have p1 := x_pl h' e (by omega)
    have := lnf_pos B e
    have := p1.2.2.2 a3
    exact g (pl B e) (by omega) (by omega) ⟨e, a3, rfl, a5⟩
end
