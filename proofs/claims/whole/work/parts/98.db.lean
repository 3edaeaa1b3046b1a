/-! The class's words. -/
/-- what fragmentOf answers -/
def frg (A : Nat → Nat → Int) (N : Nat) (w v : Int) : Prop := (v = -1 ∧ ∀ e : Nat, e < N → ¬ (A 0 e = 3 ∧ A 1 e = w)) ∨ ∃ e : Nat, e < N ∧ v = pl A e ∧ A 0 e = 3 ∧ A 1 e = w ∧ ∀ e' : Nat, e' < e → ¬ (A 0 e' = 3 ∧ A 1 e' = w)
section
variable {C : Nat → Int} {Y A : Nat → Nat → Int} {N i0 z : Nat} {m : ZM} {n b sz a u : Nat} {P : Nat → Nat}
theorem x_p7 (h : RX true C Y A N i0 z) (e : Nat) (he : e < N) : A 0 e ≠ 7 := fun c => by
  have := ((x_e h e he).2.2.2.2.2.2.2.2.1 c).1
  cases this
theorem x_b3 (h : RX false C Y A N i0 z) (e : Nat) (he : e < N) : A 0 e ≠ 3 := fun c => by
  have := ((x_e h e he).2.2.2.2.2.2.2.1 c).1
  cases this
theorem x_w3 (h : RX true C Y A N i0 z) (e : Nat) (he : e < N) (h3 : A 0 e = 3) : C (pl A e) = 36 ∧ C (pl A e + 1) = A 1 e ∧ wd (A 1 e) ∧ C (pl A e + 2) = 58 ∧ knd (C (pl A e + 3)) ∧ A 4 e = r_kd (C (pl A e + 3)) ∧ Y 3 (pl A e) = innf A (A 5 e) (A 6 e) := ((x_e h e he).2.2.2.2.2.2.2.1 h3).2
theorem x_w7 (h : RX false C Y A N i0 z) (e : Nat) (he : e < N) (h7 : A 0 e = 7) : C (pl A e) = 36 ∧ C (pl A e + 1) = A 1 e ∧ wd (A 1 e) ∧ Y 3 (pl A e) = innf A (A 5 e) (A 6 e) := ((x_e h e he).2.2.2.2.2.2.2.2.1 h7).2
theorem d_fr (hn : 200 ≤ n) (hD : DM b sz a C Y P m) (hu : u < a) (hP : P u = i0) (h : RX true C Y A N i0 z) (hz : z < sz) (w : Int) (hw : wd w) : ∃ v, zF125 n b u w m = some (v, m) ∧ frg A N w v := by
  have hw : 1000 < w := hw
  have hd := hD
  obtain ⟨h1, h2, h3, h4, h5, h6, h7, h8⟩ := hd
  have h8' := h8 u hu
  have hi0 := h.2.2.2.2.2.2.1
  have hY := h.2.2.2.2.2.2.2.2.1
  unfold zF125 zJ125_26
  rw [h6, if_neg (by omega), if_pos (by omega), if_neg (by omega), Int.toNat_natCast, h8'.1, hP, if_neg (by omega), Int.toNat_natCast, if_neg (by omega), (h3 i0 (by omega)).2.1, hY]
  rcases d_fl (n := n) hD w z hz n i0 (by omega) (by omega) with ⟨e1, e2⟩ | ⟨q, a1, a2, a3, a4, a5, a6⟩
  · refine ⟨-1, e1, Or.inl ⟨rfl, fun e he c => ?_⟩⟩
    have x3 := x_w3 h e he c.1
    have xp := x_pl h e (by omega)
    have xl := xp.2.2.2 he
    have := lnf_pos A e
    exact e2 (pl A e) (by omega) (by omega) ⟨x3.1, by rw [x3.2.1]; exact c.2⟩
  · have hne : q ≠ i0 := fun c => by
      rw [c, h.2.2.2.2.2.2.2.2.2.2.2.2.1] at a3
      exact absurd a3 (by decide)
    obtain ⟨e, he, hpe, hk⟩ := (x_sv h q (by omega) a2).1 ⟨a3, by rw [a4]; omega⟩
    have hk3 : A 0 e = 3 := by
      rcases hk with c | c
      · exact c
      · exact absurd c (x_p7 h e he)
    refine ⟨(q : Int), a6, Or.inr ⟨e, he, by rw [hpe], hk3, ?_, fun e' he' c => ?_⟩⟩
    · rw [← (x_w3 h e he hk3).2.1, ← hpe]; exact a4
    · have x3 := x_w3 h e' (by omega) c.1
      have xp := x_pl h e' (by omega)
      have := (x_mono h e' e (by omega) (by omega)).1 he'
      exact a5 (pl A e') (by omega) (by omega) ⟨x3.1, by rw [x3.2.1]; exact c.2⟩
theorem c92k (hn : 200 ≤ n) (hD : DM b sz a C Y P m) (hu : u < a) (hP : P u = i0) (h : RX true C Y A N i0 z) (hz : z + 1 < sz) : ∀ (k x : Nat), i0 + 1 ≤ x → x < z → ∃ v, (C x = 36 ∧ C (x + 1) ≠ 40 → frg A N (C (x + 1)) v) ∧ zL92_12 n b (k + 1) u z x m = if C x = 36 ∧ C (x + 1) ≠ 40 then (if v = x then zL92_12 n b k u z ((x + 1 : Nat) : Int) m else some (1, m)) else zL92_12 n b k u z ((x + 1 : Nat) : Int) m := by
  have h120 := h.2.2.2.2.2.2.2.1
  have hi0 := h.2.2.2.2.2.2.1
  intro k x hx hxz
  have e1 : zL92_12 n b (k + 1) u z x m = (if C x = 36 ∧ C (x + 1) ≠ 40 then (if rg ((x : Int) + 1) then (match zF109 n b ((x : Int) + 1) m with | some (v12, M13) => (match zF125 n b u v12 M13 with | some (v15, M16) => (if v15 = x then (zJ92_43 n b (zL92_12 n b k) u z x M16) else (zJ92_41 n b M16)) | none => none) | none => none) else none) else zJ92_43 n b (zL92_12 n b k) u z x m) := by
    rw [zL92_12, if_neg (by omega), d_sv hD x (by omega)]
    exact ib _ _ _
  rw [e1, show ((x + 1 : Nat) : Int) = (x : Int) + 1 by omega]
  unfold zJ92_43 zJ92_41
  by_cases q : C x = 36 ∧ C (x + 1) ≠ 40
  · obtain ⟨e, he, hpe, hk⟩ := (x_sv h x (by omega) hxz).1 q
    have hk3 : A 0 e = 3 := by
      rcases hk with c | c
      · exact c
      · exact absurd c (x_p7 h e he)
    have x3 := x_w3 h e he hk3
    have hwd : wd (C (x + 1)) := by rw [hpe, x3.2.1]; exact x3.2.2.1
    obtain ⟨v, v1, v2⟩ := d_fr hn hD hu hP h (by omega) (C (x + 1)) hwd
    refine ⟨v, fun _ => v2, ?_⟩
    rw [if_pos q, if_pos q, if_pos (by omega), d_code hD ((x : Int) + 1), if_pos (by omega), show ((x : Int) + 1).toNat = x + 1 by omega]
    dsimp only
    rw [v1]
    dsimp only
    rw [if_pos (show rg ((x : Int) + 1) by omega)]
  · refine ⟨0, fun c => absurd c q, ?_⟩
    rw [if_neg q, if_neg q, if_pos (by omega)]
theorem c92 (hn : 200 ≤ n) (hD : DM b sz a C Y P m) (hu : u < a) (hP : P u = i0) (h : RX true C Y A N i0 z) (hz : z + 1 < sz) : (zF92 n b u m = some (1, m) ∧ tw A N) ∨ (zF92 n b u m = some (0, m) ∧ ¬ tw A N) := by
  have h120 := h.2.2.2.2.2.2.2.1
  have hi0 := h.2.2.2.2.2.2.1
  have hY := h.2.2.2.2.2.2.2.2.1
  unfold zF92
  rw [d_pe hD u hu, hP, hY]
  dsimp only
  rw [d_ps hD u hu, hP]
  dsimp only
  have key := c92k (n := n) hn hD hu hP h hz
  have hh := lp_ex (fun k x => zL92_12 n b k u z x m) m (i0 + 1) z (fun x => (C x = 36 ∧ C (x + 1) ≠ 40) ∧ ¬ frg A N (C (x + 1)) x) (fun k => by
      show zL92_12 n b (k + 1) u z z m = _
      rw [zL92_12, if_pos (by omega)]) (fun k x h1 h2 hq => by
      obtain ⟨v, v1, v2⟩ := key k x h1 h2
      show zL92_12 n b (k + 1) u z x m = _
      rw [v2, if_pos hq.1, if_neg (fun c => hq.2 (by rw [← c]; exact v1 hq.1))]) (fun k x h1 h2 hq => by
      obtain ⟨v, v1, v2⟩ := key k x h1 h2
      show zL92_12 n b (k + 1) u z x m = _
      rw [v2]
      by_cases q : C x = 36 ∧ C (x + 1) ≠ 40
      · have q2 : frg A N (C (x + 1)) x := Classical.byContradiction fun c => hq ⟨q, c⟩
        have : v = x := by
          rcases v1 q with ⟨a1, a2⟩ | ⟨e, a1, a2, a3, a4, a5⟩ <;> rcases q2 with ⟨b1, b2⟩ | ⟨e', b1, b2, b3, b4, b5⟩
          · omega
          · exact absurd ⟨b3, b4⟩ (a2 e' b1)
          · exact absurd ⟨a3, a4⟩ (b2 e a1)
          · rcases Nat.lt_trichotomy e e' with c | c | c
            · exact absurd ⟨a3, a4⟩ (b5 e c)
            · rw [a2, b2, c]
            · exact absurd ⟨b3, b4⟩ (a5 e' c)
        rw [if_pos q, if_pos this]
      · rw [if_neg q]) n (i0 + 1) (by omega) (by omega) (by omega)
  obtain ⟨r, hr, hh⟩ := hh
  rw [show ((i0 + 1 : Nat) : Int) = (i0 : Int) + 1 by omega] at hr
  rcases hh with ⟨rfl, q, a1, a2, a3, a4⟩ | ⟨rfl, g⟩
  · refine Or.inl ⟨hr, ?_⟩
    obtain ⟨e, he, hpe, hk⟩ := (x_sv h q (by omega) a2).1 a3
    have hk3 : A 0 e = 3 := by
      rcases hk with c | c
      · exact c
      · exact absurd c (x_p7 h e he)
    have x3 := x_w3 h e he hk3
    have hq1 : C (q + 1) = A 1 e := by rw [hpe]; exact x3.2.1
    apply Classical.byContradiction
    intro ht
    apply a4
    refine Or.inr ⟨e, he, by rw [hpe], hk3, hq1.symm, fun e' he' c => ht ⟨e', e, he', he, c.1, hk3, by rw [c.2, hq1]⟩⟩
  · refine Or.inr ⟨hr, ?_⟩
    rintro ⟨e, e', c1, c2, c3, c4, c5⟩
    have x3 := x_w3 h e' c2 c4
    have xp := x_pl h e' (by omega)
    have xl := xp.2.2.2 c2
    have := lnf_pos A e'
    have hw : (1000 : Int) < A 1 e' := x3.2.2.1
    apply g (pl A e') (by omega) (by omega)
    refine ⟨⟨x3.1, by rw [x3.2.1]; omega⟩, ?_⟩
    rw [x3.2.1]
    rintro (⟨b1, b2⟩ | ⟨e2, b1, b2, b3, b4, b5⟩)
    · omega
    · have := x_inj h e' e2 (by omega) (by omega) (by omega)
      subst this
      exact b5 e c1 ⟨c3, c5⟩
end
