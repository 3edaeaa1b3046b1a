/-! The class's definition: bounds of its arrays, and what its small methods answer. -/
def WP (i : Nat) (s : CS) : Prop := ∀ p : Nat, p < i → -1 ≤ s.2.2.2.2.2.2.2.1 2 p ∧ s.2.2.2.2.2.2.2.1 2 p < i ∧ -1 ≤ s.2.2.2.2.2.2.2.1 4 p ∧ s.2.2.2.2.2.2.2.1 4 p < i
theorem WP_st (c : Int) (i : Nat) (s s' : CS) (h : WS i s) (hp : WP i s) (e : cst c i s = some s') : WP (i + 1) s' := by
  obtain ⟨ph, pat, rp, inn, cl, d, S, Y, a, P⟩ := s
  obtain ⟨w1, w2, w3, w5, w6, w9, w10, w11, w12, w13, w14, w15, w16⟩ := h
  dsimp only at w10
  have hY : ∀ p : Nat, p < i + 1 → -1 ≤ c_app Y i c inn 2 p ∧ c_app Y i c inn 2 p < ((i + 1 : Nat) : Int) ∧ -1 ≤ c_app Y i c inn 4 p ∧ c_app Y i c inn 4 p < ((i + 1 : Nat) : Int) := by
    intro p hp'
    unfold c_app
    by_cases q : p = i
    · rw [if_pos q, if_pos q]; simp; omega
    · rw [if_neg q, if_neg q]; have := hp p (by omega); dsimp only at this; omega
  have hs : ∀ (j p0 : Nat) (x : Int) (Z : Nat → Nat → Int), -1 ≤ x → x < ((i + 1 : Nat) : Int) → (∀ p : Nat, p < i + 1 → -1 ≤ Z 2 p ∧ Z 2 p < ((i + 1 : Nat) : Int) ∧ -1 ≤ Z 4 p ∧ Z 4 p < ((i + 1 : Nat) : Int)) → ∀ p : Nat, p < i + 1 → -1 ≤ r_set Z j p0 x 2 p ∧ r_set Z j p0 x 2 p < ((i + 1 : Nat) : Int) ∧ -1 ≤ r_set Z j p0 x 4 p ∧ r_set Z j p0 x 4 p < ((i + 1 : Nat) : Int) := by
    intro j p0 x Z h1 h2 hZ p hp'
    have := hZ p hp'
    unfold r_set
    split <;> split <;> omega
  have h5 : ∀ (p0 : Nat) (x : Int) (Z : Nat → Nat → Int), (∀ p : Nat, p < i + 1 → -1 ≤ Z 2 p ∧ Z 2 p < ((i + 1 : Nat) : Int) ∧ -1 ≤ Z 4 p ∧ Z 4 p < ((i + 1 : Nat) : Int)) → ∀ p : Nat, p < i + 1 → -1 ≤ r_set Z 5 p0 x 2 p ∧ r_set Z 5 p0 x 2 p < ((i + 1 : Nat) : Int) ∧ -1 ≤ r_set Z 5 p0 x 4 p ∧ r_set Z 5 p0 x 4 p < ((i + 1 : Nat) : Int) := by
    intro p0 x Z hZ p hp'
    have := hZ p hp'
    unfold r_set
    rw [if_neg (by omega), if_neg (by omega)]
    exact this
  unfold cst at e
  dsimp only at e
  by_cases c4 : ph = 4 ∧ ¬ c = 36 ∧ ¬ opn c ∧ cls c
  · obtain ⟨q0, q1, q2, q3⟩ := c4
    subst q0
    rw [if_neg (by decide), if_neg (by decide), if_neg (by decide), if_neg (by decide), if_pos rfl, if_neg q1, if_neg q2, if_pos q3] at e
    by_cases q4 : d = 0
    · rw [if_pos q4] at e; cases e
    rw [if_neg q4] at e
    by_cases q5 : S 1 (d - 1) = c
    · rw [if_pos q5] at e
      have := w10 (d - 1) (by omega)
      have hY2 := hs 2 i (S 0 (d - 1)) _ (by omega) (by omega) (hs 2 (S 0 (d - 1)).toNat i _ (by omega) (by omega) hY)
      generalize r_set (r_set (c_app Y i c inn) 2 (S 0 (d - 1)).toNat i) 2 i (S 0 (d - 1)) = Y2 at e hY2
      by_cases q6 : d = 1
      · rw [if_pos q6] at e; cases e; exact hY2
      rw [if_neg q6] at e
      by_cases q7 : c_rpe Y2 i = -1
      · rw [if_pos q7] at e; cases e; exact hY2
      · rw [if_neg q7] at e; cases e; exact hY2
    · rw [if_neg q5] at e; cases e
  · by_cases c4' : ph = 4
    · subst c4'
      rw [if_neg (by decide), if_neg (by decide), if_neg (by decide), if_neg (by decide), if_pos rfl] at e
      by_cases q1 : c = 36
      · rw [if_pos q1] at e; cases e; exact hY
      rw [if_neg q1] at e
      by_cases q2 : opn c
      · rw [if_pos q2] at e
        split at e
        · cases e; exact hY
        · cases e
      rw [if_neg q2, if_neg (fun z => c4 ⟨rfl, q1, q2, z⟩)] at e
      cases e; exact hY
    · by_cases c5 : ph = 5
      · subst c5
        rw [if_neg (by decide), if_neg (by decide), if_neg (by decide), if_neg (by decide), if_neg (by decide), if_pos rfl] at e
        by_cases q1 : wd c
        · rw [if_pos q1] at e; cases e; exact hY
        rw [if_neg q1] at e
        split at e
        · split at e
          · split at e
            · cases e; exact h5 (i - 1) rp _ hY
            · cases e
          · cases e; exact hY
        · cases e
      · rw [if_neg c4', if_neg c5] at e
        repeat' split at e
        all_goals first | (cases e; exact hY) | (cases e; exact hs 4 _ _ _ (by omega) (by omega) hY) | cases e
theorem WP_run (C : Nat → Int) : ∀ (f i : Nat) (s : CS), WS i s → WP i s → (crn C f i s).1 = 2 → WS (crn C f i s).2.1 (crn C f i s).2.2 ∧ WP (crn C f i s).2.1 (crn C f i s).2.2 := by
  intro f
  induction f with
  | zero => intro i s _ _ h; cases h
  | succ f ih =>
    intro i s hw hp h
    rw [crn] at h ⊢
    by_cases c0 : C i = 0
    · rw [if_pos c0] at h ⊢
      by_cases c1 : s.1 = 3
      · rw [if_pos c1]; exact ⟨hw, hp⟩
      · rw [if_neg c1] at h; cases h
    rw [if_neg c0] at h ⊢
    by_cases c1 : C i < 0
    · rw [if_pos c1] at h; cases h
    rw [if_neg c1] at h ⊢
    cases e : cst (C i) i s with
    | none => rw [e] at h; cases h
    | some s' =>
      rw [e] at h
      exact ih (i + 1) s' (WS_st _ _ _ _ hw e) (WP_st _ _ _ _ hw hp e) h
/-- the class's definition b: its tokens, arrays, arms -/
def DM (b sz a : Nat) (C : Nat → Int) (Y : Nat → Nat → Int) (P : Nat → Nat) (m : ZM) : Prop :=
  sz ≤ 120 ∧ m.1 b 6 = sz ∧ YR b m Y sz ∧ (∀ p : Nat, p < sz → Y 1 p = C p) ∧ (∀ p : Nat, p < sz → -1 ≤ Y 2 p ∧ Y 2 p < sz ∧ -1 ≤ Y 3 p ∧ Y 3 p < sz ∧ -1 ≤ Y 4 p ∧ Y 4 p < sz) ∧ m.1 b 7 = a ∧ a ≤ 3 ∧ ∀ k : Nat, k < a → m.1 (b + 6) k = P k ∧ P k < sz
theorem DM_kp {b sz a : Nat} {C : Nat → Int} {Y : Nat → Nat → Int} {P : Nat → Nat} {m m' : ZM} {l : List (Nat × Nat)} (h : DM b sz a C Y P m) (g : kp (wl l) m m') (hl : ∀ c k, b ≤ c → c ≤ b + 6 → wl l c k = false) : DM b sz a C Y P m' := by
  obtain ⟨h1, h2, h3, h4, h5, h6, h7, h8⟩ := h
  refine ⟨h1, ?_, ?_, h4, h5, ?_, h7, ?_⟩
  · rw [(g.1 b 6 (hl b 6 (by omega) (by omega))).1]; exact h2
  · intro p hp
    rw [(g.1 (b + 1) p (hl _ p (by omega) (by omega))).1, (g.1 (b + 2) p (hl _ p (by omega) (by omega))).1, (g.1 (b + 3) p (hl _ p (by omega) (by omega))).1, (g.1 (b + 4) p (hl _ p (by omega) (by omega))).1, (g.1 (b + 5) p (hl _ p (by omega) (by omega))).1]; exact h3 p hp
  · rw [(g.1 b 7 (hl b 7 (by omega) (by omega))).1]; exact h6
  · intro k hk
    rw [(g.1 (b + 6) k (hl _ k (by omega) (by omega))).1]; exact h8 k hk
section
variable {n b sz a : Nat} {C : Nat → Int} {Y : Nat → Nat → Int} {P : Nat → Nat} {m : ZM}
theorem d_code (h : DM b sz a C Y P m) (p : Int) : zF109 n b p m = some (if 0 ≤ p ∧ p < sz then C p.toNat else -1, m) := by
  obtain ⟨h1, h2, h3, h4, h5, h6, h7, h8⟩ := h
  unfold zF109 zJ109_21 zJ109_22
  rw [h2]
  by_cases q : p < 0
  · rw [if_pos q, if_neg (by omega)]
  rw [if_neg q]
  by_cases q2 : (sz : Int) ≤ p
  · rw [if_pos q2, if_neg (by omega)]
  rw [if_neg q2, if_neg (by omega), if_pos (by omega), (h3 p.toNat (by omega)).1, h4 p.toNat (by omega)]
theorem d_codeN (h : DM b sz a C Y P m) (p : Nat) (hp : p < sz) : zF109 n b p m = some (C p, m) := by
  rw [d_code h, if_pos (by omega), Int.toNat_natCast]
theorem d_part (h : DM b sz a C Y P m) (p : Int) : zF110 n b p m = some (if 0 ≤ p ∧ p < sz then Y 2 p.toNat else -1, m) := by
  obtain ⟨h1, h2, h3, h4, h5, h6, h7, h8⟩ := h
  unfold zF110 zJ110_21 zJ110_22
  rw [h2]
  by_cases q : p < 0
  · rw [if_pos q, if_neg (by omega)]
  rw [if_neg q]
  by_cases q2 : (sz : Int) ≤ p
  · rw [if_pos q2, if_neg (by omega)]
  rw [if_neg q2, if_neg (by omega), if_pos (by omega), (h3 p.toNat (by omega)).2.1]
theorem d_ps (h : DM b sz a C Y P m) (u : Nat) (hu : u < a) : zF111 n b u m = some ((P u : Int) + 1, m) := by
  obtain ⟨h1, h2, h3, h4, h5, h6, h7, h8⟩ := h
  unfold zF111 zJ111_23 zJ111_24
  have := h8 u hu
  rw [h6, if_neg (by omega), if_neg (by omega), if_neg (by omega), Int.toNat_natCast, this.1, if_pos (by omega)]
theorem d_pe (h : DM b sz a C Y P m) (u : Nat) (hu : u < a) : zF112 n b u m = some (Y 2 (P u), m) := by
  obtain ⟨h1, h2, h3, h4, h5, h6, h7, h8⟩ := h
  unfold zF112 zJ112_26 zJ112_27
  have := h8 u hu
  rw [h6, if_neg (by omega), if_neg (by omega), if_neg (by omega), Int.toNat_natCast, this.1, if_neg (by omega), Int.toNat_natCast, (h3 (P u) this.2).2.1]
theorem d_bs (h : DM b sz a C Y P m) (u : Nat) (hu : u < a) : zF113 n b u m = some (Y 2 (P u) + 2, m) := by
  unfold zF113
  rw [d_pe h u hu]
  have := h.2.2.2.2.1 (P u) (h.2.2.2.2.2.2.2 u hu).2
  have := h.1
  dsimp only
  rw [if_pos (by omega)]
theorem d_be (h : DM b sz a C Y P m) (u : Nat) (hu : u < a) : zF114 n b u m = some (if 0 ≤ Y 2 (P u) + 1 ∧ Y 2 (P u) + 1 < sz then Y 2 (Y 2 (P u) + 1).toNat else -1, m) := by
  unfold zF114
  rw [d_pe h u hu]
  have := h.2.2.2.2.1 (P u) (h.2.2.2.2.2.2.2 u hu).2
  have := h.1
  dsimp only
  rw [if_pos (by omega), d_part h]
theorem d_sv (h : DM b sz a C Y P m) (p : Nat) (hp : p + 1 < sz) : zF115 n b p m = some (bi (C p = 36 ∧ C (p + 1) ≠ 40), m) := by
  obtain ⟨h1, h2, h3, h4, h5, h6, h7, h8⟩ := h
  unfold zF115 zJ115_25 zJ115_42 zJ115_43
  rw [h2, if_neg (by omega), if_pos (by omega), if_neg (by omega), if_neg (by omega), Int.toNat_natCast, (h3 p (by omega)).1, h4 p (by omega)]
  by_cases q : C p = 36
  · rw [if_pos q, if_pos (by omega), if_neg (by omega), show ((p : Int) + 1).toNat = p + 1 by omega, (h3 (p + 1) hp).1, h4 (p + 1) hp]
    by_cases q2 : C (p + 1) = 40
    · rw [if_pos q2, if_pos (Or.inl rfl), bi_n (fun z => z.2 q2)]
    · rw [if_neg q2, if_pos (Or.inr rfl), bi_p ⟨q, q2⟩]
  · rw [if_neg q, if_pos (Or.inl rfl), bi_n (fun z => q z.1)]
theorem d_sr (h : DM b sz a C Y P m) (p : Nat) (hp : p + 1 < sz) : zF116 n b p m = some (bi (C p = 36 ∧ C (p + 1) = 40), m) := by
  obtain ⟨h1, h2, h3, h4, h5, h6, h7, h8⟩ := h
  unfold zF116 zJ116_25 zJ116_42 zJ116_43
  rw [h2, if_neg (by omega), if_pos (by omega), if_neg (by omega), if_neg (by omega), Int.toNat_natCast, (h3 p (by omega)).1, h4 p (by omega)]
  by_cases q : C p = 36
  · rw [if_pos q, if_pos (by omega), if_neg (by omega), show ((p : Int) + 1).toNat = p + 1 by omega, (h3 (p + 1) hp).1, h4 (p + 1) hp]
    by_cases q2 : C (p + 1) = 40
    · rw [if_pos q2, if_pos (Or.inr rfl), bi_p ⟨q, q2⟩]
    · rw [if_neg q2, if_pos (Or.inl rfl), bi_n (fun z => q2 z.2)]
  · rw [if_neg q, if_pos (Or.inl rfl), bi_n (fun z => q z.1)]
/-- the repetition that ends at a place -/
def repE (C : Nat → Int) (Y : Nat → Nat → Int) (p : Nat) : Int := if C p = 41 ∧ 1 ≤ Y 2 p ∧ C (Y 2 p - 1).toNat = 36 then Y 2 p - 1 else -1
theorem d_re (h : DM b sz a C Y P m) (p : Nat) (hp : p < sz) : zF117 n b p m = some (repE C Y p, m) := by
  obtain ⟨h1, h2, h3, h4, h5, h6, h7, h8⟩ := h
  unfold zF117 zJ117_23 zJ117_25 zJ117_53 zJ117_49 zJ117_54 repE
  have h5p := h5 p hp
  rw [h2, if_neg (by omega), if_neg (by omega), if_neg (by omega), Int.toNat_natCast, (h3 p hp).1, h4 p hp]
  by_cases q : C p = 41
  · rw [if_pos q, if_neg (by omega), (h3 p hp).2.1, if_pos (by omega)]
    by_cases q2 : Y 2 p - 1 < 0
    · rw [if_pos q2, if_neg (fun z => by omega)]
    · rw [if_neg q2, if_neg (by omega), (h3 _ (by omega)).1, h4 _ (by omega)]
      by_cases q3 : C (Y 2 p - 1).toNat = 36
      · rw [if_pos q3, if_pos ⟨q, by omega, q3⟩]
      · rw [if_neg q3, if_neg (fun z => q3 z.2.2)]
  · rw [if_neg q, if_neg (fun z => q z.1)]
theorem d_mk (h : DM b sz a C Y P m) (p : Nat) (hp : p < sz) : zF118 n b p m = some (if 0 ≤ Y 4 p then C (Y 4 p).toNat else -1, m) := by
  obtain ⟨h1, h2, h3, h4, h5, h6, h7, h8⟩ := h
  unfold zF118 zJ118_21 zJ118_23
  have h5p := h5 p hp
  rw [h2, if_neg (by omega), if_neg (by omega), if_neg (by omega), Int.toNat_natCast, (h3 p hp).2.2.2.1]
  by_cases q : 0 ≤ Y 4 p
  · rw [if_pos q, if_pos q, if_neg (by omega), if_neg (by omega), (h3 _ (by omega)).1, h4 _ (by omega)]
  · rw [if_neg q, if_neg q]
theorem d_bh (h : DM b sz a C Y P m) (p : Nat) (hp : p < sz) : zF119 n b p m = some (if 0 ≤ Y 4 p then Y 4 p + 1 else sz, m) := by
  obtain ⟨h1, h2, h3, h4, h5, h6, h7, h8⟩ := h
  unfold zF119 zJ119_21 zJ119_26
  have h5p := h5 p hp
  rw [h2, if_neg (by omega), if_neg (by omega), if_neg (by omega), Int.toNat_natCast, (h3 p hp).2.2.2.1]
  by_cases q : 0 ≤ Y 4 p
  · rw [if_pos q, if_pos q, if_neg (by omega), if_pos (by omega)]
  · rw [if_neg q, if_neg q]
theorem d_sp (h : DM b sz a C Y P m) (p : Nat) (hp : p + 1 < sz) : zF120 n b p m = some (if Y 4 p = Y 2 (p + 1) + 2 then Y 2 (p + 1) + 1 else -1, m) := by
  obtain ⟨h1, h2, h3, h4, h5, h6, h7, h8⟩ := h
  unfold zF120 zJ120_14 zJ120_37 zJ120_43 zJ120_44
  have h5p := h5 (p + 1) hp
  rw [h2, if_neg (by omega), if_pos (by omega), if_pos (by omega), if_neg (by omega), if_neg (by omega), show ((p : Int) + 1).toNat = p + 1 by omega, Int.toNat_natCast, (h3 (p + 1) hp).2.1, (h3 p (by omega)).2.2.2.1, if_pos (by omega)]
  by_cases q : Y 4 p = Y 2 (p + 1) + 2
  · rw [if_pos q, if_pos q, if_pos (by omega)]
  · rw [if_neg q, if_neg q]
theorem d_ra (h : DM b sz a C Y P m) (p : Int) : zF121 n b p m = some (if 0 ≤ p ∧ p < sz then Y 3 p.toNat else -1, m) := by
  obtain ⟨h1, h2, h3, h4, h5, h6, h7, h8⟩ := h
  unfold zF121 zJ121_21 zJ121_22
  rw [h2]
  by_cases q : p < 0
  · rw [if_pos q, if_neg (by omega)]
  rw [if_neg q]
  by_cases q2 : (sz : Int) ≤ p
  · rw [if_pos q2, if_neg (by omega)]
  rw [if_neg q2, if_neg (by omega), if_pos (by omega), (h3 p.toNat (by omega)).2.2.1]
theorem d_rs (h : DM b sz a C Y P m) (p : Nat) (hp : p < sz) : zF122 n b p m = some (c_dep Y p, m) := by
  unfold zF122 zJ122_24 zJ122_28 zJ122_29 c_dep
  rw [d_ra h, if_pos (by omega), Int.toNat_natCast]
  dsimp only
  by_cases q : Y 3 p = -1
  · rw [if_pos q, if_pos q]
  · have := h.2.2.2.2.1 p hp
    rw [if_neg q, if_neg q, d_ra h, if_pos (by omega)]
    dsimp only
    by_cases q2 : Y 3 (Y 3 p).toNat = -1
    · rw [if_pos q2, if_pos q2]
    · rw [if_neg q2, if_neg q2]
theorem d_oo (h : DM b sz a C Y P m) (p : Nat) (hp : p < sz) : zF123 n b p m = some (if Y 3 p = -1 then Y 5 p else -1, m) := by
  obtain ⟨h1, h2, h3, h4, h5, h6, h7, h8⟩ := h
  unfold zF123 zJ123_22 zJ123_24
  rw [h2, if_neg (by omega), if_neg (by omega), if_neg (by omega), Int.toNat_natCast, (h3 p hp).2.2.1]
  by_cases q : Y 3 p = -1
  · rw [if_pos q, if_pos q, if_neg (by omega), (h3 p hp).2.2.2.2]
  · rw [if_neg q, if_neg q]
theorem d_oa (h : DM b sz a C Y P m) (p : Nat) (hp : p < sz) : zF124 n b p m = some (if Y 3 p < 0 then -1 else if Y 3 (Y 3 p).toNat < 0 then Y 5 (Y 3 p).toNat else Y 5 (Y 3 (Y 3 p).toNat).toNat, m) := by
  obtain ⟨h1, h2, h3, h4, h5, h6, h7, h8⟩ := h
  unfold zF124 zJ124_21 zJ124_23 zJ124_59
  have h5p := h5 p hp
  rw [h2, if_neg (by omega), if_neg (by omega), if_neg (by omega), Int.toNat_natCast, (h3 p hp).2.2.1]
  by_cases q : 0 ≤ Y 3 p
  · have h5q := h5 (Y 3 p).toNat (by omega)
    rw [if_pos q, if_neg (show ¬ Y 3 p < 0 by omega), if_neg (by omega), if_neg (by omega), (h3 (Y 3 p).toNat (by omega)).2.2.1]
    by_cases q2 : 0 ≤ Y 3 (Y 3 p).toNat
    · rw [if_pos q2, if_neg (show ¬ Y 3 (Y 3 p).toNat < 0 by omega), if_neg (by omega), (h3 (Y 3 (Y 3 p).toNat).toNat (by omega)).2.2.2.2]
    · rw [if_neg q2, if_pos (show Y 3 (Y 3 p).toNat < 0 by omega), (h3 (Y 3 p).toNat (by omega)).2.2.2.2]
  · rw [if_neg q, if_pos (by omega)]
/-- fragmentOf: the first place of the word -/
theorem d_fl (h : DM b sz a C Y P m) (w : Int) (z : Nat) (hz : z < sz) : ∀ (k p : Nat), z + 1 ≤ p + k → p ≤ z →
    (zL125_34 n b k w z p m = some (-1, m) ∧ (∀ q : Nat, p ≤ q → q < z → ¬ (C q = 36 ∧ C (q + 1) = w))) ∨ ∃ q : Nat, p ≤ q ∧ q < z ∧ C q = 36 ∧ C (q + 1) = w ∧ (∀ q' : Nat, p ≤ q' → q' < q → ¬ (C q' = 36 ∧ C (q' + 1) = w)) ∧ zL125_34 n b k w z p m = some ((q : Int), m) := by
  obtain ⟨h1, h2, h3, h4, h5, h6, h7, h8⟩ := h
  intro k
  induction k with
  | zero => intro p hp hpz; omega
  | succ k ih =>
    intro p hp hpz
    rw [zL125_34]
    unfold zJ125_85 zJ125_63 zJ125_79
    by_cases q : (z : Int) ≤ p
    · left
      rw [if_pos q]
      exact ⟨rfl, fun q1 h1 h2 => by omega⟩
    rw [if_neg q, if_pos (by omega), h2, if_neg (by omega), if_neg (by omega), Int.toNat_natCast, (h3 p (by omega)).1, h4 p (by omega)]
    by_cases q1 : C p = 36 ∧ C (p + 1) = w
    · right
      refine ⟨p, by omega, by omega, q1.1, q1.2, fun q' a1 a2 => by omega, ?_⟩
      rw [if_pos q1.1, if_pos (by omega), if_neg (by omega), show ((p : Int) + 1).toNat = p + 1 by omega, (h3 (p + 1) (by omega)).1, h4 (p + 1) (by omega), if_pos q1.2]
    · have hgo : (if C p = 36 then (if rg ((p : Int) + 1) then (if (p : Int) + 1 < 0 ∨ 120 ≤ (p : Int) + 1 then none else if m.1 (b + 1) ((p : Int) + 1).toNat = w then some ((p : Int), m) else (if rg ((p : Int) + 1) then zL125_34 n b k w z ((p : Int) + 1) m else none)) else none) else (if rg ((p : Int) + 1) then zL125_34 n b k w z ((p : Int) + 1) m else none)) = zL125_34 n b k w z ((p + 1 : Nat) : Int) m := by
        by_cases q2 : C p = 36
        · rw [if_pos q2, if_pos (by omega), if_neg (by omega), show ((p : Int) + 1).toNat = p + 1 by omega, (h3 (p + 1) (by omega)).1, h4 (p + 1) (by omega), if_neg (fun z => q1 ⟨q2, z⟩), if_pos (by omega)]
          rfl
        · rw [if_neg q2, if_pos (by omega)]
          rfl
      rw [hgo]
      rcases ih (p + 1) (by omega) (by omega) with ⟨e1, e2⟩ | ⟨q', e1, e2, e3, e4, e5, e6⟩
      · left
        refine ⟨e1, fun q' a1 a2 => ?_⟩
        by_cases q3 : q' = p
        · subst q3; exact q1
        · exact e2 q' (by omega) a2
      · right
        refine ⟨q', by omega, e2, e3, e4, fun q2 a1 a2 => ?_, e6⟩
        by_cases q3 : q2 = p
        · subst q3; exact q1
        · exact e5 q2 (by omega) a2
end
