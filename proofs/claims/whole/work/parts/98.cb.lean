/-! accepts, place by place (first half). -/
section CB
variable {b i : Nat} {ph rp inn cl : Int} {pat : Bool} {d a : Nat} {S Y : Nat → Nat → Int} {P : Nat → Int} {m : ZM}
theorem ph_0 (hb : isD b) (n : Nat) (c : Int) (h : CQ b (i + 1) (ph, pat, rp, inn, cl, d, S, Y, a, P) m) : AO b i m (zJ128_76 n c m) (if wd c then some (1, pat, rp, inn, cl, d, S, Y, a, P) else none) := by
  unfold zJ128_76
  rw [zF11_eq]
  dsimp only
  rw [zF129_eq n _ 1 m (bi_01 _)]
  dsimp only
  rw [if_pos (bi_01 _)]
  by_cases q : wd c
  · rw [if_pos q, bi_p q]
    exact ⟨_, rfl, CQ_ph hb 1 h, kp_32 m 1⟩
  · rw [if_neg q, bi_n q]
    exact ⟨_, rfl, kp_32 m 1⟩
theorem ph_6 (hb : isD b) (n : Nat) (c : Int) (h : CQ b (i + 1) (ph, pat, rp, inn, cl, d, S, Y, a, P) m) : AO b i m (zJ128_163 n c m) (if c = 58 then some (7, pat, rp, inn, cl, d, S, Y, a, P) else none) := by
  unfold zJ128_163 zJ128_175
  by_cases q : c = 58
  · rw [if_pos q, if_pos q, zF129_eq n 1 7 m (Or.inr rfl)]
    exact ⟨_, rfl, CQ_ph hb 7 h, kp_32 m 7⟩
  · rw [if_neg q, if_neg q, zF129_eq n 0 7 m (Or.inl rfl)]
    exact ⟨_, rfl, kp_32 m 7⟩
theorem ph_7 (hb : isD b) (n : Nat) (c : Int) (h : CQ b (i + 1) (ph, pat, rp, inn, cl, d, S, Y, a, P) m) : AO b i m (zJ128_181 n c m) (if knd c then some (4, pat, rp, inn, cl, d, S, Y, a, P) else none) := by
  unfold zJ128_181
  rw [zF16_eq]
  dsimp only
  rw [zF129_eq n _ 4 m (bi_01 _)]
  dsimp only
  rw [if_pos (bi_01 _)]
  by_cases q : knd c
  · rw [if_pos q, bi_p q]
    exact ⟨_, rfl, CQ_ph hb 4 h, kp_32 m 4⟩
  · rw [if_neg q, bi_n q]
    exact ⟨_, rfl, kp_32 m 4⟩
theorem ph_3 (hb : isD b) (n : Nat) (c : Int) (h : CQ b (i + 1) (ph, pat, rp, inn, cl, d, S, Y, a, P) m) : AO b i m (zJ128_129 n c m) (if c = 59 ∧ a < 3 then some (1, pat, rp, inn, cl, d, S, Y, a, P) else none) := by
  unfold zJ128_129 zJ128_151 zJ128_152
  by_cases q : c = 59
  · rw [if_pos q, h.1]
    dsimp only
    rw [if_pos hb, zF108_eq, h.2.2.2.2.2.2.2.2.2.2.1]
    dsimp only
    by_cases q2 : a < 3
    · rw [if_neg (by omega), if_pos ⟨q, q2⟩, zF129_eq n 1 1 m (Or.inr rfl)]
      exact ⟨_, rfl, CQ_ph hb 1 h, kp_32 m 1⟩
    · rw [if_pos (by omega), if_neg (fun z => q2 z.2), zF129_eq n 0 1 m (Or.inl rfl)]
      exact ⟨_, rfl, kp_32 m 1⟩
  · rw [if_neg q, if_neg (fun z => q z.1), zF129_eq n 0 1 m (Or.inl rfl)]
    exact ⟨_, rfl, kp_32 m 1⟩
theorem ph_2 (hb : isD b) (n : Nat) (c : Int) (h : CQ b (i + 1) (ph, pat, rp, inn, cl, d, S, Y, a, P) m) (h33 : m.1 3 3 = i) : AO b i m (zJ128_92 n c m) (if c = 123 ∧ d < 10 then some (4, false, rp, inn, cl, d + 1, c_psh S d i c, Y, a, P) else none) := by
  unfold zJ128_92 zJ128_123 zJ128_124
  rw [zlet]
  have h1 := CQ_fl hb 4 0 (Or.inl rfl) h false rp inn cl (by simp [pb]) (by simp) (by simp) (by simp)
  have k1 : kp (wl (wrd b)) m (z_i m 3 4 0) := kp_3 m 4 0 (Or.inl rfl)
  have e33 : (z_i m 3 4 0).1 3 3 = i := by rw [z_nk _ _ _ _ _ _ (by decide)]; exact h33
  generalize z_i m 3 4 0 = m1 at h1 k1 e33
  by_cases q : c = 123
  · rw [if_pos q, e33]
    by_cases q2 : d < 10
    · obtain ⟨m2, x1, x2, x3, x4⟩ := CQ_psh hb n i c h1 q2
      rw [x1, if_pos ⟨q, q2⟩]
      dsimp only
      rw [if_neg (by decide), zF129_eq n 1 4 m2 (Or.inr rfl)]
      exact ⟨_, rfl, CQ_ph hb 4 x2, kp_tr k1 (kp_tr x4 (kp_32 m2 4))⟩
    · rw [psh_no n i c h1 q2, if_neg (fun z => q2 z.2)]
      dsimp only
      rw [if_pos rfl, zF129_eq n 0 4 m1 (Or.inl rfl)]
      exact ⟨_, rfl, kp_tr k1 (kp_32 m1 4)⟩
  · rw [if_neg q, if_neg (fun z => q z.1), zF129_eq n 0 4 m1 (Or.inl rfl)]
    exact ⟨_, rfl, kp_tr k1 (kp_32 m1 4)⟩
/-- beginArm -/
theorem CQ_arm (hb : isD b) (n : Nat) (h : CQ b (i + 1) (ph, pat, rp, inn, cl, d, S, Y, a, P) m) (ha : a < 3) : ∃ m', zF103 n b i m = some ((), m') ∧ CQ b (i + 1) (ph, pat, rp, inn, cl, d, S, Y, a + 1, fun k => if k = a then (i : Int) else P k) m' ∧ m'.1 3 3 = m.1 3 3 ∧ kp (wl (wrd b)) m m' := by
  have hge := isD_ge hb
  have h7 : m.1 b 7 = a := h.2.2.2.2.2.2.2.2.2.2.1
  have e : zF103 n b i m = some ((), z_i (z_i m (b + 6) a i) b 7 (a + 1)) := by
    unfold zF103 zJ103_18 zJ103_28
    rw [h7, if_neg (by omega), if_neg (by omega), zlet, Int.toNat_natCast, z_nc _ (b + 6) _ _ b 7 (by omega), h7, if_pos (by omega), zlet]
  obtain ⟨h1, h2, h3, h4, h5, h6, h7', h8, h9, h10, h11, h12⟩ := h
  have st : ∀ x k : Nat, x < 41 → (z_i (z_i m (b + 6) a (i : Int)) b 7 (a + 1)).1 x k = m.1 x k := by
    intro x k hx
    rw [z_nc _ _ _ _ _ _ (by omega), z_nc _ _ _ _ _ _ (by omega)]
  refine ⟨_, e, ⟨h1, ?_, ?_, ?_, ?_, ?_, ?_, ?_, ?_, ?_, ?_, ?_⟩, st 3 3 (by omega), kp_i (kp_ia (kp_refl _ m) (by simp [wrd])) (by simp [wrd])⟩
  · rw [st 3 2 (by omega)]; exact h2
  · rw [st 3 4 (by omega)]; exact h3
  · rw [st 3 5 (by omega)]; exact h4
  · rw [st 3 6 (by omega)]; exact h5
  · rw [st 3 7 (by omega)]; exact h6
  · rw [st 4 2 (by omega)]; exact h7'
  · intro k hk
    rw [st 5 k (by omega), st 6 k (by omega)]; exact h8 k hk
  · rw [z_nk _ _ _ _ _ _ (by decide), z_nc _ _ _ _ _ _ (by omega)]; exact h9
  · intro p hp
    have sy : ∀ j : Nat, 1 ≤ j → j ≤ 5 → (z_i (z_i m (b + 6) a (i : Int)) b 7 (a + 1)).1 (b + j) p = m.1 (b + j) p := by
      intro j hj1 hj2
      rw [z_nc _ _ _ _ _ _ (by omega), z_nc _ _ _ _ _ _ (by omega)]
    rw [sy 1 (by omega) (by omega), sy 2 (by omega) (by omega), sy 3 (by omega) (by omega), sy 4 (by omega) (by omega), sy 5 (by omega) (by omega)]; exact h10 p hp
  · rw [z_eq, Int.natCast_add]; rfl
  · intro k hk
    rw [z_nc _ _ _ _ _ _ (by omega)]
    by_cases q : k = a
    · subst q
      rw [z_eq]
      simp
    · rw [z_nk _ _ _ _ _ _ q]
      have : k < a + 1 := hk
      simp only [if_neg q]
      exact h12 k (by show k < a; omega)
theorem ph_1 (hb : isD b) (n : Nat) (c : Int) (h : CQ b (i + 1) (ph, pat, rp, inn, cl, d, S, Y, a, P) m) (h33 : m.1 3 3 = i) (ha : a < 3) : AO b i m (zJ128_86 n c m) (if c = 40 ∧ d < 10 ∧ a < 3 then some (4, true, 0, inn, cl, d + 1, c_psh S d i c, Y, a + 1, fun k => if k = a then (i : Int) else P k) else none) := by
  unfold zJ128_86 zF130
  rw [zlet, zlet]
  have h1 := CQ_fl hb 4 1 (Or.inl rfl) h true rp inn cl (by simp [pb]) (by simp) (by simp) (by simp)
  have h2 := CQ_fl hb 5 0 (Or.inr (Or.inl rfl)) h1 true 0 inn cl (by simp) (by simp) (by simp) (by simp)
  have k2 : kp (wl (wrd b)) m (z_i (z_i m 3 4 1) 3 5 0) := kp_tr (kp_3 m 4 1 (Or.inl rfl)) (kp_3 _ 5 0 (Or.inr (Or.inl rfl)))
  have e33 : (z_i (z_i m 3 4 1) 3 5 0).1 3 3 = i := by rw [z_nk _ _ _ _ _ _ (by decide), z_nk _ _ _ _ _ _ (by decide)]; exact h33
  generalize z_i (z_i m 3 4 1) 3 5 0 = m1 at h2 k2 e33
  obtain ⟨m2, x1, x2, x3, x4⟩ := CQ_arm hb n h2 ha
  rw [h2.1]
  dsimp only
  rw [if_pos hb, e33, x1]
  dsimp only
  unfold zJ130_21 zJ130_47 zJ130_48
  rw [x3, e33]
  by_cases q : c = 40
  · rw [if_pos q]
    by_cases q2 : d < 10
    · obtain ⟨m3, y1, y2, y3, y4⟩ := CQ_psh hb n i c x2 q2
      rw [y1, if_pos ⟨q, q2, ha⟩]
      dsimp only
      rw [if_neg (by decide), zF129_eq n 1 4 m3 (Or.inr rfl)]
      exact ⟨_, rfl, CQ_ph hb 4 y2, kp_tr k2 (kp_tr x4 (kp_tr y4 (kp_32 m3 4)))⟩
    · rw [psh_no n i c x2 q2, if_neg (fun z => q2 z.2.1)]
      dsimp only
      rw [if_pos rfl, zF129_eq n 0 4 m2 (Or.inl rfl)]
      exact ⟨_, rfl, kp_tr k2 (kp_tr x4 (kp_32 m2 4))⟩
  · rw [if_neg q, if_neg (fun z => q z.1), zF129_eq n 0 4 m2 (Or.inl rfl)]
    exact ⟨_, rfl, kp_tr k2 (kp_tr x4 (kp_32 m2 4))⟩
/-- setMark -/
theorem CQ_mark (hb : isD b) (n : Nat) (h : CQ b (i + 1) (ph, pat, rp, inn, cl, d, S, Y, a, P) m) (hi : i < 120) (hc : 0 ≤ cl ∧ cl < i) : ∃ m', zF105 n b cl i m = some ((), m') ∧ CQ b (i + 1) (ph, pat, rp, inn, cl, d, S, r_set Y 4 cl.toNat i, a, P) m' ∧ kp (wl (wrd b)) m m' := by
  have h6 : m.1 b 6 = ((i + 1 : Nat) : Int) := h.2.2.2.2.2.2.2.2.1
  have e : zF105 n b cl i m = some ((), z_i m (b + 4) cl.toNat i) := by
    unfold zF105 zJ105_24 zJ105_31
    rw [h6, if_neg (by omega), if_neg (by omega), if_neg (by omega), if_neg (by omega), if_neg (by omega), zlet]
  obtain ⟨x1, x2⟩ := CQ_set hb 4 cl.toNat i (by omega) h
  exact ⟨_, e, x1, x2⟩
theorem ph_8 (hb : isD b) (n : Nat) (c : Int) (h : CQ b (i + 1) (ph, pat, rp, inn, cl, d, S, Y, a, P) m) (h33 : m.1 3 3 = i) (hi : i < 120) (hc : 0 ≤ cl ∧ cl < i) : AO b i m (zJ128_191 n c m) (if c = 42 ∨ c = 43 ∨ c = 63 then some (4, pat, rp, inn, cl, d, S, r_set Y 4 cl.toNat i, a, P) else if c ≠ 36 ∧ ¬ opn c ∧ ¬ cls c then some (9, pat, rp, inn, cl, d, S, Y, a, P) else none) := by
  unfold zJ128_191 zF134
  rw [zF15_eq]
  dsimp only
  rw [ib]
  by_cases q : c = 42 ∨ c = 43 ∨ c = 63
  · obtain ⟨m2, x1, x2, x3⟩ := CQ_mark hb n h hi hc
    rw [if_pos q, if_pos q, h.1]
    dsimp only
    rw [if_pos hb, show m.1 3 7 = cl from h.2.2.2.2.2.1, h33, x1]
    dsimp only
    unfold zJ134_22
    rw [zF129_eq n 1 4 m2 (Or.inr rfl)]
    exact ⟨_, rfl, CQ_ph hb 4 x2, kp_tr x3 (kp_32 m2 4)⟩
  · rw [if_neg q, if_neg q, zF13_eq]
    dsimp only
    rw [ib, zF14_eq]
    dsimp only
    rw [ib]
    unfold zJ134_54 zJ134_55
    rw [zF129_eq n 0 9 m (Or.inl rfl), zF129_eq n 1 9 m (Or.inr rfl)]
    by_cases q1 : c = 36
    · rw [if_pos q1, if_neg (fun z => z.1 q1)]
      exact ⟨_, rfl, kp_32 m 9⟩
    · rw [if_neg q1]
      by_cases q2 : opn c
      · rw [if_pos q2, if_neg (fun z => z.2.1 q2)]
        exact ⟨_, rfl, kp_32 m 9⟩
      · rw [if_neg q2]
        by_cases q3 : cls c
        · rw [if_pos q3, if_neg (fun z => z.2.2 q3)]
          exact ⟨_, rfl, kp_32 m 9⟩
        · rw [if_neg q3, if_pos ⟨q1, q2, q3⟩]
          exact ⟨_, rfl, CQ_ph hb 9 h, kp_32 m 9⟩
theorem ph_9 (hb : isD b) (n : Nat) (c : Int) (h : CQ b (i + 1) (ph, pat, rp, inn, cl, d, S, Y, a, P) m) (h33 : m.1 3 3 = i) (hi : i < 120) (hc : 0 ≤ cl ∧ cl < i) : AO b i m (zJ128_197 n c m) (if c = 42 ∨ c = 43 then some (4, pat, rp, inn, cl, d, S, r_set Y 4 cl.toNat i, a, P) else none) := by
  unfold zJ128_197
  obtain ⟨m2, x1, x2, x3⟩ := CQ_mark hb n h hi hc
  rw [h.1]
  dsimp only
  rw [if_pos hb, show m.1 3 7 = cl from h.2.2.2.2.2.1, h33, x1]
  dsimp only
  unfold zJ128_212 zJ128_225 zJ128_230
  rw [zF129_eq n 1 4 m2 (Or.inr rfl), zF129_eq n 0 4 m2 (Or.inl rfl)]
  by_cases q : c = 42
  · rw [if_pos q, if_pos (Or.inl q)]
    exact ⟨_, rfl, CQ_ph hb 4 x2, kp_tr x3 (kp_32 m2 4)⟩
  · rw [if_neg q]
    by_cases q2 : c = 43
    · rw [if_pos q2, if_pos (Or.inr q2)]
      exact ⟨_, rfl, CQ_ph hb 4 x2, kp_tr x3 (kp_32 m2 4)⟩
    · rw [if_neg q2, if_neg (by omega)]
      exact ⟨_, rfl, kp_tr x3 (kp_32 m2 4)⟩
end CB
