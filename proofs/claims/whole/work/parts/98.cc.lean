/-! accepts, place by place (second half). -/
section CC2
variable {b i : Nat} {ph rp inn cl : Int} {pat : Bool} {d a : Nat} {S Y : Nat → Nat → Int} {P : Nat → Int} {m : ZM}
theorem CQ_pop (hb : isD b) (h : CQ b i (ph, pat, rp, inn, cl, d, S, Y, a, P) m) : CQ b i (ph, pat, rp, inn, cl, d - 1, S, Y, a, P) (z_i m 4 2 (d - 1 : Nat)) ∧ kp (wl (wrd b)) m (z_i m 4 2 (d - 1 : Nat)) := by
  have hge := isD_ge hb
  obtain ⟨h1, h2, h3, h4, h5, h6, h7, h8, h9, h10, h11, h12⟩ := h
  refine ⟨⟨h1, ?_, ?_, ?_, ?_, ?_, z_eq _ _ _ _, ?_, ?_, ?_, ?_, ?_⟩, kp_i (kp_refl _ m) (by simp [wrd])⟩
  · rw [z_nc _ _ _ _ _ _ (by decide)]; exact h2
  · rw [z_nc _ _ _ _ _ _ (by decide)]; exact h3
  · rw [z_nc _ _ _ _ _ _ (by decide)]; exact h4
  · rw [z_nc _ _ _ _ _ _ (by decide)]; exact h5
  · rw [z_nc _ _ _ _ _ _ (by decide)]; exact h6
  · intro k hk
    rw [z_nc _ _ _ _ _ _ (by decide), z_nc _ _ _ _ _ _ (by decide)]; exact h8 k (by have : k < d - 1 := hk; show k < d; omega)
  · rw [z_nc _ _ _ _ _ _ (by omega)]; exact h9
  · intro p hp
    rw [z_nc _ _ _ _ _ _ (by omega), z_nc _ _ _ _ _ _ (by omega), z_nc _ _ _ _ _ _ (by omega), z_nc _ _ _ _ _ _ (by omega), z_nc _ _ _ _ _ _ (by omega)]; exact h10 p hp
  · rw [z_nc _ _ _ _ _ _ (by omega)]; exact h11
  · intro k hk
    rw [z_nc _ _ _ _ _ _ (by omega)]; exact h12 k hk
theorem rpe_eq (n : Nat) (h : CQ b (i + 1) (ph, pat, rp, inn, cl, d, S, Y, a, P) m) (hi : i < 120) (hp : -1 ≤ Y 2 i ∧ Y 2 i ≤ i) : zF117 n b i m = some (c_rpe Y i, m) := by
  have h6 : m.1 b 6 = ((i + 1 : Nat) : Int) := h.2.2.2.2.2.2.2.2.1
  have hy := h.2.2.2.2.2.2.2.2.2.1 i (by omega)
  dsimp only at hy
  unfold zF117 zJ117_23 zJ117_25 zJ117_53 zJ117_49 zJ117_54 c_rpe
  rw [h6, if_neg (by omega), if_neg (by omega), if_neg (by omega), Int.toNat_natCast, hy.1, hy.2.1]
  by_cases q : Y 1 i = 41
  · rw [if_pos q, if_neg (by omega), if_pos (by omega)]
    by_cases q2 : 1 ≤ Y 2 i
    · have hy2 := h.2.2.2.2.2.2.2.2.2.1 (Y 2 i - 1).toNat (by omega)
      dsimp only at hy2
      rw [if_neg (by omega), if_neg (by omega), hy2.1]
      by_cases q3 : Y 1 (Y 2 i - 1).toNat = 36
      · rw [if_pos q3, if_pos ⟨q, q2, q3⟩]
      · rw [if_neg q3, if_neg (fun z => q3 z.2.2)]
    · rw [if_pos (by omega), if_neg (fun z => q2 z.2.1)]
  · rw [if_neg q, if_neg (fun z => q z.1)]
/-- a closing bracket -/
theorem cls_eq (hb : isD b) (n : Nat) (c : Int) (h : CQ b (i + 1) (4, pat, rp, inn, cl, d, S, Y, a, P) m) (h33 : m.1 3 3 = i) (hi : i < 120) (hd10 : d ≤ 10) (hS : ∀ k : Nat, k < d → 0 ≤ S 0 k ∧ S 0 k < i) (hY : ∀ p : Nat, p < i + 1 → -1 ≤ Y 3 p ∧ Y 3 p ≤ i) :
    AO b i m (zF132 n c m) (if d = 0 then none else if S 1 (d - 1) = c then
          (if d = 1 then some ((if pat = true then 2 else 3), pat, rp, inn, cl, d - 1, S, r_set (r_set Y 2 (S 0 (d - 1)).toNat i) 2 i (S 0 (d - 1)), a, P)
          else if c_rpe (r_set (r_set Y 2 (S 0 (d - 1)).toNat i) 2 i (S 0 (d - 1))) i = -1 then some (4, pat, rp, inn, -1, d - 1, S, r_set (r_set Y 2 (S 0 (d - 1)).toNat i) 2 i (S 0 (d - 1)), a, P)
          else some (8, pat, rp, r_set (r_set Y 2 (S 0 (d - 1)).toNat i) 2 i (S 0 (d - 1)) 3 (c_rpe (r_set (r_set Y 2 (S 0 (d - 1)).toNat i) 2 i (S 0 (d - 1))) i).toNat, c_rpe (r_set (r_set Y 2 (S 0 (d - 1)).toNat i) 2 i (S 0 (d - 1))) i, d - 1, S, r_set (r_set Y 2 (S 0 (d - 1)).toNat i) 2 i (S 0 (d - 1)), a, P))
        else none) := by
  have hge := isD_ge hb
  unfold zF132
  rw [zF163_eq n 4 c m d h.2.2.2.2.2.2.1 hd10]
  by_cases q0 : d = 0
  · rw [if_pos q0, if_pos q0]
    exact ⟨m, rfl, kp_refl _ m⟩
  rw [if_neg q0, if_neg q0]
  have hst := h.2.2.2.2.2.2.2.1 (d - 1) (by show d - 1 < d; omega)
  dsimp only at hst
  rw [show (4 + 2 : Nat) = 6 from rfl, show (4 + 1 : Nat) = 5 from rfl, hst.1, hst.2]
  by_cases q1 : S 1 (d - 1) = c
  · rw [if_pos q1, if_pos q1]
    dsimp only
    have hs0 := hS (d - 1) (by omega)
    rw [if_neg (show ¬ S 0 (d - 1) = -1 by omega)]
    obtain ⟨y1, y2⟩ := CQ_pop hb h
    have e33 : (z_i m 4 2 (d - 1 : Nat)).1 3 3 = i := by rw [z_nc _ _ _ _ _ _ (by decide)]; exact h33
    generalize z_i m 4 2 (d - 1 : Nat) = m1 at y1 y2 e33
    rw [y1.1]
    dsimp only
    rw [if_pos hb, e33]
    have h6 : m1.1 b 6 = ((i + 1 : Nat) : Int) := y1.2.2.2.2.2.2.2.2.1
    have ej : zF104 n b (S 0 (d - 1)) i m1 = some ((), z_i (z_i m1 (b + 2) (S 0 (d - 1)).toNat i) (b + 2) i (S 0 (d - 1))) := by
      unfold zF104 zJ104_24 zJ104_38
      rw [h6, if_neg (by omega), if_neg (by omega), if_neg (by omega), if_neg (by omega), if_neg (by omega), zlet, if_neg (by omega), zlet, Int.toNat_natCast]
    rw [ej]
    dsimp only
    obtain ⟨u1, u2⟩ := CQ_set hb 2 (S 0 (d - 1)).toNat i (by omega) y1
    obtain ⟨v1, v2⟩ := CQ_set hb 2 i (S 0 (d - 1)) (by omega) u1
    have k2 : kp (wl (wrd b)) m (z_i (z_i m1 (b + 2) (S 0 (d - 1)).toNat i) (b + 2) i (S 0 (d - 1))) := kp_tr y2 (kp_tr u2 v2)
    have e33' : (z_i (z_i m1 (b + 2) (S 0 (d - 1)).toNat i) (b + 2) i (S 0 (d - 1))).1 3 3 = i := by rw [z_nc _ _ _ _ _ _ (by omega), z_nc _ _ _ _ _ _ (by omega)]; exact e33
    have hY2 : ∀ p : Nat, p < i + 1 → -1 ≤ r_set (r_set Y 2 (S 0 (d - 1)).toNat i) 2 i (S 0 (d - 1)) 3 p ∧ r_set (r_set Y 2 (S 0 (d - 1)).toNat i) 2 i (S 0 (d - 1)) 3 p ≤ i := by
      intro p hp
      have := hY p hp
      simp [r_set]
      exact this
    have hp2 : r_set (r_set Y 2 (S 0 (d - 1)).toNat i) 2 i (S 0 (d - 1)) 2 i = S 0 (d - 1) := by simp [r_set]
    generalize hYY : r_set (r_set Y 2 (S 0 (d - 1)).toNat i) 2 i (S 0 (d - 1)) = Y2 at v1 hY2 hp2
    generalize z_i (z_i m1 (b + 2) (S 0 (d - 1)).toNat i) (b + 2) i (S 0 (d - 1)) = m2 at v1 k2 e33'
    unfold zJ132_28 zF161 zJ161_12
    have h42 : m2.1 4 2 = ((d - 1 : Nat) : Int) := v1.2.2.2.2.2.2.1
    by_cases q2 : d = 1
    · rw [h42, if_pos (by omega), if_pos (by decide), if_pos q2]
      dsimp only
      unfold zJ132_52
      rw [if_neg (by decide), show m2.1 3 4 = pb pat from v1.2.2.1, zF129_eq n 1 3 m2 (Or.inr rfl), zF129_eq n 1 2 m2 (Or.inr rfl)]
      cases pat with
      | true =>
        rw [if_neg (by decide), if_pos rfl]
        exact ⟨_, rfl, CQ_ph hb 2 v1, kp_tr k2 (kp_32 m2 2)⟩
      | false =>
        rw [if_pos (by decide), if_neg (by decide)]
        exact ⟨_, rfl, CQ_ph hb 3 v1, kp_tr k2 (kp_32 m2 3)⟩
    · rw [h42, if_neg (by omega), if_pos (by decide), if_neg q2]
      dsimp only
      rw [if_pos rfl, v1.1]
      dsimp only
      rw [if_pos hb, e33', rpe_eq n v1 hi (by rw [hp2]; omega)]
      dsimp only
      rw [zlet]
      have w1 := CQ_fl hb 7 (c_rpe Y2 i) (Or.inr (Or.inr (Or.inr rfl))) v1 pat rp inn (c_rpe Y2 i) (by simp) (by simp) (by simp) (by simp)
      have kw : kp (wl (wrd b)) m (z_i m2 3 7 (c_rpe Y2 i)) := kp_tr k2 (kp_3 m2 7 _ (Or.inr (Or.inr (Or.inr rfl))))
      generalize z_i m2 3 7 (c_rpe Y2 i) = m3 at w1 kw
      unfold zJ132_71 zJ132_94 zJ132_100
      rw [show m3.1 3 7 = c_rpe Y2 i from w1.2.2.2.2.2.1]
      by_cases q3 : c_rpe Y2 i = -1
      · rw [if_pos q3, if_pos q3]
        rw [q3] at w1
        exact ⟨m3, rfl, w1, kw⟩
      · rw [if_neg q3, if_neg q3, w1.1]
        dsimp only
        have hcl : 0 ≤ c_rpe Y2 i ∧ c_rpe Y2 i < i := by
          unfold c_rpe at q3 ⊢
          split at q3
          · rename_i z
            rw [if_pos z]
            rw [hp2] at z ⊢
            omega
          · exact absurd rfl q3
        have h63 : m3.1 b 6 = ((i + 1 : Nat) : Int) := w1.2.2.2.2.2.2.2.2.1
        rw [if_pos hb, zF121_eq n b _ m3 (by rw [h63]; omega), if_pos (by rw [h63]; omega)]
        dsimp only
        have hy3 := w1.2.2.2.2.2.2.2.2.2.1 (c_rpe Y2 i).toNat (by omega)
        dsimp only at hy3
        rw [hy3.2.2.1, zlet, zlet]
        have z1 := CQ_fl hb 6 (Y2 3 (c_rpe Y2 i).toNat) (Or.inr (Or.inr (Or.inl rfl))) w1 pat rp (Y2 3 (c_rpe Y2 i).toNat) (c_rpe Y2 i) (by simp) (by simp) (by simp) (by simp)
        exact ⟨_, rfl, CQ_ph hb 8 z1, kp_tr kw (kp_tr (kp_3 m3 6 _ (Or.inr (Or.inr (Or.inl rfl)))) (kp_32 _ 8))⟩
  · rw [if_neg q1, if_neg q1]
    exact ⟨m, rfl, kp_refl _ m⟩
end CC2
