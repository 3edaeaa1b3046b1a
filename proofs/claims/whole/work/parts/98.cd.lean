/-! accepts, whole; the class's run over the tokens. -/
section CD
variable {b i : Nat} {ph rp inn cl : Int} {pat : Bool} {d a : Nat} {S Y : Nat → Nat → Int} {P : Nat → Int} {m : ZM}
theorem dep_eq (n : Nat) (h : CQ b (i + 1) (ph, pat, rp, inn, cl, d, S, Y, a, P) m) (hi : i < 120) (h0 : 0 < i) (hY : ∀ p : Nat, p < i + 1 → -1 ≤ Y 3 p ∧ Y 3 p ≤ i) : zF122 n b ((i : Int) - 1) m = some (c_dep Y (i - 1), m) := by
  have h6 : m.1 b 6 = ((i + 1 : Nat) : Int) := h.2.2.2.2.2.2.2.2.1
  have hy := h.2.2.2.2.2.2.2.2.2.1 (i - 1) (by omega)
  dsimp only at hy
  have hb1 := hY (i - 1) (by omega)
  unfold zF122 zJ122_24 zJ122_28 zJ122_29 c_dep
  rw [zF121_eq n b _ m (by rw [h6]; omega), if_pos (by rw [h6]; omega), show Int.toNat ((i : Int) - 1) = i - 1 by omega, hy.2.2.1]
  dsimp only
  by_cases q : Y 3 (i - 1) = -1
  · rw [if_pos q, if_pos q]
  · have hy2 := h.2.2.2.2.2.2.2.2.2.1 (Y 3 (i - 1)).toNat (by omega)
    dsimp only at hy2
    rw [if_neg q, if_neg q, zF121_eq n b _ m (by rw [h6]; omega), if_pos (by rw [h6]; omega), hy2.2.2.1]
    dsimp only
    by_cases q2 : Y 3 (Y 3 (i - 1)).toNat = -1
    · rw [if_pos q2, if_pos q2]
    · rw [if_neg q2, if_neg q2]
theorem ph_5 (hb : isD b) (n : Nat) (c : Int) (h : CQ b (i + 1) (ph, pat, rp, inn, cl, d, S, Y, a, P) m) (h33 : m.1 3 3 = i) (hi : i < 120) (h0 : 0 < i) (hr : 0 ≤ rp ∧ rp ≤ 4) (hY : ∀ p : Nat, p < i + 1 → -1 ≤ Y 3 p ∧ Y 3 p ≤ i) :
    AO b i m (zJ128_157 n c m) (if wd c then some ((if pat = true then 6 else 4), pat, rp, inn, cl, d, S, Y, a, P)
      else if c = 40 ∧ c_dep Y (i - 1) ≤ 1 ∧ d < 10 then
        (if pat = true then (if rp + 1 ≤ 4 then some (4, pat, rp + 1, (i : Int) - 1, cl, d + 1, c_psh S d i c, r_set Y 5 (i - 1) rp, a, P) else none)
        else some (4, pat, rp, (i : Int) - 1, cl, d + 1, c_psh S d i c, Y, a, P))
      else none) := by
  have hge := isD_ge hb
  unfold zJ128_157 zF133 zJ133_22 zJ133_66
  rw [zF11_eq]
  dsimp only
  rw [ib]
  by_cases q : wd c
  · rw [if_pos q, if_pos q, show m.1 3 4 = pb pat from h.2.2.1, zF129_eq n 1 4 m (Or.inr rfl), zF129_eq n 1 6 m (Or.inr rfl)]
    cases pat with
    | true =>
      rw [if_neg (by decide), if_pos rfl]
      exact ⟨_, rfl, CQ_ph hb 6 h, kp_32 m 6⟩
    | false =>
      rw [if_pos (by decide), if_neg (by decide)]
      exact ⟨_, rfl, CQ_ph hb 4 h, kp_32 m 4⟩
  · rw [if_neg q, if_neg q]
    by_cases q1 : c = 40
    · rw [if_pos q1, h.1]
      dsimp only
      rw [if_pos hb, h33, if_pos (by omega), dep_eq n h hi h0 hY]
      dsimp only
      by_cases q2 : c_dep Y (i - 1) ≤ 1
      · rw [if_neg (by omega)]
        unfold zJ133_51
        rw [h33]
        by_cases q3 : d < 10
        · obtain ⟨m1, x1, x2, x3, x4⟩ := CQ_psh hb n i c h q3
          rw [x1, if_pos ⟨q1, q2, q3⟩]
          dsimp only
          rw [if_neg (by decide), show m1.1 3 4 = pb pat from x2.2.2.1]
          unfold zJ133_97 zJ133_116
          cases pat with
          | true =>
            rw [if_neg (by decide), if_pos rfl]
            unfold zJ133_75
            rw [x2.1]
            dsimp only
            have h6 : m1.1 b 6 = ((i + 1 : Nat) : Int) := x2.2.2.2.2.2.2.2.2.1
            have e5 : m1.1 3 5 = rp := x2.2.2.2.1
            have ej : zF106 n b ((i : Int) - 1) rp m1 = some ((), z_i m1 (b + 5) (i - 1) rp) := by
              unfold zF106 zJ106_19
              rw [h6, if_neg (by omega), if_neg (by omega), if_neg (by omega), zlet, show Int.toNat ((i : Int) - 1) = i - 1 by omega]
            rw [if_pos hb, e5, ej]
            dsimp only
            obtain ⟨u1, u2⟩ := CQ_set hb 5 (i - 1) rp (by omega) x2
            have e5' : (z_i m1 (b + 5) (i - 1) rp).1 3 5 = rp := u1.2.2.2.1
            rw [e5', if_pos (by omega), zlet]
            have w1 := CQ_fl hb 5 (rp + 1) (Or.inr (Or.inl rfl)) u1 true (rp + 1) inn cl (by simp) (by simp) (by simp) (by simp)
            have k1 : kp (wl (wrd b)) m (z_i (z_i m1 (b + 5) (i - 1) rp) 3 5 (rp + 1)) := kp_tr x4 (kp_tr u2 (kp_3 _ 5 _ (Or.inr (Or.inl rfl))))
            generalize z_i (z_i m1 (b + 5) (i - 1) rp) 3 5 (rp + 1) = m2 at w1 k1
            unfold zJ133_97 zJ133_116
            rw [zlet]
            have z1 := CQ_fl hb 6 ((i : Int) - 1) (Or.inr (Or.inr (Or.inl rfl))) w1 true (rp + 1) ((i : Int) - 1) cl (by simp) (by simp) (by simp) (by simp)
            have k2 : kp (wl (wrd b)) m (z_i m2 3 6 ((i : Int) - 1)) := kp_tr k1 (kp_3 _ 6 _ (Or.inr (Or.inr (Or.inl rfl))))
            generalize z_i m2 3 6 ((i : Int) - 1) = m3 at z1 k2
            rw [show m3.1 3 5 = rp + 1 from z1.2.2.2.1, zF129_eq n 0 4 m3 (Or.inl rfl), zF129_eq n 1 4 m3 (Or.inr rfl)]
            by_cases q4 : rp + 1 ≤ 4
            · rw [if_neg (by omega), if_pos q4]
              exact ⟨_, rfl, CQ_ph hb 4 z1, kp_tr k2 (kp_32 m3 4)⟩
            · rw [if_pos (by omega), if_neg q4]
              exact ⟨_, rfl, kp_tr k2 (kp_32 m3 4)⟩
          | false =>
            rw [if_pos (by decide), if_neg (by decide), zlet]
            have z1 := CQ_fl hb 6 ((i : Int) - 1) (Or.inr (Or.inr (Or.inl rfl))) x2 false rp ((i : Int) - 1) cl (by simp) (by simp) (by simp) (by simp)
            have k2 : kp (wl (wrd b)) m (z_i m1 3 6 ((i : Int) - 1)) := kp_tr x4 (kp_3 _ 6 _ (Or.inr (Or.inr (Or.inl rfl))))
            generalize z_i m1 3 6 ((i : Int) - 1) = m3 at z1 k2
            rw [show m3.1 3 5 = rp from z1.2.2.2.1, zF129_eq n 0 4 m3 (Or.inl rfl), zF129_eq n 1 4 m3 (Or.inr rfl), if_neg (by omega)]
            exact ⟨_, rfl, CQ_ph hb 4 z1, kp_tr k2 (kp_32 m3 4)⟩
        · rw [psh_no n i c h q3, if_neg (fun z => q3 z.2.2)]
          exact ⟨m, rfl, kp_refl _ m⟩
      · rw [if_pos (by omega), if_neg (fun z => q2 z.2.1)]
        exact ⟨m, rfl, kp_refl _ m⟩
    · rw [if_neg q1, if_neg (fun z => q1 z.1)]
      exact ⟨m, rfl, kp_refl _ m⟩
theorem ph_4 (hb : isD b) (n : Nat) (c : Int) (h : CQ b (i + 1) (4, pat, rp, inn, cl, d, S, Y, a, P) m) (h33 : m.1 3 3 = i) (hi : i < 120) (hd10 : d ≤ 10) (hS : ∀ k : Nat, k < d → 0 ≤ S 0 k ∧ S 0 k < i) (hY : ∀ p : Nat, p < i + 1 → -1 ≤ Y 3 p ∧ Y 3 p ≤ i) :
    AO b i m (zJ128_235 n c m) (if c = 36 then some (5, pat, rp, inn, cl, d, S, Y, a, P)
      else if opn c then (if d < 10 then some (4, pat, rp, inn, cl, d + 1, c_psh S d i c, Y, a, P) else none)
      else if cls c then
        (if d = 0 then none else if S 1 (d - 1) = c then
          (if d = 1 then some ((if pat = true then 2 else 3), pat, rp, inn, cl, d - 1, S, r_set (r_set Y 2 (S 0 (d - 1)).toNat i) 2 i (S 0 (d - 1)), a, P)
          else if c_rpe (r_set (r_set Y 2 (S 0 (d - 1)).toNat i) 2 i (S 0 (d - 1))) i = -1 then some (4, pat, rp, inn, -1, d - 1, S, r_set (r_set Y 2 (S 0 (d - 1)).toNat i) 2 i (S 0 (d - 1)), a, P)
          else some (8, pat, rp, r_set (r_set Y 2 (S 0 (d - 1)).toNat i) 2 i (S 0 (d - 1)) 3 (c_rpe (r_set (r_set Y 2 (S 0 (d - 1)).toNat i) 2 i (S 0 (d - 1))) i).toNat, c_rpe (r_set (r_set Y 2 (S 0 (d - 1)).toNat i) 2 i (S 0 (d - 1))) i, d - 1, S, r_set (r_set Y 2 (S 0 (d - 1)).toNat i) 2 i (S 0 (d - 1)), a, P))
        else none)
      else some (4, pat, rp, inn, cl, d, S, Y, a, P)) := by
  unfold zJ128_235 zF131
  by_cases q : c = 36
  · rw [if_pos q, if_pos q, zF129_eq n 1 5 m (Or.inr rfl)]
    exact ⟨_, rfl, CQ_ph hb 5 h, kp_32 m 5⟩
  rw [if_neg q, if_neg q, zF13_eq]
  dsimp only
  rw [ib]
  by_cases q1 : opn c
  · rw [if_pos q1, if_pos q1, h33]
    by_cases q2 : d < 10
    · obtain ⟨m1, x1, x2, x3, x4⟩ := CQ_psh hb n i c h q2
      rw [x1, if_pos q2]
      exact ⟨m1, rfl, x2, x4⟩
    · rw [psh_no n i c h q2, if_neg q2]
      exact ⟨m, rfl, kp_refl _ m⟩
  rw [if_neg q1, if_neg q1, zF14_eq]
  dsimp only
  rw [ib]
  by_cases q2 : cls c
  · rw [if_pos q2, if_pos q2]
    have hc := cls_eq hb n c h h33 hi hd10 hS hY
    unfold zJ131_40
    generalize (if d = 0 then (none : Option CS) else if S 1 (d - 1) = c then
          (if d = 1 then some ((if pat = true then 2 else 3), pat, rp, inn, cl, d - 1, S, r_set (r_set Y 2 (S 0 (d - 1)).toNat i) 2 i (S 0 (d - 1)), a, P)
          else if c_rpe (r_set (r_set Y 2 (S 0 (d - 1)).toNat i) 2 i (S 0 (d - 1))) i = -1 then some (4, pat, rp, inn, -1, d - 1, S, r_set (r_set Y 2 (S 0 (d - 1)).toNat i) 2 i (S 0 (d - 1)), a, P)
          else some (8, pat, rp, r_set (r_set Y 2 (S 0 (d - 1)).toNat i) 2 i (S 0 (d - 1)) 3 (c_rpe (r_set (r_set Y 2 (S 0 (d - 1)).toNat i) 2 i (S 0 (d - 1))) i).toNat, c_rpe (r_set (r_set Y 2 (S 0 (d - 1)).toNat i) 2 i (S 0 (d - 1))) i, d - 1, S, r_set (r_set Y 2 (S 0 (d - 1)).toNat i) 2 i (S 0 (d - 1)), a, P))
        else none) = o at hc ⊢
    cases o with
    | none =>
      obtain ⟨m', x1, x2⟩ := hc
      rw [x1]
      exact ⟨m', rfl, x2⟩
    | some s' =>
      obtain ⟨m', x1, x2, x3⟩ := hc
      rw [x1]
      exact ⟨m', rfl, x2, x3⟩
  · rw [if_neg q2, if_neg q2]
    exact ⟨m, rfl, h, kp_refl _ m⟩
end CD
theorem AO_kp {b i : Nat} {m m1 : ZM} {E : Option (Int × ZM)} {o : Option CS} (h : AO b i m1 E o) (g : kp (wl (wrd b)) m m1) : AO b i m E o := by
  cases o with
  | none => obtain ⟨m', x1, x2⟩ := h; exact ⟨m', x1, kp_tr g x2⟩
  | some s' => obtain ⟨m', x1, x2, x3⟩ := h; exact ⟨m', x1, x2, kp_tr g x3⟩
theorem ac_st (n b i : Nat) (hb : isD b) (c : Int) (s : CS) (m : ZM) (h : CQ b i s m) (hw : WS i s) (hi : i < 120) : AO b i m (zF128 n c i m) (cst c i s) := by
  obtain ⟨m1, e1, e2, e3, e4⟩ := ac_app n b i hb c s m h hi
  obtain ⟨ph, pat, rp, inn, cl, d, S, Y, a, P⟩ := s
  obtain ⟨w1, w2, w3, w5, w6, w9, w10, w11, w12, w13, w14, w15, w16⟩ := hw
  dsimp only at w1 w2 w3 w5 w6 w9 w10 w11 w12 w13 w14 w15 w16 e2
  rw [e1]
  refine AO_kp ?_ e4
  have hY : ∀ p : Nat, p < i + 1 → -1 ≤ c_app Y i c inn 3 p ∧ c_app Y i c inn 3 p ≤ i := by
    intro p hp
    unfold c_app
    by_cases q : p = i
    · rw [if_pos q]; simp; omega
    · rw [if_neg q]; have := w11 p (by omega); omega
  unfold zJ128_17
  rw [show m1.1 3 2 = ph from e2.2.1]
  unfold cst
  dsimp only
  rw [if_neg (by omega)]
  by_cases c0 : ph = 0
  · rw [if_pos c0, if_pos c0]; exact ph_0 hb n c e2
  rw [if_neg c0, if_neg c0]
  by_cases c1 : ph = 1
  · rw [if_pos c1, if_pos c1]; exact ph_1 hb n c e2 e3 (w13 c1)
  rw [if_neg c1, if_neg c1]
  by_cases c2 : ph = 2
  · rw [if_pos c2, if_pos c2]; exact ph_2 hb n c e2 e3
  rw [if_neg c2, if_neg c2]
  by_cases c3 : ph = 3
  · rw [if_pos c3, if_pos c3]; exact ph_3 hb n c e2
  rw [if_neg c3, if_neg c3]
  by_cases c4 : ph = 4
  · rw [if_pos c4, if_pos c4]
    subst c4
    exact ph_4 hb n c e2 e3 hi w9 w10 hY
  rw [if_neg c4, if_neg c4]
  by_cases c5 : ph = 5
  · rw [if_pos c5, if_pos c5]; exact ph_5 hb n c e2 e3 hi (w14 c5) (w3 (by omega)) hY
  rw [if_neg c5, if_neg c5]
  by_cases c6 : ph = 6
  · rw [if_pos c6, if_pos c6]; exact ph_6 hb n c e2
  rw [if_neg c6, if_neg c6]
  by_cases c7 : ph = 7
  · rw [if_pos c7, if_pos c7]; exact ph_7 hb n c e2
  rw [if_neg c7, if_neg c7]
  by_cases c8 : ph = 8
  · rw [if_pos c8, if_pos c8]; exact ph_8 hb n c e2 e3 hi (w15 (Or.inl c8))
  rw [if_neg c8, if_neg c8, if_pos (by omega)]
  exact ph_9 hb n c e2 e3 hi (w15 (Or.inr (by omega)))
