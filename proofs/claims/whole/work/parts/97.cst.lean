/-! The class's reader, token by token, as a pure automaton; its memory follows it. -/
/-- expected, in a pattern, repetitions, innermost, closed, depth, open brackets (place, closing), arrays (1 code, 2 partner, 3 around, 4 mark, 5 order), arms, their places -/
abbrev CS : Type := Int × Bool × Int × Int × Int × Nat × (Nat → Nat → Int) × (Nat → Nat → Int) × Nat × (Nat → Int)
def c_app (Y : Nat → Nat → Int) (i : Nat) (c inn : Int) : Nat → Nat → Int := fun j p => if p = i then (if j = 1 then c else if j = 3 then inn else -1) else Y j p
def c_psh (S : Nat → Nat → Int) (d : Nat) (p c : Int) : Nat → Nat → Int := fun a k => if k = d then (if a = 0 then p else clo c) else S a k
/-- the repetition that the closing bracket at i ends -/
def c_rpe (Y : Nat → Nat → Int) (i : Nat) : Int := if Y 1 i = 41 ∧ 1 ≤ Y 2 i ∧ Y 1 (Y 2 i - 1).toNat = 36 then Y 2 i - 1 else -1
def c_dep (Y : Nat → Nat → Int) (p : Nat) : Int := if Y 3 p = -1 then 0 else if Y 3 (Y 3 p).toNat = -1 then 1 else 2
def cst (c : Int) (i : Nat) (s : CS) : Option CS :=
  match s with
  | (ph, pat, rp, inn, cl, d, S, Y, a, P) =>
    let Y1 := c_app Y i c inn
    if ph = 0 then (if wd c then some (1, pat, rp, inn, cl, d, S, Y1, a, P) else none)
    else if ph = 1 then (if c = 40 ∧ d < 10 ∧ a < 3 then some (4, true, 0, inn, cl, d + 1, c_psh S d i c, Y1, a + 1, fun k => if k = a then (i : Int) else P k) else none)
    else if ph = 2 then (if c = 123 ∧ d < 10 then some (4, false, rp, inn, cl, d + 1, c_psh S d i c, Y1, a, P) else none)
    else if ph = 3 then (if c = 59 ∧ a < 3 then some (1, pat, rp, inn, cl, d, S, Y1, a, P) else none)
    else if ph = 4 then
      (if c = 36 then some (5, pat, rp, inn, cl, d, S, Y1, a, P)
      else if opn c then (if d < 10 then some (4, pat, rp, inn, cl, d + 1, c_psh S d i c, Y1, a, P) else none)
      else if cls c then
        (if d = 0 then none else if S 1 (d - 1) = c then
          (let Y2 := r_set (r_set Y1 2 (S 0 (d - 1)).toNat i) 2 i (S 0 (d - 1))
          if d = 1 then some ((if pat = true then 2 else 3), pat, rp, inn, cl, d - 1, S, Y2, a, P)
          else if c_rpe Y2 i = -1 then some (4, pat, rp, inn, -1, d - 1, S, Y2, a, P)
          else some (8, pat, rp, Y2 3 (c_rpe Y2 i).toNat, c_rpe Y2 i, d - 1, S, Y2, a, P))
        else none)
      else some (4, pat, rp, inn, cl, d, S, Y1, a, P))
    else if ph = 5 then
      (if wd c then some ((if pat = true then 6 else 4), pat, rp, inn, cl, d, S, Y1, a, P)
      else if c = 40 ∧ c_dep Y1 (i - 1) ≤ 1 ∧ d < 10 then
        (if pat = true then (if rp + 1 ≤ 4 then some (4, pat, rp + 1, (i : Int) - 1, cl, d + 1, c_psh S d i c, r_set Y1 5 (i - 1) rp, a, P) else none)
        else some (4, pat, rp, (i : Int) - 1, cl, d + 1, c_psh S d i c, Y1, a, P))
      else none)
    else if ph = 6 then (if c = 58 then some (7, pat, rp, inn, cl, d, S, Y1, a, P) else none)
    else if ph = 7 then (if knd c then some (4, pat, rp, inn, cl, d, S, Y1, a, P) else none)
    else if ph = 8 then
      (if c = 42 ∨ c = 43 ∨ c = 63 then some (4, pat, rp, inn, cl, d, S, r_set Y1 4 cl.toNat i, a, P)
      else if c ≠ 36 ∧ ¬ opn c ∧ ¬ cls c then some (9, pat, rp, inn, cl, d, S, Y1, a, P) else none)
    else (if c = 42 ∨ c = 43 then some (4, pat, rp, inn, cl, d, S, r_set Y1 4 cl.toNat i, a, P) else none)
/-- the arrays of definition b, up to n -/
def YR (b : Nat) (m : ZM) (Y : Nat → Nat → Int) (n : Nat) : Prop := ∀ p : Nat, p < n → m.1 (b + 1) p = Y 1 p ∧ m.1 (b + 2) p = Y 2 p ∧ m.1 (b + 3) p = Y 3 p ∧ m.1 (b + 4) p = Y 4 p ∧ m.1 (b + 5) p = Y 5 p
def CQ (b i : Nat) (s : CS) (m : ZM) : Prop :=
  m.2.1 3 1 = some b ∧ m.1 3 2 = s.1 ∧ m.1 3 4 = pb s.2.1 ∧ m.1 3 5 = s.2.2.1 ∧ m.1 3 6 = s.2.2.2.1 ∧ m.1 3 7 = s.2.2.2.2.1 ∧ m.1 4 2 = s.2.2.2.2.2.1 ∧
  (∀ k : Nat, k < s.2.2.2.2.2.1 → m.1 5 k = s.2.2.2.2.2.2.1 0 k ∧ m.1 6 k = s.2.2.2.2.2.2.1 1 k) ∧ m.1 b 6 = i ∧ YR b m s.2.2.2.2.2.2.2.1 i ∧ m.1 b 7 = s.2.2.2.2.2.2.2.2.1 ∧ ∀ k : Nat, k < s.2.2.2.2.2.2.2.2.1 → m.1 (b + 6) k = s.2.2.2.2.2.2.2.2.2 k
/-- what the automaton keeps -/
def WS (i : Nat) (s : CS) : Prop := 0 ≤ s.1 ∧ s.1 ≤ 9 ∧ (2 ≤ s.1 → 0 ≤ s.2.2.1 ∧ s.2.2.1 ≤ 4) ∧ -1 ≤ s.2.2.2.1 ∧ s.2.2.2.1 < i ∧ s.2.2.2.2.2.1 ≤ 10 ∧ (∀ k : Nat, k < s.2.2.2.2.2.1 → 0 ≤ s.2.2.2.2.2.2.1 0 k ∧ s.2.2.2.2.2.2.1 0 k < i) ∧ (∀ p : Nat, p < i → -1 ≤ s.2.2.2.2.2.2.2.1 3 p ∧ s.2.2.2.2.2.2.2.1 3 p < i) ∧ s.2.2.2.2.2.2.2.2.1 ≤ 3 ∧ (s.1 = 1 → s.2.2.2.2.2.2.2.2.1 < 3) ∧ (s.1 = 5 → 0 < i) ∧ (s.1 = 8 ∨ s.1 = 9 → 0 ≤ s.2.2.2.2.1 ∧ s.2.2.2.2.1 < i) ∧ (s.1 = 0 → s.2.2.2.2.2.2.2.2.1 = 0)
def wrd (b : Nat) : List (Nat × Nat) := [(3, 2), (3, 3), (3, 4), (3, 5), (3, 6), (3, 7), (4, 2), (5, 1000), (6, 1000), (b, 6), (b, 7), (b + 1, 1000), (b + 2, 1000), (b + 3, 1000), (b + 4, 1000), (b + 5, 1000), (b + 6, 1000)]
theorem isD_ge {b : Nat} (h : isD b) : 41 ≤ b := by
  rcases h with rfl | rfl | rfl | rfl | rfl | rfl <;> omega
/-- append -/
theorem app_eq (n b i : Nat) (c inn : Int) (m : ZM) (h : m.1 b 6 = i) (hi : i < 120) : zF102 n b c inn m = some ((), z_i (z_i (z_i (z_i (z_i (z_i m (b + 1) i c) (b + 2) i (-1)) (b + 3) i inn) (b + 4) i (-1)) (b + 5) i (-1)) b 6 (i + 1)) := by
  unfold zF102 zJ102_19 zJ102_39 zJ102_59 zJ102_69
  rw [h, if_neg (by omega), if_neg (by omega), zlet, Int.toNat_natCast]
  rw [z_nc m (b + 1) i c b 6 (by omega), h, if_neg (by omega), zlet, Int.toNat_natCast]
  rw [z_nc _ (b + 2) i _ b 6 (by omega), z_nc m (b + 1) i c b 6 (by omega), h, if_neg (by omega), zlet, Int.toNat_natCast]
  rw [z_nc _ (b + 3) i _ b 6 (by omega), z_nc _ (b + 2) i _ b 6 (by omega), z_nc m (b + 1) i c b 6 (by omega), h, if_neg (by omega), zlet, Int.toNat_natCast]
  rw [z_nc _ (b + 4) i _ b 6 (by omega), z_nc _ (b + 3) i _ b 6 (by omega), z_nc _ (b + 2) i _ b 6 (by omega), z_nc m (b + 1) i c b 6 (by omega), h, if_neg (by omega), zlet, Int.toNat_natCast]
  rw [z_nc _ (b + 5) i _ b 6 (by omega), z_nc _ (b + 4) i _ b 6 (by omega), z_nc _ (b + 3) i _ b 6 (by omega), z_nc _ (b + 2) i _ b 6 (by omega), z_nc m (b + 1) i c b 6 (by omega), h, if_pos (by omega), zlet]
/-- accepts: the token is appended, then looked at -/
theorem ac_app (n b i : Nat) (hb : isD b) (c : Int) (s : CS) (m : ZM) (h : CQ b i s m) (hi : i < 120) :
    ∃ m1, zF128 n c i m = zJ128_17 n c m1 ∧ CQ b (i + 1) (s.1, s.2.1, s.2.2.1, s.2.2.2.1, s.2.2.2.2.1, s.2.2.2.2.2.1, s.2.2.2.2.2.2.1, c_app s.2.2.2.2.2.2.2.1 i c s.2.2.2.1, s.2.2.2.2.2.2.2.2) m1 ∧ m1.1 3 3 = i ∧ kp (wl (wrd b)) m m1 := by
  have hge := isD_ge hb
  obtain ⟨h1, h2, h3, h4, h5, h6, h7, h8, h9, h10, h11, h12⟩ := h
  have e0 : (z_i m 3 3 (i : Int)).1 b 6 = i := by rw [z_nc _ _ _ _ _ _ (by omega)]; exact h9
  have e6 : (z_i m 3 3 (i : Int)).1 3 6 = s.2.2.2.1 := by rw [z_nk _ _ _ _ _ _ (by decide)]; exact h5
  have ea := app_eq n b i c s.2.2.2.1 (z_i m 3 3 (i : Int)) e0 hi
  have e : zF128 n c i m = zJ128_17 n c (z_i (z_i (z_i (z_i (z_i (z_i (z_i m 3 3 (i : Int)) (b + 1) i c) (b + 2) i (-1)) (b + 3) i s.2.2.2.1) (b + 4) i (-1)) (b + 5) i (-1)) b 6 (i + 1)) := by
    unfold zF128
    rw [zlet]
    have : (z_i m 3 3 (i : Int)).2.1 3 1 = some b := h1
    rw [this]
    dsimp only
    rw [if_pos hb, e6, ea]
  refine ⟨_, e, ?_, ?_, ?_⟩
  · have st : ∀ (x k : Nat), x < 41 → (x = 3 → k ≠ 3) → (z_i (z_i (z_i (z_i (z_i (z_i (z_i m 3 3 (i : Int)) (b + 1) i c) (b + 2) i (-1)) (b + 3) i s.2.2.2.1) (b + 4) i (-1)) (b + 5) i (-1)) b 6 (i + 1)).1 x k = m.1 x k := by
      intro x k hx hk
      rw [z_nc _ _ _ _ _ _ (by omega), z_nc _ _ _ _ _ _ (by omega), z_nc _ _ _ _ _ _ (by omega), z_nc _ _ _ _ _ _ (by omega), z_nc _ _ _ _ _ _ (by omega), z_nc _ _ _ _ _ _ (by omega), z_i_rd, if_neg (by omega)]
    refine ⟨h1, ?_, ?_, ?_, ?_, ?_, ?_, ?_, ?_, ?_, ?_, ?_⟩
    · rw [st 3 2 (by omega) (by omega)]; exact h2
    · rw [st 3 4 (by omega) (by omega)]; exact h3
    · rw [st 3 5 (by omega) (by omega)]; exact h4
    · rw [st 3 6 (by omega) (by omega)]; exact h5
    · rw [st 3 7 (by omega) (by omega)]; exact h6
    · rw [st 4 2 (by omega) (by omega)]; exact h7
    · intro k hk
      rw [st 5 k (by omega) (by omega), st 6 k (by omega) (by omega)]; exact h8 k hk
    · rw [z_eq, Int.natCast_add]; rfl
    · intro p hp
      have ny : ∀ j : Nat, 1 ≤ j → (z_i (z_i (z_i (z_i (z_i (z_i (z_i m 3 3 (i : Int)) (b + 1) i c) (b + 2) i (-1)) (b + 3) i s.2.2.2.1) (b + 4) i (-1)) (b + 5) i (-1)) b 6 (i + 1)).1 (b + j) p = if p = i then (if j = 1 then c else if j = 2 then -1 else if j = 3 then s.2.2.2.1 else if j = 4 then -1 else if j = 5 then -1 else m.1 (b + j) p) else m.1 (b + j) p := by
        intro j hj
        rw [z_nc _ b _ _ _ _ (by omega)]
        simp only [z_i_rd]
        by_cases q : p = i
        · subst q
          simp
          repeat' split
          all_goals first | rfl | omega
        · simp [q]
          intro z; omega
      have hold : p ≠ i → _ := fun q => h10 p (by omega)
      rw [ny 1 (by omega), ny 2 (by omega), ny 3 (by omega), ny 4 (by omega), ny 5 (by omega)]
      unfold c_app
      by_cases q : p = i
      · simp [q]
      · simp only [if_neg q]
        exact hold q
    · rw [z_nk _ b _ _ _ _ (by decide), z_nc _ _ _ _ _ _ (by omega), z_nc _ _ _ _ _ _ (by omega), z_nc _ _ _ _ _ _ (by omega), z_nc _ _ _ _ _ _ (by omega), z_nc _ _ _ _ _ _ (by omega), z_nc _ _ _ _ _ _ (by omega)]; exact h11
    · intro k hk
      rw [z_nc _ _ _ _ _ _ (by omega), z_nc _ _ _ _ _ _ (by omega), z_nc _ _ _ _ _ _ (by omega), z_nc _ _ _ _ _ _ (by omega), z_nc _ _ _ _ _ _ (by omega), z_nc _ _ _ _ _ _ (by omega), z_nc _ _ _ _ _ _ (by omega)]; exact h12 k hk
  · rw [z_nc _ _ _ _ _ _ (by omega), z_nc _ _ _ _ _ _ (by omega), z_nc _ _ _ _ _ _ (by omega), z_nc _ _ _ _ _ _ (by omega), z_nc _ _ _ _ _ _ (by omega), z_nc _ _ _ _ _ _ (by omega), z_eq]
  · refine kp_i (kp_ia (kp_ia (kp_ia (kp_ia (kp_ia (kp_i (kp_refl _ m) ?_) ?_) ?_) ?_) ?_) ?_) ?_ <;> simp [wrd]
