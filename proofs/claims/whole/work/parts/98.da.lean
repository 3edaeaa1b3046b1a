/-! Loops that look for something; words that stand twice. -/
theorem lp_ex (L : Nat → Int → Option (Int × ZM)) (m : ZM) (s z : Nat) (Q : Nat → Prop) (he : ∀ k, L (k + 1) z = some (0, m)) (h1 : ∀ (k x : Nat), s ≤ x → x < z → Q x → L (k + 1) x = some (1, m)) (h0 : ∀ (k x : Nat), s ≤ x → x < z → ¬ Q x → L (k + 1) x = L k ((x + 1 : Nat) : Int)) :
    ∀ k x : Nat, z + 1 ≤ x + k → s ≤ x → x ≤ z → ∃ r, L k x = some (r, m) ∧ ((r = 1 ∧ ∃ q : Nat, x ≤ q ∧ q < z ∧ Q q) ∨ (r = 0 ∧ ∀ q : Nat, x ≤ q → q < z → ¬ Q q)) := by
  intro k
  induction k with
  | zero => intro x h; omega
  | succ k ih =>
    intro x h hs hx
    by_cases q : x = z
    · subst q
      exact ⟨0, he k, Or.inr ⟨rfl, fun q a b => by omega⟩⟩
    by_cases c : Q x
    · exact ⟨1, h1 k x hs (by omega) c, Or.inl ⟨rfl, x, by omega, by omega, c⟩⟩
    · rw [h0 k x hs (by omega) c]
      obtain ⟨r, e, g⟩ := ih (x + 1) (by omega) (by omega) (by omega)
      refine ⟨r, e, ?_⟩
      rcases g with ⟨g1, q1, a1, a2, a3⟩ | ⟨g1, g2⟩
      · exact Or.inl ⟨g1, q1, by omega, a2, a3⟩
      · refine Or.inr ⟨g1, fun q1 a1 a2 => ?_⟩
        by_cases d : q1 = x
        · subst d; exact c
        · exact g2 q1 (by omega) a2
theorem lp_acc (L : Nat → Int → Int → Option (Int × ZM)) (m : ZM) (t0 t1 : Int) (N : Nat) (Q : Nat → Prop) (he : ∀ k t, t = t0 ∨ t = t1 → L (k + 1) t N = some (t, m)) (h2 : ∀ (k x : Nat), x < N → L (k + 1) t1 x = L k t1 ((x + 1 : Nat) : Int)) (h1 : ∀ (k x : Nat), x < N → Q x → L (k + 1) t0 x = L k t1 ((x + 1 : Nat) : Int)) (h0 : ∀ (k x : Nat), x < N → ¬ Q x → L (k + 1) t0 x = L k t0 ((x + 1 : Nat) : Int)) :
    ∀ k x : Nat, N + 1 ≤ x + k → x ≤ N → L k t1 x = some (t1, m) ∧ ((L k t0 x = some (t1, m) ∧ ∃ q : Nat, x ≤ q ∧ q < N ∧ Q q) ∨ (L k t0 x = some (t0, m) ∧ ∀ q : Nat, x ≤ q → q < N → ¬ Q q)) := by
  intro k
  induction k with
  | zero => intro x h; omega
  | succ k ih =>
    intro x h hx
    by_cases q : x = N
    · subst q
      exact ⟨he k t1 (Or.inr rfl), Or.inr ⟨he k t0 (Or.inl rfl), fun q a b => by omega⟩⟩
    obtain ⟨i1, i2⟩ := ih (x + 1) (by omega) (by omega)
    refine ⟨by rw [h2 k x (by omega)]; exact i1, ?_⟩
    by_cases c : Q x
    · rw [h1 k x (by omega) c]
      exact Or.inl ⟨i1, x, by omega, by omega, c⟩
    · rw [h0 k x (by omega) c]
      rcases i2 with ⟨g1, q1, a1, a2, a3⟩ | ⟨g1, g2⟩
      · exact Or.inl ⟨g1, q1, by omega, a2, a3⟩
      · refine Or.inr ⟨g1, fun q1 a1 a2 => ?_⟩
        by_cases d : q1 = x
        · subst d; exact c
        · exact g2 q1 (by omega) a2
/-- the last fragment with a word, before element e -/
def lastF (A : Nat → Nat → Int) (w : Int) : Nat → Int
  | 0 => -1
  | e + 1 => if A 0 e = 3 ∧ A 1 e = w then (e : Int) else lastF A w e
theorem lastF_s (A : Nat → Nat → Int) (w : Int) : ∀ N : Nat, (lastF A w N = -1 ∧ ∀ e : Nat, e < N → ¬ (A 0 e = 3 ∧ A 1 e = w)) ∨ ∃ e : Nat, e < N ∧ lastF A w N = e ∧ A 0 e = 3 ∧ A 1 e = w ∧ ∀ e' : Nat, e < e' → e' < N → ¬ (A 0 e' = 3 ∧ A 1 e' = w) := by
  intro N
  induction N with
  | zero => exact Or.inl ⟨rfl, fun e he => by omega⟩
  | succ N ih =>
    rw [lastF]
    by_cases q : A 0 N = 3 ∧ A 1 N = w
    · rw [if_pos q]
      exact Or.inr ⟨N, by omega, rfl, q.1, q.2, fun e' a b => by omega⟩
    · rw [if_neg q]
      rcases ih with ⟨h1, h2⟩ | ⟨e, h1, h2, h3, h4, h5⟩
      · refine Or.inl ⟨h1, fun e he => ?_⟩
        by_cases d : e = N
        · subst d; exact q
        · exact h2 e (by omega)
      · refine Or.inr ⟨e, by omega, h2, h3, h4, fun e' a b => ?_⟩
        by_cases d : e' = N
        · subst d; exact q
        · exact h5 e' a (by omega)
/-- two fragments have one word -/
def tw (A : Nat → Nat → Int) (N : Nat) : Prop := ∃ e e' : Nat, e < e' ∧ e' < N ∧ A 0 e = 3 ∧ A 0 e' = 3 ∧ A 1 e = A 1 e'
section
variable {pat : Bool} {C : Nat → Int} {Y A : Nat → Nat → Int} {N i0 z : Nat}
theorem x_n (h : RX pat C Y A N i0 z) : ∀ e : Nat, e ≤ N → i0 + 1 + e ≤ pl A e := by
  intro e
  induction e with
  | zero => intro _; rw [x_0 h]; omega
  | succ e ih =>
    intro he
    have h1 := ih (by omega)
    have h2 := x_nx h e (by omega)
    have := lnf_pos A e
    omega
theorem x_N119 (h : RX pat C Y A N i0 z) : N < 119 := by
  have h1 := x_n h N (by omega)
  rw [x_N h] at h1
  have := h.2.2.2.2.2.2.2.1
  omega
theorem x_k6 (h : RX pat C Y A N i0 z) (e : Nat) (he : e < N) : A 0 e ≠ 6 := by
  have := (x_e h e he).2.2.2.2.2.1
  omega
end
section
variable {C : Nat → Int} {Y A : Nat → Nat → Int} {N i0 z : Nat} {m : ZM}
theorem m46 (n : Nat) (hn : 200 ≤ n) (h : RX true C Y A N i0 z) (hA : AX true m A (N + 1)) (w : Int) : zF46 n w m = some (lastF A w N, m) := by
  have hN := x_N119 h
  unfold zF46
  have key : ∀ k x : Nat, N + 1 ≤ x + k → x ≤ N → zL46_4 n k w (lastF A w x) x m = some (lastF A w N, m) := by
    intro k
    induction k with
    | zero => intro x h; omega
    | succ k ih =>
      intro x hk hx
      have ax := hA x (by omega)
      rw [if_pos rfl] at ax
      rw [zL46_4]
      unfold zJ46_25 zJ46_39 zJ46_40
      rw [if_neg (by omega), Int.toNat_natCast, ax.1]
      by_cases q : x = N
      · subst q
        rw [if_pos h.2.2.2.1]
      · rw [if_neg (x_k6 h x (by omega))]
        have h1 := ih (x + 1) (by omega) (by omega)
        rw [lastF] at h1
        by_cases q3 : A 0 x = 3
        · rw [if_pos q3, if_neg (by omega), ax.2.1]
          by_cases q4 : A 1 x = w
          · rw [if_pos ⟨q3, q4⟩] at h1
            rw [if_pos q4, if_pos (by omega)]
            exact h1
          · rw [if_neg (fun c => q4 c.2)] at h1
            rw [if_neg q4, if_pos (by omega)]
            exact h1
        · rw [if_neg (fun c => q3 c.1)] at h1
          rw [if_neg q3, if_pos (by omega)]
          exact h1
  exact key n 0 (by omega) (by omega)
theorem m47 (n : Nat) (hn : 200 ≤ n) (h : RX true C Y A N i0 z) (hA : AX true m A (N + 1)) : (zF47 n m = some (1, m) ∧ tw A N) ∨ (zF47 n m = some (0, m) ∧ ¬ tw A N) := by
  have hN := x_N119 h
  unfold zF47
  have e1 : ∀ k x : Nat, x < N → ∀ t : Int, zL47_4 n (k + 1) t x m = (if t = 0 then (if A 0 x = 3 then (if lastF A (A 1 x) N = x then zL47_4 n k 0 ((x + 1 : Nat) : Int) m else zL47_4 n k 1 ((x + 1 : Nat) : Int) m) else zL47_4 n k 0 ((x + 1 : Nat) : Int) m) else zL47_4 n k 1 ((x + 1 : Nat) : Int) m) := by
    intro k x hx t
    have ax := hA x (by omega)
    rw [if_pos rfl] at ax
    rw [zL47_4]
    unfold zJ47_29 zJ47_47 zJ47_43 zJ47_48
    rw [if_neg (by omega), Int.toNat_natCast, ax.1, if_neg (x_k6 h x hx)]
    rw [if_neg (show ¬ ((x : Int) < 0 ∨ 128 ≤ (x : Int)) by omega), ax.2.1, m46 n hn h hA]
    dsimp only
    rw [if_pos (show rg ((x : Int) + 1) by omega)]
    rw [if_pos (show rg ((x : Int) + 1) by omega)]
    rw [show ((x + 1 : Nat) : Int) = (x : Int) + 1 by omega]
  have hh := lp_acc (fun k t x => zL47_4 n k t x m) m 0 1 N (fun x => A 0 x = 3 ∧ lastF A (A 1 x) N ≠ x) (fun k t ht => by
      have ax := hA N (by omega)
      rw [if_pos rfl] at ax
      show zL47_4 n (k + 1) t N m = _
      rw [zL47_4, if_neg (by omega), Int.toNat_natCast, ax.1, if_pos h.2.2.2.1, if_pos ht]) (fun k x hx => by
      show zL47_4 n (k + 1) 1 x m = _
      rw [e1 k x hx 1, if_neg (by decide)]) (fun k x hx hq => by
      show zL47_4 n (k + 1) 0 x m = _
      rw [e1 k x hx 0, if_pos rfl, if_pos hq.1, if_neg hq.2]) (fun k x hx hq => by
      show zL47_4 n (k + 1) 0 x m = _
      rw [e1 k x hx 0, if_pos rfl]
      by_cases q3 : A 0 x = 3
      · by_cases q4 : lastF A (A 1 x) N = x
        · rw [if_pos q3, if_pos q4]
        · exact absurd ⟨q3, q4⟩ hq
      · rw [if_neg q3]) n 0 (by omega) (by omega)
  rcases hh.2 with ⟨g1, q, a1, a2, a3, a4⟩ | ⟨g1, g2⟩
  · refine Or.inl ⟨g1, ?_⟩
    rcases lastF_s A (A 1 q) N with ⟨b1, b2⟩ | ⟨e, b1, b2, b3, b4, b5⟩
    · exact absurd ⟨a3, rfl⟩ (b2 q a2)
    · rw [b2] at a4
      rcases Nat.lt_trichotomy q e with c | c | c
      · exact ⟨q, e, c, b1, a3, b3, b4.symm⟩
      · exact absurd (by rw [c]) a4
      · exact absurd ⟨a3, rfl⟩ (b5 q c a2)
  · refine Or.inr ⟨g1, ?_⟩
    rintro ⟨e, e', c1, c2, c3, c4, c5⟩
    apply g2 e (by omega) (by omega)
    refine ⟨c3, ?_⟩
    rcases lastF_s A (A 1 e) N with ⟨b1, b2⟩ | ⟨e2, b1, b2, b3, b4, b5⟩
    · rw [b1]; omega
    · rw [b2]
      intro c
      have : e2 = e := by omega
      subst this
      exact b5 e' c1 c2 ⟨c4, c5.symm⟩
end
