/-! Repetitions: what the class knows of them; the chain of those that may match nothing. -/
/-- the place of a repetition's mark -/
def mkp (A : Nat → Nat → Int) (t : Nat) : Nat := if A 3 t = 0 then pl A t + 1 else pl A t + 2
section
variable {C : Nat → Int} {Y A : Nat → Nat → Int} {N i0 z : Nat} {m : ZM} {n b sz a u : Nat} {P : Nat → Nat}
theorem x_mkp (h : RX true C Y A N i0 z) (e t : Nat) (he : e < N) (h4 : A 0 e = 4) (ht : A 2 e = t) : t < N ∧ e < t ∧ Y 4 (pl A e) = mkp A t ∧ mkp A t + 1 = pl A (t + 1) ∧ mkp A t < z ∧ (C (mkp A t) = 42 ∨ C (mkp A t) = 43 ∨ C (mkp A t) = 63) ∧ A 4 e = r_mk (C (mkp A t)) ∧ A 4 e = A 4 t ∧ A 3 e = A 3 t ∧ A 0 t = 5 ∧ A 2 t = e ∧ 0 ≤ A 3 t ∧ (A 3 t ≠ 0 → A 4 t ≠ 3) := by
  obtain ⟨t', h1, h2, h3, h5, h6, h7, h8, h9, h10, h11, h12, h13, h14⟩ := x_beg h e he h4
  have : t' = t := by omega
  subst this
  have hx := (x_e h t' h3).2.2.2.2.2.2.2.2.2.2 h5
  obtain ⟨_, _, _, _, _, _, hx⟩ := hx
  have xn := x_nx h t' h3
  have hl : lnf A t' = if A 3 t' = 0 then 2 else 3 := by
    unfold lnf
    rw [if_neg (by omega), if_neg (by omega), if_pos h5]
  have xz := (x_pl h (t' + 1) (by omega)).2.2.1
  have h12' := h12 rfl
  unfold mkp
  have hp : (A 7 t').toNat = pl A t' := rfl
  rw [hp] at hx
  rcases hx with ⟨k1, k2, k3⟩ | ⟨k1, k2, k3, k4, k5, k6, k7⟩
  · rw [if_pos k1] at h11 hl
    rw [if_pos k1]
    refine ⟨h3, h2, by omega, by omega, by omega, k2, by rw [h12'.2]; exact k3, h12'.2, h12'.1, h5, h6, by omega, fun c => absurd k1 c⟩
  · have k0 : A 3 t' ≠ 0 := by omega
    rw [if_neg k0] at h11 hl
    rw [if_neg k0]
    refine ⟨h3, h2, by omega, by omega, by omega, by omega, by rw [h12'.2]; exact k7, h12'.2, h12'.1, h5, h6, by omega, fun _ c => ?_⟩
    rw [k7] at c
    unfold r_mk at c
    rcases k6 with k6 | k6
    · rw [if_pos k6] at c; omega
    · rw [k6] at c; exact absurd c (by decide)
theorem y_mk (hD : DM b sz a C Y P m) (h : RX true C Y A N i0 z) (hz : z < sz) (e : Nat) (he : e < N) (h4 : A 0 e = 4) : ∃ c, zF118 n b (pl A e) m = some (c, m) ∧ (c = 43 ↔ A 4 e = 2) ∧ (c = 63 ↔ A 4 e = 3) := by
  obtain ⟨t, ht, _⟩ := x_beg h e he h4
  obtain ⟨k1, k2, k3, k4, k5, k6, k7, k8⟩ := x_mkp h e t he h4 ht
  have xp := x_pl h e (by omega)
  refine ⟨_, d_mk hD (pl A e) (by omega), ?_⟩
  rw [k3, if_pos (by omega), Int.toNat_natCast, k7]
  unfold r_mk
  rcases k6 with c | c | c <;> rw [c] <;> decide
theorem y_bh (hD : DM b sz a C Y P m) (h : RX true C Y A N i0 z) (hz : z < sz) (e t : Nat) (he : e < N) (h4 : A 0 e = 4) (ht : A 2 e = t) : zF119 n b (pl A e) m = some ((pl A (t + 1) : Int), m) := by
  obtain ⟨k1, k2, k3, k4, k5, k6, k7, k8⟩ := x_mkp h e t he h4 ht
  have xp := x_pl h e (by omega)
  rw [d_bh hD (pl A e) (by omega), k3, if_pos (by omega)]
  congr 2
  omega
theorem y_sp (hD : DM b sz a C Y P m) (h : RX true C Y A N i0 z) (hz : z < sz) (e t : Nat) (he : e < N) (h4 : A 0 e = 4) (ht : A 2 e = t) : zF120 n b (pl A e) m = some (if A 3 t = 0 then -1 else (pl A t : Int) + 1, m) := by
  obtain ⟨k1, k2, k3, k4, k5, k6, k7, k8⟩ := x_mkp h e t he h4 ht
  obtain ⟨t', h1, h2, h3, h5, h6, h7, h8, h9, h10, _⟩ := x_beg h e he h4
  have : t' = t := by omega
  subst this
  have xp := x_pl h e (by omega)
  have := xp.2.2.2 he
  have := lnf_pos A e
  rw [d_sp hD (pl A e) (by omega), k3, h10]
  unfold mkp
  by_cases q : A 3 t' = 0
  · rw [if_pos q, if_neg (by omega), if_pos q]
  · rw [if_neg q, if_pos (by omega), if_neg q]
theorem y_oo (hD : DM b sz a C Y P m) (h : RX true C Y A N i0 z) (hz : z < sz) (e : Nat) (he : e < N) (h4 : A 0 e = 4) : zF123 n b (pl A e) m = some (if A 5 e < 0 then ordf A e else -1, m) := by
  obtain ⟨t', h1, h2, h3, h5, h6, h7, h8, h9, h10, h11, h12, h13, h14⟩ := x_beg h e he h4
  have xp := x_pl h e (by omega)
  have xe := x_e h e he
  rw [d_oo hD (pl A e) (by omega), h13, h14 rfl]
  unfold innf
  rw [if_neg (show ¬ (0 : Int) ≤ -1 by decide)]
  by_cases q : A 5 e < 0
  · rw [if_neg (show ¬ 0 ≤ A 5 e by omega), if_pos rfl, if_pos q]
  · have xq := x_pl h (A 5 e).toNat (by have := xe.2.2.1; omega)
    rw [if_pos (show 0 ≤ A 5 e by omega), if_neg (by omega), if_neg q]
/-- a repetition in a repetition ends before it -/
theorem x_nest (h : RX true C Y A N i0 z) (e k t : Nat) (he : e < N) (h4 : A 0 e = 4) (ht : A 2 e = t) (h1 : e < k) (h2 : k < t) (k4 : A 0 k = 4) : A 2 k < t ∧ A 5 e = -1 ∧ A 5 k = e := by
  obtain ⟨t0, g1, g2, g3, g4, g5, _⟩ := x_beg h e he h4
  have : t0 = t := by omega
  subst this
  obtain ⟨t1, f1, f2, f3, f4, f5, f6, _⟩ := x_beg h k (by omega) k4
  have hni := h.1
  by_cases q : A 5 e = -1
  · have a1 := hni.n3 k e (by omega) h1 h4 q (by omega)
    have a2 := hni.n1 t1 e (by omega) (by rw [f6]; exact a1)
    omega
  · have r5 := hni.r5 e (by omega)
    have a1 := hni.n4 k e (by omega) h1 h4 (by omega) (by omega)
    have a2 := hni.b6 k (by omega) k4
    omega
/-- the next repetition may be passed -/
abbrev psb (A : Nat → Nat → Int) (k : Nat) : Prop := A 0 k = 4 ∧ A 4 k ≠ 2
def skc (A : Nat → Nat → Int) : Nat → Nat → Nat
  | 0, k => k
  | f + 1, k => if psb A k then skc A f (A 2 k + 1).toNat else k
def ce (A : Nat → Nat → Int) (k : Nat) : Nat := skc A 200 k
theorem skc_sat (h : RX true C Y A N i0 z) : ∀ f k : Nat, k ≤ N → N + 1 ≤ k + f → skc A (f + 1) k = skc A f k := by
  intro f
  induction f with
  | zero => intro k h1 h2; omega
  | succ f ih =>
    intro k h1 h2
    rw [show skc A (f + 1 + 1) k = if psb A k then skc A (f + 1) (A 2 k + 1).toNat else k from rfl, show skc A (f + 1) k = if psb A k then skc A f (A 2 k + 1).toNat else k from rfl]
    by_cases q : psb A k
    · rw [if_pos q, if_pos q]
      have hk : k < N := by
        by_cases c : k = N
        · rw [c] at q
          have := h.2.2.2.1
          exact absurd q.1 (by omega)
        · omega
      obtain ⟨t, g1, g2, g3, _⟩ := x_beg h k hk q.1
      exact ih _ (by omega) (by omega)
    · rw [if_neg q, if_neg q]
theorem ce_n {k : Nat} (q : ¬ psb A k) : ce A k = k := by
  unfold ce
  rw [skc, if_neg q]
theorem ce_s (h : RX true C Y A N i0 z) (k t : Nat) (hk : k < N) (q : psb A k) (ht : A 2 k = t) : ce A k = ce A (t + 1) := by
  obtain ⟨t', g1, g2, g3, _⟩ := x_beg h k hk q.1
  unfold ce
  rw [skc, if_pos q, ht, show ((t : Int) + 1).toNat = t + 1 by omega]
  have hN := x_N119 h
  exact (skc_sat h 199 (t + 1) (by omega) (by omega)).symm
/-- a repetition whose elements match nothing -/
def em (A : Nat → Nat → Int) (e : Nat) : Prop := A 0 e = 4 ∧ A 2 e = ce A (e + 1)
/-- the chain stays in a repetition -/
theorem ce_in (h : RX true C Y A N i0 z) (e t : Nat) (he : e < N) (h4 : A 0 e = 4) (ht : A 2 e = t) : ∀ f k : Nat, t ≤ k + f → e < k → k ≤ t → e < ce A k ∧ ce A k ≤ t := by
  intro f
  induction f with
  | zero =>
    intro k h1 h2 h3
    have : k = t := by omega
    subst this
    have h5 := (x_mkp h e k he h4 ht).2.2.2.2.2.2.2.2.2.1
    rw [ce_n (fun c => by have := c.1; omega)]
    omega
  | succ f ih =>
    intro k h1 h2 h3
    by_cases q : psb A k
    · have hkt : k ≠ t := fun c => by
        have h5 := (x_mkp h e t he h4 ht).2.2.2.2.2.2.2.2.2.1
        have := q.1
        rw [c] at this
        omega
      have hN := (x_mkp h e t he h4 ht).1
      obtain ⟨t1, g1, g2, g3, _⟩ := x_beg h k (by omega) q.1
      have := x_nest h e k t he h4 ht h2 (by omega) q.1
      rw [ce_s h k t1 (by omega) q g1]
      exact ih (t1 + 1) (by omega) (by omega) (by omega)
    · rw [ce_n q]
      omega
end
