/-! A token is looked at: which threads fit, which step. -/
abbrev bg (k c : Int) : Prop := (k = 1 ∧ wd c) ∨ (k = 2 ∧ nmb c) ∨ (k = 3 ∧ ¬ cls c) ∨ (k = 4 ∧ (300 ≤ c ∨ c = 40))
abbrev fits (A : Nat → Nat → Int) (H : Nat → List (List (Nat × List Nat))) (c : Int) (e : Nat) : Prop := 0 < (H e).length ∧ A 0 e = 3 ∧ bg (A 4 e) c
abbrev goes (A : Nat → Nat → Int) (H : Nat → List (List (Nat × List Nat))) (c : Int) (e : Nat) : Prop := 0 < (H e).length ∧ bf A e = c
def ac (A : Nat → Nat → Int) (H : Nat → List (List (Nat × List Nat))) (c : Int) : Nat → Int × Int × Int
  | 0 => (0, 0, -1)
  | e + 1 => (if fits A H c e then (ac A H c e).1 + mn ((H e).length : Int) else (ac A H c e).1, if goes A H c e then (ac A H c e).2.1 + mn ((H e).length : Int) else (ac A H c e).2.1, if fits A H c e then (e : Int) else (ac A H c e).2.2)
theorem mn_p {a : Nat} (h : 0 < a) : 1 ≤ mn (a : Int) ∧ mn (a : Int) ≤ 2 := by
  unfold mn
  split <;> omega
section
variable {A : Nat → Nat → Int} {H : Nat → List (List (Nat × List Nat))} {c : Int}
theorem ac_r : ∀ k : Nat, 0 ≤ (ac A H c k).1 ∧ (ac A H c k).1 ≤ 2 * k ∧ 0 ≤ (ac A H c k).2.1 ∧ (ac A H c k).2.1 ≤ 2 * k := by
  intro k
  induction k with
  | zero => exact ⟨Int.le_refl _, Int.le_refl _, Int.le_refl _, Int.le_refl _⟩
  | succ k ih =>
    rw [ac]
    dsimp only
    have h1 : fits A H c k → 1 ≤ mn ((H k).length : Int) ∧ mn ((H k).length : Int) ≤ 2 := fun h => mn_p h.1
    have h2 : goes A H c k → 1 ≤ mn ((H k).length : Int) ∧ mn ((H k).length : Int) ≤ 2 := fun h => mn_p h.1
    by_cases q1 : fits A H c k <;> by_cases q2 : goes A H c k
    · have := h1 q1
      rw [if_pos q1, if_pos q2]; omega
    · have := h1 q1
      rw [if_pos q1, if_neg q2]; omega
    · have := h2 q2
      rw [if_neg q1, if_pos q2]; omega
    · rw [if_neg q1, if_neg q2]; omega
theorem ac_f0 : ∀ k : Nat, (ac A H c k).1 = 0 → (ac A H c k).2.2 = -1 ∧ ∀ e : Nat, e < k → ¬ fits A H c e := by
  intro k
  induction k with
  | zero => intro _; exact ⟨rfl, fun e he => by omega⟩
  | succ k ih =>
    intro h
    have hr := ac_r (A := A) (H := H) (c := c) k
    rw [ac] at h ⊢
    dsimp only at h ⊢
    by_cases q1 : fits A H c k
    · rw [if_pos q1] at h
      have := mn_p q1.1
      omega
    · rw [if_neg q1] at h ⊢
      obtain ⟨i1, i2⟩ := ih h
      refine ⟨i1, fun e he => ?_⟩
      by_cases d : e = k
      · subst d; exact q1
      · exact i2 e (by omega)
theorem ac_f1 : ∀ k : Nat, (ac A H c k).1 = 1 → ∃ e : Nat, e < k ∧ (ac A H c k).2.2 = e ∧ fits A H c e ∧ (H e).length = 1 ∧ ∀ e' : Nat, e' < k → fits A H c e' → e' = e := by
  intro k
  induction k with
  | zero => intro h; cases h
  | succ k ih =>
    intro h
    have hr := ac_r (A := A) (H := H) (c := c) k
    rw [ac] at h ⊢
    dsimp only at h ⊢
    by_cases q1 : fits A H c k
    · rw [if_pos q1] at h ⊢
      have h1 := mn_p q1.1
      have h2 : mn ((H k).length : Int) = 1 := by omega
      obtain ⟨_, i2⟩ := ac_f0 (A := A) (H := H) (c := c) k (by omega)
      refine ⟨k, by omega, rfl, q1, mn_1.1 h2, fun e' he' hf => ?_⟩
      by_cases d : e' = k
      · exact d
      · exact absurd hf (i2 e' (by omega))
    · rw [if_neg q1] at h ⊢
      obtain ⟨e, i1, i2, i3, i4, i5⟩ := ih h
      refine ⟨e, by omega, i2, i3, i4, fun e' he' hf => ?_⟩
      by_cases d : e' = k
      · subst d; exact absurd hf q1
      · exact i5 e' (by omega) hf
theorem ac_s0 : ∀ k : Nat, (ac A H c k).2.1 = 0 ↔ ∀ e : Nat, e < k → ¬ goes A H c e := by
  intro k
  induction k with
  | zero => exact ⟨fun _ e he => by omega, fun _ => rfl⟩
  | succ k ih =>
    have hr := ac_r (A := A) (H := H) (c := c) k
    rw [ac]
    dsimp only
    by_cases q1 : goes A H c k
    · rw [if_pos q1]
      have h1 := mn_p q1.1
      constructor
      · intro h; omega
      · intro h; exact absurd q1 (h k (by omega))
    · rw [if_neg q1, ih]
      constructor
      · intro h e he
        by_cases d : e = k
        · subst d; exact q1
        · exact h e (by omega)
      · intro h e he; exact h e (by omega)
end
/-- the reference's threads -/
def TR (H : Nat → List (List (Nat × List Nat))) (m : ZM) : Prop := ∀ j : Nat, j < 128 → m.1 108 j = mn ((H j).length : Int)
section
variable {C : Nat → Int} {Y A : Nat → Nat → Int} {N i0 z : Nat} {n : Nat} {H : Nat → List (List (Nat × List Nat))} {B : Int}
theorem HO_hi (hH : HO A N B H) (j : Nat) (hj : N < j) : (H j).length = 0 := by
  cases e : H j with
  | nil => rfl
  | cons x xs =>
    have := (hH j x (by rw [e]; exact List.mem_cons_self)).1
    omega
theorem ac_ext (h : RX true C Y A N i0 z) (hH : HO A N B H) (c : Int) (hc : 0 < c) : ∀ k : Nat, ac A H c (N + k) = ac A H c N := by
  intro k
  induction k with
  | zero => rfl
  | succ k ih =>
    rw [show N + (k + 1) = (N + k) + 1 by omega, ac, ih]
    have nf : ¬ fits A H c (N + k) := fun q => by
      by_cases d : k = 0
      · subst d
        have := q.2.1
        rw [Nat.add_zero, h.2.2.2.1] at this
        omega
      · have := HO_hi hH (N + k) (by omega)
        have := q.1
        omega
    have ng : ¬ goes A H c (N + k) := fun q => by
      by_cases d : k = 0
      · subst d
        have q2 := q.2
        rw [Nat.add_zero] at q2
        unfold bf at q2
        rw [h.2.2.2.1, if_neg (by decide), if_neg (by decide), if_pos rfl] at q2
        omega
      · have := HO_hi hH (N + k) (by omega)
        have := q.1
        omega
    rw [if_neg nf, if_neg ng, if_neg nf]
theorem bg_m (k c : Int) (hk : k = 1 ∨ k = 2 ∨ k = 3 ∨ k = 4) (hc : vt c) : ((k = 1 ∧ 1000 ≤ c) ∨ (k = 2 ∧ nmb c) ∨ (k = 3 ∧ ¬ cls c) ∨ (k ≠ 1 ∧ k ≠ 2 ∧ k ≠ 3 ∧ (300 ≤ c ∨ c = 40))) ↔ bg k c := by
  unfold bg
  constructor
  · rintro (a | a | a | a)
    · exact Or.inl ⟨a.1, by rcases hc with d | d | d <;> omega⟩
    · exact Or.inr (Or.inl a)
    · exact Or.inr (Or.inr (Or.inl a))
    · exact Or.inr (Or.inr (Or.inr ⟨by omega, a.2.2.2⟩))
  · rintro (a | a | a | a)
    · exact Or.inl ⟨a.1, by have := a.2; omega⟩
    · exact Or.inr (Or.inl a)
    · exact Or.inr (Or.inr (Or.inl a))
    · exact Or.inr (Or.inr (Or.inr ⟨by omega, by omega, by omega, a.2⟩))
theorem x_k4 (h : RX true C Y A N i0 z) (e : Nat) (he : e < N) (h3 : A 0 e = 3) : A 4 e = 1 ∨ A 4 e = 2 ∨ A 4 e = 3 ∨ A 4 e = 4 := by
  have x3 := x_w3 h e he h3
  rw [x3.2.2.2.2.2.1]
  have hk := x3.2.2.2.2.1
  unfold r_kd
  rcases hk with d | d | d | d <;> rw [d] <;> decide
/-- the reference's first loop over a token -/
theorem m66a (hn : 200 ≤ n) (h : RX true C Y A N i0 z) (hH : HO A N B H) (m : ZM) (hA : AX true m A (N + 1)) (hT : TR H m) (p en : Nat) (hp : p < 300) (c : Int) (hc : m.1 105 p = c) (hv : vt c) : zF66 n p en m = zL66_11 n (n - 128) p en (ac A H c N).1 (ac A H c N).2.1 (ac A H c N).2.2 128 m := by
  have hN := x_N119 h
  have hc0 : 0 < c := by rcases hv with d | d | d <;> omega
  have e105 : ∀ (rec : Int → Int → Int → Int → Int → Int → ZM → Option (Int × ZM)) (x3 x4 x5 x7 f g : Int) (e : Nat), e < 128 → 0 ≤ x3 → x3 ≤ 1000 → 0 ≤ x4 → x4 ≤ 1000 → 0 ≤ x7 → x7 ≤ 2 → zJ66_105 n rec p en x3 x4 x5 e x7 f g m = rec p en (if f = 0 then x3 else x3 + x7) (if g = 0 then x4 else x4 + x7) (if f = 0 then x5 else e) ((e : Int) + 1) m := by
    intro rec x3 x4 x5 x7 f g e he a1 a2 a3 a4 a5 a6
    unfold zJ66_105 zJ66_120 zJ66_136 zJ66_150
    by_cases q1 : f = 0 <;> by_cases q2 : g = 0 <;> simp only [q1, q2, if_true, if_false] <;> repeat' split
    all_goals first | rfl | omega
  have stp : ∀ (f e : Nat), e < 128 → zL66_11 n (f + 1) p en (ac A H c e).1 (ac A H c e).2.1 (ac A H c e).2.2 e m = zL66_11 n f p en (ac A H c (e + 1)).1 (ac A H c (e + 1)).2.1 (ac A H c (e + 1)).2.2 ((e : Int) + 1) m := by
    intro f e he
    have hr := ac_r (A := A) (H := H) (c := c) e
    have ht := hT e he
    rw [zL66_11, if_neg (by omega), if_neg (by omega), Int.toNat_natCast, ht]
    generalize zL66_11 n f = rec
    by_cases q0 : (H e).length = 0
    · have m0 : mn ((H e).length : Int) = 0 := mn_0.2 q0
      rw [m0, if_pos (by decide)]
      unfold zJ66_68 zJ66_69 zJ66_104
      rw [if_pos (by decide), e105 rec _ _ _ _ _ _ e he hr.1 (by omega) hr.2.2.1 (by omega) (by decide) (by decide), if_pos rfl, if_pos rfl, if_pos rfl]
      rw [ac, if_neg (show ¬ fits A H c e from fun d => by have := d.1; omega), if_neg (show ¬ goes A H c e from fun d => by have := d.1; omega), if_neg (show ¬ fits A H c e from fun d => by have := d.1; omega)]
    · have hl : 0 < (H e).length := by omega
      have hm := mn_p hl
      have heN : e ≤ N := by
        by_cases d : e ≤ N
        · exact d
        · exact absurd (HO_hi hH e (by omega)) q0
      have ax := hA e (by omega)
      rw [if_pos rfl] at ax
      have e69 : ∀ s : Int, zJ66_69 n rec p en (ac A H c e).1 (ac A H c e).2.1 (ac A H c e).2.2 e (mn ((H e).length : Int)) s m = zJ66_105 n rec p en (ac A H c e).1 (ac A H c e).2.1 (ac A H c e).2.2 e (mn ((H e).length : Int)) s (if bf A e = c then 1 else 0) m := by
        intro s
        unfold zJ66_69 zJ66_91 zJ66_104
        rw [if_neg (by omega), m53 h m hA e heN]
        dsimp only
        rw [if_neg (by omega), Int.toNat_natCast, hc, m53 h m hA e heN]
        dsimp only
        by_cases d : bf A e = c
        · rw [if_pos d, if_neg (by omega), if_pos d]
        · rw [if_neg d, if_neg d]
      have gg : (if bf A e = c then (1 : Int) else 0) = 0 ↔ ¬ goes A H c e := by
        by_cases d : bf A e = c
        · rw [if_pos d]
          exact ⟨fun q => by omega, fun q => absurd ⟨hl, d⟩ q⟩
        · rw [if_neg d]
          exact ⟨fun _ q => d q.2, fun _ => rfl⟩
      rw [if_neg (by omega), ax.1]
      have fin : ∀ s : Int, (s = 0 ↔ ¬ fits A H c e) → zJ66_105 n rec p en (ac A H c e).1 (ac A H c e).2.1 (ac A H c e).2.2 e (mn ((H e).length : Int)) s (if bf A e = c then 1 else 0) m = rec p en (ac A H c (e + 1)).1 (ac A H c (e + 1)).2.1 (ac A H c (e + 1)).2.2 ((e : Int) + 1) m := by
        intro s hs
        rw [e105 rec _ _ _ _ _ _ e he hr.1 (by omega) hr.2.2.1 (by omega) (by omega) hm.2, ac]
        by_cases d1 : fits A H c e <;> by_cases d2 : goes A H c e
        · rw [if_neg (fun q => (hs.1 q) d1), if_neg (fun q => (gg.1 q) d2), if_neg (fun q => (hs.1 q) d1), if_pos d1, if_pos d2, if_pos d1]
        · rw [if_neg (fun q => (hs.1 q) d1), if_pos (gg.2 d2), if_neg (fun q => (hs.1 q) d1), if_pos d1, if_neg d2, if_pos d1]
        · rw [if_pos (hs.2 d1), if_neg (fun q => (gg.1 q) d2), if_pos (hs.2 d1), if_neg d1, if_pos d2, if_neg d1]
        · rw [if_pos (hs.2 d1), if_pos (gg.2 d2), if_pos (hs.2 d1), if_neg d1, if_neg d2, if_neg d1]
      by_cases q3 : A 0 e = 3
      · have heN2 : e < N := by
          by_cases d : e = N
          · rw [d, h.2.2.2.1] at q3
            exact absurd q3 (by decide)
          · omega
        rw [if_pos q3]
        unfold zJ66_44 zJ66_68 zJ66_64
        rw [if_neg (by omega), if_neg (by omega), Int.toNat_natCast, Int.toNat_natCast, hc, ax.2.2.2.2.1, zF64_eq]
        dsimp only
        rw [ib, e69, e69]
        have hb := bg_m (A 4 e) c (x_k4 h e heN2 q3) hv
        by_cases d : bg (A 4 e) c
        · rw [if_pos (hb.2 d)]
          exact fin 1 ⟨fun q => by omega, fun q => absurd ⟨hl, q3, d⟩ q⟩
        · rw [if_neg (fun q => d (hb.1 q))]
          exact fin 0 ⟨fun _ q => d q.2.2, fun _ => rfl⟩
      · rw [if_neg q3]
        unfold zJ66_68
        rw [e69]
        exact fin 0 ⟨fun _ q => q3 q.2.1, fun _ => rfl⟩
  have key : ∀ (k : Nat), k ≤ 128 → zL66_11 n n p en 0 0 (-1) 0 m = zL66_11 n (n - k) p en (ac A H c k).1 (ac A H c k).2.1 (ac A H c k).2.2 k m := by
    intro k
    induction k with
    | zero => intro _; rfl
    | succ k ih =>
      intro hk
      rw [ih (by omega), show n - k = (n - (k + 1)) + 1 by omega, stp (n - (k + 1)) k (by omega), show ((k + 1 : Nat) : Int) = (k : Int) + 1 by omega]
  have e := key 128 (by omega)
  have hx := ac_ext h hH c hc0 (128 - N)
  rw [show N + (128 - N) = 128 by omega] at hx
  rw [hx] at e
  exact e
end
