/-! Expressions: the reference's side. -/
def bw (w : Bool) : Int := if w = true then 1 else 0
theorem Dp_st {c d d1 : Int} {w w1 : Bool} (h : st1 c d w = some (d1, w1)) : br c = d1 - d := by
  unfold st1 at h
  unfold br
  split at h
  · split at h
    · cases h
      rw [if_neg (by omega), if_neg (by omega)]; omega
    · cases h
  · split at h
    · split at h
      · cases h
        rw [if_pos (by omega)]; omega
      · cases h
    · split at h
      · split at h
        · cases h
          rw [if_neg (by omega), if_pos (by omega)]; omega
        · cases h
      · split at h
        · rename_i q
          cases h
          rw [if_neg (by omega), if_neg (by omega)]; omega
        · cases h
theorem GC_D (X : Nat → Int) (L : Int) : ∀ (k p : Nat) (d : Int) (w : Bool) (d1 : Int) (w1 : Bool), GC X L k p d w d1 w1 → Dp X (p + k) - Dp X p = d1 - d ∧ ∀ i : Nat, i ≤ k → L - d ≤ Dp X (p + i) - Dp X p := by
  intro k
  induction k with
  | zero =>
    intro p d w d1 w1 h
    obtain ⟨rfl, rfl, h3⟩ := h
    refine ⟨by rw [Nat.add_zero]; omega, fun i hi => ?_⟩
    have : i = 0 := by omega
    subst this
    rw [Nat.add_zero]; omega
  | succ k ih =>
    intro p d w d1 w1 h
    obtain ⟨a1, d2, w2, a2, a3⟩ := h
    obtain ⟨b1, b2⟩ := ih (p + 1) d2 w2 d1 w1 a3
    have e1 := Dp_st a2
    have e2 : Dp X (p + 1) = Dp X p + br (X p) := rfl
    rw [show p + 1 + k = p + (k + 1) by omega] at b1
    refine ⟨by omega, fun i hi => ?_⟩
    by_cases q : i = 0
    · subst q; rw [Nat.add_zero]; omega
    · have := b2 (i - 1) (by omega)
      rw [show p + 1 + (i - 1) = p + i by omega] at this
      omega
theorem BC_D (X : Nat → Int) (L : Int) : ∀ (k p : Nat) (d : Int) (w : Bool), BC X L k p d w → ∀ i : Nat, i ≤ k → L - d ≤ Dp X (p + i) - Dp X p := by
  intro k
  induction k with
  | zero =>
    intro p d w h i hi
    have : i = 0 := by omega
    subst this
    have := h.1
    rw [Nat.add_zero]; omega
  | succ k ih =>
    intro p d w h i hi
    obtain ⟨a1, d2, w2, a2, a3⟩ := h
    have b2 := ih (p + 1) d2 w2 a3
    have e1 := Dp_st a2
    have e2 : Dp X (p + 1) = Dp X p + br (X p) := rfl
    by_cases q : i = 0
    · subst q; rw [Nat.add_zero]; omega
    · have := b2 (i - 1) (by omega)
      rw [show p + 1 + (i - 1) = p + i by omega] at this
      omega
section
variable {X : Nat → Int} {S n : Nat} {m : ZM}
theorem s62 (hR : RRk S X m) (f q p : Nat) (d : Int) (w : Bool) (hq : q < S) (hp : p ≤ q) (hd : -1000 ≤ d ∧ d ≤ 1000) :
    (∀ d1 w1, st1 (X p) d w = some (d1, w1) → zL62_54 n (f + 1) q d (bw w) 1 p m = zL62_54 n f q d1 (bw w1) 1 ((p : Int) + 1) m) ∧ (st1 (X p) d w = none → ∃ a b, zL62_54 n (f + 1) q d (bw w) 1 p m = zL62_54 n f q a b 0 ((p : Int) + 1) m) := by
  obtain ⟨h1, h2⟩ := hR
  have hx := h2 p (by omega)
  have st : zL62_54 n (f + 1) q d (bw w) 1 p m = if X p < 300 then zJ62_92 n (zL62_54 n f) q d (bw w) p (X p) m else zJ62_82 n (zL62_54 n f) q d (bw w) p m := by
    rw [zL62_54, if_neg (by omega), if_neg (by decide), if_neg (by omega), Int.toNat_natCast, hx.1]
  rw [st]
  generalize zL62_54 n f = rec
  have e184 : ∀ a b c : Int, zJ62_184 n rec q a b c p m = rec q a b c ((p : Int) + 1) m := by
    intro a b c
    unfold zJ62_184
    rw [if_pos (by omega)]
  unfold st1
  by_cases c3 : 300 ≤ X p
  · rw [if_pos c3, if_neg (show ¬ X p < 300 by omega)]
    unfold zJ62_82
    rw [e184]
    cases w
    · rw [if_neg (by decide)]
      exact ⟨fun _ _ h => (by cases h), fun _ => ⟨d, 0, rfl⟩⟩
    · rw [if_pos rfl]
      exact ⟨fun _ _ h => (by cases h; rfl), fun h => (by cases h)⟩
  · rw [if_neg c3, if_pos (show X p < 300 by omega)]
    unfold zJ62_92 zJ62_121 zJ62_122 zJ62_150 zJ62_174 zJ62_178 zJ62_179
    rw [if_pos (show rg (d + 1) by omega), if_pos (show rg (d + 1) by omega), if_pos (show rg (d - 1) by omega), if_pos (show rg (d - 1) by omega)]
    simp only [e184]
    by_cases c4 : X p = 40
    · rw [if_pos c4, if_pos c4]
      cases w
      · rw [if_neg (show ¬ ((false : Bool) = true ∧ d + 1 ≤ 6) from fun e => absurd e.1 (by decide)), if_pos (show bw false = 0 from rfl)]
        exact ⟨fun _ _ h => (by cases h), fun _ => ⟨_, _, rfl⟩⟩
      · rw [if_neg (show ¬ bw true = 0 by decide)]
        by_cases c6 : d + 1 ≤ 6
        · rw [if_pos (show (true : Bool) = true ∧ d + 1 ≤ 6 from ⟨rfl, c6⟩), if_neg (show ¬ 6 < d + 1 by omega)]
          exact ⟨fun _ _ h => (by cases h; rfl), fun h => (by cases h)⟩
        · rw [if_neg (show ¬ ((true : Bool) = true ∧ d + 1 ≤ 6) from fun e => c6 e.2), if_pos (show 6 < d + 1 by omega)]
          exact ⟨fun _ _ h => (by cases h), fun _ => ⟨_, _, rfl⟩⟩
    · rw [if_neg c4, if_neg c4]
      by_cases c5 : X p = 41
      · rw [if_pos c5, if_pos c5]
        cases w
        · rw [if_pos rfl, if_pos (show bw false = 0 from rfl)]
          exact ⟨fun _ _ h => (by cases h; rfl), fun h => (by cases h)⟩
        · rw [if_neg (by decide), if_neg (show ¬ bw true = 0 by decide)]
          exact ⟨fun _ _ h => (by cases h), fun _ => ⟨_, _, rfl⟩⟩
      · rw [if_neg c5, if_neg c5]
        cases w
        · rw [if_pos (show bw false = 0 from rfl)]
          by_cases c6 : X p = 43
          · rw [if_pos c6, if_pos (show (false : Bool) = false ∧ (X p = 43 ∨ X p = 42) from ⟨rfl, Or.inl c6⟩)]
            exact ⟨fun _ _ h => (by cases h; rfl), fun h => (by cases h)⟩
          · rw [if_neg c6]
            by_cases c7 : X p = 42
            · rw [if_pos c7, if_pos (show (false : Bool) = false ∧ (X p = 43 ∨ X p = 42) from ⟨rfl, Or.inr c7⟩)]
              exact ⟨fun _ _ h => (by cases h; rfl), fun h => (by cases h)⟩
            · rw [if_neg c7, if_neg (show ¬ ((false : Bool) = false ∧ (X p = 43 ∨ X p = 42)) from fun e => by
                rcases e.2 with e | e
                · exact c6 e
                · exact c7 e)]
              exact ⟨fun _ _ h => (by cases h), fun _ => ⟨_, _, rfl⟩⟩
        · rw [if_neg (show ¬ bw true = 0 by decide), if_neg (show ¬ ((true : Bool) = false ∧ (X p = 43 ∨ X p = 42)) from fun e => absurd e.1 (by decide))]
          exact ⟨fun _ _ h => (by cases h), fun _ => ⟨_, _, rfl⟩⟩
theorem st_d {c d d1 : Int} {w w1 : Bool} (h : st1 c d w = some (d1, w1)) : d1 ≤ d ∨ d1 ≤ 6 := by
  unfold st1 at h
  repeat' split at h
  all_goals first | cases h | skip
  all_goals omega
theorem GC_m (hR : RRk S X m) (q : Nat) (hq : q < S) : ∀ (k p : Nat) (d : Int) (w : Bool) (d1 : Int) (w1 : Bool) (f : Nat), GC X 0 k p d w d1 w1 → d ≤ 6 → p + k ≤ q + 1 → zL62_54 n (f + k) q d (bw w) 1 p m = zL62_54 n f q d1 (bw w1) 1 ((p + k : Nat) : Int) m := by
  intro k
  induction k with
  | zero =>
    intro p d w d1 w1 f h _ _
    obtain ⟨rfl, rfl, _⟩ := h
    rfl
  | succ k ih =>
    intro p d w d1 w1 f h hd hk
    obtain ⟨a1, d2, w2, a2, a3⟩ := h
    have := st_d a2
    rw [show f + (k + 1) = (f + k) + 1 by omega, (s62 hR (f + k) q p d w hq (by omega) (by omega)).1 d2 w2 a2]
    have e := ih (p + 1) d2 w2 d1 w1 f a3 (by omega) (by omega)
    rw [show ((p + 1 : Nat) : Int) = (p : Int) + 1 by omega] at e
    rw [e, show p + 1 + k = p + (k + 1) by omega]
theorem BC_m (hR : RRk S X m) (q : Nat) (hq : q < S) : ∀ (k p : Nat) (d : Int) (w : Bool) (f : Nat), BC X 0 k p d w → d ≤ 6 → p + k ≤ q → zL62_54 n (f + k + 2) q d (bw w) 1 p m = some (-1, m) := by
  intro k
  induction k with
  | zero =>
    intro p d w f h hd hk
    have h1 := h.1
    obtain ⟨a, b, e⟩ := (s62 (n := n) hR (f + 1) q p d w hq (by omega) (by omega)).2 h.2
    rw [show f + 0 + 2 = (f + 1) + 1 by omega, e, zL62_54]
    unfold zJ62_190
    by_cases c : (q : Int) < (p : Int) + 1
    · rw [if_pos c, if_pos rfl]; rfl
    · rw [if_neg c, if_pos rfl, if_pos rfl]; rfl
  | succ k ih =>
    intro p d w f h hd hk
    obtain ⟨a1, d2, w2, a2, a3⟩ := h
    have := st_d a2
    rw [show f + (k + 1) + 2 = (f + k + 2) + 1 by omega, (s62 hR (f + k + 2) q p d w hq (by omega) (by omega)).1 d2 w2 a2]
    have e := ih (p + 1) d2 w2 f a3 (by omega) (by omega)
    rw [show ((p + 1 : Nat) : Int) = (p : Int) + 1 by omega] at e
    exact e
theorem m62 (hn : 2000 ≤ n) (hR : RRk S X m) (en : Nat) (hen : en < S) (hce : cls (X en)) (p : Nat) (hp : p ≤ en) (hcl : p < en → opn (X p) → ∃ q : Nat, q < en ∧ CL X p q) (r : Int) (hr : OPX X 0 p r) : zF62 n p en m = some (r, m) ∧ (r = -1 ∨ ((p : Int) < r ∧ r ≤ en)) := by
  have hS := hR.1
  by_cases qe : p = en
  · subst qe
    rcases hr with ⟨h, _⟩ | ⟨h, _⟩ | ⟨h, _⟩
    · refine ⟨?_, Or.inl h⟩
      unfold zF62
      rw [if_neg (by omega), h]
    · omega
    · omega
  have hx := hR.2 p (by omega)
  have st : zF62 n p en m = if X p < 300 then (if X p = 40 then zJ62_36 n p m else zJ62_34 n m) else some ((p : Int) + 1, m) := by
    unfold zF62
    rw [if_pos (by omega), if_neg (by omega), Int.toNat_natCast, hx.1, if_pos (show rg ((p : Int) + 1) by omega)]
  rcases hr with ⟨h, h1 | ⟨h1, h2, k, h3⟩⟩ | ⟨h1, h⟩ | ⟨h1, h2, k, h, h4, h5⟩
  · refine ⟨?_, Or.inl h⟩
    rw [st, if_pos (by omega), if_neg (by omega), h]
    rfl
  · refine ⟨?_, Or.inl h⟩
    obtain ⟨q, hq, hc⟩ := hcl (by omega) (by omega)
    rw [st, if_pos (by omega), if_pos h1, h]
    unfold zJ62_36
    rw [m61 hR n (by omega) p q (by omega) hc]
    dsimp only
    have hb : BC X 0 (k + 1) p 0 true := by
      refine ⟨by omega, 0 + 1, true, ?_, BC_L X (0 + 1) 0 (by omega) k _ _ _ h3⟩
      unfold st1
      rw [h1, if_neg (by decide), if_pos rfl, if_pos ⟨rfl, by omega⟩]
    have hD := BC_D X (0 + 1) k (p + 1) (0 + 1) true h3
    have hkq : p + (k + 1) ≤ q := by
      apply Classical.byContradiction
      intro c
      have e1 := hD (q - p) (by omega)
      rw [show p + 1 + (q - p) = q + 1 by have := hc.1; omega, hc.2.1] at e1
      have e2 : Dp X (p + 1) = Dp X p + br (X p) := rfl
      have e3 : br (X p) = 1 := by unfold br; rw [if_pos (by omega)]
      omega
    have := BC_m (n := n) hR q (by omega) (k + 1) p 0 true (n - (k + 1) - 2) hb (by omega) hkq
    rw [show n - (k + 1) - 2 + (k + 1) + 2 = n by omega] at this
    exact this
  · refine ⟨?_, Or.inr (by omega)⟩
    rw [st, if_neg (by omega), h]
  · obtain ⟨q, hq, hc⟩ := hcl (by omega) (by omega)
    have e1 : GC X 0 1 p 0 true (0 + 1) true := by
      refine ⟨by omega, 0 + 1, true, ?_, rfl, rfl, by omega⟩
      unfold st1
      rw [h1, if_neg (by decide), if_pos rfl, if_pos ⟨rfl, by omega⟩]
    have e2 := GC_L X (0 + 1) 0 (by omega) k _ _ _ _ _ h4
    have e3 : GC X 0 1 (p + 1 + k) (0 + 1) false 0 false := by
      refine ⟨by omega, 0, false, ?_, rfl, rfl, by omega⟩
      unfold st1
      rw [h5, if_neg (by decide), if_neg (by decide), if_pos rfl, if_pos rfl]
      rfl
    have e4 := GC_GC X 0 1 k p _ _ _ _ _ _ e1 e2
    have e5 := GC_GC X 0 (1 + k) 1 p _ _ _ _ _ _ e4 (by rw [show p + (1 + k) = p + 1 + k by omega]; exact e3)
    obtain ⟨g1, g2⟩ := GC_D X (0 + 1) k (p + 1) _ _ _ _ h4
    have d2 : Dp X (p + 1) = Dp X p + br (X p) := rfl
    have d3 : br (X p) = 1 := by unfold br; rw [if_pos (by omega)]
    have d4 : Dp X (p + 1 + k + 1) = Dp X (p + 1 + k) + br (X (p + 1 + k)) := rfl
    have d5 : br (X (p + 1 + k)) = -1 := by unfold br; rw [if_neg (by omega), if_pos (by omega)]
    have hcl2 : CL X p (p + 1 + k) := by
      refine ⟨by omega, by omega, fun q' b1 b2 => ?_⟩
      have := g2 (q' - (p + 1)) (by omega)
      rw [show p + 1 + (q' - (p + 1)) = q' by omega] at this
      omega
    have hq2 := CL_un X p q (p + 1 + k) hc hcl2
    subst hq2
    refine ⟨?_, Or.inr (by omega)⟩
    rw [st, if_pos (by omega), if_pos h1]
    unfold zJ62_36
    rw [m61 hR n (by omega) p (p + 1 + k) (by omega) hc]
    dsimp only
    have := GC_m (n := n) hR (p + 1 + k) (by omega) (1 + k + 1) p 0 true 0 false (n - (1 + k + 1)) e5 (by omega) (by omega)
    rw [show n - (1 + k + 1) + (1 + k + 1) = n by omega] at this
    have e6 : zL62_54 n n ((p + 1 + k : Nat) : Int) 0 1 1 p m = zL62_54 n (n - (1 + k + 1)) ((p + 1 + k : Nat) : Int) 0 (bw false) 1 ((p + (1 + k + 1) : Nat) : Int) m := this
    rw [e6, show n - (1 + k + 1) = (n - (1 + k + 1) - 1) + 1 by omega, zL62_54, if_pos (by omega)]
    unfold zJ62_190 zJ62_202
    rw [if_neg (by decide), if_pos (by omega), h]
    congr 2
    omega
theorem m63 (hn : 2000 ≤ n) (hR : RRk S X m) (en lo : Nat) (hen : en < S) (hce : cls (X en)) (hcl : ∀ p : Nat, lo ≤ p → p < en → opn (X p) → ∃ q : Nat, q < en ∧ CL X p q) (p : Nat) (hlo : lo ≤ p) (hp : p < en) (v : Int) (hv : (v = -1 ∧ OPX X 0 p (-1)) ∨ ∃ e : Nat, OPX X 0 p e ∧ ∃ f, EXX X 0 f e v) : zF63 n p en m = some (v, m) ∧ (v = -1 ∨ ((p : Int) < v ∧ v ≤ en)) := by
  have hop := fun (p : Nat) (h1 : lo ≤ p) (h2 : p ≤ en) (r : Int) (hr : OPX X 0 p r) => m62 hn hR en hen hce p h2 (fun h3 h4 => hcl p h1 h3 h4) r hr
  have hS := hR.1
  have lp : ∀ (f e g : Nat) (v : Int), EXX X 0 f e v → lo ≤ e → e ≤ en → en + 3 ≤ g + e → zL63_18 n g en e 1 m = some (v, m) ∧ (e : Int) ≤ v ∧ v ≤ en := by
    intro f
    induction f with
    | zero => intro e g v h; exact absurd h not_false
    | succ f ih =>
      intro e g v h h1 h2 h3
      obtain ⟨g, rfl⟩ : ∃ g', g = g' + 1 + 1 := ⟨g - 2, by omega⟩
      have s61 : zJ63_61 n (zL63_18 n (g + 1)) en e m = some ((e : Int), m) := by
        unfold zJ63_61 zJ63_62 zJ63_74 zJ63_87
        rw [if_pos (by decide), if_pos rfl, zL63_18, if_pos rfl]
      have hx := hR.2 e (by omega)
      have sne : ¬ sgx (X e) → zL63_18 n (g + 1 + 1) en e 1 m = some ((e : Int), m) := by
        intro c
        rw [zL63_18, if_neg (by decide)]
        by_cases q : (en : Int) ≤ e
        · rw [if_pos q]; exact s61
        · rw [if_neg q, if_neg (by omega), Int.toNat_natCast, hx.1, if_neg (fun d => c (Or.inl d))]
          unfold zJ63_39
          rw [if_neg (by omega), Int.toNat_natCast, hx.1, if_neg (fun d => c (Or.inr d))]
          exact s61
      have ssg : sgx (X e) → e < en ∧ zL63_18 n (g + 1 + 1) en e 1 m = zJ63_50 n (zL63_18 n (g + 1)) en e m := by
        intro c
        have hlt : e < en := by
          by_cases q : e = en
          · subst q
            rcases c with c | c <;> rcases hce with d | d | d <;> omega
          · omega
        refine ⟨hlt, ?_⟩
        rw [zL63_18, if_neg (by decide), if_neg (by omega), if_neg (by omega), Int.toNat_natCast, hx.1]
        rcases c with c | c
        · rw [if_pos c]
        · rw [if_neg (by omega)]
          unfold zJ63_39
          rw [if_neg (by omega), Int.toNat_natCast, hx.1, if_pos c]
      rcases h with ⟨a1, a2⟩ | ⟨a1, a2, a3⟩ | ⟨a1, e', a2, a3⟩
      · exact ⟨by rw [sne a1, a2], by omega, by omega⟩
      · obtain ⟨b1, b2⟩ := ssg a1
        obtain ⟨c1, _⟩ := hop (e + 1) (by omega) (by omega) (-1) a2
        rw [show ((e + 1 : Nat) : Int) = (e : Int) + 1 by omega] at c1
        refine ⟨?_, by omega, by omega⟩
        rw [b2]
        unfold zJ63_50
        rw [if_pos (by omega), c1]
        dsimp only
        unfold zJ63_62 zJ63_74 zJ63_87
        rw [if_pos (by decide), if_pos rfl, zL63_18, if_pos rfl, a3]
      · obtain ⟨b1, b2⟩ := ssg a1
        obtain ⟨c1, c2⟩ := hop (e + 1) (by omega) (by omega) e' a2
        rw [show ((e + 1 : Nat) : Int) = (e : Int) + 1 by omega] at c1
        obtain ⟨d1, d2, d3⟩ := ih e' (g + 1) v a3 (by omega) (by omega) (by omega)
        refine ⟨?_, by omega, d3⟩
        rw [b2]
        unfold zJ63_50
        rw [if_pos (by omega), c1]
        dsimp only
        unfold zJ63_62 zJ63_74 zJ63_87
        rw [if_neg (by omega), if_neg (by decide)]
        exact d1
  unfold zF63
  rcases hv with ⟨rfl, h⟩ | ⟨e, h, f, h2⟩
  · obtain ⟨c1, _⟩ := hop p hlo (by omega) (-1) h
    refine ⟨?_, Or.inl rfl⟩
    rw [c1]
    dsimp only
    rw [if_pos (by decide)]
    unfold zJ63_16
    obtain ⟨n', rfl⟩ : ∃ n', n = n' + 1 := ⟨n - 1, by omega⟩
    rw [zL63_18, if_pos rfl]
  · obtain ⟨c1, c2⟩ := hop p hlo (by omega) e h
    obtain ⟨d1, d2, d3⟩ := lp f e n v h2 (by omega) (by omega) (by omega)
    refine ⟨?_, Or.inr (by omega)⟩
    rw [c1]
    dsimp only
    rw [if_neg (by omega)]
    exact d1
end
