/-! Uses in a body. -/
def dpt (a b : Int) : Int := if a < 0 then 0 else if b < 0 then 1 else 2
/-- a use that is wrong -/
def wu (A : Nat → Nat → Int) (N : Nat) (B : Nat → Nat → Int) (NB : Nat) : Prop := ∃ e : Nat, e < NB ∧ B 0 e = 7 ∧ ∀ f : Nat, f < N → A 0 f = 3 → A 1 f = B 1 e → dpt (A 5 f) (A 6 f) ≠ dpt (B 5 e) (B 6 e)
/-- a use stands from e on, before t -/
def hu (B : Nat → Nat → Int) (e : Nat) (t : Int) : Prop := ∃ q : Nat, e ≤ q ∧ (q : Int) < t ∧ B 0 q = 7
def ur (B : Nat → Nat → Int) (NB : Nat) : Prop := ∃ e : Nat, e < NB ∧ B 0 e = 4 ∧ ¬ hu B e (B 2 e)
theorem m56 (n : Nat) (a b : Int) (m : ZM) : zF56 n a b m = some (dpt a b, m) := by
  unfold zF56 zJ56_17 dpt
  by_cases q : a < 0
  · rw [if_neg (by omega), if_pos q]
  · rw [if_pos (by omega), if_neg q]
    by_cases q2 : b < 0
    · rw [if_neg (by omega), if_pos q2]
    · rw [if_pos (by omega), if_neg q2]
section
variable {C : Nat → Int} {Y A B : Nat → Nat → Int} {N i0 z NB j0 y : Nat} {m : ZM} {n b sz a u : Nat} {P : Nat → Nat}
theorem m55 (hn : 200 ≤ n) (h : RX false C Y B NB j0 y) (hB : AX false m B (NB + 1)) (e : Nat) (he : e < NB) (h4 : B 0 e = 4) : (zF55 n e m = some (1, m) ∧ hu B e (B 2 e)) ∨ (zF55 n e m = some (0, m) ∧ ¬ hu B e (B 2 e)) := by
  have hN := x_N119 h
  obtain ⟨t, ht, h1, h2, _⟩ := x_beg h e he h4
  have axe := hB e (by omega)
  rw [if_neg (by decide)] at axe
  unfold zF55
  have e1 : ∀ k x : Nat, x < t → ∀ r : Int, zL55_4 n (k + 1) e r x m = (if r = 0 then (if B 0 x = 7 then zL55_4 n k e 1 ((x : Int) + 1) m else zL55_4 n k e 0 ((x : Int) + 1) m) else zL55_4 n k e 1 ((x : Int) + 1) m) := by
    intro k x hx r
    have ax := hB x (by omega)
    rw [if_neg (by decide)] at ax
    rw [zL55_4]
    unfold zJ55_29 zJ55_33 zJ55_34
    rw [if_neg (by omega), Int.toNat_natCast, axe.2.2.1, ht, if_neg (show ¬ (t : Int) ≤ x by omega), if_neg (show ¬ ((x : Int) < 0 ∨ 128 ≤ (x : Int)) by omega), Int.toNat_natCast, ax.1, if_pos (show rg ((x : Int) + 1) by omega), if_pos (show rg ((x : Int) + 1) by omega)]
  have hh := lp_acc (fun k r x => zL55_4 n k e r x m) m 0 1 t (fun x => B 0 x = 7) (fun k r hr => by
      show zL55_4 n (k + 1) e r t m = _
      rw [zL55_4, if_neg (by omega), Int.toNat_natCast, axe.2.2.1, ht, if_pos (by omega), if_pos hr]) (fun k x hx => by
      show zL55_4 n (k + 1) e 1 x m = _
      rw [e1 k x hx 1, if_neg (by decide)]; rfl) (fun k x hx hq => by
      show zL55_4 n (k + 1) e 0 x m = _
      rw [e1 k x hx 0, if_pos rfl, if_pos hq]; rfl) (fun k x hx hq => by
      show zL55_4 n (k + 1) e 0 x m = _
      rw [e1 k x hx 0, if_pos rfl, if_neg hq]; rfl) n e (by omega) (by omega)
  rw [ht]
  rcases hh.2 with ⟨g1, q, a1, a2, a3⟩ | ⟨g1, g2⟩
  · exact Or.inl ⟨g1, q, a1, by omega, a3⟩
  · refine Or.inr ⟨g1, ?_⟩
    rintro ⟨q, a1, a2, a3⟩
    exact g2 q a1 (by omega) a3
theorem m57 (hn : 200 ≤ n) (h : RX true C Y A N i0 z) (hA : AX true m A (N + 1)) (h' : RX false C Y B NB j0 y) (hB : AX false m B (NB + 1)) (ht : ¬ tw A N) : (zF57 n m = some (0, m) ∧ (wu A N B NB ∨ ur B NB)) ∨ (zF57 n m = some (1, m) ∧ ¬ (wu A N B NB ∨ ur B NB)) := by
  have hN := x_N119 h
  have hNB := x_N119 h'
  let W : Nat → Prop := fun e => B 0 e = 7 ∧ ∀ f : Nat, f < N → A 0 f = 3 → A 1 f = B 1 e → dpt (A 5 f) (A 6 f) ≠ dpt (B 5 e) (B 6 e)
  let U : Nat → Prop := fun e => B 0 e = 4 ∧ ¬ hu B e (B 2 e)
  have e105 : ∀ k x : Nat, x < NB → (U x → zJ57_105 n (zL57_4 n k) x m = zL57_4 n k 0 ((x : Int) + 1) m) ∧ (¬ U x → zJ57_105 n (zL57_4 n k) x m = zL57_4 n k 1 ((x : Int) + 1) m) := by
    intro k x hx
    have ax := hB x (by omega)
    rw [if_neg (by decide)] at ax
    unfold zJ57_105 zJ57_127 zJ57_123 zJ57_128
    rw [if_neg (by omega), Int.toNat_natCast, ax.1]
    by_cases q4 : B 0 x = 4
    · rw [if_pos q4]
      rcases m55 hn h' hB x hx q4 with ⟨g1, g2⟩ | ⟨g1, g2⟩
      · rw [g1]
        dsimp only
        rw [if_neg (by decide), if_pos (by omega)]
        exact ⟨fun c => absurd g2 c.2, fun _ => rfl⟩
      · rw [g1]
        dsimp only
        rw [if_pos rfl, if_pos (by omega)]
        exact ⟨fun _ => rfl, fun c => absurd ⟨q4, g2⟩ c⟩
    · rw [if_neg q4, if_pos (by omega)]
      exact ⟨fun c => absurd c.1 q4, fun _ => rfl⟩
  have e1 : ∀ k x : Nat, x < NB → (W x ∨ U x → zL57_4 n (k + 1) 1 x m = zL57_4 n k 0 ((x : Int) + 1) m) ∧ (¬ (W x ∨ U x) → zL57_4 n (k + 1) 1 x m = zL57_4 n k 1 ((x : Int) + 1) m) ∧ zL57_4 n (k + 1) 0 x m = zL57_4 n k 0 ((x : Int) + 1) m := by
    intro k x hx
    have ax := hB x (by omega)
    rw [if_neg (by decide)] at ax
    have h83 : ∀ r s : Int, zJ57_83 n (zL57_4 n k) r x s m = if r = 0 then zL57_4 n k 0 ((x : Int) + 1) m else if B 0 x = 7 ∧ s = 0 then zL57_4 n k 0 ((x : Int) + 1) m else zJ57_105 n (zL57_4 n k) x m := by
      intro r s
      unfold zJ57_83 zJ57_127 zJ57_128
      rw [if_neg (show ¬ ((x : Int) < 0 ∨ 128 ≤ (x : Int)) by omega), Int.toNat_natCast, ax.1, if_pos (show rg ((x : Int) + 1) by omega)]
      by_cases q : r = 0
      · rw [if_pos q, if_pos q]
      rw [if_neg q, if_neg q]
      by_cases q7 : B 0 x = 7
      · rw [if_pos q7]
        by_cases qs : s = 0
        · rw [if_pos qs, if_pos ⟨q7, qs⟩]
        · rw [if_neg qs, if_neg (fun c => qs c.2)]
      · rw [if_neg q7, if_neg (fun c => q7 c.1)]
    have start : ∀ r : Int, zL57_4 n (k + 1) r x m = if B 0 x = 7 then zJ57_26 n (zL57_4 n k) r x m else zJ57_83 n (zL57_4 n k) r x 0 m := by
      intro r
      rw [zL57_4, if_neg (by omega), Int.toNat_natCast, ax.1, if_neg (x_k6 h' x hx)]
      unfold zJ57_39 zJ57_40 zJ57_82
      rw [if_pos (show (-1 : Int) < 0 by decide)]
    have e26 : ∀ r : Int, B 0 x = 7 → zJ57_26 n (zL57_4 n k) r x m = zJ57_83 n (zL57_4 n k) r x (if 0 ≤ lastF A (B 1 x) N ∧ dpt (A 5 (lastF A (B 1 x) N).toNat) (A 6 (lastF A (B 1 x) N).toNat) = dpt (B 5 x) (B 6 x) then 1 else 0) m := by
      intro r q7
      unfold zJ57_26 zJ57_40 zJ57_82 zJ57_78
      rw [if_neg (by omega), Int.toNat_natCast, ax.2.1, m46 n hn h hA]
      dsimp only
      rcases lastF_s A (B 1 x) N with ⟨b1, b2⟩ | ⟨f, b1, b2, b3, b4, b5⟩
      · rw [b1, if_pos (by decide), if_neg (fun c => absurd c.1 (by decide))]
      · have af := hA f (by omega)
        rw [if_pos rfl] at af
        rw [b2, if_neg (show ¬ (f : Int) < 0 by omega), if_neg (show ¬ ((f : Int) < 0 ∨ 128 ≤ (f : Int)) by omega), Int.toNat_natCast, af.2.2.2.2.2.1, af.2.2.2.2.2.2, m56]
        dsimp only
        rw [if_neg (show ¬ ((x : Int) < 0 ∨ 128 ≤ (x : Int)) by omega), ax.2.2.2.2.1, ax.2.2.2.2.2, m56]
        dsimp only
        by_cases qd : dpt (A 5 f) (A 6 f) = dpt (B 5 x) (B 6 x)
        · rw [if_pos qd, if_pos ⟨by omega, qd⟩]
        · rw [if_neg qd, if_neg (fun c => qd c.2)]
    have hW : B 0 x = 7 → (W x ↔ ¬ (0 ≤ lastF A (B 1 x) N ∧ dpt (A 5 (lastF A (B 1 x) N).toNat) (A 6 (lastF A (B 1 x) N).toNat) = dpt (B 5 x) (B 6 x))) := by
      intro q7
      rcases lastF_s A (B 1 x) N with ⟨b1, b2⟩ | ⟨f, b1, b2, b3, b4, b5⟩
      · rw [b1]
        exact ⟨fun _ c => absurd c.1 (by decide), fun _ => ⟨q7, fun f a1 a2 a3 => absurd ⟨a2, a3⟩ (b2 f a1)⟩⟩
      · rw [b2, Int.toNat_natCast]
        refine ⟨fun c d => c.2 f b1 b3 b4 d.2, fun c => ⟨q7, fun f' a1 a2 a3 d => c ⟨by omega, ?_⟩⟩⟩
        have : f' = f := by
          rcases Nat.lt_trichotomy f' f with g | g | g
          · exact absurd ⟨f', f, g, b1, a2, b3, by rw [a3, b4]⟩ ht
          · exact g
          · exact absurd ⟨f, f', g, a1, b3, a2, by rw [a3, b4]⟩ ht
        rw [← this]; exact d
    have u105 := e105 k x hx
    refine ⟨fun c => ?_, fun c => ?_, ?_⟩
    · rw [start]
      by_cases q7 : B 0 x = 7
      · rw [if_pos q7, e26 1 q7, h83, if_neg (by decide)]
        have w : W x := by
          rcases c with c | c
          · exact c
          · exact absurd c.1 (by omega)
        rw [if_neg ((hW q7).1 w), if_pos ⟨q7, rfl⟩]
      · rw [if_neg q7, h83, if_neg (by decide), if_neg (fun d => q7 d.1)]
        rcases c with c | c
        · exact absurd c.1 q7
        · exact u105.1 c
    · rw [start]
      by_cases q7 : B 0 x = 7
      · rw [if_pos q7, e26 1 q7, h83, if_neg (by decide)]
        have w : ¬ W x := fun d => c (Or.inl d)
        have w2 : 0 ≤ lastF A (B 1 x) N ∧ dpt (A 5 (lastF A (B 1 x) N).toNat) (A 6 (lastF A (B 1 x) N).toNat) = dpt (B 5 x) (B 6 x) := Classical.byContradiction fun d => w ((hW q7).2 d)
        rw [if_pos w2, if_neg (fun d => absurd d.2 (by decide))]
        exact u105.2 (fun d => c (Or.inr d))
      · rw [if_neg q7, h83, if_neg (by decide), if_neg (fun d => q7 d.1)]
        exact u105.2 (fun d => c (Or.inr d))
    · rw [start]
      by_cases q7 : B 0 x = 7
      · rw [if_pos q7, e26 0 q7, h83, if_pos rfl]
      · rw [if_neg q7, h83, if_pos rfl]
  unfold zF57
  have hh := lp_acc (fun k r x => zL57_4 n k r x m) m 1 0 NB (fun x => W x ∨ U x) (fun k r hr => by
      have ax := hB NB (by omega)
      rw [if_neg (by decide)] at ax
      show zL57_4 n (k + 1) r NB m = _
      rw [zL57_4, if_neg (by omega), Int.toNat_natCast, ax.1, if_pos h'.2.2.2.1, if_pos (by omega)]) (fun k x hx => (e1 k x hx).2.2) (fun k x hx hq => (e1 k x hx).1 hq) (fun k x hx hq => (e1 k x hx).2.1 hq) n 0 (by omega) (by omega)
  rcases hh.2 with ⟨g1, q, a1, a2, a3⟩ | ⟨g1, g2⟩
  · refine Or.inl ⟨g1, ?_⟩
    rcases a3 with c | c
    · exact Or.inl ⟨q, a2, c.1, c.2⟩
    · exact Or.inr ⟨q, a2, c.1, c.2⟩
  · refine Or.inr ⟨g1, ?_⟩
    rintro (⟨q, c1, c2, c3⟩ | ⟨q, c1, c2, c3⟩)
    · exact g2 q (by omega) c1 (Or.inl ⟨c2, c3⟩)
    · exact g2 q (by omega) c1 (Or.inr ⟨c2, c3⟩)
end
