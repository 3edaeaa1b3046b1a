/-! Expressions. -/
/-- one token of an expression: how deep, and is an operand wanted -/
def st1 (c : Int) (d : Int) (w : Bool) : Option (Int × Bool) :=
  if 300 ≤ c then (if w = true then some (d, false) else none)
  else if c = 40 then (if w = true ∧ d + 1 ≤ 6 then some (d + 1, true) else none)
  else if c = 41 then (if w = false then some (d - 1, false) else none)
  else if w = false ∧ (c = 43 ∨ c = 42) then some (d, true) else none
/-- k tokens are good, never less deep than L -/
def GC (X : Nat → Int) (L : Int) : Nat → Nat → Int → Bool → Int → Bool → Prop
  | 0, _, d, w, d', w' => d = d' ∧ w = w' ∧ L ≤ d
  | k + 1, p, d, w, d', w' => L ≤ d ∧ ∃ d1 w1, st1 (X p) d w = some (d1, w1) ∧ GC X L k (p + 1) d1 w1 d' w'
/-- k tokens are good, the next one isn't -/
def BC (X : Nat → Int) (L : Int) : Nat → Nat → Int → Bool → Prop
  | 0, p, d, w => L ≤ d ∧ st1 (X p) d w = none
  | k + 1, p, d, w => L ≤ d ∧ ∃ d1 w1, st1 (X p) d w = some (d1, w1) ∧ BC X L k (p + 1) d1 w1
theorem GC_GC (X : Nat → Int) (L : Int) : ∀ (k k' p : Nat) (d : Int) (w : Bool) (d1 : Int) (w1 : Bool) (d2 : Int) (w2 : Bool), GC X L k p d w d1 w1 → GC X L k' (p + k) d1 w1 d2 w2 → GC X L (k + k') p d w d2 w2 := by
  intro k
  induction k with
  | zero =>
    intro k' p d w d1 w1 d2 w2 h1 h2
    obtain ⟨rfl, rfl, _⟩ := h1
    rw [Nat.zero_add]; exact h2
  | succ k ih =>
    intro k' p d w d1 w1 d2 w2 h1 h2
    obtain ⟨a1, d3, w3, a2, a3⟩ := h1
    rw [show k + 1 + k' = (k + k') + 1 by omega]
    exact ⟨a1, d3, w3, a2, ih k' (p + 1) d3 w3 d1 w1 d2 w2 a3 (by rw [show p + 1 + k = p + (k + 1) by omega]; exact h2)⟩
theorem GC_BC (X : Nat → Int) (L : Int) : ∀ (k k' p : Nat) (d : Int) (w : Bool) (d1 : Int) (w1 : Bool), GC X L k p d w d1 w1 → BC X L k' (p + k) d1 w1 → BC X L (k + k') p d w := by
  intro k
  induction k with
  | zero =>
    intro k' p d w d1 w1 h1 h2
    obtain ⟨rfl, rfl, _⟩ := h1
    rw [Nat.zero_add]; exact h2
  | succ k ih =>
    intro k' p d w d1 w1 h1 h2
    obtain ⟨a1, d3, w3, a2, a3⟩ := h1
    rw [show k + 1 + k' = (k + k') + 1 by omega]
    exact ⟨a1, d3, w3, a2, ih k' (p + 1) d3 w3 d1 w1 a3 (by rw [show p + 1 + k = p + (k + 1) by omega]; exact h2)⟩
theorem GC_L (X : Nat → Int) (L L' : Int) (hL : L' ≤ L) : ∀ (k p : Nat) (d : Int) (w : Bool) (d1 : Int) (w1 : Bool), GC X L k p d w d1 w1 → GC X L' k p d w d1 w1 := by
  intro k
  induction k with
  | zero => intro p d w d1 w1 h; exact ⟨h.1, h.2.1, by have := h.2.2; omega⟩
  | succ k ih =>
    intro p d w d1 w1 h
    obtain ⟨a1, d3, w3, a2, a3⟩ := h
    exact ⟨by omega, d3, w3, a2, ih _ _ _ _ _ a3⟩
theorem BC_L (X : Nat → Int) (L L' : Int) (hL : L' ≤ L) : ∀ (k p : Nat) (d : Int) (w : Bool), BC X L k p d w → BC X L' k p d w := by
  intro k
  induction k with
  | zero => intro p d w h; exact ⟨by have := h.1; omega, h.2⟩
  | succ k ih =>
    intro p d w h
    obtain ⟨a1, d3, w3, a2, a3⟩ := h
    exact ⟨by omega, d3, w3, a2, ih _ _ _ a3⟩
theorem GC_end (X : Nat → Int) (L : Int) : ∀ (k p : Nat) (d : Int) (w : Bool) (d1 : Int) (w1 : Bool), GC X L k p d w d1 w1 → L ≤ d1 := by
  intro k
  induction k with
  | zero => intro p d w d1 w1 h; have := h.2.2; have := h.1; omega
  | succ k ih =>
    intro p d w d1 w1 h
    obtain ⟨a1, d3, w3, a2, a3⟩ := h
    exact ih _ _ _ _ _ a3
/-- what an operand at p is -/
def OPX (X : Nat → Int) (dep : Int) (p : Nat) (r : Int) : Prop :=
  (r = -1 ∧ ((¬ 300 ≤ X p ∧ (X p ≠ 40 ∨ 6 ≤ dep)) ∨ (X p = 40 ∧ dep < 6 ∧ ∃ k, BC X (dep + 1) k (p + 1) (dep + 1) true))) ∨
  (300 ≤ X p ∧ r = (p : Int) + 1) ∨
  (X p = 40 ∧ dep < 6 ∧ ∃ k : Nat, r = (p : Int) + k + 2 ∧ GC X (dep + 1) k (p + 1) (dep + 1) true (dep + 1) false ∧ X (p + 1 + k) = 41)
theorem OPX_b {X : Nat → Int} {dep : Int} {p : Nat} (h : OPX X dep p (-1)) : ∃ k, BC X dep k p dep true := by
  rcases h with ⟨_, h | ⟨h1, h2, k, h3⟩⟩ | ⟨_, h⟩ | ⟨_, _, k, h, _⟩
  · refine ⟨0, by omega, ?_⟩
    unfold st1
    rw [if_neg h.1]
    by_cases c : X p = 40
    · rw [if_pos c, if_neg (show ¬ ((true : Bool) = true ∧ dep + 1 ≤ 6) from fun d => by have := d.2; omega)]
    · rw [if_neg c]
      by_cases c2 : X p = 41
      · rw [if_pos c2, if_neg (by decide)]
      · rw [if_neg c2, if_neg (show ¬ ((true : Bool) = false ∧ (X p = 43 ∨ X p = 42)) from fun d => absurd d.1 (by decide))]
  · refine ⟨k + 1, by omega, dep + 1, true, ?_, BC_L X (dep + 1) dep (by omega) k _ _ _ h3⟩
    unfold st1
    rw [h1, if_neg (by decide), if_pos rfl, if_pos ⟨rfl, by omega⟩]
  · omega
  · omega
theorem OPX_g {X : Nat → Int} {dep r : Int} {p : Nat} (h : OPX X dep p r) (hr : r ≠ -1) : ∃ k : Nat, 1 ≤ k ∧ r = (p : Int) + k ∧ GC X dep k p dep true dep false := by
  rcases h with ⟨h, _⟩ | ⟨h1, h⟩ | ⟨h1, h2, k, h3, h4, h5⟩
  · exact absurd h hr
  · refine ⟨1, by omega, by omega, by omega, dep, false, ?_, rfl, rfl, by omega⟩
    unfold st1
    rw [if_pos h1, if_pos rfl]
  · refine ⟨k + 2, by omega, by omega, ?_⟩
    have e1 : GC X dep 1 p dep true (dep + 1) true := by
      refine ⟨by omega, dep + 1, true, ?_, rfl, rfl, by omega⟩
      unfold st1
      rw [h1, if_neg (by decide), if_pos rfl, if_pos ⟨rfl, by omega⟩]
    have e2 := GC_L X (dep + 1) dep (by omega) k _ _ _ _ _ h4
    have e3 : GC X dep 1 (p + 1 + k) (dep + 1) false dep false := by
      refine ⟨by omega, dep, false, ?_, rfl, rfl, by omega⟩
      unfold st1
      rw [h5, if_neg (by decide), if_neg (by decide), if_pos rfl, if_pos rfl]
      congr 2
      omega
    have e4 := GC_GC X dep 1 k p _ _ _ _ _ _ e1 e2
    have e5 := GC_GC X dep (1 + k) 1 p _ _ _ _ _ _ e4 (by rw [show p + (1 + k) = p + 1 + k by omega]; exact e3)
    rw [show 1 + k + 1 = k + 2 by omega] at e5
    exact e5
abbrev sgx (c : Int) : Prop := c = 43 ∨ c = 42
/-- an expression goes on from e, and ends at r -/
def EXX (X : Nat → Int) (dep : Int) : Nat → Nat → Int → Prop
  | 0, _, _ => False
  | f + 1, e, r => (¬ sgx (X e) ∧ r = e) ∨ (sgx (X e) ∧ OPX X dep (e + 1) (-1) ∧ r = e) ∨ (sgx (X e) ∧ ∃ e' : Nat, OPX X dep (e + 1) e' ∧ EXX X dep f e' r)
theorem EXX_e (X : Nat → Int) (dep : Int) : ∀ (f e : Nat) (r : Int), EXX X dep f e r → ∃ k : Nat, r = (e : Int) + k ∧ GC X dep k e dep false dep false ∧ (¬ sgx (X (e + k)) ∨ ∃ k', BC X dep k' (e + k) dep false) := by
  intro f
  induction f with
  | zero => intro e r h; exact absurd h not_false
  | succ f ih =>
    intro e r h
    rcases h with ⟨h1, h2⟩ | ⟨h1, h2, h3⟩ | ⟨h1, e', h2, h3⟩
    · exact ⟨0, by omega, ⟨rfl, rfl, by omega⟩, Or.inl h1⟩
    · refine ⟨0, by omega, ⟨rfl, rfl, by omega⟩, Or.inr ?_⟩
      obtain ⟨k, hk⟩ := OPX_b h2
      refine ⟨k + 1, by omega, dep, true, ?_, hk⟩
      rw [show e + 0 = e from rfl]
      unfold st1
      rw [if_neg (by omega), if_neg (by omega), if_neg (by omega), if_pos ⟨rfl, h1⟩]
    · obtain ⟨k, a1, a2, a3⟩ := OPX_g h2 (by omega)
      obtain ⟨k2, b1, b2, b3⟩ := ih e' r h3
      have he : e' = e + 1 + k := by omega
      subst he
      refine ⟨1 + k + k2, by omega, ?_, ?_⟩
      · have s1 : GC X dep 1 e dep false dep true := by
          refine ⟨by omega, dep, true, ?_, rfl, rfl, by omega⟩
          unfold st1
          rw [if_neg (by omega), if_neg (by omega), if_neg (by omega), if_pos ⟨rfl, h1⟩]
        have e4 := GC_GC X dep 1 k e _ _ _ _ _ _ s1 a3
        exact GC_GC X dep (1 + k) k2 e _ _ _ _ _ _ e4 (by rw [show e + (1 + k) = e + 1 + k by omega]; exact b2)
      · rw [show e + (1 + k + k2) = e + 1 + k + k2 by omega]
        exact b3
section
variable {X : Nat → Int} {r S n : Nat} {m : ZM}
/-- the class's operand and expression -/
theorem c158 (hR : RTk r S X m) (hr : isR r) (h6 : m.2.1 16 6 = some r) (zgg : Int → Int → ZM → Option (Int × ZM)) (dep : Nat) (hdep : dep ≤ 6)
    (hz : dep < 6 → ∀ p : Nat, p ≤ S → ∃ v : Int, zgg p ((dep : Int) + 1) m = some (v, m) ∧ ((v = -1 ∧ OPX X ((dep : Int) + 1) p (-1)) ∨ ∃ e : Nat, e ≤ S ∧ OPX X ((dep : Int) + 1) p e ∧ ∃ f, EXX X ((dep : Int) + 1) f e v))
    (p : Nat) (hp : p ≤ S) : ∃ v : Int, zG158 n zgg p dep m = some (v, m) ∧ OPX X dep p v ∧ (v = -1 ∨ ((p : Int) < v ∧ v ≤ S)) := by
  have hcod := fun p => c170 hR n p
  have hv : ¬ 300 ≤ X p ∨ (wd (X p) ∨ nmb (X p)) ∧ p < S := by
    by_cases q : p < S
    · have := (hR.2.2.1 p q).2
      by_cases c : 300 ≤ X p
      · right
        refine ⟨?_, q⟩
        rcases this with d | d | d
        · exact Or.inl d.1
        · exact Or.inr ⟨d.1, by omega⟩
        · omega
      · exact Or.inl c
    · left
      have := hR.2.2.2 p (by omega)
      omega
  have st : zG158 n zgg p dep m = if wd (X p) then zJ158_23 n zgg p m else if nmb (X p) then zJ158_23 n zgg p m else if X p = 40 then (if (dep : Int) < 6 then zJ158_41 n zgg p dep m else zJ158_39 n zgg m) else zJ158_39 n zgg m := by
    unfold zG158
    rw [h6]
    dsimp only
    rw [if_pos hr, hcod]
    dsimp only
    rw [zF11_eq]
    dsimp only
    rw [ib]
    unfold zJ158_16
    rw [zF12_eq]
    dsimp only
    rw [ib]
  have hS := hR.2.1
  by_cases c3 : 300 ≤ X p
  · obtain ⟨hw, hpS⟩ : (wd (X p) ∨ nmb (X p)) ∧ p < S := by
      rcases hv with d | d
      · exact absurd c3 d
      · exact d
    refine ⟨(p : Int) + 1, ?_, Or.inr (Or.inl ⟨c3, rfl⟩), Or.inr (by omega)⟩
    have e23 : zJ158_23 n zgg p m = some ((p : Int) + 1, m) := by
      unfold zJ158_23
      rw [if_pos (by omega)]
    rw [st, e23]
    rcases hw with d | d
    · rw [if_pos d]
    · by_cases d2 : wd (X p)
      · rw [if_pos d2]
      · rw [if_neg d2, if_pos d]
  have n1 : ¬ wd (X p) := by omega
  have n2 : ¬ nmb (X p) := by omega
  rw [if_neg n1, if_neg n2] at st
  by_cases c4 : X p = 40
  · rw [if_pos c4] at st
    by_cases c6 : dep < 6
    · rw [if_pos (by omega)] at st
      have hpS : p < S := by
        by_cases q : p < S
        · exact q
        · have := hR.2.2.2 p (by omega)
          omega
      obtain ⟨v, e1, e2⟩ := hz c6 (p + 1) (by omega)
      rw [show ((p + 1 : Nat) : Int) = (p : Int) + 1 by omega] at e1
      rcases e2 with ⟨e2, e3⟩ | ⟨e, he, e2, f, e3⟩
      · refine ⟨-1, ?_, Or.inl ⟨rfl, Or.inr ⟨c4, by omega, OPX_b e3⟩⟩, Or.inl rfl⟩
        rw [st]
        unfold zJ158_41
        rw [if_pos (by omega), e1]
        dsimp only
        rw [if_pos e2]
        rfl
      · obtain ⟨k, a1, a2, a3⟩ := OPX_g e2 (by omega)
        obtain ⟨k2, b1, b2, b3⟩ := EXX_e X _ f e v e3
        have he2 : e = p + 1 + k := by omega
        subst he2
        have gg := GC_GC X _ k k2 (p + 1) _ _ _ _ _ _ a3 b2
        have hvN : v = ((p + 1 + k + k2 : Nat) : Int) := by omega
        have s1 : zJ158_41 n zgg p dep m = if X (p + 1 + k + k2) = 41 then zJ158_73 n zgg v m else zJ158_80 n zgg m := by
          unfold zJ158_41
          rw [if_pos (by omega), e1]
          dsimp only
          rw [if_neg (by omega), h6]
          dsimp only
          rw [if_pos hr, hvN, hcod]
        by_cases c41 : X (p + 1 + k + k2) = 41
        · have hlt : p + 1 + k + k2 < S := by
            by_cases q : p + 1 + k + k2 < S
            · exact q
            · have := hR.2.2.2 (p + 1 + k + k2) (by omega)
              omega
          refine ⟨v + 1, ?_, Or.inr (Or.inr ⟨c4, by omega, k + k2, by omega, gg, by rw [show p + 1 + (k + k2) = p + 1 + k + k2 by omega]; exact c41⟩), Or.inr (by omega)⟩
          rw [st, s1, if_pos c41]
          unfold zJ158_73 zJ158_81
          rw [if_pos (by omega)]
        · refine ⟨-1, by rw [st, s1, if_neg c41]; rfl, Or.inl ⟨rfl, Or.inr ⟨c4, by omega, ?_⟩⟩, Or.inl rfl⟩
          have bad : ∃ k', BC X ((dep : Int) + 1) k' (p + 1 + k + k2) ((dep : Int) + 1) false := by
            rcases b3 with b3 | b3
            · refine ⟨0, by omega, ?_⟩
              unfold st1
              by_cases d1 : 300 ≤ X (p + 1 + k + k2)
              · rw [if_pos d1, if_neg (by decide)]
              rw [if_neg d1]
              by_cases d2 : X (p + 1 + k + k2) = 40
              · rw [if_pos d2, if_neg (show ¬ ((false : Bool) = true ∧ (dep : Int) + 1 + 1 ≤ 6) from fun d => absurd d.1 (by decide))]
              rw [if_neg d2, if_neg c41, if_neg (fun d => b3 d.2)]
            · exact b3
          obtain ⟨k', hk'⟩ := bad
          exact ⟨k + k2 + k', GC_BC X _ (k + k2) k' (p + 1) _ _ _ _ gg (by rw [show p + 1 + (k + k2) = p + 1 + k + k2 by omega]; exact hk')⟩
    · rw [if_neg (by omega)] at st
      exact ⟨-1, st, Or.inl ⟨rfl, Or.inl ⟨c3, Or.inr (by omega)⟩⟩, Or.inl rfl⟩
  · rw [if_neg c4] at st
    exact ⟨-1, st, Or.inl ⟨rfl, Or.inl ⟨c3, Or.inl c4⟩⟩, Or.inl rfl⟩
theorem c157 (hn : 200 ≤ n) (hR : RTk r S X m) (hr : isR r) (h6 : m.2.1 16 6 = some r) : ∀ (f dep : Nat), dep ≤ 6 → 7 ≤ f + dep → ∀ p : Nat, p ≤ S → ∃ v : Int, zK157 n f p dep m = some (v, m) ∧ ((v = -1 ∧ OPX X dep p (-1)) ∨ ∃ e : Nat, e ≤ S ∧ OPX X dep p e ∧ ∃ f, EXX X dep f e v) := by
  have hcod := fun p => c170 hR n p
  have hS := hR.2.1
  intro f
  induction f with
  | zero => intro dep h1 h2; omega
  | succ f ih =>
    intro dep h1 h2 p hp
    have hop := fun (p : Nat) (hp : p ≤ S) => c158 (n := n) hR hr h6 (zK157 n f) dep h1 (fun hd p hp => by
      have := ih (dep + 1) (by omega) (by omega) p hp
      rw [show ((dep + 1 : Nat) : Int) = (dep : Int) + 1 by omega] at this
      exact this) p hp
    have lp : ∀ (g i e : Nat), 151 ≤ g + i → e ≤ S → 2 * i ≤ e → ∃ v : Int, ∀ b : Int, zL157_13 n (zK157 n f) g dep b e i m = some (v, m) ∧ ∃ f', EXX X dep f' e v := by
      intro g
      induction g with
      | zero => intro i e a1 a2 a3; omega
      | succ g ihg =>
        intro i e a1 a2 a3
        have stp : ∀ b : Int, zL157_13 n (zK157 n f) (g + 1) dep b e i m = zJ157_40 n (zK157 n f) (zL157_13 n (zK157 n f) g) dep e i (X e) m := by
          intro b
          rw [zL157_13, if_neg (by omega), if_neg (by omega), h6]
          dsimp only
          rw [if_pos hr, hcod]
        have fin : ∀ (g' : Nat) (b : Int), zL157_13 n (zK157 n f) (g' + 1) dep b (-1) ((i : Int) + 1) m = some (b, m) := by
          intro g' b
          rw [zL157_13]
          unfold zJ157_74
          by_cases q : 150 ≤ (i : Int) + 1
          · rw [if_pos q]
          · rw [if_neg q, if_pos rfl]
        obtain ⟨g', rfl⟩ : ∃ g', g = g' + 1 := ⟨g - 1, by omega⟩
        by_cases cs : sgx (X e)
        · have heS : e < S := by
            by_cases q : e < S
            · exact q
            · have := hR.2.2.2 e (by omega)
              rcases cs with d | d <;> omega
          obtain ⟨v, e1, e2, e3⟩ := hop (e + 1) (by omega)
          rw [show ((e + 1 : Nat) : Int) = (e : Int) + 1 by omega] at e1
          have s2 : zJ157_40 n (zK157 n f) (zL157_13 n (zK157 n f) (g' + 1)) dep e i (X e) m = zL157_13 n (zK157 n f) (g' + 1) dep e v ((i : Int) + 1) m := by
            have s54 : zJ157_54 n (zK157 n f) (zL157_13 n (zK157 n f) (g' + 1)) dep e i m = zL157_13 n (zK157 n f) (g' + 1) dep e v ((i : Int) + 1) m := by
              unfold zJ157_54 zJ157_66
              rw [if_pos (by omega), e1]
              dsimp only
              rw [if_pos (by omega)]
            unfold zJ157_40
            rw [s54]
            rcases cs with d | d
            · rw [if_pos d]
            · rw [if_neg (by omega), if_pos d]
          by_cases cv : v = -1
          · subst cv
            refine ⟨e, fun b => ⟨?_, 1, Or.inr (Or.inl ⟨cs, e2, rfl⟩)⟩⟩
            rw [stp, s2]
            exact fin g' e
          · obtain ⟨e', he'⟩ : ∃ e' : Nat, v = e' := ⟨v.toNat, by omega⟩
            subst he'
            obtain ⟨v', hv'⟩ := ihg (i + 1) e' (by omega) (by omega) (by omega)
            refine ⟨v', fun b => ?_⟩
            obtain ⟨w1, f', w2⟩ := hv' e
            rw [show ((i + 1 : Nat) : Int) = (i : Int) + 1 by omega] at w1
            exact ⟨by rw [stp, s2]; exact w1, f' + 1, Or.inr (Or.inr ⟨cs, e', e2, w2⟩)⟩
        · refine ⟨e, fun b => ⟨?_, 1, Or.inl ⟨cs, rfl⟩⟩⟩
          rw [stp]
          unfold zJ157_40 zJ157_66
          rw [if_neg (fun d => cs (Or.inl d)), if_neg (fun d => cs (Or.inr d)), if_pos (by omega)]
          exact fin g' e
    obtain ⟨v, e1, e2, e3⟩ := hop p hp
    rw [zK157]
    have st : zG157 n (zK157 n f) p dep m = zL157_13 n (zK157 n f) n dep v v ((0 : Nat) : Int) m := by
      unfold zG157
      rw [e1]
      rfl
    rw [st]
    by_cases cv : v = -1
    · subst cv
      refine ⟨-1, ?_, Or.inl ⟨rfl, e2⟩⟩
      obtain ⟨n', rfl⟩ : ∃ n', n = n' + 1 := ⟨n - 1, by omega⟩
      rw [zL157_13, if_neg (by omega), if_pos rfl]
      rfl
    · obtain ⟨e', he'⟩ : ∃ e' : Nat, v = e' := ⟨v.toNat, by omega⟩
      subst he'
      obtain ⟨v', hv'⟩ := lp n 0 e' (by omega) (by omega) (by omega)
      obtain ⟨w1, f', w2⟩ := hv' e'
      exact ⟨v', w1, Or.inr ⟨e', by omega, e2, f', w2⟩⟩
end
