/-! The pure reading of rows against the class's automaton: what ties elements to places. -/
/-- the place of the innermost repetition -/
def innf (A : Nat → Nat → Int) (u v : Int) : Int := if 0 ≤ v then A 7 v.toNat else if 0 ≤ u then A 7 u.toNat else -1
/-- how many repetitions begin before element e -/
def ordf (A : Nat → Nat → Int) : Nat → Int
  | 0 => 0
  | e + 1 => ordf A e + (if A 0 e = 4 then 1 else 0)
def lnf (A : Nat → Nat → Int) (e : Nat) : Int := if A 0 e = 3 then 4 else if A 0 e = 4 ∨ A 0 e = 7 then 2 else if A 0 e = 5 then (if A 3 e = 0 then 2 else 3) else 1
/-- what is known of element e, of n, and of its place in the class's arrays -/
def EK (pat : Bool) (C : Nat → Int) (Y A : Nat → Nat → Int) (n e : Nat) : Prop :=
  0 ≤ A 7 e ∧ -1 ≤ A 5 e ∧ A 5 e < e ∧ -1 ≤ A 6 e ∧ A 6 e < e ∧
  (A 0 e = 0 ∨ A 0 e = 1 ∨ A 0 e = 2 ∨ A 0 e = 3 ∨ A 0 e = 4 ∨ A 0 e = 5 ∨ A 0 e = 7) ∧
  (A 0 e = 0 ∨ A 0 e = 1 ∨ A 0 e = 2 → C (A 7 e).toNat = A 1 e ∧ 0 < A 1 e ∧ A 1 e ≠ 36 ∧ (A 1 e = 41 → 0 ≤ Y 2 (A 7 e).toNat ∧ (Y 2 (A 7 e).toNat = 0 ∨ C (Y 2 (A 7 e).toNat - 1).toNat ≠ 36))) ∧
  (A 0 e = 3 → pat = true ∧ C (A 7 e).toNat = 36 ∧ C ((A 7 e).toNat + 1) = A 1 e ∧ wd (A 1 e) ∧ C ((A 7 e).toNat + 2) = 58 ∧ knd (C ((A 7 e).toNat + 3)) ∧ A 4 e = r_kd (C ((A 7 e).toNat + 3)) ∧ Y 3 (A 7 e).toNat = innf A (A 5 e) (A 6 e)) ∧
  (A 0 e = 7 → pat = false ∧ C (A 7 e).toNat = 36 ∧ C ((A 7 e).toNat + 1) = A 1 e ∧ wd (A 1 e) ∧ Y 3 (A 7 e).toNat = innf A (A 5 e) (A 6 e)) ∧
  (A 0 e = 4 → C (A 7 e).toNat = 36 ∧ C ((A 7 e).toNat + 1) = 40 ∧ Y 3 (A 7 e).toNat = innf A (A 5 e) (A 6 e) ∧ A 6 e = -1 ∧ (pat = true → Y 5 (A 7 e).toNat = ordf A e) ∧
    (A 2 e = -1 ∨ ((e : Int) < A 2 e ∧ A 2 e < n ∧ A 0 (A 2 e).toNat = 5 ∧ A 2 (A 2 e).toNat = e ∧ Y 2 ((A 7 e).toNat + 1) = A 7 (A 2 e).toNat ∧ Y 4 (A 7 e).toNat = A 7 (A 2 e).toNat + (if A 3 (A 2 e).toNat = 0 then 1 else 2) ∧ (pat = true → A 3 e = A 3 (A 2 e).toNat ∧ A 4 e = A 4 (A 2 e).toNat)))) ∧
  (A 0 e = 5 → C (A 7 e).toNat = 41 ∧ 0 ≤ A 2 e ∧ A 2 e < e ∧ A 0 (A 2 e).toNat = 4 ∧ A 2 (A 2 e).toNat = e ∧ Y 2 (A 7 e).toNat = A 7 (A 2 e).toNat + 1 ∧
    ((A 3 e = 0 ∧ (C ((A 7 e).toNat + 1) = 42 ∨ C ((A 7 e).toNat + 1) = 43 ∨ C ((A 7 e).toNat + 1) = 63) ∧ A 4 e = r_mk (C ((A 7 e).toNat + 1))) ∨
     (A 3 e = C ((A 7 e).toNat + 1) ∧ 0 < A 3 e ∧ A 3 e ≠ 36 ∧ ¬ opn (A 3 e) ∧ ¬ cls (A 3 e) ∧ (C ((A 7 e).toNat + 2) = 42 ∨ C ((A 7 e).toNat + 2) = 43) ∧ A 4 e = r_mk (C ((A 7 e).toNat + 2)))))
/-- places stay in their order -/
def PL (A : Nat → Nat → Int) (n : Nat) (i0 i : Int) : Prop := (n = 0 → i = i0 + 1) ∧ (0 < n → A 7 0 = i0 + 1 ∧ A 7 (n - 1) + lnf A (n - 1) = i) ∧ ∀ e : Nat, e + 1 < n → A 7 e + lnf A e = A 7 (e + 1)
theorem lnf_pos (A : Nat → Nat → Int) (e : Nat) : 1 ≤ lnf A e ∧ lnf A e ≤ 4 := by
  unfold lnf
  repeat' split
  all_goals omega
theorem PL_lt {A : Nat → Nat → Int} {n : Nat} {i0 i : Int} (h : PL A n i0 i) : ∀ k e : Nat, e + k < n → A 7 e + k ≤ A 7 (e + k) ∧ (0 < k → A 7 e + lnf A e ≤ A 7 (e + k)) := by
  intro k
  induction k with
  | zero => intro e he; exact ⟨by show A 7 e + ((0 : Nat) : Int) ≤ A 7 e; omega, by omega⟩
  | succ k ih =>
    intro e he
    have h1 := h.2.2 e (by omega)
    have h2 := ih (e + 1) (by omega)
    have h3 := lnf_pos A e
    rw [show e + 1 + k = e + (k + 1) by omega] at h2
    exact ⟨by omega, fun _ => by omega⟩
theorem PL_in {A : Nat → Nat → Int} {n : Nat} {i0 i : Int} (h : PL A n i0 i) (e : Nat) (he : e < n) : i0 < A 7 e ∧ A 7 e + lnf A e ≤ i := by
  have h0 := h.2.1 (by omega)
  have a1 := (PL_lt h e 0 (by omega)).1
  rw [Nat.zero_add] at a1
  by_cases q : e = n - 1
  · subst q
    exact ⟨by omega, by omega⟩
  · have a2 := (PL_lt h (n - 1 - e) e (by omega)).2 (by omega)
    rw [show e + (n - 1 - e) = n - 1 by omega] at a2
    have := lnf_pos A (n - 1)
    exact ⟨by omega, by omega⟩
/-- changes of the arrays that touch nothing known -/
def YK (Y Y' : Nat → Nat → Int) (i : Nat) : Prop := ∀ p : Nat, p < i → Y' 3 p = Y 3 p ∧ Y' 5 p = Y 5 p ∧ Y' 1 p = Y 1 p ∧ (Y 2 p ≠ -1 → Y' 2 p = Y 2 p) ∧ (Y 4 p ≠ -1 → Y' 4 p = Y 4 p)
def AK (A A' : Nat → Nat → Int) (n b : Nat) : Prop := (∀ a e : Nat, e < n → e ≠ b → A' a e = A a e) ∧ ∀ a e : Nat, e < n → (a ≠ 2 ∧ a ≠ 3 ∧ a ≠ 4) → A' a e = A a e
theorem innf_k {A A' : Nat → Nat → Int} {n b : Nat} (h : AK A A' n b) (u v : Int) (hu : u < n) (hv : v < n) : innf A' u v = innf A u v := by
  unfold innf
  by_cases q : 0 ≤ v
  · rw [if_pos q, if_pos q]; exact h.2 7 _ (by omega) (by omega)
  · rw [if_neg q, if_neg q]
    by_cases q2 : 0 ≤ u
    · rw [if_pos q2, if_pos q2]; exact h.2 7 _ (by omega) (by omega)
    · rw [if_neg q2, if_neg q2]
theorem ordf_k {A A' : Nat → Nat → Int} {n b : Nat} (h : AK A A' n b) : ∀ e : Nat, e ≤ n → ordf A' e = ordf A e := by
  intro e
  induction e with
  | zero => intro _; rfl
  | succ e ih =>
    intro he
    rw [ordf, ordf, ih (by omega), h.2 0 e (by omega) (by omega)]
theorem EK_k {pat : Bool} {C : Nat → Int} {Y Y' A A' : Nat → Nat → Int} {n n' e b i : Nat} {i0 : Int} (hp : PL A n i0 i) (h0 : -1 ≤ i0) (hk : EK pat C Y A n e) (he : e < n) (hn : n ≤ n') (hY : YK Y Y' i) (hA : AK A A' n b) (hb : (A 0 b = 4 ∧ A 2 b = -1) ∨ n ≤ b) (heb : e ≠ b) : EK pat C Y' A' n' e := by
  have hin := PL_in hp e he
  have hln := lnf_pos A e
  obtain ⟨k1, k2, k3, k4, k5, k6, k7, k8, k9, k10, k11⟩ := hk
  have e7 : A' 7 e = A 7 e := hA.1 7 e he heb
  have e0 : A' 0 e = A 0 e := hA.1 0 e he heb
  have e1 : A' 1 e = A 1 e := hA.1 1 e he heb
  have e2 : A' 2 e = A 2 e := hA.1 2 e he heb
  have e3 : A' 3 e = A 3 e := hA.1 3 e he heb
  have e4 : A' 4 e = A 4 e := hA.1 4 e he heb
  have e5 : A' 5 e = A 5 e := hA.1 5 e he heb
  have e6 : A' 6 e = A 6 e := hA.1 6 e he heb
  have einn : innf A' (A 5 e) (A 6 e) = innf A (A 5 e) (A 6 e) := innf_k hA _ _ (by omega) (by omega)
  have eord : ordf A' e = ordf A e := ordf_k hA e (by omega)
  have ey := hY (A 7 e).toNat (by omega)
  unfold EK
  rw [e0, e1, e2, e3, e4, e5, e6, e7, einn, eord]
  refine ⟨k1, k2, k3, k4, k5, k6, ?_, ?_, ?_, ?_, ?_⟩
  · intro z
    obtain ⟨a1, a2, a3, a4⟩ := k7 z
    refine ⟨a1, a2, a3, fun w => ?_⟩
    have := a4 w
    rw [ey.2.2.2.1 (by omega)]
    exact this
  · intro z
    rw [ey.1]
    exact k8 z
  · intro z
    rw [ey.1]
    exact k9 z
  · intro z
    obtain ⟨a1, a2, a3, a4, a5, a6⟩ := k10 z
    rw [ey.1]
    refine ⟨a1, a2, a3, a4, fun w => by rw [ey.2.1]; exact a5 w, ?_⟩
    rcases a6 with a6 | ⟨b1, b2, b3, b4, b5, b6, b7⟩
    · exact Or.inl a6
    · right
      have hx : (A 2 e).toNat < n := by omega
      have hxb : (A 2 e).toNat ≠ b := by
        intro w
        rcases hb with hb | hb
        · rw [w] at b3; have := hb.1; omega
        · omega
      have l2 : lnf A e = 2 := by unfold lnf; rw [if_neg (by omega), if_pos (Or.inl z)]
      have ey1 := hY ((A 7 e).toNat + 1) (by omega)
      have hin2 := PL_in hp _ hx
      rw [hA.1 0 _ hx hxb, hA.1 2 _ hx hxb, hA.1 3 _ hx hxb, hA.1 4 _ hx hxb, hA.1 7 _ hx hxb, ey1.2.2.2.1 (by omega), ey.2.2.2.2 (by rw [b6]; split <;> omega)]
      exact ⟨b1, by omega, b3, b4, b5, b6, b7⟩
  · intro z
    obtain ⟨a1, a2, a3, a4, a5, a6, a7⟩ := k11 z
    have hx : (A 2 e).toNat < n := by omega
    have hin2 := PL_in hp _ hx
    by_cases hxb : (A 2 e).toNat = b
    · exfalso
      rcases hb with hb | hb
      · rw [hxb] at a5; have := hb.2; omega
      · omega
    · rw [hA.1 0 _ hx hxb, hA.1 2 _ hx hxb, hA.1 7 _ hx hxb, ey.2.2.2.1 (by omega)]
      exact ⟨a1, a2, a3, a4, a5, a6, a7⟩
/-- the elements of a row that is being read -/
def XA (pat : Bool) (C : Nat → Int) (i0 i n : Nat) (q : Int) (A Y : Nat → Nat → Int) : Prop := PL A n i0 i ∧ (∀ e : Nat, e < n → EK pat C Y A n e) ∧ (∀ p : Nat, p < i → Y 1 p = C p) ∧ q = ordf A n ∧ 1 ≤ i ∧ C (i - 1) ≠ 36
theorem AK_add (A : Nat → Nat → Int) (n : Nat) (k c mk u v p : Int) (b : Nat) : AK A (r_add A n k c mk u v p) n b := by
  have : ∀ a e : Nat, e < n → r_add A n k c mk u v p a e = A a e := by
    intro a e he
    unfold r_add
    rw [if_neg (by omega)]
  exact ⟨fun a e he _ => this a e he, fun a e he _ => this a e he⟩
theorem XA_add {pat : Bool} {C : Nat → Int} {i0 i n : Nat} {q : Int} {A Y Y' : Nat → Nat → Int} (h : XA pat C i0 i n q A Y) (k c mk u v : Int) (len : Nat) (hY : YK Y Y' i) (hk : EK pat C Y' (r_add A n k c mk u v i) (n + 1) n) (hl : lnf (r_add A n k c mk u v i) n = len) (hlen : 1 ≤ len) (hc : ∀ p : Nat, p < i + len → Y' 1 p = C p) (h36 : C (i + len - 1) ≠ 36) :
    XA pat C i0 (i + len) (n + 1) (q + (if k = 4 then 1 else 0)) (r_add A n k c mk u v i) Y' := by
  obtain ⟨h1, h2, h3, h4, h5, h6⟩ := h
  have hAK := AK_add A n k c mk u v i n
  have ea : ∀ a e : Nat, e < n → r_add A n k c mk u v i a e = A a e := by
    intro a e he
    unfold r_add
    rw [if_neg (by omega)]
  have en : r_add A n k c mk u v i 7 n = i := by simp [r_add]
  have el : ∀ e : Nat, e < n → lnf (r_add A n k c mk u v i) e = lnf A e := by
    intro e he
    unfold lnf
    rw [ea 0 e he, ea 3 e he]
  refine ⟨⟨by omega, fun _ => ⟨?_, ?_⟩, ?_⟩, ?_, hc, ?_, by omega, h36⟩
  · by_cases z : n = 0
    · subst z
      rw [en]
      have := h1.1 rfl
      omega
    · rw [ea 7 0 (by omega)]
      exact (h1.2.1 (by omega)).1
  · rw [show n + 1 - 1 = n by omega, en, hl]
    omega
  · intro e he
    by_cases z : e + 1 = n
    · rw [z, en, ea 7 e (by omega), el e (by omega)]
      have := (h1.2.1 (by omega)).2
      rw [show n - 1 = e by omega] at this
      exact this
    · rw [ea 7 e (by omega), ea 7 (e + 1) (by omega), el e (by omega)]
      exact h1.2.2 e (by omega)
  · intro e he
    by_cases z : e = n
    · subst z; exact hk
    · exact EK_k h1 (by omega) (h2 e (by omega)) (by omega) (by omega) hY hAK (Or.inr (Nat.le_refl n)) z
  · rw [ordf, ordf_k hAK n (Nat.le_refl n), ← h4]
    have : r_add A n k c mk u v i 0 n = k := by simp [r_add]
    rw [this]
