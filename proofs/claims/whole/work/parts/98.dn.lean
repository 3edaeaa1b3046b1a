/-! An arm is checked. -/
def eA (C : Nat → Int) (i : Nat) : Nat → Nat → Int := (armP C i).2.2.2.2.2.2.2.2
def eN (C : Nat → Int) (i : Nat) : Nat := (armP C i).2.2.2.2.2.2.1 - 1
def eB (C : Nat → Int) (i : Nat) : Nat → Nat → Int := (armB C i).2.2.2.2.2.2.2.2
def eM (C : Nat → Int) (i : Nat) : Nat := (armB C i).2.2.2.2.2.2.1 - 1
def eZ (C : Nat → Int) (i : Nat) : Nat := (armP C i).2.1 - 1
def eY (C : Nat → Int) (i : Nat) : Nat := (armB C i).2.1 - 1
/-- what the checks of an arm answer -/
def ckr (C : Nat → Int) (i : Nat) (r : Int) : Prop :=
  (r = -1000 ∧ tw (eA C i) (eN C i)) ∨ (¬ tw (eA C i) (eN C i) ∧
  ((r = -1001 ∧ ∃ e : Nat, e < eN C i ∧ em (eA C i) e) ∨ ((∀ e : Nat, e < eN C i → ¬ em (eA C i) e) ∧
  ((r = -1002 ∧ ∃ e : Nat, e < eN C i ∧ lx (eA C i) (eN C i) e) ∨ ((∀ e : Nat, e < eN C i → ¬ lx (eA C i) (eN C i) e) ∧
  ((r = -1003 ∧ (wu (eA C i) (eN C i) (eB C i) (eM C i) ∨ ur (eB C i) (eM C i))) ∨ (r = 0 ∧ ¬ (wu (eA C i) (eN C i) (eB C i) (eM C i) ∨ ur (eB C i) (eM C i)))))))))
theorem ex_no {N : Nat} {Q : Nat → Prop} (h1 : ∃ e : Nat, e < N ∧ Q e) (h2 : ∀ e : Nat, e < N → ¬ Q e) : False := by
  obtain ⟨e, a, b⟩ := h1
  exact h2 e a b
theorem ckr_fun {C : Nat → Int} {i : Nat} {r r' : Int} (h : ckr C i r) (h' : ckr C i r') : r = r' := by
  rcases h with ⟨a1, a2⟩ | ⟨a2, h⟩ <;> rcases h' with ⟨b1, b2⟩ | ⟨b2, h'⟩
  · rw [a1, b1]
  · exact absurd a2 b2
  · exact absurd b2 a2
  rcases h with ⟨a1, a2⟩ | ⟨a2, h⟩ <;> rcases h' with ⟨b1, b2⟩ | ⟨b2, h'⟩
  · rw [a1, b1]
  · exact absurd (ex_no a2 b2) not_false
  · exact absurd (ex_no b2 a2) not_false
  rcases h with ⟨a1, a2⟩ | ⟨a2, h⟩ <;> rcases h' with ⟨b1, b2⟩ | ⟨b2, h'⟩
  · rw [a1, b1]
  · exact absurd (ex_no a2 b2) not_false
  · exact absurd (ex_no b2 a2) not_false
  rcases h with ⟨a1, a2⟩ | ⟨a1, a2⟩ <;> rcases h' with ⟨b1, b2⟩ | ⟨b1, b2⟩
  · rw [a1, b1]
  · exact absurd a2 b2
  · exact absurd b2 a2
  · rw [a1, b1]
section
variable {C : Nat → Int} {Y : Nat → Nat → Int} {i : Nat} {m : ZM} {n b sz a u : Nat} {P : Nat → Nat}
theorem RM_p (h : RM C i Y) : RX true C Y (eA C i) (eN C i) i (eZ C i) := h.1
theorem RM_b (h : RM C i Y) : RX false C Y (eB C i) (eM C i) (eZ C i + 1) (eY C i) := by
  have := h.2.1
  have h1 := h.2.2.1
  have e : eZ C i + 1 = (armP C i).2.1 := by unfold eZ; omega
  rw [e]
  exact this
theorem RM_z (h : RM C i Y) (hsz : (armB C i).2.1 ≤ sz) : eZ C i + 1 < sz ∧ eY C i < sz ∧ eZ C i + 1 < eY C i := by
  have := (RM_b h).2.2.2.2.2.2.1
  have h1 := h.2.2.2.1
  have : eY C i + 1 = (armB C i).2.1 := by unfold eY; omega
  omega
theorem w9_hi {b c k : Nat} (hb : isD b) (hc : b ≤ c) : wl w91 c k = false := by
  have := isD_ge hb
  unfold wl w91
  simp
  omega
theorem c91 (hn : 200 ≤ n) (hb : isD b) (hD : DM b sz a C Y P m) (hu : u < a) (hP : P u = i) (h : RM C i Y) (hsz : (armB C i).2.1 ≤ sz) : ∃ r m', zF91 n b u m = some (r, m') ∧ ckr C i r ∧ kp (wl w91) m m' ∧ DM b sz a C Y P m' := by
  have hp := RM_p h
  have hbd := RM_b h
  have hz := RM_z h hsz
  suffices hs : ∃ r m', zF91 n b u m = some (r, m') ∧ ckr C i r by
    obtain ⟨r, m', e1, e2⟩ := hs
    have g := zF91_kp n b u m _ _ e1
    exact ⟨r, m', e1, e2, g, DM_kp hD g (fun c k h1 _ => w9_hi hb h1)⟩
  rcases c92 (n := n) hn hD hu hP hp hz.1 with ⟨e1, e2⟩ | ⟨e1, e2⟩
  · refine ⟨-1000, m, ?_, Or.inl ⟨rfl, e2⟩⟩
    unfold zF91
    rw [e1]
    dsimp only
    rw [if_neg (by decide)]
  rcases c93 (n := n) hn hD hu hP hp hz.1 with ⟨f1, f2⟩ | ⟨f1, f2⟩
  · refine ⟨-1001, m, ?_, Or.inr ⟨e2, Or.inl ⟨rfl, f2⟩⟩⟩
    unfold zF91
    rw [e1]
    dsimp only
    rw [if_pos rfl, f1]
    dsimp only
    rw [if_neg (by decide)]
    rfl
  have s1 : zF91 n b u m = zJ91_24 n b u m := by
    unfold zF91
    rw [e1]
    dsimp only
    rw [if_pos rfl, f1]
    dsimp only
    rw [if_pos rfl]
  rcases c95 (n := n) hn hp f2 hb hz.1 m hD hu hP with ⟨m', g1, g2, g3⟩ | ⟨m', g1, g2, g3, g4⟩
  · refine ⟨-1002, m', ?_, Or.inr ⟨e2, Or.inr ⟨f2, Or.inl ⟨rfl, g3⟩⟩⟩⟩
    rw [s1]
    unfold zJ91_24
    rw [g1]
    dsimp only
    rw [if_neg (by decide)]
  have s2 : ∀ v m2, zF97 n b u m' = some (v, m2) → zJ91_24 n b u m = if v = 0 then zJ91_45 n b u m2 else zJ91_53 n b m2 := by
    intro v m2 hv
    unfold zJ91_24
    rw [g1]
    dsimp only
    rw [if_pos rfl, hv]
  rcases c97 (n := n) hn g3 hu hP hp hbd hz.2.1 e2 with ⟨h1, h2⟩ | ⟨h1, h2⟩
  · refine ⟨-1003, m', ?_, Or.inr ⟨e2, Or.inr ⟨f2, Or.inr ⟨g4, Or.inl ⟨rfl, Or.inl h2⟩⟩⟩⟩⟩
    rw [s1, s2 _ _ h1, if_neg (by decide)]
    rfl
  rcases c98 (n := n) hn g3 hu hP hp hbd hz.2.1 with ⟨k1, k2⟩ | ⟨k1, k2⟩
  · refine ⟨-1003, m', ?_, Or.inr ⟨e2, Or.inr ⟨f2, Or.inr ⟨g4, Or.inl ⟨rfl, Or.inr k2⟩⟩⟩⟩⟩
    rw [s1, s2 _ _ h1, if_pos rfl]
    unfold zJ91_45
    rw [k1]
    dsimp only
    rw [if_neg (by decide)]
    rfl
  · refine ⟨0, m', ?_, Or.inr ⟨e2, Or.inr ⟨f2, Or.inr ⟨g4, Or.inr ⟨rfl, ?_⟩⟩⟩⟩⟩
    · rw [s1, s2 _ _ h1, if_pos rfl]
      unfold zJ91_45
      rw [k1]
      dsimp only
      rw [if_pos rfl]
      rfl
    · rintro (d | d)
      · exact h2 d
      · exact k2 d
/-- the class's check of a definition: the first arm that fails -/
def ckd (C : Nat → Int) (a : Nat) (r : Int) : Prop := (r = 0 ∧ ∀ u : Nat, u < a → ckr C (armst C u) 0) ∨ (r ≠ 0 ∧ ∃ u : Nat, u < a ∧ ckr C (armst C u) r ∧ ∀ v : Nat, v < u → ckr C (armst C v) 0)
theorem ckd_fun {C : Nat → Int} {a : Nat} {r r' : Int} (h : ckd C a r) (h' : ckd C a r') : r = r' := by
  rcases h with ⟨a1, a2⟩ | ⟨a1, u, a2, a3, a4⟩ <;> rcases h' with ⟨b1, b2⟩ | ⟨b1, v, b2, b3, b4⟩
  · rw [a1, b1]
  · exact absurd (ckr_fun b3 (a2 v b2)) b1
  · exact absurd (ckr_fun a3 (b2 u a2)) a1
  · rcases Nat.lt_trichotomy u v with c | c | c
    · exact absurd (ckr_fun a3 (b4 u c)) a1
    · subst c; exact ckr_fun a3 b3
    · exact absurd (ckr_fun b3 (a4 v c)) b1
theorem c90 (hn : 200 ≤ n) (hb : isD b) (hD : DM b sz a C Y (armst C) m) (h : ∀ u : Nat, u < a → RM C (armst C u) Y ∧ (armB C (armst C u)).2.1 ≤ sz) : ∃ r m', zF90 n b m = some (r, m') ∧ ckd C a r ∧ kp (wl w90) m m' ∧ DM b sz a C Y (armst C) m' := by
  suffices hs : ∃ r m', zF90 n b m = some (r, m') ∧ ckd C a r by
    obtain ⟨r, m', e1, e2⟩ := hs
    have g := zF90_kp n b m _ _ e1
    exact ⟨r, m', e1, e2, g, DM_kp hD g (fun c k h1 _ => w9_hi hb h1)⟩
  have ha := hD.2.2.2.2.2.2.1
  have key : ∀ (f x : Nat) (m : ZM), DM b sz a C Y (armst C) m → a + 2 ≤ x + f → x ≤ a → (∀ v : Nat, v < x → ckr C (armst C v) 0) → ∃ r m', zL90_4 n b f 0 x m = some (r, m') ∧ ckd C a r := by
    intro f
    induction f with
    | zero => intro x m _ h1 h2; omega
    | succ f ih =>
      intro x m hD h1 h2 h3
      have h7 := hD.2.2.2.2.2.1
      by_cases q : x = a
      · subst q
        refine ⟨0, m, ?_, Or.inl ⟨rfl, h3⟩⟩
        rw [zL90_4, zF108_eq, h7]
        dsimp only
        rw [if_pos (by omega)]
        rfl
      · have hx : x < a := by omega
        obtain ⟨r, m1, e1, e2, e3, e4⟩ := c91 hn hb hD hx rfl (h x hx).1 (h x hx).2
        have s1 : zL90_4 n b (f + 1) 0 x m = zL90_4 n b f r ((x : Int) + 1) m1 := by
          rw [zL90_4, zF108_eq, h7]
          dsimp only
          rw [if_neg (by omega), if_pos rfl, e1]
          dsimp only
          unfold zJ90_23
          rw [if_pos (by omega)]
        rw [s1]
        by_cases q0 : r = 0
        · subst q0
          have := ih (x + 1) m1 e4 (by omega) (by omega) (fun v hv => by
            by_cases c : v = x
            · subst c; exact e2
            · exact h3 v (by omega))
          rw [show ((x + 1 : Nat) : Int) = (x : Int) + 1 by omega] at this
          exact this
        · refine ⟨r, m1, ?_, Or.inr ⟨q0, x, hx, e2, h3⟩⟩
          obtain ⟨f', rfl⟩ : ∃ f', f = f' + 1 := ⟨f - 1, by omega⟩
          rw [zL90_4, zF108_eq, e4.2.2.2.2.2.1]
          dsimp only
          by_cases q1 : (a : Int) ≤ (x : Int) + 1
          · rw [if_pos q1]; rfl
          · rw [if_neg q1, if_neg q0]; rfl
  obtain ⟨r, m', e1, e2⟩ := key n 0 m hD (by omega) (by omega) (fun v hv => by omega)
  exact ⟨r, m', e1, e2⟩
/-- the reference's check of an arm that has been read -/
theorem m_chk (hn : 200000 ≤ n) (h : RM C i Y) (hA : AA C i m) (rec : Int → Int → Int → ZM → Option (Int × ZM)) (x1 x2 : Int) (x3 : Nat) (hx3 : x3 < 100) :
    (zF47 n m = some (1, m) ∧ ckr C i (-1000)) ∨ (zF47 n m = some (0, m) ∧ ∃ r m', zJ58_58 n rec x1 x2 x3 m = (if r = 0 then rec x1 x2 ((x3 : Int) + 1) m' else some (r, m')) ∧ ckr C i r ∧ kp (wl w54) m m') := by
  have hp := RM_p h
  have hbd := RM_b h
  have hA1 : AX true m (eA C i) (eN C i + 1) := by
    have := hA.1
    have h5 := h.2.2.2.2.1
    rw [show eN C i + 1 = (armP C i).2.2.2.2.2.2.1 by unfold eN; omega]
    exact this
  have hB1 : AX false m (eB C i) (eM C i + 1) := by
    have := hA.2
    have h5 := h.2.2.2.2.2
    rw [show eM C i + 1 = (armB C i).2.2.2.2.2.2.1 by unfold eM; omega]
    exact this
  rcases m47 n (by omega) hp hA1 with ⟨e1, e2⟩ | ⟨e1, e2⟩
  · exact Or.inl ⟨e1, Or.inl ⟨rfl, e2⟩⟩
  refine Or.inr ⟨e1, ?_⟩
  rcases m48 (n := n) (by omega) hp hA1 with ⟨f1, f2⟩ | ⟨f1, f2⟩
  · refine ⟨-1001, m, ?_, Or.inr ⟨e2, Or.inl ⟨rfl, f2⟩⟩, kp_refl _ m⟩
    unfold zJ58_58
    rw [f1]
    dsimp only
    rw [if_neg (by decide), if_neg (by decide)]
  rcases m54 hn hp f2 m hA1 with ⟨m', g1, g2, g3⟩ | ⟨m', g1, g2, g3⟩
  · refine ⟨-1002, m', ?_, Or.inr ⟨e2, Or.inr ⟨f2, Or.inl ⟨rfl, g3⟩⟩⟩, g2⟩
    unfold zJ58_58
    rw [f1]
    dsimp only
    rw [if_pos rfl, g1]
    dsimp only
    rw [if_pos rfl, if_neg (by decide)]
    rfl
  have hA2 : AX true m' (eA C i) (eN C i + 1) := AX_kp hA1 g2 (fun c hc k => by
    unfold ca at hc
    rw [if_pos rfl] at hc
    unfold wl w54
    simp at hc ⊢
    omega)
  have hB2 : AX false m' (eB C i) (eM C i + 1) := AX_kp hB1 g2 (fun c hc k => by
    unfold ca at hc
    rw [if_neg (by decide)] at hc
    unfold wl w54
    simp at hc ⊢
    omega)
  have s1 : zJ58_58 n rec x1 x2 x3 m = zJ58_80 n rec x1 x2 x3 m' := by
    unfold zJ58_58
    rw [f1]
    dsimp only
    rw [if_pos rfl, g1]
    dsimp only
    rw [if_neg (by decide)]
  rcases m57 (n := n) (by omega) hp hA2 hbd hB2 e2 with ⟨h1, h2⟩ | ⟨h1, h2⟩
  · refine ⟨-1003, m', ?_, Or.inr ⟨e2, Or.inr ⟨f2, Or.inr ⟨g3, Or.inl ⟨rfl, h2⟩⟩⟩⟩, g2⟩
    rw [s1]
    unfold zJ58_80
    rw [h1]
    dsimp only
    rw [if_pos rfl, if_neg (by decide)]
  · refine ⟨0, m', ?_, Or.inr ⟨e2, Or.inr ⟨f2, Or.inr ⟨g3, Or.inr ⟨rfl, h2⟩⟩⟩⟩, g2⟩
    rw [s1]
    unfold zJ58_80
    rw [h1]
    dsimp only
    rw [if_neg (by decide), if_pos rfl, if_pos (by omega)]
end
