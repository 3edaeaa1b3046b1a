/-! What a body writes is balanced. -/
def sm : OL → Int
  | [] => 0
  | x :: l => br x.1 + sm l
def pf : Int → OL → Prop
  | h, [] => 0 ≤ h
  | h, x :: l => 0 ≤ h ∧ pf (h + br x.1) l
theorem sm_app (l l' : OL) : sm (l ++ l') = sm l + sm l' := by
  induction l with
  | nil => show sm l' = 0 + sm l'; omega
  | cons x l ih => show br x.1 + sm (l ++ l') = br x.1 + sm l + sm l'; omega
theorem pf_app (l l' : OL) : ∀ h : Int, pf h (l ++ l') ↔ pf h l ∧ pf (h + sm l) l' := by
  induction l with
  | nil =>
    intro h
    show pf h l' ↔ 0 ≤ h ∧ pf (h + 0) l'
    rw [Int.add_zero]
    refine ⟨fun w => ⟨?_, w⟩, fun w => w.2⟩
    cases l' with
    | nil => exact w
    | cons x l' => exact w.1
  | cons x l ih =>
    intro h
    show (0 ≤ h ∧ pf (h + br x.1) (l ++ l')) ↔ (0 ≤ h ∧ pf (h + br x.1) l) ∧ pf (h + (br x.1 + sm l)) l'
    rw [ih (h + br x.1), show h + br x.1 + sm l = h + (br x.1 + sm l) by omega]
    exact ⟨fun w => ⟨⟨w.1, w.2.1⟩, w.2.2⟩, fun w => ⟨w.1.1, w.1.2, w.2⟩⟩
theorem pf_m (l : OL) : ∀ h h' : Int, h ≤ h' → pf h l → pf h' l := by
  induction l with
  | nil => intro h h' hh w; have w : 0 ≤ h := w; show 0 ≤ h'; omega
  | cons x l ih => intro h h' hh w; exact ⟨by have := w.1; omega, ih _ _ (by omega) w.2⟩
/-- balanced, and all of it tokens -/
def OK0 (l : OL) : Prop := sm l = 0 ∧ pf 0 l ∧ ∀ x ∈ l, vt x.1
theorem OK0_n : OK0 [] := ⟨rfl, Int.le_refl _, fun x hx => (by cases hx)⟩
theorem OK0_a {l l' : OL} (h : OK0 l) (h' : OK0 l') : OK0 (l ++ l') := by
  obtain ⟨a1, a2, a3⟩ := h
  obtain ⟨b1, b2, b3⟩ := h'
  refine ⟨by rw [sm_app]; omega, (pf_app l l' 0).2 ⟨a2, by rw [a1]; exact b2⟩, fun x hx => ?_⟩
  rcases List.mem_append.1 hx with c | c
  · exact a3 x c
  · exact b3 x c
theorem OK0_1 (c k : Int) (hc : vt c) (hb : br c = 0) : OK0 [(c, k)] := by
  refine ⟨by show br c + 0 = 0; omega, ⟨Int.le_refl _, by show 0 ≤ 0 + br c; omega⟩, fun x hx => ?_⟩
  rw [List.mem_singleton.1 hx]
  exact hc
theorem oap_s {x y : Option OL} {l : OL} (h : oap x y = some l) : ∃ l1 l2, x = some l1 ∧ y = some l2 ∧ l = l1 ++ l2 := by
  cases x with
  | none => rw [oap_n] at h; cases h
  | some l1 =>
    cases y with
    | none => cases h
    | some l2 =>
      cases h
      exact ⟨l1, l2, rfl, rfl, rfl⟩
theorem rpt_ok {sep : OL} {body : Nat → Option OL} (hs : OK0 sep) (hb : ∀ i l, body i = some l → OK0 l) : ∀ (k i : Nat) (l : OL), rpt sep body k i = some l → OK0 l := by
  intro k
  induction k with
  | zero => intro i l h; cases h; exact OK0_n
  | succ k ih =>
    intro i l h
    rw [rpt] at h
    obtain ⟨l1, l2, h1, h2, rfl⟩ := oap_s h
    obtain ⟨l3, l4, h3, h4, rfl⟩ := oap_s h2
    cases h1
    refine OK0_a ?_ (OK0_a (hb i l3 h3) (ih (i + 1) l4 h4))
    split
    · exact OK0_n
    · exact hs
theorem rpo_ok {v : Int} {sep : OL} {body : Nat → Option OL} (hs : OK0 sep) (hb : ∀ i l, body i = some l → OK0 l) (l : OL) (h : rpo v sep body = some l) : OK0 l := by
  unfold rpo at h
  split at h
  · cases h
  · exact rpt_ok hs hb _ _ l h
theorem wpt_ok {C : Nat → Int} {Y B : Nat → Nat → Int} {NB j0 y : Nat} {mk : Int} (h' : RX false C Y B NB j0 y) (hC : ∀ p, 0 < C p → vt (C p)) (hX : BBX B NB) (rep : Nat → Option OL) (el : Nat → OL) (e0 t : Nat) (htN : t ≤ NB) (hR : Rng B e0 t)
    (hrep : ∀ e : Nat, e0 ≤ e → e < t → top B e0 e → B 0 e = 4 → ∀ l, rep e = some l → OK0 l) (hel : ∀ e : Nat, e0 ≤ e → e < t → B 0 e = 0 → el e = [(B 1 e, mk)]) (hus : ∀ e : Nat, e0 ≤ e → e < t → B 0 e = 7 → OK0 (el e)) :
    ∀ (k e : Nat) (l : OL), e0 ≤ e → e ≤ t → top B e0 e → wpt B rep el t k e = some l → sm l = dB B t - dB B e ∧ (∀ h : Int, (∀ q : Nat, e ≤ q → q ≤ t → 0 ≤ h + (dB B q - dB B e)) → pf h l) ∧ ∀ x ∈ l, vt x.1 := by
  intro k
  induction k with
  | zero => intro e l _ _ _ h; cases h
  | succ k ih =>
    intro e l h1 h2 hT h
    rw [wpt] at h
    by_cases qe : t ≤ e
    · have : e = t := by omega
      subst this
      rw [if_pos qe] at h
      cases h
      refine ⟨by show (0 : Int) = _; omega, fun hh w => ?_, fun x hx => (by cases hx)⟩
      have := w e (Nat.le_refl _) (Nat.le_refl _)
      show 0 ≤ hh
      omega
    rw [if_neg qe] at h
    by_cases q4 : B 0 e = 4
    · rw [if_pos q4] at h
      obtain ⟨l1, l2, g1, g2, rfl⟩ := oap_s h
      obtain ⟨t', t1, t2, t3, t4, _⟩ := x_beg h' e (by omega) q4
      have htt := hR.2 e h1 (by omega) q4
      rw [t1, Int.toNat_natCast] at g2
      obtain ⟨a1, a2, a3⟩ := hrep e h1 (by omega) hT q4 l1 g1
      obtain ⟨b1, b2, b3⟩ := ih (t' + 1) l2 (by omega) (by omega) (top_j h' hT (by omega) q4 t1) g2
      have hx := (hX.2.2 e t' (by omega) q4 t1).1
      have hd : dB B (t' + 1) = dB B t' := by
        rw [dB, if_neg (by omega)]
        omega
      refine ⟨by rw [sm_app]; omega, fun hh w => ?_, fun x hx => ?_⟩
      · have w0 := w e (Nat.le_refl _) h2
        refine (pf_app l1 l2 hh).2 ⟨pf_m l1 0 hh (by omega) a2, b2 _ (fun q q1 q2 => ?_)⟩
        have := w q (by omega) q2
        omega
      · rcases List.mem_append.1 hx with c | c
        · exact a3 x c
        · exact b3 x c
    · rw [if_neg q4] at h
      obtain ⟨l1, l2, g1, g2, rfl⟩ := oap_s h
      have g1 : el e = l1 := by cases g1; rfl
      have q5 := top_5 h' e0 t e hR h1 (by omega) htN hT
      obtain ⟨b1, b2, b3⟩ := ih (e + 1) l2 (by omega) (by omega) (top_s hT q4) g2
      by_cases q7 : B 0 e = 7
      · obtain ⟨a1, a2, a3⟩ := hus e h1 (by omega) q7
        rw [g1] at a1 a2 a3
        have hd : dB B (e + 1) = dB B e := by
          rw [dB, if_neg (by omega)]
          omega
        refine ⟨by rw [sm_app]; omega, fun hh w => ?_, fun x hx => ?_⟩
        · have w0 := w e (Nat.le_refl _) h2
          refine (pf_app l1 l2 hh).2 ⟨pf_m l1 0 hh (by omega) a2, b2 _ (fun q q1 q2 => ?_)⟩
          have := w q (by omega) q2
          omega
        · rcases List.mem_append.1 hx with c | c
          · exact a3 x c
          · exact b3 x c
      · have ek := x_e h' e (by omega)
        have kb := h'.2.2.2.2.2.2.2.2.2.2.2.2.2.1 rfl e (by omega)
        have k0 : B 0 e = 0 := by
          rcases ek.2.2.2.2.2.1 with c | c | c | c | c | c | c
          · exact c
          · exact absurd c kb.1
          · exact absurd c kb.2
          · exact absurd c (x_b3 h' e (by omega))
          · exact absurd c q4
          · exact absurd c q5
          · exact absurd c q7
        have hc := ek.2.2.2.2.2.2.1 (Or.inl k0)
        rw [hel e h1 (by omega) k0] at g1
        subst g1
        have hd : dB B (e + 1) = dB B e + br (B 1 e) := by
          rw [dB, if_pos k0]
        refine ⟨by rw [sm_app]; show br (B 1 e) + 0 + sm l2 = _; omega, fun hh w => ?_, fun x hx => ?_⟩
        · have w0 := w e (Nat.le_refl _) h2
          have w1 := w (e + 1) (by omega) (by omega)
          refine ⟨by omega, b2 _ (fun q q1 q2 => ?_)⟩
          have := w q (by omega) q2
          show 0 ≤ hh + br (B 1 e) + _
          omega
        · rcases List.mem_append.1 hx with c | c
          · rw [List.mem_singleton.1 c]
            show vt (B 1 e)
            have := hC (B 7 e).toNat (by rw [hc.1]; exact hc.2.1)
            rw [hc.1] at this
            exact this
          · exact b3 x c
/-- tokens p .. p + k - 1 of a row are balanced -/
theorem slc_sm (X K : Nat → Int) (p : Nat) : ∀ k : Nat, sm (slc X K p k) = Dp X (p + k) - Dp X p := by
  intro k
  induction k with
  | zero => show (0 : Int) = Dp X (p + 0) - Dp X p; rw [Nat.add_zero]; omega
  | succ k ih =>
    rw [slc, sm_app, ih, show p + (k + 1) = p + k + 1 by omega]
    show _ + (br (X (p + k)) + 0) = Dp X (p + k) + br (X (p + k)) - Dp X p
    omega
theorem slc_pf (X K : Nat → Int) (p : Nat) (h : Int) : ∀ k : Nat, (∀ q : Nat, q ≤ k → 0 ≤ h + (Dp X (p + q) - Dp X p)) → pf h (slc X K p k) := by
  intro k
  induction k with
  | zero => intro w; have := w 0 (Nat.le_refl _); rw [Nat.add_zero] at this; show 0 ≤ h; omega
  | succ k ih =>
    intro w
    rw [slc, pf_app, slc_sm]
    refine ⟨ih (fun q hq => w q (by omega)), ?_, ?_⟩
    · exact w k (by omega)
    · have := w (k + 1) (Nat.le_refl _)
      have e1 : Dp X (p + (k + 1)) = Dp X (p + k) + br (X (p + k)) := rfl
      show 0 ≤ h + (Dp X (p + k) - Dp X p) + br (X (p + k))
      omega
theorem slc_mem (X K : Nat → Int) (p : Nat) : ∀ (k : Nat) (x : Int × Int), x ∈ slc X K p k → ∃ q : Nat, p ≤ q ∧ q < p + k ∧ x = (X q, K q) := by
  intro k
  induction k with
  | zero => intro x hx; cases hx
  | succ k ih =>
    intro x hx
    rw [slc] at hx
    rcases List.mem_append.1 hx with c | c
    · obtain ⟨q, q1, q2, q3⟩ := ih x c
      exact ⟨q, q1, by omega, q3⟩
    · exact ⟨p + k, by omega, by omega, List.mem_singleton.1 c⟩
section
variable {C : Nat → Int} {Y A B : Nat → Nat → Int} {N i0 z NB j0 y : Nat} {mk : Int} {κ : List EN} {S : Nat} {X K : Nat → Int} {s : (Nat → Int) × (Nat → Int → Int)}
theorem uo_ok (hv : ∀ p : Nat, p < S → vt (X p)) (k4 : Int) (p v : Nat) (hpv : p ≤ v) (hvS : v ≤ S) (hT : TB X p v) : OK0 (uo X K mk k4 p v) := by
  have h1 : OK0 (slc X K p (v - p)) := by
    refine ⟨?_, slc_pf X K p 0 (v - p) (fun q hq => ?_), fun x hx => ?_⟩
    · rw [slc_sm, show p + (v - p) = v by omega, hT.1]
      omega
    · have := hT.2 (p + q) (by omega) (by omega)
      omega
    · obtain ⟨q, q1, q2, rfl⟩ := slc_mem X K p (v - p) x hx
      exact hv q (by omega)
  unfold uo
  split
  · obtain ⟨a1, a2, a3⟩ := h1
    have e1 : br 40 = 1 := by decide
    have e2 : br 41 = -1 := by decide
    refine ⟨?_, ⟨Int.le_refl _, ?_⟩, fun x hx => ?_⟩
    · show br 40 + sm (slc X K p (v - p) ++ [(41, mk)]) = 0
      rw [sm_app, a1]
      show br 40 + (0 + (br 41 + 0)) = 0
      omega
    · show pf (0 + br 40) (slc X K p (v - p) ++ [(41, mk)])
      rw [pf_app, a1]
      refine ⟨pf_m _ 0 _ (by omega) a2, ?_, ?_⟩
      · omega
      · show 0 ≤ 0 + br 40 + 0 + br 41
        omega
    · rcases List.mem_cons.1 hx with rfl | c
      · show vt 40
        exact Or.inr (Or.inr ⟨by decide, by decide⟩)
      · rcases List.mem_append.1 c with d | d
        · exact a3 x d
        · rw [List.mem_singleton.1 d]
          show vt 41
          exact Or.inr (Or.inr ⟨by decide, by decide⟩)
  · exact h1
theorem w0_ok (h' : RX false C Y B NB j0 y) (hC : ∀ p, 0 < C p → vt (C p)) (hX : BBX B NB) (hv : ∀ p : Nat, p < S → vt (X p)) (hκ : ∀ x ∈ κ, x.2.2.2.1 ≤ x.2.2.2.2 ∧ x.2.2.2.2 ≤ S ∧ TB X x.2.2.2.1 x.2.2.2.2) (l : OL) (h : w0o A N B NB X K mk κ s = some l) : OK0 l := by
  have hu : ∀ (o : Int) (nn e : Nat), B 0 e = 7 → OK0 (elo A N B X K mk κ o nn e) := by
    intro o nn e h7
    rw [elo_7 o nn e h7]
    cases hf : fnd (Fg A N B e) o nn κ with
    | none => exact OK0_n
    | some x =>
      have hx := hκ x (fnd_mem κ nn x hf)
      exact uo_ok hv _ _ _ hx.1 hx.2.1 hx.2.2
  have hse : ∀ e : Nat, e < NB → B 0 e = 4 → OK0 (sepo B mk (B 2 e).toNat) := by
    intro e he h4
    obtain ⟨t, t1, t2, t3, t4, _⟩ := x_beg h' e he h4
    rw [t1, Int.toNat_natCast]
    unfold sepo
    split
    · exact OK0_n
    · rename_i c
      have ek := ((x_e h' t t3).2.2.2.2.2.2.2.2.2.2 t4).2.2.2.2.2.2
      rcases ek with d | d
      · exact absurd d.1 c
      · obtain ⟨d1, d2, d3, d4, d5, _⟩ := d
        have hcv : vt (B 3 t) := by
          have := hC ((B 7 t).toNat + 1) (by rw [← d1]; exact d2)
          rw [← d1] at this
          exact this
        refine OK0_1 _ _ hcv ?_
        unfold br
        rw [if_neg d4, if_neg d5]
  have rnd : ∀ (rep : Nat → Option OL) (o : Int) (nn e : Nat), e < NB → B 0 e = 4 → (∀ q : Nat, e + 1 ≤ q → q < (B 2 e).toNat → top B (e + 1) q → B 0 q = 4 → ∀ l, rep q = some l → OK0 l) → ∀ l, wpt B rep (elo A N B X K mk κ o nn) (B 2 e).toNat 130 (e + 1) = some l → OK0 l := by
    intro rep o nn e he h4 hrep l hl
    obtain ⟨t, t1, t2, t3, t4, _⟩ := x_beg h' e he h4
    rw [t1, Int.toNat_natCast] at hl hrep
    obtain ⟨a1, a2, a3⟩ := wpt_ok h' hC hX rep _ (e + 1) t (by omega) (Rng_r h' e t he h4 t1) hrep (fun q _ _ q0 => elo_0 o nn q q0) (fun q _ _ q7 => hu o nn q q7) 130 (e + 1) l (Nat.le_refl _) (by omega) (top_0 _) hl
    obtain ⟨x1, x2⟩ := hX.2.2 e t he h4 t1
    have hd : dB B (e + 1) = dB B e := by
      rw [dB, if_neg (by omega)]
      omega
    refine ⟨by omega, a2 0 (fun q q1 q2 => ?_), a3⟩
    have := x2 q (by omega) q2
    omega
  have h2 : ∀ (o : Int) (e : Nat), e < NB → B 0 e = 4 → 0 ≤ B 5 e → ∀ l, r2o A N B X K mk κ s o e = some l → OK0 l := by
    intro o e he h4 h5 l hl
    unfold r2o at hl
    refine rpo_ok (hse e he h4) (fun i l hl => ?_) l hl
    refine rnd (fun _ => none) o i e he h4 (fun q _ _ _ _ l hl => (by cases hl)) l hl
  have h1 : ∀ (e : Nat), e < NB → B 0 e = 4 → B 5 e < 0 → ∀ l, r1o A N B X K mk κ s e = some l → OK0 l := by
    intro e he h4 h5 l hl
    unfold r1o at hl
    refine rpo_ok (hse e he h4) (fun i l hl => ?_) l hl
    refine rnd (r2o A N B X K mk κ s i) i 0 e he h4 (fun q q1 q2 _ q4 l hl => ?_) l hl
    obtain ⟨t, t1, t2, t3, t4, _⟩ := x_beg h' e he h4
    have := b_nest h' e q t he h4 t1 (by omega) (by omega) q4
    exact h2 i q (by omega) q4 (by omega) l hl
  unfold w0o at h
  obtain ⟨a1, a2, a3⟩ := wpt_ok h' hC hX _ _ 0 NB (Nat.le_refl _) (Rng_0 h') (fun q q1 q2 qT q4 l hl => by
    by_cases q5 : B 5 q < 0
    · exact h1 q q2 q4 q5 l hl
    · exfalso
      obtain ⟨c, hc⟩ : ∃ c : Nat, B 5 q = c := ⟨(B 5 q).toNat, by omega⟩
      obtain ⟨g1, g2, g3, g4⟩ := h'.1.n1 q c (by omega) hc
      obtain ⟨t2, u1, _⟩ := x_beg h' c (by omega) g1
      have := qT c (Nat.zero_le _) g3 g1
      omega) (fun q _ _ q0 => elo_0 0 0 q q0) (fun q _ _ q7 => hu 0 0 q q7) 130 0 l (Nat.le_refl _) (by omega) (top_0 _) h
  have hd : dB B 0 = 0 := rfl
  refine ⟨by rw [a1, hX.1, hd]; omega, a2 0 (fun q _ q2 => ?_), a3⟩
  have := hX.2.1 q q2
  omega
end
