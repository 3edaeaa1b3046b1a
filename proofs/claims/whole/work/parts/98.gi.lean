/-! Repetitions of a body, the reference's side. -/
section
variable {C : Nat → Int} {Y A B : Nat → Nat → Int} {N i0 z NB j0 y : Nat} {n : Nat} {mk : Int} {κ : List EN} {S ks : Nat} {X K : Nat → Int} {s : (Nat → Int) × (Nat → Int → Int)}
theorem rdn_o {e : Nat} (h5 : B 5 e < 0) (o o' : Int) : rdn A N B s e o = rdn A N B s e o' := by
  have : rv A N B s e o = rv A N B s e o' := by
    funext q
    unfold rv
    rw [if_pos h5, if_pos h5]
  unfold rdn
  rw [this]
/-- a repetition of a body, the outer one -/
theorem m77o (hn : 2000 ≤ n) (h : RX true C Y A N i0 z) (h' : RX false C Y B NB j0 y) (ht : ¬ tw A N) (hw : ¬ wu A N B NB) (hks : ks ≤ 511) (hs : sbd 90000 s) (e t : Nat) (he : e < NB) (h4 : B 0 e = 4) (hte : B 2 e = t) (h5 : B 5 e < 0) (K1 K0 D : Nat) (hD : D = (t - (e + 1)) * K1) (Mx : Nat) (hMx : Mx ≤ 100000) (hK : (Mx + 1) * (D + 2) ≤ (t + 1 - e) * K0) (o : Int) (hr : rdn A N B s e o ≤ Mx) (body : Nat → Option OL)
    (hbody : ∀ (i : Nat) (L : OL) (m : ZM) (x4 x5 : Int), i ≤ Mx → (∃ k : Nat, x4 = (k : Int)) → RB A N B NB s ks κ S X K m → MK L m → L.length + D + 30000 ≤ 2000000000 → RW2 n mk (fun y2 y3 y4 _ => y2 = (i : Int) ∧ y3 = rdn A N B s e o ∧ ∃ k : Nat, y4 = (k : Int)) L (i : Int) (rdn A N B s e o) x4 x5 (e + 1) t D (body i) m)
    (L : OL) (m : ZM) (x2 x3 x4 x5 : Int) (hΦ : (fun _ _ y4 _ => ∃ k : Nat, y4 = (k : Int)) x2 x3 x4 x5) (ho : True) (hB : RB A N B NB s ks κ S X K m) (hM : MK L m) (hb : L.length + (t + 1 - e) * K0 + 30000 ≤ 2000000000) :
    RW2 n mk ((fun _ _ y4 _ => ∃ k : Nat, y4 = (k : Int))) L x2 x3 x4 x5 e (t + 1) ((t + 1 - e) * K0) (rpo (rdn A N B s e o) (sepo B mk t) body) m := by
  have hNB := x_N119 h'
  obtain ⟨t', h1, h2, h3, k5, h6, h7, h8, h9, h10, h11, _⟩ := x_beg h' e he h4
  have : t' = t := by omega
  subst this
  have be := hB.2.1 e (by omega)
  rw [if_neg (by decide)] at be
  have bt := hB.2.1 t' (by omega)
  rw [if_neg (by decide)] at bt
  obtain ⟨ρ, hρ⟩ : ∃ ρ, ρ = rdn A N B s e o := ⟨_, rfl⟩
  have hρr : ρ = -1 ∨ (0 ≤ ρ ∧ ρ ≤ 90000) := by rw [hρ]; exact rdn_r hs (by decide) e _
  rw [← hρ] at hr ⊢
  have hnx : ∀ (f : Nat) (q : Nat) (m2 : ZM) (w2 w3 w4 w5 : Int), zJ77_328 n (zL77_18 n f) mk w2 w3 w4 w5 (q : Int) m2 = zL77_18 n f mk w2 w3 w4 w5 (q : Int) m2 := fun _ _ _ _ _ _ _ => rfl
  have beg : ∀ f, zL77_18 n (f + 1) mk x2 x3 x4 x5 e m = if 0 ≤ ρ then (if ρ = 0 then zL77_18 n f mk 0 ρ x4 x5 ((t' + 1 : Nat) : Int) m else zL77_18 n f mk 0 ρ x4 x5 ((e + 1 : Nat) : Int) m) else some (0, m) := by
    intro f
    rw [s77 h' f x2 x3 x4 x5 e he m hB.2.1, h4, if_pos h5]
    unfold zJ77_54
    rw [if_neg (show ¬ (4 : Int) = 0 by decide), if_neg (show ¬ (4 : Int) = 7 by decide), if_pos rfl, m76 (by omega) h h' ht hw m hB.1 hB.2.1 ks hB.2.2.1 hks hs e he h4 x2, rdn_o h5 x2 o, ← hρ]
    dsimp only
    unfold zJ77_130 zJ77_158 zJ77_172 zJ77_185 zJ77_198 zJ77_209 zJ77_328
    rw [if_neg (show ¬ ((e : Int) < 0 ∨ 128 ≤ (e : Int)) by omega), Int.toNat_natCast, be.2.2.1, h1, if_pos (show rg ((t' : Int) + 1) by omega), if_pos (show rg ((e : Int) + 1) by omega), show ((t' + 1 : Nat) : Int) = (t' : Int) + 1 by omega, show ((e + 1 : Nat) : Int) = (e : Int) + 1 by omega]
    by_cases q : 0 ≤ ρ
    · rw [if_pos q, if_pos q]
      by_cases q0 : ρ = 0
      · rw [if_pos q0, if_pos q0]
        rfl
      · rw [if_neg q0, if_neg q0]
        rfl
    · rw [if_neg q, if_neg q]
  have endm : ∀ (f : Nat) (m2 : ZM) (i : Nat) (x4 x5 : Int), AX false m2 B (NB + 1) → (i : Int) + 1 < ρ → i ≤ 100000 → zL77_18 n (f + 1) mk (i : Int) ρ x4 x5 t' m2 = if B 3 t' = 0 then zL77_18 n f mk ((i + 1 : Nat) : Int) ρ x4 x5 ((e + 1 : Nat) : Int) m2 else (match zF74 n (B 3 t') mk m2 with | some (_, m3) => (if m3.1 99 t' = (e : Int) then zL77_18 n f mk ((i + 1 : Nat) : Int) ρ x4 x5 ((e + 1 : Nat) : Int) m3 else zJ77_276 n (zL77_18 n f) mk (i : Int) ρ x4 x5 t' 0 1 m3) | none => none) := by
    intro f m2 i x4 x5 hm2 hi hi2
    have bt2 := hm2 t' (by omega)
    rw [if_neg (by decide)] at bt2
    rw [s77 h' f _ _ _ _ t' h3 m2 hm2, k5, h7, if_pos h5]
    unfold zJ77_54
    rw [if_neg (show ¬ (5 : Int) = 0 by decide), if_neg (show ¬ (5 : Int) = 7 by decide), if_neg (show ¬ (5 : Int) = 4 by decide), if_pos rfl, if_pos (show rg ((i : Int) + 1) by omega), if_neg (show ¬ ρ ≤ (i : Int) + 1 by omega)]
    unfold zJ77_242 zJ77_247
    rw [if_neg (show ¬ (1 : Int) = 0 by decide), if_neg (by omega), Int.toNat_natCast, bt2.2.2.2.1]
    have e276 : ∀ m3 : ZM, m3.1 99 t' = (e : Int) → zJ77_276 n (zL77_18 n f) mk (i : Int) ρ x4 x5 t' 0 1 m3 = zL77_18 n f mk ((i + 1 : Nat) : Int) ρ x4 x5 ((e + 1 : Nat) : Int) m3 := by
      intro m3 h99
      unfold zJ77_276 zJ77_290 zJ77_304 zJ77_326 zJ77_328
      rw [if_pos rfl, if_pos rfl, if_pos (show rg ((i : Int) + 1) by omega), if_neg (show ¬ (1 : Int) = 0 by decide), if_neg (by omega), Int.toNat_natCast, h99, if_pos (show rg ((e : Int) + 1) by omega), show ((i + 1 : Nat) : Int) = (i : Int) + 1 by omega, show ((e + 1 : Nat) : Int) = (e : Int) + 1 by omega]
    by_cases c3 : B 3 t' = 0
    · rw [if_pos c3, if_pos c3]
      exact e276 m2 (by rw [bt2.2.2.1]; exact h6)
    · rw [if_neg c3, if_neg c3]
      cases zF74 n (B 3 t') mk m2 with
      | none => rfl
      | some v =>
        obtain ⟨v1, v2⟩ := v
        dsimp only
        by_cases c9 : v2.1 99 t' = (e : Int)
        · rw [if_pos c9]
          exact e276 v2 c9
        · rw [if_neg c9]
  have endl : ∀ (f : Nat) (m2 : ZM) (i : Nat) (x4 x5 : Int), AX false m2 B (NB + 1) → (i : Int) + 1 = ρ → i ≤ 100000 → zL77_18 n (f + 1) mk (i : Int) ρ x4 x5 t' m2 = zL77_18 n f mk ((i + 1 : Nat) : Int) ρ x4 x5 ((t' + 1 : Nat) : Int) m2 := by
    intro f m2 i x4 x5 hm2 hi hi2
    rw [s77 h' f _ _ _ _ t' h3 m2 hm2, k5, h7, if_pos h5]
    unfold zJ77_54
    rw [if_neg (show ¬ (5 : Int) = 0 by decide), if_neg (show ¬ (5 : Int) = 7 by decide), if_neg (show ¬ (5 : Int) = 4 by decide), if_pos rfl, if_pos (show rg ((i : Int) + 1) by omega), if_pos (show ρ ≤ (i : Int) + 1 by omega)]
    unfold zJ77_246 zJ77_247
    rw [if_pos rfl]
    unfold zJ77_276 zJ77_290 zJ77_304 zJ77_326 zJ77_328
    rw [if_pos rfl, if_pos rfl, if_pos (show rg ((i : Int) + 1) by omega), if_pos rfl, if_pos (show rg ((t' : Int) + 1) by omega), show ((i + 1 : Nat) : Int) = (i : Int) + 1 by omega, show ((t' + 1 : Nat) : Int) = (t' : Int) + 1 by omega]
  unfold rpo
  by_cases qn : ρ < 0
  · rw [if_pos qn]
    refine ⟨1, m, ?_, fun f => ?_, kp_refl _ m⟩
    · have : 1 * 2 ≤ (Mx + 1) * (D + 2) := Nat.mul_le_mul (by omega) (by omega)
      omega
    · rw [beg, if_neg (by omega)]
  · rw [if_neg qn]
    have hKp : D + 2 ≤ (t' + 1 - e) * K0 := by
      have : 1 * (D + 2) ≤ (Mx + 1) * (D + 2) := Nat.mul_le_mul_right _ (by omega)
      omega
    by_cases q0 : ρ = 0
    · rw [show ρ.toNat = 0 by omega, rpt]
      refine ⟨1, 0, ρ, x4, x5, m, hΦ, by omega, fun f => ?_, by rw [List.append_nil]; exact hM, Nat.zero_le _, kp_refl _ m⟩
      rw [beg, if_pos (by omega), if_pos q0]
    · have key : ∀ (k i : Nat) (L : OL) (m2 : ZM) (x4 x5 : Int), i + (k + 1) = ρ.toNat → (∃ k : Nat, x4 = (k : Int)) → RB A N B NB s ks κ S X K m2 → MK L m2 → L.length + (k + 1) * (D + 2) + 30000 ≤ 2000000000 → RW2 n mk ((fun _ _ y4 _ => ∃ k : Nat, y4 = (k : Int))) L (i : Int) ρ x4 x5 (e + 1) (t' + 1) ((k + 1) * (D + 2)) (oap (body i) (rpt (sepo B mk t') body k (i + 1))) m2 := by
        intro k
        induction k with
        | zero =>
          intro i L m2 x4 x5 hi hx4 hB2 hM2 hb2
          have hbd := hbody i L m2 x4 x5 (by omega) hx4 hB2 hM2 (by omega)
          cases hbi : body i with
          | none =>
            rw [hbi] at hbd
            obtain ⟨c, m3, a1, a2, a3⟩ := hbd
            rw [← hρ] at a2
            rw [oap_n]
            exact ⟨c, m3, by omega, a2, a3⟩
          | some l =>
            rw [hbi] at hbd
            obtain ⟨c, y2, y3, y4, y5, m3, ⟨e2, a01, a02⟩, a1, a2, a3, a4, a5⟩ := hbd
            rw [e2, a01] at a2; rw [← hρ] at a2
            refine RW2_s a2 a1 a4 a5 (K2 := 1) ?_ (by omega)
            rw [rpt]
            refine ⟨1, ((i + 1 : Nat) : Int), ρ, y4, y5, m3, a02, Nat.le_refl _, fun f => ?_, by rw [List.append_nil]; exact a3, Nat.zero_le _, kp_refl _ m3⟩
            exact endl f m3 i y4 y5 (RB_kp hB2 a5).2.1 (by omega) (by omega)
        | succ k ih =>
          intro i L m2 x4 x5 hi hx4 hB2 hM2 hb2
          have hmul : (k + 1 + 1) * (D + 2) = (k + 1) * (D + 2) + (D + 2) := by rw [Nat.add_mul _ 1, Nat.one_mul]
          have hbd := hbody i L m2 x4 x5 (by omega) hx4 hB2 hM2 (by omega)
          cases hbi : body i with
          | none =>
            rw [hbi] at hbd
            obtain ⟨c, m3, a1, a2, a3⟩ := hbd
            rw [← hρ] at a2
            rw [oap_n]
            exact ⟨c, m3, by omega, a2, a3⟩
          | some l =>
            rw [hbi] at hbd
            obtain ⟨c, y2, y3, y4, y5, m3, ⟨e2, a01, a02⟩, a1, a2, a3, a4, a5⟩ := hbd
            rw [e2, a01] at a2; rw [← hρ] at a2
            have B3 := RB_kp hB2 a5
            refine RW2_s a2 a1 a4 a5 (K2 := (k + 1) * (D + 2) + 1) ?_ (by omega)
            rw [rpt, if_neg (by omega)]
            by_cases c3 : B 3 t' = 0
            · have hs2 : sepo B mk t' = [] := by unfold sepo; rw [if_pos c3]
              have := ih (i + 1) (L ++ l) m3 y4 y5 (by omega) a02 B3 a3 (by rw [List.length_append]; omega)
              rw [hs2] at this ⊢
              refine RW2_s (c := 1) (l := []) (fun f => ?_) (Nat.le_refl _) (Nat.zero_le _) (kp_refl _ m3) (by rw [List.append_nil]; exact this) (by omega)
              rw [endm f m3 i y4 y5 B3.2.1 (by omega) (by omega), if_pos c3]
            · have hs2 : sepo B mk t' = [(B 3 t', mk)] := by unfold sepo; rw [if_neg c3]
              obtain ⟨m4, b1, b2, b3⟩ := m74 (n := n) (L ++ l) (by rw [List.length_append]; omega) a3 (B 3 t') mk
              have B4 := RB_kp B3 b3
              have := ih (i + 1) (L ++ l ++ [(B 3 t', mk)]) m4 y4 y5 (by omega) a02 B4 b2 (by rw [List.length_append, List.length_append]; show L.length + l.length + 1 + (k + 1) * (D + 2) + 30000 ≤ 2000000000; omega)
              rw [hs2] at this ⊢
              refine RW2_s (c := 1) (l := [(B 3 t', mk)]) (fun f => ?_) (Nat.le_refl _) (Nat.le_refl _) b3 this (by omega)
              have bt4 := B4.2.1 t' (by omega)
              rw [if_neg (by decide)] at bt4
              rw [endm f m3 i y4 y5 B3.2.1 (by omega) (by omega), if_neg c3, b1]
              dsimp only
              rw [if_pos (by rw [bt4.2.2.1]; exact h6)]
      obtain ⟨k, hk⟩ : ∃ k, ρ.toNat = k + 1 := ⟨ρ.toNat - 1, by omega⟩
      have hkM : (k + 1) * (D + 2) ≤ Mx * (D + 2) := Nat.mul_le_mul_right _ (by omega)
      have hmul : (Mx + 1) * (D + 2) = Mx * (D + 2) + (D + 2) := by rw [Nat.add_mul _ 1, Nat.one_mul]
      have := key k 0 L m x4 x5 (by omega) hΦ hB hM (by omega)
      rw [hk, rpt, if_pos rfl]
      refine RW2_s (c := 1) (l := []) (fun f => ?_) (Nat.le_refl _) (Nat.zero_le _) (kp_refl _ m) (by rw [List.append_nil]; exact this) (by omega)
      rw [beg, if_pos (by omega), if_neg q0]
      rfl
/-- a repetition of a body, an inner one -/
theorem m77i (hn : 2000 ≤ n) (h : RX true C Y A N i0 z) (h' : RX false C Y B NB j0 y) (ht : ¬ tw A N) (hw : ¬ wu A N B NB) (hks : ks ≤ 511) (hs : sbd 90000 s) (e t : Nat) (he : e < NB) (h4 : B 0 e = 4) (hte : B 2 e = t) (h5 : 0 ≤ B 5 e) (R1 : Int) (K1 K0 D : Nat) (hD : D = (t - (e + 1)) * K1) (Mx : Nat) (hMx : Mx ≤ 100000) (hK : (Mx + 1) * (D + 2) ≤ (t + 1 - e) * K0) (o : Int) (hr : rdn A N B s e o ≤ Mx) (body : Nat → Option OL)
    (hbody : ∀ (i : Nat) (L : OL) (m : ZM) (_ : Nat), i ≤ Mx →  RB A N B NB s ks κ S X K m → MK L m → L.length + D + 30000 ≤ 2000000000 → RW2 n mk (fun y2 y3 y4 y5 => y2 = o ∧ y3 = R1 ∧ y4 = (i : Int) ∧ y5 = rdn A N B s e o) L o R1 (i : Int) (rdn A N B s e o) (e + 1) t D (body i) m)
    (L : OL) (m : ZM) (x2 x3 x4 x5 : Int) (hΦ : (fun y2 y3 y4 _ => y2 = o ∧ y3 = R1 ∧ ∃ k : Nat, y4 = (k : Int)) x2 x3 x4 x5) (ho : True) (hB : RB A N B NB s ks κ S X K m) (hM : MK L m) (hb : L.length + (t + 1 - e) * K0 + 30000 ≤ 2000000000) :
    RW2 n mk ((fun y2 y3 y4 _ => y2 = o ∧ y3 = R1 ∧ ∃ k : Nat, y4 = (k : Int))) L x2 x3 x4 x5 e (t + 1) ((t + 1 - e) * K0) (rpo (rdn A N B s e o) (sepo B mk t) body) m := by
  have hNB := x_N119 h'
  obtain ⟨t', h1, h2, h3, k5, h6, h7, h8, h9, h10, h11, _⟩ := x_beg h' e he h4
  have : t' = t := by omega
  subst this
  have be := hB.2.1 e (by omega)
  rw [if_neg (by decide)] at be
  have bt := hB.2.1 t' (by omega)
  rw [if_neg (by decide)] at bt
  obtain ⟨ρ, hρ⟩ : ∃ ρ, ρ = rdn A N B s e o := ⟨_, rfl⟩
  have hρr : ρ = -1 ∨ (0 ≤ ρ ∧ ρ ≤ 90000) := by rw [hρ]; exact rdn_r hs (by decide) e _
  rw [← hρ] at hr ⊢
  have hnx : ∀ (f : Nat) (q : Nat) (m2 : ZM) (w2 w3 w4 w5 : Int), zJ77_328 n (zL77_18 n f) mk w2 w3 w4 w5 (q : Int) m2 = zL77_18 n f mk w2 w3 w4 w5 (q : Int) m2 := fun _ _ _ _ _ _ _ => rfl
  have beg : ∀ f, zL77_18 n (f + 1) mk x2 x3 x4 x5 e m = if 0 ≤ ρ then (if ρ = 0 then zL77_18 n f mk x2 x3 0 ρ ((t' + 1 : Nat) : Int) m else zL77_18 n f mk x2 x3 0 ρ ((e + 1 : Nat) : Int) m) else some (0, m) := by
    intro f
    rw [s77 h' f x2 x3 x4 x5 e he m hB.2.1, h4, if_neg (show ¬ B 5 e < 0 by omega)]
    unfold zJ77_54
    rw [if_neg (show ¬ (4 : Int) = 0 by decide), if_neg (show ¬ (4 : Int) = 7 by decide), if_pos rfl, m76 (by omega) h h' ht hw m hB.1 hB.2.1 ks hB.2.2.1 hks hs e he h4 x2, hΦ.1, ← hρ]
    dsimp only
    unfold zJ77_130 zJ77_158 zJ77_172 zJ77_185 zJ77_198 zJ77_209 zJ77_328
    rw [if_neg (show ¬ ((e : Int) < 0 ∨ 128 ≤ (e : Int)) by omega), Int.toNat_natCast, be.2.2.1, h1, if_pos (show rg ((t' : Int) + 1) by omega), if_pos (show rg ((e : Int) + 1) by omega), show ((t' + 1 : Nat) : Int) = (t' : Int) + 1 by omega, show ((e + 1 : Nat) : Int) = (e : Int) + 1 by omega]
    by_cases q : 0 ≤ ρ
    · rw [if_pos q, if_pos q]
      by_cases q0 : ρ = 0
      · rw [if_pos q0, if_pos q0]
        rfl
      · rw [if_neg q0, if_neg q0]
        rfl
    · rw [if_neg q, if_neg q]
  have endm : ∀ (f : Nat) (m2 : ZM) (i : Nat), AX false m2 B (NB + 1) → (i : Int) + 1 < ρ → i ≤ 100000 → zL77_18 n (f + 1) mk o R1 (i : Int) ρ t' m2 = if B 3 t' = 0 then zL77_18 n f mk o R1 ((i + 1 : Nat) : Int) ρ ((e + 1 : Nat) : Int) m2 else (match zF74 n (B 3 t') mk m2 with | some (_, m3) => (if m3.1 99 t' = (e : Int) then zL77_18 n f mk o R1 ((i + 1 : Nat) : Int) ρ ((e + 1 : Nat) : Int) m3 else zJ77_276 n (zL77_18 n f) mk o R1 (i : Int) ρ t' 1 1 m3) | none => none) := by
    intro f m2 i hm2 hi hi2
    have bt2 := hm2 t' (by omega)
    rw [if_neg (by decide)] at bt2
    rw [s77 h' f _ _ _ _ t' h3 m2 hm2, k5, h7, if_neg (show ¬ B 5 e < 0 by omega)]
    unfold zJ77_54
    rw [if_neg (show ¬ (5 : Int) = 0 by decide), if_neg (show ¬ (5 : Int) = 7 by decide), if_neg (show ¬ (5 : Int) = 4 by decide), if_neg (show ¬ (1 : Int) = 0 by decide), if_pos (show rg ((i : Int) + 1) by omega), if_neg (show ¬ ρ ≤ (i : Int) + 1 by omega)]
    unfold zJ77_227 zJ77_247
    rw [if_neg (show ¬ (1 : Int) = 0 by decide), if_neg (by omega), Int.toNat_natCast, bt2.2.2.2.1]
    have e276 : ∀ m3 : ZM, m3.1 99 t' = (e : Int) → zJ77_276 n (zL77_18 n f) mk o R1 (i : Int) ρ t' 1 1 m3 = zL77_18 n f mk o R1 ((i + 1 : Nat) : Int) ρ ((e + 1 : Nat) : Int) m3 := by
      intro m3 h99
      unfold zJ77_276 zJ77_290 zJ77_304 zJ77_326 zJ77_328
      rw [if_neg (show ¬ (1 : Int) = 0 by decide), if_neg (show ¬ (1 : Int) = 0 by decide), if_pos (show rg ((i : Int) + 1) by omega), if_neg (show ¬ (1 : Int) = 0 by decide), if_neg (by omega), Int.toNat_natCast, h99, if_pos (show rg ((e : Int) + 1) by omega), show ((i + 1 : Nat) : Int) = (i : Int) + 1 by omega, show ((e + 1 : Nat) : Int) = (e : Int) + 1 by omega]
    by_cases c3 : B 3 t' = 0
    · rw [if_pos c3, if_pos c3]
      exact e276 m2 (by rw [bt2.2.2.1]; exact h6)
    · rw [if_neg c3, if_neg c3]
      cases zF74 n (B 3 t') mk m2 with
      | none => rfl
      | some v =>
        obtain ⟨v1, v2⟩ := v
        dsimp only
        by_cases c9 : v2.1 99 t' = (e : Int)
        · rw [if_pos c9]
          exact e276 v2 c9
        · rw [if_neg c9]
  have endl : ∀ (f : Nat) (m2 : ZM) (i : Nat), AX false m2 B (NB + 1) → (i : Int) + 1 = ρ → i ≤ 100000 → zL77_18 n (f + 1) mk o R1 (i : Int) ρ t' m2 = zL77_18 n f mk o R1 ((i + 1 : Nat) : Int) ρ ((t' + 1 : Nat) : Int) m2 := by
    intro f m2 i hm2 hi hi2
    rw [s77 h' f _ _ _ _ t' h3 m2 hm2, k5, h7, if_neg (show ¬ B 5 e < 0 by omega)]
    unfold zJ77_54
    rw [if_neg (show ¬ (5 : Int) = 0 by decide), if_neg (show ¬ (5 : Int) = 7 by decide), if_neg (show ¬ (5 : Int) = 4 by decide), if_neg (show ¬ (1 : Int) = 0 by decide), if_pos (show rg ((i : Int) + 1) by omega), if_pos (show ρ ≤ (i : Int) + 1 by omega)]
    unfold zJ77_231 zJ77_247
    rw [if_pos rfl]
    unfold zJ77_276 zJ77_290 zJ77_304 zJ77_326 zJ77_328
    rw [if_neg (show ¬ (1 : Int) = 0 by decide), if_neg (show ¬ (1 : Int) = 0 by decide), if_pos (show rg ((i : Int) + 1) by omega), if_pos rfl, if_pos (show rg ((t' : Int) + 1) by omega), show ((i + 1 : Nat) : Int) = (i : Int) + 1 by omega, show ((t' + 1 : Nat) : Int) = (t' : Int) + 1 by omega]
  unfold rpo
  by_cases qn : ρ < 0
  · rw [if_pos qn]
    refine ⟨1, m, ?_, fun f => ?_, kp_refl _ m⟩
    · have : 1 * 2 ≤ (Mx + 1) * (D + 2) := Nat.mul_le_mul (by omega) (by omega)
      omega
    · rw [beg, if_neg (by omega)]
  · rw [if_neg qn]
    have hKp : D + 2 ≤ (t' + 1 - e) * K0 := by
      have : 1 * (D + 2) ≤ (Mx + 1) * (D + 2) := Nat.mul_le_mul_right _ (by omega)
      omega
    by_cases q0 : ρ = 0
    · rw [show ρ.toNat = 0 by omega, rpt]
      refine ⟨1, x2, x3, 0, ρ, m, ⟨hΦ.1, hΦ.2.1, 0, rfl⟩, by omega, fun f => ?_, by rw [List.append_nil]; exact hM, Nat.zero_le _, kp_refl _ m⟩
      rw [beg, if_pos (by omega), if_pos q0]
    · have key : ∀ (k i : Nat) (L : OL) (m2 : ZM), i + (k + 1) = ρ.toNat → RB A N B NB s ks κ S X K m2 → MK L m2 → L.length + (k + 1) * (D + 2) + 30000 ≤ 2000000000 → RW2 n mk ((fun y2 y3 y4 _ => y2 = o ∧ y3 = R1 ∧ ∃ k : Nat, y4 = (k : Int))) L o R1 (i : Int) ρ (e + 1) (t' + 1) ((k + 1) * (D + 2)) (oap (body i) (rpt (sepo B mk t') body k (i + 1))) m2 := by
        intro k
        induction k with
        | zero =>
          intro i L m2 hi hB2 hM2 hb2
          have hbd := hbody i L m2 0 (by omega) hB2 hM2 (by omega)
          cases hbi : body i with
          | none =>
            rw [hbi] at hbd
            obtain ⟨c, m3, a1, a2, a3⟩ := hbd
            rw [← hρ] at a2
            rw [oap_n]
            exact ⟨c, m3, by omega, a2, a3⟩
          | some l =>
            rw [hbi] at hbd
            obtain ⟨c, y2, y3, y4, y5, m3, ⟨e2, e3, e4, a01⟩, a1, a2, a3, a4, a5⟩ := hbd
            rw [e2, e3, e4, a01] at a2; rw [← hρ] at a2
            refine RW2_s a2 a1 a4 a5 (K2 := 1) ?_ (by omega)
            rw [rpt]
            refine ⟨1, o, R1, ((i + 1 : Nat) : Int), ρ, m3, ⟨rfl, rfl, _, rfl⟩, Nat.le_refl _, fun f => ?_, by rw [List.append_nil]; exact a3, Nat.zero_le _, kp_refl _ m3⟩
            exact endl f m3 i (RB_kp hB2 a5).2.1 (by omega) (by omega)
        | succ k ih =>
          intro i L m2 hi hB2 hM2 hb2
          have hmul : (k + 1 + 1) * (D + 2) = (k + 1) * (D + 2) + (D + 2) := by rw [Nat.add_mul _ 1, Nat.one_mul]
          have hbd := hbody i L m2 0 (by omega) hB2 hM2 (by omega)
          cases hbi : body i with
          | none =>
            rw [hbi] at hbd
            obtain ⟨c, m3, a1, a2, a3⟩ := hbd
            rw [← hρ] at a2
            rw [oap_n]
            exact ⟨c, m3, by omega, a2, a3⟩
          | some l =>
            rw [hbi] at hbd
            obtain ⟨c, y2, y3, y4, y5, m3, ⟨e2, e3, e4, a01⟩, a1, a2, a3, a4, a5⟩ := hbd
            rw [e2, e3, e4, a01] at a2; rw [← hρ] at a2
            have B3 := RB_kp hB2 a5
            refine RW2_s a2 a1 a4 a5 (K2 := (k + 1) * (D + 2) + 1) ?_ (by omega)
            rw [rpt, if_neg (by omega)]
            by_cases c3 : B 3 t' = 0
            · have hs2 : sepo B mk t' = [] := by unfold sepo; rw [if_pos c3]
              have := ih (i + 1) (L ++ l) m3 (by omega) B3 a3 (by rw [List.length_append]; omega)
              rw [hs2] at this ⊢
              refine RW2_s (c := 1) (l := []) (fun f => ?_) (Nat.le_refl _) (Nat.zero_le _) (kp_refl _ m3) (by rw [List.append_nil]; exact this) (by omega)
              rw [endm f m3 i B3.2.1 (by omega) (by omega), if_pos c3]
            · have hs2 : sepo B mk t' = [(B 3 t', mk)] := by unfold sepo; rw [if_neg c3]
              obtain ⟨m4, b1, b2, b3⟩ := m74 (n := n) (L ++ l) (by rw [List.length_append]; omega) a3 (B 3 t') mk
              have B4 := RB_kp B3 b3
              have := ih (i + 1) (L ++ l ++ [(B 3 t', mk)]) m4 (by omega) B4 b2 (by rw [List.length_append, List.length_append]; show L.length + l.length + 1 + (k + 1) * (D + 2) + 30000 ≤ 2000000000; omega)
              rw [hs2] at this ⊢
              refine RW2_s (c := 1) (l := [(B 3 t', mk)]) (fun f => ?_) (Nat.le_refl _) (Nat.le_refl _) b3 this (by omega)
              have bt4 := B4.2.1 t' (by omega)
              rw [if_neg (by decide)] at bt4
              rw [endm f m3 i B3.2.1 (by omega) (by omega), if_neg c3, b1]
              dsimp only
              rw [if_pos (by rw [bt4.2.2.1]; exact h6)]
      obtain ⟨k, hk⟩ : ∃ k, ρ.toNat = k + 1 := ⟨ρ.toNat - 1, by omega⟩
      have hkM : (k + 1) * (D + 2) ≤ Mx * (D + 2) := Nat.mul_le_mul_right _ (by omega)
      have hmul : (Mx + 1) * (D + 2) = Mx * (D + 2) + (D + 2) := by rw [Nat.add_mul _ 1, Nat.one_mul]
      have := key k 0 L m (by omega) hB hM (by omega)
      rw [hk, rpt, if_pos rfl]
      refine RW2_s (c := 1) (l := []) (fun f => ?_) (Nat.le_refl _) (Nat.zero_le _) (kp_refl _ m) (by rw [List.append_nil]; exact this) (by omega)
      rw [beg, if_pos (by omega), if_neg q0]
      rw [hΦ.1, hΦ.2.1]
      rfl
end
