/-! What a body writes: the reference's side. -/
/-- all that makeBody reads -/
def RB (A : Nat → Nat → Int) (N : Nat) (B : Nat → Nat → Int) (NB : Nat) (s : (Nat → Int) × (Nat → Int → Int)) (ks : Nat) (κ : List EN) (S : Nat) (X K : Nat → Int) (m : ZM) : Prop :=
  AX true m A (N + 1) ∧ AX false m B (NB + 1) ∧ IS s.1 s.2 ks m ∧ KR κ m ∧ MRw S X K m
theorem RB_kp {A : Nat → Nat → Int} {N : Nat} {B : Nat → Nat → Int} {NB : Nat} {s : (Nat → Int) × (Nat → Int → Int)} {ks : Nat} {κ : List EN} {S : Nat} {X K : Nat → Int} {m m' : ZM} (h : RB A N B NB s ks κ S X K m) (k : kp (wl wMK) m m') : RB A N B NB s ks κ S X K m' := by
  obtain ⟨h1, h2, h3, h4, h5⟩ := h
  refine ⟨AX_k h1 (fun a q p1 p2 => (k.1 a q (wMK_n _ _ (by omega))).1), AX_kp h2 k (fun c hc q => wMK_n _ _ ?_), ?_, KR_k h4 (k.1 83 56 (wMK_n _ _ (by omega))).1 (fun a q p1 p2 => (k.1 a q (wMK_n _ _ (by omega))).1), h5.1, fun p hp => by rw [(k.1 105 p (wMK_n _ _ (by omega))).1, (k.1 106 p (wMK_n _ _ (by omega))).1]; exact h5.2 p hp⟩
  · simp [ca] at hc
    omega
  · obtain ⟨i1, i2, i3⟩ := h3
    have e9 : ∀ q, m'.1 119 q = m.1 119 q := fun q => (k.1 119 q (wMK_n _ _ (by omega))).1
    have e0 : ∀ q, m'.1 120 q = m.1 120 q := fun q => (k.1 120 q (wMK_n _ _ (by omega))).1
    have e1 : ∀ q, m'.1 121 q = m.1 121 q := fun q => (k.1 121 q (wMK_n _ _ (by omega))).1
    refine ⟨fun j hj => by rw [(k.1 118 j (wMK_n _ _ (by omega))).1]; exact i1 j hj, by rw [(k.1 83 52 (wMK_n _ _ (by omega))).1]; exact i2, fun b o => ?_⟩
    simp only [e9, e0, e1]
    exact i3 b o
/-- from a state the reference writes behind L, and comes to t -/
def RW2 (n : Nat) (mk : Int) (Φ : Int → Int → Int → Int → Prop) (L : OL) (x2 x3 x4 x5 : Int) (e t Kb : Nat) (o : Option OL) (m : ZM) : Prop := match o with
  | some l => ∃ (c : Nat) (y2 y3 y4 y5 : Int) (m' : ZM), Φ y2 y3 y4 y5 ∧ c ≤ Kb ∧ (∀ f, zL77_18 n (f + c) mk x2 x3 x4 x5 e m = zL77_18 n f mk y2 y3 y4 y5 t m') ∧ MK (L ++ l) m' ∧ l.length ≤ Kb ∧ kp (wl wMK) m m'
  | none => ∃ (c : Nat) (m' : ZM), c ≤ Kb ∧ (∀ f, zL77_18 n (f + c) mk x2 x3 x4 x5 e m = some (0, m')) ∧ kp (wl wMK) m m'
theorem RW2_s {n : Nat} {mk : Int} {Φ : Int → Int → Int → Int → Prop} {L l : OL} {x2 x3 x4 x5 y2 y3 y4 y5 : Int} {e e1 t c K1 K2 Kb : Nat} {o : Option OL} {m m1 : ZM} (h1 : ∀ f, zL77_18 n (f + c) mk x2 x3 x4 x5 e m = zL77_18 n f mk y2 y3 y4 y5 e1 m1) (hc : c ≤ K1) (hl : l.length ≤ K1) (k : kp (wl wMK) m m1) (h : RW2 n mk Φ (L ++ l) y2 y3 y4 y5 e1 t K2 o m1) (hK : K1 + K2 ≤ Kb) : RW2 n mk Φ L x2 x3 x4 x5 e t Kb (oap (some l) o) m := by
  cases o with
  | none =>
    obtain ⟨c2, m', a1, a2, a3⟩ := h
    refine ⟨c2 + c, m', by omega, fun f => ?_, kp_tr k a3⟩
    rw [show f + (c2 + c) = (f + c2) + c by omega, h1, a2]
  | some l' =>
    obtain ⟨c2, z2, z3, z4, z5, m', a0, a1, a2, a3, a4, a5⟩ := h
    refine ⟨c2 + c, z2, z3, z4, z5, m', a0, by omega, fun f => ?_, by rw [← List.append_assoc]; exact a3, by rw [List.length_append]; omega, kp_tr k a5⟩
    rw [show f + (c2 + c) = (f + c2) + c by omega, h1, a2]
theorem RW2_w {n : Nat} {mk : Int} {Φ : Int → Int → Int → Int → Prop} {L : OL} {x2 x3 x4 x5 : Int} {e t K1 Kb : Nat} {o : Option OL} {m : ZM} (h : RW2 n mk Φ L x2 x3 x4 x5 e t K1 o m) (hK : K1 ≤ Kb) : RW2 n mk Φ L x2 x3 x4 x5 e t Kb o m := by
  cases o with
  | none =>
    obtain ⟨c2, m', a1, a2⟩ := h
    exact ⟨c2, m', by omega, a2⟩
  | some l' =>
    obtain ⟨c2, z2, z3, z4, z5, m', a0, a1, a2, a3, a4, a5⟩ := h
    exact ⟨c2, z2, z3, z4, z5, m', a0, by omega, a2, a3, by omega, a5⟩
section
variable {C : Nat → Int} {Y A B : Nat → Nat → Int} {N i0 z NB j0 y : Nat} {n : Nat} {mk : Int} {κ : List EN} {S ks : Nat} {X K : Nat → Int} {s : (Nat → Int) × (Nat → Int → Int)}
/-- one step of makeBody -/
theorem s77 (h' : RX false C Y B NB j0 y) (f : Nat) (x2 x3 x4 x5 : Int) (e : Nat) (he : e < NB) (m : ZM) (hm : AX false m B (NB + 1)) : zL77_18 n (f + 1) mk x2 x3 x4 x5 e m = zJ77_54 n (zL77_18 n f) mk x2 x3 x4 x5 e (B 0 e) (if B 5 e < 0 then 0 else 1) m := by
  have hNB := x_N119 h'
  have be := hm e (by omega)
  rw [if_neg (by decide)] at be
  rw [zL77_18, if_neg (by omega), Int.toNat_natCast, be.1, if_neg (x_k6 h' e he), be.2.2.2.2.1]
  unfold zJ77_53 zJ77_49
  by_cases q : B 5 e < 0
  · rw [if_pos q, if_pos q]
  · rw [if_neg q, if_neg q]
/-- the parts of a body, one after the other -/
theorem m77p (hn : 2000 ≤ n) (h : RX true C Y A N i0 z) (h' : RX false C Y B NB j0 y) (ht : ¬ tw A N) (hw : ¬ wu A N B NB)
    (rep : Nat → Option OL) (el : Nat → OL) (e0 t : Nat) (htN : t ≤ NB) (hR : Rng B e0 t) (Φ : Int → Int → Int → Int → Prop) (Ke : Nat) (hKe : 1 ≤ Ke)
    (hrep : ∀ e : Nat, e0 ≤ e → e < t → top B e0 e → B 0 e = 4 → ∀ (L : OL) (m : ZM) (x2 x3 x4 x5 : Int), Φ x2 x3 x4 x5 → RB A N B NB s ks κ S X K m → MK L m → L.length + ((B 2 e).toNat + 1 - e) * Ke + 30000 ≤ 2000000000 → RW2 n mk Φ L x2 x3 x4 x5 e ((B 2 e).toNat + 1) (((B 2 e).toNat + 1 - e) * Ke) (rep e) m)
    (hel : ∀ e : Nat, e0 ≤ e → e < t → B 0 e = 0 → el e = [(B 1 e, mk)])
    (hus : ∀ e : Nat, e0 ≤ e → e < t → top B e0 e → B 0 e = 7 → ∀ (L : OL) (m : ZM) (x2 x3 x4 x5 : Int), Φ x2 x3 x4 x5 → RB A N B NB s ks κ S X K m → MK L m → L.length + 30000 ≤ 2000000000 → ∃ m', zF75 n (Fg A N B e) x2 x4 mk m = some ((), m') ∧ MK (L ++ el e) m' ∧ kp (wl wMK) m m' ∧ (el e).length ≤ Ke) :
    ∀ (k e : Nat) (L : OL) (m : ZM) (x2 x3 x4 x5 : Int), t + 1 ≤ e + k → e0 ≤ e → e ≤ t → top B e0 e → Φ x2 x3 x4 x5 → RB A N B NB s ks κ S X K m → MK L m → L.length + (t - e) * Ke + 30000 ≤ 2000000000 → RW2 n mk Φ L x2 x3 x4 x5 e t ((t - e) * Ke) (wpt B rep el t k e) m := by
  have hNB := x_N119 h'
  have hN := x_N119 h
  intro k
  induction k with
  | zero => intro e L m x2 x3 x4 x5 h1 h2 h3; omega
  | succ k ih =>
    intro e L m x2 x3 x4 x5 h1 h2 h3 hT hΦ hB hM hb
    rw [wpt]
    by_cases qe : t ≤ e
    · have : e = t := by omega
      subst this
      rw [if_pos qe]
      exact ⟨0, x2, x3, x4, x5, m, hΦ, Nat.zero_le _, fun f => rfl, by rw [List.append_nil]; exact hM, Nat.zero_le _, kp_refl _ m⟩
    · rw [if_neg qe]
      have be := hB.2.1 e (by omega)
      rw [if_neg (by decide)] at be
      by_cases q4 : B 0 e = 4
      · rw [if_pos q4]
        obtain ⟨t', t1, t2, t3, _⟩ := x_beg h' e (by omega) q4
        have htt := hR.2 e h2 (by omega) q4
        have ht2 : (B 2 e).toNat = t' := by omega
        have hsum : (t - e) * Ke = (t' + 1 - e) * Ke + (t - (t' + 1)) * Ke := by rw [← Nat.add_mul, show t' + 1 - e + (t - (t' + 1)) = t - e by omega]
        have hr4 := hrep e h2 (by omega) hT q4 L m x2 x3 x4 x5 hΦ hB hM (by rw [ht2]; omega)
        rw [ht2] at hr4 ⊢
        cases hre : rep e with
        | none =>
          rw [hre] at hr4
          obtain ⟨c, m', a1, a2, a3⟩ := hr4
          rw [oap_n]
          exact ⟨c, m', by omega, a2, a3⟩
        | some l =>
          rw [hre] at hr4
          obtain ⟨c, y2, y3, y4, y5, m1, a0, a1, a2, a3, a4, a5⟩ := hr4
          have := ih (t' + 1) (L ++ l) m1 y2 y3 y4 y5 (by omega) (by omega) (by omega) (top_j h' hT (by omega) q4 t1) a0 (RB_kp hB a5) a3 (by rw [List.length_append]; omega)
          exact RW2_s a2 a1 a4 a5 this (by omega)
      · rw [if_neg q4]
        have q5 := top_5 h' e0 t e hR h2 (by omega) htN hT
        have hsum : (t - e) * Ke = Ke + (t - (e + 1)) * Ke := by rw [show t - e = t - (e + 1) + 1 by omega, Nat.add_mul, Nat.one_mul]; omega
        have e328 : ∀ (f : Nat) (m2 : ZM), zJ77_328 n (zL77_18 n f) mk x2 x3 x4 x5 ((e : Int) + 1) m2 = zL77_18 n f mk x2 x3 x4 x5 ((e + 1 : Nat) : Int) m2 := by
          intro f m2
          unfold zJ77_328
          rw [show ((e + 1 : Nat) : Int) = (e : Int) + 1 by omega]
        by_cases q7 : B 0 e = 7
        · obtain ⟨m1, a1, a2, a3, a4⟩ := hus e h2 (by omega) hT q7 L m x2 x3 x4 x5 hΦ hB hM (by omega)
          obtain ⟨f1, f2, f3, f4, f5⟩ := x_fg ht hw e (by omega) q7
          have := ih (e + 1) (L ++ el e) m1 x2 x3 x4 x5 (by omega) (by omega) (by omega) (top_s hT q4) hΦ (RB_kp hB a3) a2 (by rw [List.length_append]; omega)
          refine RW2_s (c := 1) (fun f => ?_) hKe a4 a3 this (by omega)
          rw [s77 h' f x2 x3 x4 x5 e (by omega) m hB.2.1, q7]
          unfold zJ77_54
          rw [if_neg (show ¬ (7 : Int) = 0 by decide), if_pos rfl, if_neg (by omega), Int.toNat_natCast, be.2.1, m46 n (by omega) h hB.1 (B 1 e), f1]
          dsimp only
          rw [if_pos (by omega)]
          unfold zJ77_102
          rw [a1]
          dsimp only
          rw [e328]
        · have ek := x_e h' e (by omega)
          have kb := h'.2.2.2.2.2.2.2.2.2.2.2.2.2.1 rfl e (by omega)
          have k0 : B 0 e = 0 := by
            rcases ek.2.2.2.2.2.1 with c | c | c | c | c | c | c
            · exact c
            · exact absurd c kb.1
            · exact absurd c kb.2
            · exact absurd c (x_b3 h' e (by omega))
            · exact absurd c q4
            · exact absurd c q5
            · exact absurd c q7
          obtain ⟨m1, a1, a2, a3⟩ := m74 (n := n) L (by omega) hM (B 1 e) mk
          have hle := hel e h2 (by omega) k0
          rw [← hle] at a2
          have hl1 : (el e).length = 1 := by rw [hle]; rfl
          have := ih (e + 1) (L ++ el e) m1 x2 x3 x4 x5 (by omega) (by omega) (by omega) (top_s hT q4) hΦ (RB_kp hB a3) a2 (by rw [List.length_append]; omega)
          refine RW2_s (c := 1) (fun f => ?_) hKe (by omega) a3 this (by omega)
          rw [s77 h' f x2 x3 x4 x5 e (by omega) m hB.2.1, k0]
          unfold zJ77_54
          rw [if_pos rfl, if_neg (by omega), Int.toNat_natCast, be.2.1, a1]
          dsimp only
          rw [if_pos (by omega), e328]
end
