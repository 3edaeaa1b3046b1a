/-! makeBody, whole. -/
theorem fnd_mem {f : Nat} {o : Int} : ∀ (κ : List EN) (nn : Nat) (x : EN), fnd f o nn κ = some x → x ∈ κ := by
  intro κ
  induction κ with
  | nil => intro nn x h; cases h
  | cons y ys ih =>
    intro nn x h
    rw [fnd] at h
    split at h
    · split at h
      · cases h
        exact List.mem_cons_self
      · exact List.mem_cons_of_mem _ (ih _ _ h)
    · exact List.mem_cons_of_mem _ (ih _ _ h)
theorem cfl_le (κ : List EN) (f : Nat) (o : Int) : cfl κ f o ≤ κ.length := List.length_filter_le _ _
/-- what makeBody answers -/
def MB (n : Nat) (mk : Int) (o : Option OL) (m : ZM) : Prop := match o with
  | some l => ∃ m', zF77 n mk m = some (1, m') ∧ MK l m' ∧ kp (wl wMK) m m' ∧ l.length ≤ 1000000000
  | none => ∃ m', zF77 n mk m = some (0, m') ∧ kp (wl wMK) m m'
section
variable {C : Nat → Int} {Y A B : Nat → Nat → Int} {N i0 z NB j0 y : Nat} {n : Nat} {mk : Int} {κ : List EN} {S ks : Nat} {X K : Nat → Int} {s : (Nat → Int) × (Nat → Int → Int)}
theorem x_lev (h : RX true C Y A N i0 z) (h' : RX false C Y B NB j0 y) (ht : ¬ tw A N) (hw : ¬ wu A N B NB) (e : Nat) (he : e < NB) (h7 : B 0 e = 7) : (A 5 (Fg A N B e) < 0 ↔ B 5 e < 0) ∧ (A 6 (Fg A N B e) < 0 ↔ B 6 e < 0) := by
  obtain ⟨f1, f2, f3, f4, f5⟩ := x_fg ht hw e he h7
  have a6 : A 5 (Fg A N B e) < 0 → A 6 (Fg A N B e) < 0 := fun c => by
    apply Classical.byContradiction
    intro d
    have := h.1.n2 (Fg A N B e) (A 6 (Fg A N B e)).toNat (by omega) (by omega)
    omega
  have b6 : B 5 e < 0 → B 6 e < 0 := fun c => by
    apply Classical.byContradiction
    intro d
    have := h'.1.n2 e (B 6 e).toNat (by omega) (by omega)
    omega
  generalize A 5 (Fg A N B e) = a5 at *
  generalize A 6 (Fg A N B e) = a6' at *
  generalize B 5 e = c5 at *
  generalize B 6 e = c6 at *
  unfold dpt at f5
  repeat' split at f5
  all_goals first | omega | exact ⟨by omega, by omega⟩
theorem fuo_len (hκ : ∀ x ∈ κ, x.2.2.2.1 ≤ x.2.2.2.2 ∧ x.2.2.2.2 ≤ S) (hS : S ≤ 150) (k4 : Int) (f : Nat) (o : Int) (nn : Nat) : (fuo X K mk k4 (fnd f o nn κ)).length ≤ 152 := by
  cases hf : fnd f o nn κ with
  | none => exact Nat.zero_le _
  | some x =>
    have hx := hκ x (fnd_mem κ nn x hf)
    have := uo_len (X := X) (K := K) mk k4 x.2.2.2.1 x.2.2.2.2
    show (uo X K mk k4 x.2.2.2.1 x.2.2.2.2).length ≤ 152
    omega
/-- a use -/
theorem u77 (hn : 2000 ≤ n) (h : RX true C Y A N i0 z) (h' : RX false C Y B NB j0 y) (ht : ¬ tw A N) (hw : ¬ wu A N B NB) (hV : ∀ f : Nat, f < N → A 0 f = 3 → NV A f (cfl κ f) s N) (hI : WI A κ) (hκ : ∀ x ∈ κ, x.2.2.2.1 ≤ x.2.2.2.2 ∧ x.2.2.2.2 ≤ S) (hκl : κ.length ≤ 155) (e : Nat) (he : e < NB) (h7 : B 0 e = 7) (L : OL) (m : ZM) (x2 : Int) (nn : Nat) (hB : RB A N B NB s ks κ S X K m) (hM : MK L m) (hb : L.length + 30000 ≤ 2000000000) :
    ∃ m', zF75 n (Fg A N B e) x2 (nn : Int) mk m = some ((), m') ∧ MK (L ++ fuo X K mk (A 4 (Fg A N B e)) (fnd (Fg A N B e) (if B 5 e < 0 then 0 else x2) (if B 6 e < 0 then 0 else nn) κ)) m' ∧ kp (wl wMK) m m' := by
  obtain ⟨f1, f2, f3, f4, f5⟩ := x_fg ht hw e he h7
  obtain ⟨l1, l2⟩ := x_lev h h' ht hw e he h7
  obtain ⟨m', a1, a2, a3⟩ := m75 hn h (Fg A N B e) f2 x2 nn mk κ hκl hκ 0 n L m (by omega) (by omega) (by omega) hM hB.2.2.2.1 hB.2.2.2.2 hB.1
  rw [List.drop_zero, u_sme h κ s (Fg A N B e) f2 (hV _ f2 f3) hI mk x2 nn] at a2
  refine ⟨m', a1, ?_, a3⟩
  by_cases c5 : B 5 e < 0
  · rw [if_pos (l1.2 c5)] at a2
    rw [if_pos c5]
    by_cases c6 : B 6 e < 0
    · rw [if_pos (l2.2 c6)] at a2
      rw [if_pos c6]
      exact a2
    · rw [if_neg (fun w => c6 (l2.1 w))] at a2
      rw [if_neg c6]
      exact a2
  · rw [if_neg (fun w => c5 (l1.1 w))] at a2
    rw [if_neg c5]
    by_cases c6 : B 6 e < 0
    · rw [if_pos (l2.2 c6)] at a2
      rw [if_pos c6]
      exact a2
    · rw [if_neg (fun w => c6 (l2.1 w))] at a2
      rw [if_neg c6]
      exact a2
theorem m77 (hn : 2000000000 ≤ n) (h : RX true C Y A N i0 z) (h' : RX false C Y B NB j0 y) (ht : ¬ tw A N) (hw : ¬ wu A N B NB) (hV : ∀ f : Nat, f < N → A 0 f = 3 → NV A f (cfl κ f) s N) (hI : WI A κ) (hκ : ∀ x ∈ κ, x.2.2.2.1 ≤ x.2.2.2.2 ∧ x.2.2.2.2 ≤ S) (hκl : κ.length ≤ 155) (hks : ks ≤ 511) (hs : sbd 90000 s) (hs1 : ∀ j : Nat, j < N → A 0 j = 4 → A 5 j < 0 → s.1 j ≤ 310) (m : ZM) (hB : RB A N B NB s ks κ S X K m) : MB n mk (w0o A N B NB X K mk κ s) m := by
  have hNB := x_N119 h'
  have hS := hB.2.2.2.2.1
  have n4 : ∀ (e q : Nat), e < NB → B 0 e = 4 → 0 ≤ B 5 e → e + 1 ≤ q → q < (B 2 e).toNat → B 0 q ≠ 4 := by
    intro e q he h4 h5 h1 h2 k4
    have := b_nest h' e q (B 2 e).toNat he h4 (by omega) (by omega) h2 k4
    omega
  have elen : ∀ (o : Int) (nn e : Nat), (elo A N B X K mk κ o nn e).length ≤ 152 := by
    intro o nn e
    unfold elo
    split
    · exact fuo_len hκ hS _ _ _ _
    · show 1 ≤ 152
      omega
  have d2 : ∀ e q : Nat, e < NB → B 0 e = 4 → 0 ≤ B 5 e → e + 1 ≤ q → q < (B 2 e).toNat → 0 ≤ B 5 q ∧ B 6 q = e := by
    intro e q he h4 h5 h1 h2
    obtain ⟨t, t1, t2, t3, _⟩ := x_beg h' e he h4
    have a1 := h'.1.n4 q e (by omega) (by omega) h4 h5 (by omega)
    have := h'.1.n2 q e (by omega) a1
    omega
  have d1 : ∀ e q : Nat, e < NB → B 0 e = 4 → B 5 e < 0 → e + 1 ≤ q → q < (B 2 e).toNat → top B (e + 1) q → 0 ≤ B 5 q ∧ B 6 q < 0 := by
    intro e q he h4 h5 h1 h2 hT
    obtain ⟨t, t1, t2, t3, _⟩ := x_beg h' e he h4
    have r5 := h'.1.r5 e (by omega)
    have a1 := h'.1.n3 q e (by omega) (by omega) h4 (by omega) (by omega)
    refine ⟨by omega, ?_⟩
    apply Classical.byContradiction
    intro c
    obtain ⟨b, hb⟩ : ∃ b : Nat, B 6 q = b := ⟨(B 6 q).toNat, by omega⟩
    obtain ⟨g1, g2, g3, g4, g5⟩ := h'.1.n2 q b (by omega) hb
    obtain ⟨t', t1', t2', t3', _⟩ := x_beg h' b (by omega) g1
    have := (h'.1.n1 b e (by omega) (by omega)).2.2.1
    have := hT b (by omega) g4 g1
    omega
  have d0 : ∀ q : Nat, q < NB → top B 0 q → B 5 q < 0 ∧ B 6 q < 0 := by
    intro q hq hT
    have c5 : B 5 q < 0 := by
      apply Classical.byContradiction
      intro c
      obtain ⟨b, hb⟩ : ∃ b : Nat, B 5 q = b := ⟨(B 5 q).toNat, by omega⟩
      obtain ⟨g1, g2, g3, g4⟩ := h'.1.n1 q b (by omega) hb
      obtain ⟨t', t1', t2', t3', _⟩ := x_beg h' b (by omega) g1
      have := hT b (by omega) g3 g1
      omega
    refine ⟨c5, ?_⟩
    apply Classical.byContradiction
    intro c
    have := h'.1.n2 q (B 6 q).toNat (by omega) (by omega)
    omega
  have P2 : ∀ (e : Nat), e < NB → B 0 e = 4 → 0 ≤ B 5 e → ∀ (o R1 R2 : Int) (i : Nat) (L : OL) (m : ZM), RB A N B NB s ks κ S X K m → MK L m → L.length + ((B 2 e).toNat - (e + 1)) * 160 + 30000 ≤ 2000000000 → RW2 n mk (fun y2 y3 y4 y5 => y2 = o ∧ y3 = R1 ∧ y4 = (i : Int) ∧ y5 = R2) L o R1 i R2 (e + 1) (B 2 e).toNat (((B 2 e).toNat - (e + 1)) * 160) (w2o A N B X K mk κ o i e) m := by
    intro e he h4 h5 o R1 R2 i L m hB hM hb
    obtain ⟨t, t1, t2, t3, _⟩ := x_beg h' e he h4
    have ht2 : (B 2 e).toNat = t := by omega
    unfold w2o
    rw [ht2] at hb ⊢
    refine m77p (by omega) h h' ht hw _ _ (e + 1) t (by omega) (Rng_r h' e t he h4 t1) _ 160 (by decide) (fun q q1 q2 _ q3 => absurd q3 (n4 e q he h4 h5 q1 (by omega))) (fun q q1 q2 q3 => elo_0 o i q q3) (fun q q1 q2 _ q3 L m x2 x3 x4 x5 hΦ hB hM hb => ?_) 130 (e + 1) L m o R1 i R2 (by omega) (Nat.le_refl _) (by omega) (top_0 _) ⟨rfl, rfl, rfl, rfl⟩ hB hM hb
    obtain ⟨e2, _, e4, _⟩ := hΦ
    rw [e2, e4]
    obtain ⟨m', a1, a2, a3⟩ := u77 (n := n) (mk := mk) (by omega) h h' ht hw hV hI hκ hκl q (by omega) q3 L m o i hB hM hb
    have dd := d2 e q he h4 h5 q1 (by omega)
    rw [if_neg (by omega), if_neg (by omega)] at a2
    have := elen o i q
    refine ⟨m', a1, ?_, a3, by omega⟩
    rw [elo_7 o i q q3]
    exact a2
  have P1 : ∀ (e : Nat), e < NB → B 0 e = 4 → B 5 e < 0 → ∀ (R1 : Int) (i : Nat) (x4 x5 : Int) (L : OL) (m : ZM), (∃ k : Nat, x4 = (k : Int)) → RB A N B NB s ks κ S X K m → MK L m → L.length + ((B 2 e).toNat - (e + 1)) * 25600 + 30000 ≤ 2000000000 → RW2 n mk (fun y2 y3 y4 _ => y2 = (i : Int) ∧ y3 = R1 ∧ ∃ k : Nat, y4 = (k : Int)) L i R1 x4 x5 (e + 1) (B 2 e).toNat (((B 2 e).toNat - (e + 1)) * 25600) (w1o A N B X K mk κ s i e) m := by
    intro e he h4 h5 R1 i x4 x5 L m hx4 hB hM hb
    obtain ⟨t, t1, t2, t3, _⟩ := x_beg h' e he h4
    have ht2 : (B 2 e).toNat = t := by omega
    unfold w1o
    rw [ht2] at hb ⊢
    refine m77p (by omega) h h' ht hw _ _ (e + 1) t (by omega) (Rng_r h' e t he h4 t1) _ 25600 (by decide) (fun q q1 q2 qT q3 L m x2 x3 x4 x5 hΦ hB hM hb => ?_) (fun q q1 q2 q3 => elo_0 i 0 q q3) (fun q q1 q2 qT q3 L m x2 x3 x4 x5 hΦ hB hM hb => ?_) 130 (e + 1) L m i R1 x4 x5 (by omega) (Nat.le_refl _) (by omega) (top_0 _) ⟨rfl, rfl, hx4⟩ hB hM hb
    · have hn5 := b_nest h' e q t he h4 t1 (by omega) q2 q3
      obtain ⟨t', t1', t2', t3', _⟩ := x_beg h' q (by omega) q3
      have htq : (B 2 q).toNat = t' := by omega
      have hrd : rdn A N B s q i ≤ (155 : Nat) := by
        have : rdn A N B s q i = -1 ∨ (0 ≤ rdn A N B s q i ∧ rdn A N B s q i ≤ 155) := by
          refine rq_r B _ 155 _ _ _ (fun p p1 p2 p7 => ?_) (Or.inl rfl)
          rw [htq] at p2
          have hpq : q ≠ p := fun c => by subst c; omega
          have dd := d2 q p (by omega) q3 (by omega) (by omega) (by omega)
          obtain ⟨f1, f2, f3, f4, f5⟩ := x_fg ht hw p (by omega) p7
          obtain ⟨l1, l2⟩ := x_lev h h' ht hw p (by omega) p7
          have c5 : ¬ A 5 (Fg A N B p) < 0 := fun w => by have := l1.1 w; omega
          have c6 : ¬ A 6 (Fg A N B p) < 0 := fun w => by have := l2.1 w; omega
          obtain ⟨uu, hu1⟩ : ∃ uu : Nat, A 5 (Fg A N B p) = uu := ⟨(A 5 (Fg A N B p)).toNat, by omega⟩
          obtain ⟨vv, hv1⟩ : ∃ vv : Nat, A 6 (Fg A N B p) = vv := ⟨(A 6 (Fg A N B p)).toNat, by omega⟩
          have nv := ((hV _ f2 f3).2.2 uu vv hu1 hv1 i).2
          rw [if_neg (by omega)] at nv
          have := cfl_le κ (Fg A N B p) i
          unfold rv
          rw [if_neg (by omega), hv1, Int.toNat_natCast]
          omega
        omega
      have hmul : (155 + 1) * ((t' - (q + 1)) * 160 + 2) ≤ (t' + 1 - q) * 25600 := by
        obtain ⟨d, hd⟩ : ∃ d, t' - (q + 1) = d := ⟨_, rfl⟩
        rw [hd, show t' + 1 - q = d + 2 by omega]
        omega
      unfold r2o
      rw [htq] at hb ⊢
      exact m77i (by omega) h h' ht hw hks hs q t' (by omega) q3 t1' (by omega) R1 160 25600 _ rfl 155 (by decide) hmul i hrd (fun j => w2o A N B X K mk κ i j q) (fun j L m _ hj hB hM hb => by
        have := P2 q (by omega) q3 (by omega) i R1 (rdn A N B s q i) j L m hB hM (by rw [htq]; exact hb)
        rw [htq] at this
        exact this) L m x2 x3 x4 x5 hΦ trivial hB hM hb
    · obtain ⟨rfl, _, nn, rfl⟩ := hΦ
      obtain ⟨m', a1, a2, a3⟩ := u77 (n := n) (mk := mk) (by omega) h h' ht hw hV hI hκ hκl q (by omega) q3 L m (i : Int) nn hB hM hb
      have dd := d1 e q he h4 h5 q1 (by omega) qT
      rw [if_neg (by omega), if_pos (by omega)] at a2
      have := elen (i : Int) 0 q
      refine ⟨m', a1, ?_, a3, by omega⟩
      rw [elo_7 (i : Int) 0 q q3]
      exact a2
  have P0 : ∀ (L : OL) (m : ZM), RB A N B NB s ks κ S X K m → MK L m → L.length + (NB - 0) * 8192000 + 30000 ≤ 2000000000 → RW2 n mk (fun _ _ y4 _ => ∃ k : Nat, y4 = (k : Int)) L 0 0 0 0 0 NB ((NB - 0) * 8192000) (w0o A N B NB X K mk κ s) m := by
    intro L m hB hM hb
    unfold w0o
    refine m77p (by omega) h h' ht hw _ _ 0 NB (Nat.le_refl _) (Rng_0 h') _ 8192000 (by decide) (fun q q1 q2 qT q3 L m x2 x3 x4 x5 hΦ hB hM hb => ?_) (fun q q1 q2 q3 => elo_0 0 0 q q3) (fun q q1 q2 qT q3 L m x2 x3 x4 x5 hΦ hB hM hb => ?_) 130 0 L m 0 0 0 0 (by omega) (Nat.le_refl _) (by omega) (top_0 _) ⟨0, rfl⟩ hB hM hb
    · obtain ⟨t', t1', t2', t3', _⟩ := x_beg h' q (by omega) q3
      have htq : (B 2 q).toNat = t' := by omega
      have dd := d0 q (by omega) qT
      have hrd : rdn A N B s q 0 ≤ (310 : Nat) := by
        have : rdn A N B s q 0 = -1 ∨ (0 ≤ rdn A N B s q 0 ∧ rdn A N B s q 0 ≤ 310) := by
          refine rq_r B _ 310 _ _ _ (fun p p1 p2 p7 => ?_) (Or.inl rfl)
          rw [htq] at p2
          have hpq : q ≠ p := fun c => by subst c; omega
          obtain ⟨f1, f2, f3, f4, f5⟩ := x_fg ht hw p (by omega) p7
          have dp := (x_dp h' ht hw q t' p (by omega) q3 t1' (by omega) (by omega) t3' p7).1
          obtain ⟨uu, hu1⟩ : ∃ uu : Nat, A 5 (Fg A N B p) = uu := ⟨(A 5 (Fg A N B p)).toNat, by omega⟩
          obtain ⟨g1, g2, g3, g4⟩ := h.1.n1 _ uu (by omega) hu1
          unfold rv
          rw [if_pos dd.1, hu1, Int.toNat_natCast]
          exact ⟨(hs.1 _).1, hs1 uu (by omega) g1 (by omega)⟩
        omega
      have hmul : (310 + 1) * ((t' - (q + 1)) * 25600 + 2) ≤ (t' + 1 - q) * 8192000 := by
        obtain ⟨d, hd⟩ : ∃ d, t' - (q + 1) = d := ⟨_, rfl⟩
        rw [hd, show t' + 1 - q = d + 2 by omega]
        omega
      unfold r1o
      rw [htq] at hb ⊢
      exact m77o (by omega) h h' ht hw hks hs q t' (by omega) q3 t1' dd.1 25600 8192000 _ rfl 310 (by decide) hmul 0 hrd (fun j => w1o A N B X K mk κ s j q) (fun j L m x4 x5 hj hx4 hB hM hb => by
        have := P1 q (by omega) q3 dd.1 (rdn A N B s q 0) j x4 x5 L m hx4 hB hM (by rw [htq]; exact hb)
        rw [htq] at this
        exact this) L m x2 x3 x4 x5 hΦ trivial hB hM hb
    · obtain ⟨nn, rfl⟩ := hΦ
      obtain ⟨m', a1, a2, a3⟩ := u77 (n := n) (mk := mk) (by omega) h h' ht hw hV hI hκ hκl q (by omega) q3 L m x2 nn hB hM hb
      have dd := d0 q (by omega) qT
      rw [if_pos dd.1, if_pos dd.2] at a2
      have := elen 0 0 q
      refine ⟨m', a1, ?_, a3, by omega⟩
      rw [elo_7 0 0 q q3]
      exact a2
  have k0 : kp (wl wMK) m (z_i m 83 62 0) := kp_i (kp_refl _ m) (by simp [wMK])
  have M0' : MK [] (z_i m 83 62 0) := ⟨z_eq _ _ _ _, fun i x _ hx => (by cases hx)⟩
  have := P0 [] (z_i m 83 62 0) (RB_kp hB k0) M0' (by show 0 + (NB - 0) * 8192000 + 30000 ≤ 2000000000; omega)
  unfold MB zF77
  rw [zlet]
  cases hw0 : w0o A N B NB X K mk κ s with
  | none =>
    rw [hw0] at this
    obtain ⟨c, m', a1, a2, a3⟩ := this
    refine ⟨m', ?_, kp_tr k0 a3⟩
    have e1 := a2 (n - c)
    rw [show n - c + c = n by omega] at e1
    exact e1
  | some l =>
    rw [hw0] at this
    obtain ⟨c, y2, y3, y4, y5, m', a0, a1, a2, a3, a4, a5⟩ := this
    refine ⟨m', ?_, a3, kp_tr k0 a5, by omega⟩
    have e1 := a2 (n - c)
    rw [show n - c + c = n by omega] at e1
    have bN := (RB_kp (RB_kp hB k0) a5).2.1 NB (by omega)
    rw [if_neg (by decide)] at bN
    obtain ⟨f, hf⟩ : ∃ f, n - c = f + 1 := ⟨n - c - 1, by omega⟩
    rw [hf, zL77_18, if_neg (show ¬ ((NB : Int) < 0 ∨ 128 ≤ (NB : Int)) by omega), Int.toNat_natCast, bN.1, if_pos h'.2.2.2.1] at e1
    exact e1
end
