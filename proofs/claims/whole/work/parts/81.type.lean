/-! type: both sides append the same characters. -/
theorem z_nc (m : ZM) (c k : Nat) (x : Int) (a j : Nat) (h : a ≠ c) : (z_i m c k x).1 a j = m.1 a j := if_neg (fun z => h z.1)
theorem z_nk (m : ZM) (c k : Nat) (x : Int) (a j : Nat) (h : j ≠ k) : (z_i m c k x).1 a j = m.1 a j := if_neg (fun z => h z.2)
theorem z_eq (m : ZM) (c k : Nat) (x : Int) : (z_i m c k x).1 c k = x := if_pos ⟨rfl, rfl⟩
/-- the byte of a word, as the class and as the reference take it -/
def cby (a k : Int) : Int := ((((iz a).toUInt32 >>> ((iz (8 * k)).toUInt32 &&& (31 : Int32).toUInt32)).toInt32 &&& 255) : Int32).toInt
def mby (a k : Int) : Int := (((iz a) >>> ((iz (8 * k)) &&& 31)) &&& 255 : Int32).toInt
theorem by_same (a k : Int) (h : 0 ≤ k ∧ k ≤ 3) : cby a k = mby a k := by
  unfold cby mby
  have e : iz (8 * k) = nI (8 * k).toNat := by
    rw [show iz (8 * k) = Int32.ofInt (8 * k) from rfl]
    have e1 : (8 * k) = (((8 * k).toNat : Nat) : Int) := by omega
    conv => lhs; rw [e1]
    rw [Int32.ofInt_eq_ofNat]
    rfl
  rw [e]
  exact congrArg Int32.toInt (by_eq _ (by omega) _).symm
theorem zF204_eq (n : Nat) (a k : Int) (M : ZM) (h : 0 ≤ k ∧ k ≤ 3) : zF204 n a k M = some (mby a k, M) := by
  unfold zF204
  rw [if_pos (by omega), ← by_same a k h]
  rfl
theorem tyc_put (n : Nat) (a : Int) : ∀ (k : Nat) (j l : Int) (m : ZM), m.1 1 1 = l → 0 ≤ l → -1 ≤ j → j ≤ 3 → l + j + 1 ≤ 120 → j + 1 < k →
    ∃ m', zL197_63 n k a j m = some (1, m') ∧ m'.1 1 1 = l + j + 1 ∧ ∀ i : Nat, (i : Int) < l + j + 1 → m'.1 2 i = if (i : Int) < l then m.1 2 i else mby a (j - (i - l)) := by
  intro k
  induction k with
  | zero => intro j l m _ _ _ _ _ hk; exact absurd hk (by omega)
  | succ k ih =>
    intro j l m hl h0 hj hj3 h120 hk
    rw [zL197_63]
    by_cases q : j < 0
    · rw [if_pos q]
      refine ⟨m, rfl, by omega, fun i hi => ?_⟩
      rw [if_pos (by omega)]
    · rw [if_neg q, zF204_eq n a j m (by omega)]
      dsimp only
      rw [if_neg (by omega), zlet]
      unfold zJ197_81
      rw [z_nc m 2 _ _ 1 1 (by decide), if_pos (by omega), zlet, if_pos (by omega)]
      obtain ⟨m', e1, e2, e3⟩ := ih (j + (-1)) (l + 1) (z_i (z_i m 2 (Int.toNat (m.1 1 1)) (mby a j)) 1 1 (m.1 1 1 + 1)) (by rw [z_i_rd, if_pos ⟨rfl, rfl⟩, hl]) (by omega) (by omega) (by omega) (by omega) (by omega)
      refine ⟨m', e1, by omega, fun i hi => ?_⟩
      rw [e3 i (by omega)]
      by_cases q1 : (i : Int) < l
      · rw [if_pos q1, if_pos (by omega), z_i_rd, if_neg (by omega), z_i_rd, if_neg (by omega)]
      · rw [if_neg q1]
        by_cases q2 : (i : Int) = l
        · rw [if_pos (by omega), z_i_rd, if_neg (by omega), z_i_rd, if_pos (by omega)]
          congr 1
          omega
        · rw [if_neg (by omega)]
          congr 1
          omega
theorem tym_put (n : Nat) (a : Int) : ∀ (k : Nat) (j l : Int) (m : ZM), m.1 83 1 = l → 0 ≤ l → -1 ≤ j → j ≤ 3 → l + j + 1 ≤ 120 → j + 1 < k →
    ∃ m', zL20_69 n k a 1 j m = some (1, m') ∧ m'.1 83 1 = l + j + 1 ∧ ∀ i : Nat, (i : Int) < l + j + 1 → m'.1 84 i = if (i : Int) < l then m.1 84 i else mby a (j - (i - l)) := by
  intro k
  induction k with
  | zero => intro j l m _ _ _ _ _ hk; exact absurd hk (by omega)
  | succ k ih =>
    intro j l m hl h0 hj hj3 h120 hk
    rw [zL20_69]
    by_cases q : j < 0
    · rw [if_pos q]
      refine ⟨m, rfl, by omega, fun i hi => ?_⟩
      rw [if_pos (by omega)]
    · rw [if_neg q, if_neg (by decide), if_neg (by omega), if_pos (by omega), zlet]
      unfold zJ20_98
      rw [z_nc m 84 _ _ 83 1 (by decide), if_pos (by omega), zlet, if_pos (by omega)]
      obtain ⟨m', e1, e2, e3⟩ := ih (j + (-1)) (l + 1) (z_i (z_i m 84 (Int.toNat (m.1 83 1)) (mby a j)) 83 1 (m.1 83 1 + 1)) (by rw [z_i_rd, if_pos ⟨rfl, rfl⟩, hl]) (by omega) (by omega) (by omega) (by omega) (by omega)
      refine ⟨m', e1, by omega, fun i hi => ?_⟩
      rw [e3 i (by omega)]
      by_cases q1 : (i : Int) < l
      · rw [if_pos q1, if_pos (by omega), z_i_rd, if_neg (by omega), z_i_rd, if_neg (by omega)]
      · rw [if_neg q1]
        by_cases q2 : (i : Int) = l
        · rw [if_pos (by omega), z_i_rd, if_neg (by omega), z_i_rd, if_pos (by omega)]
          congr 1
          omega
        · rw [if_neg (by omega)]
          congr 1
          omega
theorem tym_out (n : Nat) (a : Int) (k : Nat) (j : Int) (m : ZM) (hk : 0 < k) : zL20_69 n k a 0 j m = some (0, m) := by
  obtain ⟨k, rfl⟩ : ∃ q, k = q + 1 := ⟨k - 1, by omega⟩
  rw [zL20_69]
  by_cases q : j < 0
  · rw [if_pos q]; rfl
  · rw [if_neg q, if_pos rfl]; rfl
/-- all bytes from k on are characters -/
def tyok (a : Int) (x b : Int) : Prop := ∀ k : Int, x ≤ k → k < b → 32 ≤ mby a k ∧ mby a k ≤ 126
theorem tyc_see (n : Nat) (a b : Int) (hn : 10 ≤ n) (hb : 1 ≤ b ∧ b ≤ 4) : ∀ (k : Nat) (x : Int) (m : ZM), 0 ≤ x → x ≤ b → b - x < k →
    (tyok a x b → zL197_25 n k a b x m = zL197_63 n n a (b - 1) m) ∧ (¬ tyok a x b → zL197_25 n k a b x m = some (0, m)) := by
  intro k
  induction k with
  | zero => intro x m _ _ hk; exact absurd hk (by omega)
  | succ k ih =>
    intro x m h0 hx hk
    rw [zL197_25]
    by_cases q : b ≤ x
    · rw [if_pos q, if_pos (by omega)]
      exact ⟨fun _ => rfl, fun z => absurd (fun k h1 h2 => absurd h1 (by omega)) z⟩
    · rw [if_neg q, zF204_eq n a x m (by omega)]
      dsimp only
      by_cases q1 : mby a x < 32
      · rw [if_pos q1]
        exact ⟨fun z => absurd (z x (by omega) (by omega)) (by omega), fun _ => rfl⟩
      · rw [if_neg q1]
        by_cases q2 : mby a x ≤ 126
        · rw [if_pos q2]
          unfold zJ197_53
          rw [if_pos (by omega)]
          have := ih (x + 1) m (by omega) (by omega) (by omega)
          refine ⟨fun z => this.1 (fun k h1 h2 => z k (by omega) h2), fun z => this.2 (fun w => z (fun k h1 h2 => ?_))⟩
          by_cases hkx : k = x
          · subst hkx; omega
          · exact w k (by omega) h2
        · rw [if_neg q2]
          exact ⟨fun z => absurd (z x (by omega) (by omega)) (by omega), fun _ => rfl⟩
theorem wrap1 {b : Int} (h : rg (b - 1)) (h2 : rg b) : (((iz b) - 1) : Int32).toInt = b - 1 := by
  have e : ((iz b) - 1 : Int32) = iz (b - 1) := rw_sub rfl (rp_iz (show rp 1 1 from rfl))
  rw [e]
  exact iz_rp h
theorem tym_see (n : Nat) (a b : Int) (hn : 10 ≤ n) (hb : 1 ≤ b ∧ b ≤ 4) : ∀ (k : Nat) (x : Int) (m : ZM), 0 ≤ x → x ≤ b → b - x < k →
    (tyok a x b → zL20_29 n k a b 1 x m = zL20_69 n n a 1 (b - 1) m) ∧ (¬ tyok a x b → zL20_29 n k a b 1 x m = some (0, m)) := by
  intro k
  induction k with
  | zero => intro x m _ _ hk; exact absurd hk (by omega)
  | succ k ih =>
    intro x m h0 hx hk
    rw [zL20_29]
    by_cases q : b ≤ x
    · rw [if_pos q]
      unfold zJ20_64
      rw [wrap1 (by omega) (by omega)]
      exact ⟨fun _ => rfl, fun z => absurd (fun k h1 h2 => absurd h1 (by omega)) z⟩
    · rw [if_neg q, if_neg (by decide), if_pos (by omega)]
      have e0 : (((((iz a) >>> ((iz (8 * x)) &&& 31)) &&& 255) : Int32).toInt) = mby a x := rfl
      rw [e0, zF19_eq]
      dsimp only
      rw [if_pos (by omega)]
      by_cases q1 : 32 ≤ mby a x ∧ mby a x ≤ 126
      · rw [bi_p q1]
        have := ih (x + 1) m (by omega) (by omega) (by omega)
        refine ⟨fun z => this.1 (fun k h1 h2 => z k (by omega) h2), fun z => this.2 (fun w => z (fun k h1 h2 => ?_))⟩
        by_cases hkx : k = x
        · subst hkx; exact q1
        · exact w k (by omega) h2
      · rw [bi_n q1]
        obtain ⟨k, rfl⟩ : ∃ q, k = q + 1 := ⟨k - 1, by omega⟩
        rw [zL20_29]
        have e1 : zJ20_64 n a b 0 m = some (0, m) := by
          unfold zJ20_64
          exact tym_out n a n _ m (by omega)
        refine ⟨fun z => absurd (z x (by omega) (by omega)) q1, fun _ => ?_⟩
        by_cases q3 : b ≤ x + 1
        · rw [if_pos q3, e1]
        · rw [if_neg q3, if_pos rfl, e1]
/-- the typed text -/
def TX (L : Nat) (T : Nat → Int) (m : ZM) : Prop := L ≤ 120 ∧ m.1 1 1 = L ∧ m.1 1 2 = 0 ∧ m.1 1 3 = 0 ∧ m.1 83 1 = L ∧ ∀ k : Nat, k < L → m.1 2 k = T k ∧ m.1 84 k = T k ∧ 32 ≤ T k ∧ T k ≤ 126
theorem op_type (n : Nat) (hn : 10 ≤ n) (a b : Int) (L : Nat) (T : Nat → Int) (m : ZM) (h : TX L T m) :
    ∃ r m1 m2 L' T', zF1 n a b m = some (r, m1) ∧ zF20 n a b m1 = some (r, m2) ∧ kp (wl w1) m m1 ∧ kp (wl w20) m1 m2 ∧ TX L' T' m2 := by
  obtain ⟨h120, c1, c2, c3, c4, ht⟩ := h
  have hbad : ∀ m1, m1.1 83 1 = (L : Int) → ¬ (1 ≤ b ∧ b ≤ 4 ∧ (L : Int) + b ≤ 120) → zF20 n a b m1 = some (0, m1) := by
    intro m1 e1 hb
    have e2 : zJ20_24 n a b m1 = some (0, m1) := by
      unfold zJ20_24 zJ20_25
      obtain ⟨n, rfl⟩ : ∃ q, n = q + 1 := ⟨n - 1, by omega⟩
      rw [zL20_29]
      have e3 : zJ20_64 (n + 1) a b 0 m1 = some (0, m1) := by
        unfold zJ20_64
        exact tym_out (n + 1) a (n + 1) _ m1 (by omega)
      by_cases q : b ≤ 0
      · rw [if_pos q, e3]
      · rw [if_neg q, if_pos rfl, e3]
    unfold zF20
    rw [zF19_eq]
    dsimp only
    rw [ib]
    by_cases q : 1 ≤ b ∧ b ≤ 4
    · rw [if_pos q, if_pos (by omega), if_pos (by omega), e2]
    · rw [if_neg q, e2]
  by_cases hb : 1 ≤ b ∧ b ≤ 4 ∧ (L : Int) + b ≤ 120
  · have hz1 : ∀ m1 : ZM, m1.1 1 1 = (L : Int) → zF197 n a b m1 = zL197_25 n n a b 0 m1 := by
      intro m1 e1
      unfold zF197
      rw [if_neg (by omega), if_neg (by omega), if_pos (by omega), if_pos (by omega)]
    have hz2 : ∀ m1 : ZM, m1.1 83 1 = (L : Int) → zF20 n a b m1 = zL20_29 n n a b 1 0 m1 := by
      intro m1 e1
      unfold zF20
      rw [zF19_eq]
      dsimp only
      rw [ib, if_pos (by omega), if_pos (by omega), if_neg (by omega)]
      rfl
    by_cases hk : tyok a 0 b
    · obtain ⟨m1, e1, e2, e3⟩ := tyc_put n a n (b - 1) L m c1 (by omega) (by omega) (by omega) (by omega) (by omega)
      have f1 : zF1 n a b m = some (1, m1) := by
        unfold zF1
        rw [hz1 m c1, (tyc_see n a b hn (by omega) n 0 m (by omega) (by omega) (by omega)).1 hk, e1]
        rfl
      have k1 := zF1_kp n a b m _ _ f1
      have c4' : m1.1 83 1 = (L : Int) := by rw [(k1.1 83 1 rfl).1, c4]
      obtain ⟨m2, g1, g2, g3⟩ := tym_put n a n (b - 1) L m1 c4' (by omega) (by omega) (by omega) (by omega) (by omega)
      have f2 : zF20 n a b m1 = some (1, m2) := by
        rw [hz2 m1 c4', (tym_see n a b hn (by omega) n 0 m1 (by omega) (by omega) (by omega)).1 hk, g1]
      have k2 := zF20_kp n a b m1 _ _ f2
      refine ⟨1, m1, m2, L + b.toNat, fun i => if i < L then T i else mby a (b - 1 - (i - L)), f1, f2, k1, k2, by omega, ?_, ?_, ?_, ?_, ?_⟩
      · rw [(k2.1 1 1 rfl).1, e2]; omega
      · rw [(k2.1 1 2 rfl).1, (k1.1 1 2 rfl).1, c2]
      · rw [(k2.1 1 3 rfl).1, (k1.1 1 3 rfl).1, c3]
      · rw [g2]; omega
      · intro i hi
        dsimp only
        have x1 := e3 i (by omega)
        have x2 := g3 i (by omega)
        by_cases q : i < L
        · rw [if_pos (by omega)] at x1 x2
          rw [if_pos q, (k2.1 2 i rfl).1, x1, x2, (k1.1 84 i rfl).1]
          exact ht i q
        · rw [if_neg (by omega)] at x1 x2
          rw [if_neg q, (k2.1 2 i rfl).1, x1, x2]
          exact ⟨rfl, rfl, hk _ (by omega) (by omega)⟩
    · have f1 : zF1 n a b m = some (0, m) := by
        unfold zF1
        rw [hz1 m c1, (tyc_see n a b hn (by omega) n 0 m (by omega) (by omega) (by omega)).2 hk]
        rfl
      have f2 : zF20 n a b m = some (0, m) := by
        rw [hz2 m c4, (tym_see n a b hn (by omega) n 0 m (by omega) (by omega) (by omega)).2 hk]
      exact ⟨0, m, m, L, T, f1, f2, kp_refl _ _, kp_refl _ _, h120, c1, c2, c3, c4, ht⟩
  · have f1 : zF1 n a b m = some (0, m) := by
      have : zF197 n a b m = some (0, m) := by
        unfold zF197 zJ197_21
        by_cases q1 : b < 1
        · rw [if_pos q1]
        · rw [if_neg q1]
          by_cases q2 : 4 < b
          · rw [if_pos q2]
          · rw [if_neg q2, if_pos (by omega), if_neg (by omega)]
      unfold zF1
      rw [this]
      rfl
    exact ⟨0, m, m, L, T, f1, hbad m c4 hb, kp_refl _ _, kp_refl _ _, h120, c1, c2, c3, c4, ht⟩
