/-! The class's read of a token. -/
theorem ixv_ok : ∀ k : Fin 127, 32 ≤ k.1 → decide (0 ≤ (ixv ((((iz (k.1 : Int)) : Int32).toUInt32 % 65536)).toInt32).toInt) = decide (opn (k.1 : Int) ∨ cls (k.1 : Int) ∨ sgn (k.1 : Int)) := by decide +kernel
theorem ixv_eq (c : Int) (h : 32 ≤ c ∧ c ≤ 126) : (0 ≤ (ixv (((((iz c) : Int32).toUInt32 % 65536)).toInt32)).toInt) ↔ (opn c ∨ cls c ∨ sgn c) := by
  obtain ⟨k, rfl⟩ : ∃ k : Nat, c = k := ⟨c.toNat, by omega⟩
  have := ixv_ok ⟨k, by omega⟩ (by show 32 ≤ k; omega)
  exact decide_eq_decide.mp this
/-- the class's text is T -/
def CT (T : Nat → Int) (L : Nat) (m : ZM) : Prop := L ≤ 120 ∧ chs T L ∧ m.1 1 1 = L ∧ ∀ k : Nat, k < L → m.1 2 k = T k
section READ
variable {T : Nat → Int} {L : Nat}
theorem rd_sk (n : Nat) : ∀ (f p : Nat) (m : ZM), CT T L m → m.1 1 2 = p → p ≤ L → L - p < f → ∃ m2, zL201_0 n f m = zJ201_38 n m2 ∧ CT T L m2 ∧ m2.1 1 2 = sk T L p := by
  intro f
  induction f with
  | zero => intro p m _ _ _ hf; exact absurd hf (by omega)
  | succ f ih =>
    intro p m h hp hpL hf
    obtain ⟨hL, hch, h1, hT⟩ := h
    rw [zL201_0, h1, hp]
    by_cases q : p < L
    · rw [if_neg (by omega), if_neg (by omega), Int.toNat_natCast, hT p q]
      by_cases q2 : T p = 32
      · rw [if_pos q2]
        unfold zJ201_25
        rw [if_pos (by omega), zlet, skp_step T L p ⟨q, q2⟩]
        refine ih (p + 1) _ ⟨hL, hch, ?_, ?_⟩ ?_ (by omega) (by omega)
        · simp [z_i_rd, h1]
        · intro k hk; simp [z_i_rd, hT k hk]
        · simp [z_i_rd, hp]
      · rw [if_neg q2, skp_stop T L p (fun z => q2 z.2)]
        exact ⟨m, rfl, ⟨hL, hch, h1, hT⟩, hp⟩
    · rw [if_pos (by omega), skp_stop T L p (fun z => q z.1)]
      exact ⟨m, rfl, ⟨hL, hch, h1, hT⟩, hp⟩
theorem rd_wn (n : Nat) : ∀ (f q : Nat) (m : ZM), CT T L m → m.1 1 2 = q → q ≤ L → L - q < f → ∃ m2, zL202_0 n f m = zJ202_39 n m2 ∧ CT T L m2 ∧ m2.1 1 2 = rn isl T L q ∧ m2.1 1 3 = m.1 1 3 := by
  intro f
  induction f with
  | zero => intro q m _ _ _ hf; exact absurd hf (by omega)
  | succ f ih =>
    intro q m h hq hqL hf
    obtain ⟨hL, hch, h1, hT⟩ := h
    rw [zL202_0, h1, hq]
    by_cases q1 : q < L
    · rw [if_neg (by omega), if_neg (by omega), Int.toNat_natCast, hT q q1, zF205_eq]
      dsimp only
      rw [ib]
      by_cases q2 : ltr (T q)
      · rw [if_pos q2]
        unfold zJ202_26
        rw [if_pos (by omega), zlet, rnp_step isl T L q ⟨q1, decide_eq_true q2⟩]
        obtain ⟨m2, a1, a2, a3, a4⟩ := ih (q + 1) (z_i m 1 2 (m.1 1 2 + 1)) ⟨hL, hch, by simp [z_i_rd, h1], fun k hk => by simp [z_i_rd, hT k hk]⟩ (by simp [z_i_rd, hq]) (by omega) (by omega)
        exact ⟨m2, a1, a2, a3, by rw [a4]; simp [z_i_rd]⟩
      · rw [if_neg q2, rnp_stop isl T L q (fun z => q2 (of_decide_eq_true z.2))]
        exact ⟨m, rfl, ⟨hL, hch, h1, hT⟩, hq, rfl⟩
    · rw [if_pos (by omega), rnp_stop isl T L q (fun z => q1 z.1)]
      exact ⟨m, rfl, ⟨hL, hch, h1, hT⟩, hq, rfl⟩
theorem rd_dn (n : Nat) : ∀ (f q : Nat) (m : ZM), CT T L m → m.1 1 2 = q → q ≤ L → L - q < f → ∃ m2, zL203_0 n f m = zJ203_39 n m2 ∧ CT T L m2 ∧ m2.1 1 2 = rn isd T L q ∧ m2.1 1 3 = m.1 1 3 := by
  intro f
  induction f with
  | zero => intro q m _ _ _ hf; exact absurd hf (by omega)
  | succ f ih =>
    intro q m h hq hqL hf
    obtain ⟨hL, hch, h1, hT⟩ := h
    rw [zL203_0, h1, hq]
    by_cases q1 : q < L
    · rw [if_neg (by omega), if_neg (by omega), Int.toNat_natCast, hT q q1, zF206_eq]
      dsimp only
      rw [ib]
      by_cases q2 : dgt (T q)
      · rw [if_pos q2]
        unfold zJ203_26
        rw [if_pos (by omega), zlet, rnp_step isd T L q ⟨q1, decide_eq_true q2⟩]
        obtain ⟨m2, a1, a2, a3, a4⟩ := ih (q + 1) (z_i m 1 2 (m.1 1 2 + 1)) ⟨hL, hch, by simp [z_i_rd, h1], fun k hk => by simp [z_i_rd, hT k hk]⟩ (by simp [z_i_rd, hq]) (by omega) (by omega)
        exact ⟨m2, a1, a2, a3, by rw [a4]; simp [z_i_rd]⟩
      · rw [if_neg q2, rnp_stop isd T L q (fun z => q2 (of_decide_eq_true z.2))]
        exact ⟨m, rfl, ⟨hL, hch, h1, hT⟩, hq, rfl⟩
    · rw [if_pos (by omega), rnp_stop isd T L q (fun z => q1 z.1)]
      exact ⟨m, rfl, ⟨hL, hch, h1, hT⟩, hq, rfl⟩
theorem rd_wv (n s e : Nat) (m : ZM) (h : CT T L m) (he : m.1 1 2 = e) (h3 : e - s ≤ 3) (heL : e ≤ L) (hl : ∀ k, s ≤ k → k < e → ltr (T k)) : ∀ (f i : Nat), s ≤ i → i ≤ e → e - i < f → zL202_61 n f (vl 27 96 T s (i - s)) i m = some (1000 + vl 27 96 T s (e - s), m) := by
  obtain ⟨hL, hch, h1, hT⟩ := h
  intro f
  induction f with
  | zero => intro i _ _ hf; exact absurd hf (by omega)
  | succ f ih =>
    intro i hs hi hf
    have hb := vl_27 T s (i - s) (fun k hk => hl (s + k) (by omega) (by omega))
    rw [zL202_61, he]
    by_cases q : i < e
    · have hx := hl i hs q
      rw [if_neg (by omega), if_neg (by omega), Int.toNat_natCast, hT i (by omega), if_pos (by omega)]
      have := ih (i + 1) (by omega) (by omega) (by omega)
      rw [show i + 1 - s = (i - s) + 1 by omega, vl, show s + (i - s) = i by omega, Int.natCast_add] at this
      rw [← this]
      congr 1
      omega
    · have e1 : i = e := by omega
      subst e1
      rw [if_pos (by omega), if_pos (by omega)]
theorem rd_dv (n s e : Nat) (m : ZM) (h : CT T L m) (he : m.1 1 2 = e) (h3 : e - s ≤ 3) (heL : e ≤ L) (hl : ∀ k, s ≤ k → k < e → dgt (T k)) : ∀ (f i : Nat), s ≤ i → i ≤ e → e - i < f → zL203_82 n f (vl 10 48 T s (i - s)) i m = some (300 + vl 10 48 T s (e - s), m) := by
  obtain ⟨hL, hch, h1, hT⟩ := h
  intro f
  induction f with
  | zero => intro i _ _ hf; exact absurd hf (by omega)
  | succ f ih =>
    intro i hs hi hf
    have hb := vl_10 T s (i - s) (fun k hk => hl (s + k) (by omega) (by omega))
    rw [zL203_82, he]
    by_cases q : i < e
    · have hx := hl i hs q
      rw [if_neg (by omega), if_neg (by omega), Int.toNat_natCast, hT i (by omega), if_pos (by omega)]
      have := ih (i + 1) (by omega) (by omega) (by omega)
      rw [show i + 1 - s = (i - s) + 1 by omega, vl, show s + (i - s) = i by omega, Int.natCast_add] at this
      rw [← this]
      congr 1
    · have e1 : i = e := by omega
      subst e1
      rw [if_pos (by omega), if_pos (by omega)]
theorem rd_eq (n : Nat) (hn : 200 ≤ n) (p : Nat) (m : ZM) (h : CT T L m) (h2 : m.1 1 2 = p) (hp : p ≤ L) :
    ∃ m', zF201 n m = some (tkc T L p, m') ∧ m'.1 1 3 = sk T L p ∧ m'.1 1 2 = tke T L p := by
  unfold zF201
  obtain ⟨m2, a1, a2, a3⟩ := rd_sk (T := T) (L := L) n n p m h h2 hp (by have := h.1; omega)
  rw [a1]
  have hs := sk_le T L p
  unfold zJ201_38
  obtain ⟨hL, hch, h1, hT⟩ := a2
  rw [zlet]
  have r1 : (z_i m2 1 3 (m2.1 1 2)).1 1 1 = L := by simp [z_i_rd, h1]
  have r2 : (z_i m2 1 3 (m2.1 1 2)).1 1 2 = sk T L p := by simp [z_i_rd, a3]
  have r3 : (z_i m2 1 3 (m2.1 1 2)).1 1 3 = sk T L p := by simp [z_i_rd, a3]
  have rT : ∀ k : Nat, k < L → (z_i m2 1 3 (m2.1 1 2)).1 2 k = T k := fun k hk => by simp [z_i_rd, hT k hk]
  generalize z_i m2 1 3 (m2.1 1 2) = m3 at *
  rw [r1, r2]
  by_cases q : L ≤ sk T L p
  · rw [if_neg (by omega)]
    refine ⟨m3, ?_, r3, ?_⟩
    · simp [tkc, q]
    · rw [r2]; simp [tke, q]
  · have hlt : sk T L p < L := by omega
    have hc := hch _ hlt
    rw [if_pos (by omega), if_neg (by omega), Int.toNat_natCast, rT _ hlt]
    unfold zJ201_69
    rw [r2, if_pos (by omega), zlet]
    have u1 : (z_i m3 1 2 ((sk T L p : Int) + 1)).1 1 1 = L := by simp [z_i_rd, r1]
    have u2 : (z_i m3 1 2 ((sk T L p : Int) + 1)).1 1 2 = ((sk T L p + 1 : Nat) : Int) := by simp [z_i_rd]
    have u3 : (z_i m3 1 2 ((sk T L p : Int) + 1)).1 1 3 = sk T L p := by simp [z_i_rd, r3]
    have uT : ∀ k : Nat, k < L → (z_i m3 1 2 ((sk T L p : Int) + 1)).1 2 k = T k := fun k hk => by simp [z_i_rd, rT k hk]
    generalize z_i m3 1 2 ((sk T L p : Int) + 1) = m4 at *
    rw [zF205_eq]
    dsimp only
    rw [ib]
    by_cases ql : ltr (T (sk T L p))
    · rw [if_pos ql]
      unfold zJ201_86 zF202
      obtain ⟨m5, b1, b2, b3, b4⟩ := rd_wn (T := T) (L := L) n n (sk T L p + 1) m4 ⟨hL, hch, u1, uT⟩ u2 (by omega) (by omega)
      rw [b1]
      rw [← rnp_step isl T L (sk T L p) ⟨hlt, decide_eq_true ql⟩] at b3
      have hr := rn_gt isl T L (sk T L p) hlt (decide_eq_true ql)
      have hr2 := (rn_le isl T L (sk T L p)).2 (by omega)
      have hall := rn_all isl T L _ (sk T L p) (Nat.le_refl _)
      unfold zJ202_39
      rw [b3, b4, u3, if_pos (by omega)]
      have ht : m5.1 1 2 = tke T L p := by
        rw [b3]
        unfold tke
        rw [if_neg q, if_pos ql]
      have hk : tkc T L p = if rn isl T L (sk T L p) - sk T L p ≤ 3 then 1000 + vl 27 96 T (sk T L p) (rn isl T L (sk T L p) - sk T L p) else -1 := by
        unfold tkc
        rw [if_neg q, if_pos ql]
      by_cases q3 : rn isl T L (sk T L p) - sk T L p ≤ 3
      · have := rd_wv n (sk T L p) (rn isl T L (sk T L p)) m5 b2 b3 q3 hr2 (fun k x1 x2 => of_decide_eq_true (hall k x1 x2)) n (sk T L p) (by omega) (by omega) (by omega)
        rw [Nat.sub_self, vl] at this
        rw [if_pos (by omega), this]
        refine ⟨m5, ?_, by rw [b4, u3], ht⟩
        rw [hk, if_pos q3]
      · rw [if_neg (by omega)]
        refine ⟨m5, ?_, by rw [b4, u3], ht⟩
        rw [hk, if_neg q3]
    · rw [if_neg ql]
      unfold zJ201_91
      rw [zF206_eq]
      dsimp only
      rw [ib]
      by_cases qd : dgt (T (sk T L p))
      · rw [if_pos qd]
        unfold zF203
        obtain ⟨m5, b1, b2, b3, b4⟩ := rd_dn (T := T) (L := L) n n (sk T L p + 1) m4 ⟨hL, hch, u1, uT⟩ u2 (by omega) (by omega)
        rw [b1]
        rw [← rnp_step isd T L (sk T L p) ⟨hlt, decide_eq_true qd⟩] at b3
        have hr := rn_gt isd T L (sk T L p) hlt (decide_eq_true qd)
        have hr2 := (rn_le isd T L (sk T L p)).2 (by omega)
        have hall := rn_all isd T L _ (sk T L p) (Nat.le_refl _)
        have ht : m5.1 1 2 = tke T L p := by
          rw [b3]
          unfold tke
          rw [if_neg q, if_neg ql, if_pos qd]
        have hk : tkc T L p = if rn isd T L (sk T L p) - sk T L p = 1 ∨ (rn isd T L (sk T L p) - sk T L p = 2 ∧ T (sk T L p) ≠ 48) then 300 + vl 10 48 T (sk T L p) (rn isd T L (sk T L p) - sk T L p) else -1 := by
          unfold tkc
          rw [if_neg q, if_neg ql, if_pos qd]
        unfold zJ203_39 zJ203_73 zJ203_75
        rw [b3, b4, u3, if_pos (by omega)]
        have hgo : rn isd T L (sk T L p) - sk T L p ≤ 3 → zL203_82 n n 0 (sk T L p) m5 = some (300 + vl 10 48 T (sk T L p) (rn isd T L (sk T L p) - sk T L p), m5) := by
          intro q3
          have := rd_dv n (sk T L p) (rn isd T L (sk T L p)) m5 b2 b3 q3 hr2 (fun k x1 x2 => of_decide_eq_true (hall k x1 x2)) n (sk T L p) (by omega) (by omega) (by omega)
          rw [Nat.sub_self, vl] at this
          exact this
        by_cases q3 : 2 < ((rn isd T L (sk T L p) : Nat) : Int) - (sk T L p : Nat)
        · rw [if_pos q3]
          refine ⟨m5, ?_, by rw [b4, u3], ht⟩
          rw [hk, if_neg (by omega)]
        · rw [if_neg q3]
          by_cases q4 : ((rn isd T L (sk T L p) : Nat) : Int) - (sk T L p : Nat) = 2
          · rw [if_pos q4, if_neg (by omega), Int.toNat_natCast, b2.2.2.2 _ hlt]
            by_cases q5 : T (sk T L p) = 48
            · rw [if_pos q5]
              refine ⟨m5, ?_, by rw [b4, u3], ht⟩
              rw [hk, if_neg (by omega)]
            · rw [if_neg q5, hgo (by omega)]
              refine ⟨m5, ?_, by rw [b4, u3], ht⟩
              rw [hk, if_pos (by omega)]
          · rw [if_neg q4, hgo (by omega)]
            refine ⟨m5, ?_, by rw [b4, u3], ht⟩
            rw [hk, if_pos (by omega)]
      · rw [if_neg qd]
        have hk : tkc T L p = if opn (T (sk T L p)) ∨ cls (T (sk T L p)) ∨ sgn (T (sk T L p)) then T (sk T L p) else -1 := by
          unfold tkc
          rw [if_neg q, if_neg ql, if_neg qd]
        have ht : m4.1 1 2 = tke T L p := by
          rw [u2]
          unfold tke
          rw [if_neg q, if_neg ql, if_neg qd]
        have hx := ixv_eq (T (sk T L p)) hc
        by_cases q3 : opn (T (sk T L p)) ∨ cls (T (sk T L p)) ∨ sgn (T (sk T L p))
        · rw [if_neg (by have := hx.mpr q3; omega)]
          refine ⟨m4, ?_, u3, ht⟩
          rw [hk, if_pos q3]
          rfl
        · rw [if_pos (by
            by_cases z : (ixv (((((iz (T (sk T L p))) : Int32).toUInt32 % 65536)).toInt32)).toInt < 0
            · exact z
            · exact absurd (hx.mp (by omega)) q3)]
          refine ⟨m4, ?_, u3, ht⟩
          rw [hk, if_neg q3]
          rfl
end READ
