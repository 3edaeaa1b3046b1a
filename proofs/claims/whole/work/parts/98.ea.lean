/-! Sources, nine bits each, seven in a long. -/
def ln (X : Int64) : Nat := X.toBitVec.toNat
theorem ln_or (X Z : Int64) : ln (X ||| Z) = ln X ||| ln Z := by
  unfold ln
  rw [Int64.toBitVec_or, BitVec.toNat_or]
theorem ln_and (X Z : Int64) : ln (X &&& Z) = ln X &&& ln Z := by
  unfold ln
  rw [Int64.toBitVec_and, BitVec.toNat_and]
def shl9 (k : Nat) : Int64 := ((iz (9 * (k : Int)) : Int32).toInt64 &&& 63)
theorem p512 (k : Nat) : 512 ^ k = 2 ^ (9 * k) := by rw [Nat.pow_mul]
theorem sh_n : ∀ k : Nat, k < 7 → ((shl9 k).toBitVec.smod 64).toNat = 9 * k := by decide +kernel
theorem ln_x : ∀ x : Nat, x < 512 → ln ((iz (x : Int) : Int32).toInt64) = x := by decide +kernel
theorem ln_z (k : Nat) (hk : k < 7) (x : Nat) (hx : x < 512) : ln (((iz (x : Int)) : Int32).toInt64 <<< shl9 k) = x * 512 ^ k := by
  have h1 : (iz (x : Int) : Int32).toInt64.toBitVec.toNat = x := ln_x x hx
  unfold ln
  rw [Int64.toBitVec_shiftLeft]
  show ((iz (x : Int) : Int32).toInt64.toBitVec <<< ((shl9 k).toBitVec.smod 64).toNat).toNat = _
  rw [sh_n k hk, BitVec.toNat_shiftLeft, h1, Nat.shiftLeft_eq, p512]
  apply Nat.mod_eq_of_lt
  have h2 : x * 2 ^ (9 * k) < 512 * 2 ^ (9 * k) := Nat.mul_lt_mul_of_pos_right hx (Nat.pow_pos (by decide))
  have h3 : 512 * 2 ^ (9 * k) ≤ 512 * 2 ^ 54 := Nat.mul_le_mul_left _ (Nat.pow_le_pow_right (by decide) (by omega))
  have h4 : 512 * 2 ^ 54 ≤ 2 ^ 64 := by decide
  omega
/-- one more source -/
theorem ln_put (k : Nat) (hk : k < 7) (x : Nat) (hx : x < 512) (X : Int64) (hX : ln X < 512 ^ k) : ln (X ||| (((iz (x : Int)) : Int32).toInt64 <<< shl9 k)) = ln X + x * 512 ^ k := by
  rw [ln_or, ln_z k hk x hx, p512, Nat.or_comm, Nat.mul_comm, ← Nat.two_pow_add_eq_or_of_lt (by rw [← p512]; exact hX)]
  omega
theorem ti_v : ∀ v : Nat, v < 512 → ((Int64.ofNat v).toInt32).toInt = (v : Int) := by decide +kernel
theorem ln_ofNat : ∀ v : Nat, v < 512 → ln (Int64.ofNat v) = v := by decide +kernel
theorem ln_511 : ln 511 = 511 := by decide +kernel
theorem ln_inj {X Z : Int64} (h : ln X = ln Z) : X = Z := Int64.toBitVec_inj.mp (BitVec.eq_of_toNat_eq h)
/-- a source, read -/
theorem ln_get (k : Nat) (hk : k < 7) (X : Int64) (hX : ln X < 2 ^ 63) : (((X >>> shl9 k) &&& 511).toInt32 : Int32).toInt = ((ln X / 512 ^ k % 512 : Nat) : Int) := by
  have h1 : ln (X >>> shl9 k) = ln X / 512 ^ k := by
    unfold ln
    rw [Int64.toBitVec_shiftRight]
    show (X.toBitVec.sshiftRight ((shl9 k).toBitVec.smod 64).toNat).toNat = _
    rw [sh_n k hk, BitVec.sshiftRight_eq_of_msb_false, BitVec.toNat_ushiftRight, Nat.shiftRight_eq_div_pow, p512]
    rw [BitVec.msb_eq_false_iff_two_mul_lt]
    have : X.toBitVec.toNat < 2 ^ 63 := hX
    omega
  have h2 : ln ((X >>> shl9 k) &&& 511) = ln X / 512 ^ k % 512 := by
    rw [ln_and, h1, ln_511]
    exact Nat.and_two_pow_sub_one_eq_mod _ 9
  have hv : ln X / 512 ^ k % 512 < 512 := Nat.mod_lt _ (by decide)
  have h3 : (X >>> shl9 k) &&& 511 = Int64.ofNat (ln X / 512 ^ k % 512) := ln_inj (by rw [h2, ln_ofNat _ hv])
  rw [h3, ti_v _ hv]
/-- the first k sources of a long -/
def pks (s : Nat → Nat) : Nat → Nat
  | 0 => 0
  | k + 1 => pks s k + s k * 512 ^ k
theorem pks_lt (s : Nat → Nat) (hs : ∀ k, s k < 512) : ∀ k, pks s k < 512 ^ k := by
  intro k
  induction k with
  | zero => exact Nat.one_pos
  | succ k ih =>
    rw [pks, Nat.pow_succ]
    have h1 := hs k
    have h2 : s k * 512 ^ k ≤ 511 * 512 ^ k := Nat.mul_le_mul_right _ (by omega)
    omega
theorem pks_get (s : Nat → Nat) (hs : ∀ k, s k < 512) (j : Nat) : ∀ k, j < k → pks s k / 512 ^ j % 512 = s j := by
  intro k
  induction k with
  | zero => intro h; omega
  | succ k ih =>
    intro h
    rw [pks]
    by_cases q : j = k
    · subst q
      rw [Nat.add_mul_div_right _ _ (Nat.pow_pos (by decide)), Nat.div_eq_of_lt (pks_lt s hs j), Nat.zero_add, Nat.mod_eq_of_lt (hs j)]
    · have hk : 512 ^ k = 512 ^ (k - j - 1) * 512 * 512 ^ j := by
        rw [Nat.mul_assoc, Nat.mul_comm 512, ← Nat.pow_succ, ← Nat.pow_add]
        congr 1
        omega
      rw [hk, ← Nat.mul_assoc, Nat.add_mul_div_right _ _ (Nat.pow_pos (by decide)), ← Nat.mul_assoc, Nat.add_mul_mod_self_right]
      exact ih (by omega)
theorem z_l_rd (m : ZM) (k : Nat) (x : Int64) (j : Nat) : (z_l m k x).2.2 j = if j = k then x else m.2.2 j := rfl
/-- the sources of step s, as sourceOf reads them -/
def SRC (s : Nat) (g : Nat → Int) (m : ZM) : Prop := ∀ j : Nat, j < 128 → ln (m.2.2 (20 * s + j / 7)) < 2 ^ 63 ∧ ((ln (m.2.2 (20 * s + j / 7)) / 512 ^ (j % 7) % 512 : Nat) : Int) = g j
theorem tdv (x : Nat) : Int.tdiv (x : Int) 7 = ((x / 7 : Nat) : Int) := rfl
theorem m52 (n s j : Nat) (hs : s ≤ 160) (hj : j < 128) (g : Nat → Int) (m : ZM) (h : SRC s g m) : zF52 n s j m = some (g j, m) := by
  obtain ⟨h1, h2⟩ := h j hj
  unfold zF52
  rw [tdv]
  have e1 : (20 * (s : Int) + ((j / 7 : Nat) : Int)).toNat = 20 * s + j / 7 := by omega
  have e2 : 9 * ((j : Int) - ((j / 7 : Nat) : Int) * 7) = 9 * ((j % 7 : Nat) : Int) := by omega
  have e3 := ln_get (j % 7) (by omega) (m.2.2 (20 * s + j / 7)) h1
  unfold shl9 at e3
  rw [if_pos (by omega), if_neg (by omega), if_pos (by omega), e1, e2, e3, h2]
theorem m51 (n : Nat) (hn : 200 ≤ n) (s : Nat) (hs : s ≤ 160) (m : ZM) (h0 : ∀ j : Nat, j < 128 → 0 ≤ m.1 110 j ∧ m.1 110 j < 512) : ∃ m', zF51 n s m = some ((), m') ∧ kp (wl w51) m m' ∧ (∀ j : Nat, j < 128 → m'.1 108 j = m.1 109 j) ∧ SRC s (fun j => m.1 110 j) m' ∧ (∀ c : Nat, c < 20 * s ∨ 20 * s + 20 ≤ c → m'.2.2 c = m.2.2 c) := by
  have hs0 : ∀ q k : Nat, (if 7 * q + k < 128 then (m.1 110 (7 * q + k)).toNat else 0) < 512 := fun q k => by
    split
    · have := h0 (7 * q + k) (by omega)
      omega
    · decide
  have key : ∀ (f x : Nat) (m1 : ZM), 129 ≤ x + f → x ≤ 128 → (∀ j : Nat, m1.1 110 j = m.1 110 j ∧ m1.1 109 j = m.1 109 j) → (∀ j : Nat, j < x → m1.1 108 j = m.1 109 j) → (∀ c : Nat, c < 20 * s ∨ 20 * s + 20 ≤ c → m1.2.2 c = m.2.2 c) →
      (∀ q : Nat, 7 * q < x → ln (m1.2.2 (20 * s + q)) = pks (fun k => if 7 * q + k < 128 then (m.1 110 (7 * q + k)).toNat else 0) (if 7 * q + 7 ≤ x then 7 else x - 7 * q)) →
      ∃ m', zL51_2 n f s x m1 = some ((), m') ∧ (∀ j : Nat, j < 128 → m'.1 108 j = m.1 109 j) ∧ (∀ c : Nat, c < 20 * s ∨ 20 * s + 20 ≤ c → m'.2.2 c = m.2.2 c) ∧ (∀ q : Nat, 7 * q < 128 → ln (m'.2.2 (20 * s + q)) = pks (fun k => if 7 * q + k < 128 then (m.1 110 (7 * q + k)).toNat else 0) (if 7 * q + 7 ≤ 128 then 7 else 128 - 7 * q)) := by
    intro f
    induction f with
    | zero => intro x m1 h1 h2; omega
    | succ f ih =>
      intro x m1 h1 h2 i1 i2 i3 i4
      by_cases qx : x = 128
      · subst qx
        exact ⟨m1, by rw [zL51_2, if_pos (by omega)], i2, i3, i4⟩
      obtain ⟨q, r, hr, hx⟩ : ∃ q r : Nat, r < 7 ∧ x = 7 * q + r := ⟨x / 7, x % 7, by omega, by omega⟩
      have hq7 : x / 7 = q := by omega
      have hv := h0 x (by omega)
      obtain ⟨v, hv'⟩ : ∃ v : Nat, m.1 110 x = v := ⟨(m.1 110 x).toNat, by omega⟩
      obtain ⟨X, hX, hXl, hXe⟩ : ∃ X : Int64, (X = if r = 0 then 0 else m1.2.2 (20 * s + q)) ∧ ln X = pks (fun k => if 7 * q + k < 128 then (m.1 110 (7 * q + k)).toNat else 0) r ∧ True := by
        refine ⟨_, rfl, ?_, trivial⟩
        by_cases r0 : r = 0
        · rw [if_pos r0, r0]; rfl
        · rw [if_neg r0, i4 q (by omega), if_neg (by omega)]
          congr 1
          omega
      have hput := ln_put r hr v (by omega) X (by rw [hXl]; exact pks_lt _ (hs0 q) r)
      obtain ⟨m2, hm2⟩ : ∃ m2, m2 = z_l (z_l (z_i m1 108 x (m.1 109 x)) (20 * s + q) X) (20 * s + q) (X ||| (((iz (v : Int)) : Int32).toInt64 <<< shl9 r)) := ⟨_, rfl⟩
      have stp : zL51_2 n (f + 1) s x m1 = zL51_2 n f s ((x : Int) + 1) m2 := by
        have e1 : (20 * (s : Int) + ((x / 7 : Nat) : Int)) = ((20 * s + q : Nat) : Int) := by omega
        have e2 : (x : Int) - ((x / 7 : Nat) : Int) * 7 = (r : Int) := by omega
        have l1 : ∀ (M : ZM) (c : Nat) (y : Int64), (z_l M c y).2.2 c = y := fun M c y => (z_l_rd M c y c).trans (if_pos rfl)
        rw [zL51_2, if_neg (by omega), if_neg (by omega), zlet, Int.toNat_natCast, tdv, (i1 x).2, e1, if_pos (by omega)]
        unfold zJ51_31
        rw [tdv, e2, if_pos (by omega), Int.toNat_natCast]
        have e53 : ∀ Z : Int64, zJ51_53 n (zL51_2 n f) s x ((20 * s + q : Nat) : Int) Z ((20 * s + q : Nat) : Int) (z_i m1 108 x (m.1 109 x)) = zL51_2 n f s ((x : Int) + 1) (z_l (z_l (z_i m1 108 x (m.1 109 x)) (20 * s + q) Z) (20 * s + q) (Z ||| (((iz (v : Int)) : Int32).toInt64 <<< shl9 r))) := by
          intro Z
          unfold zJ51_53 zJ51_82
          rw [if_neg (by omega), zlet, if_neg (by omega), if_neg (by omega), tdv, e2, if_pos (by omega), zlet, if_pos (by omega), Int.toNat_natCast, Int.toNat_natCast, l1]
          have : (z_l (z_i m1 108 x (m.1 109 x)) (20 * s + q) Z).1 110 x = (v : Int) := by
            show (z_i m1 108 x (m.1 109 x)).1 110 x = _
            rw [z_nc _ _ _ _ _ _ (by decide), (i1 x).1, hv']
          rw [this]
          rfl
        by_cases r0 : r = 0
        · rw [if_pos (by omega), e53, hm2, hX, if_pos r0]
        · rw [if_neg (by omega), if_neg (by omega), e53, hm2, hX, if_neg r0]
          rfl
      rw [stp]
      have l1 : ∀ (M : ZM) (c c' : Nat) (y : Int64), (z_l M c y).2.2 c' = if c' = c then y else M.2.2 c' := fun M c c' y => z_l_rd M c y c'
      have o2 : ∀ c : Nat, c ≠ 20 * s + q → m2.2.2 c = m1.2.2 c := fun c hc => by
        rw [hm2, l1, if_neg hc, l1, if_neg hc]
        rfl
      have a2 : ∀ a j : Nat, a ≠ 108 → m2.1 a j = m1.1 a j := fun a j ha => by
        rw [hm2]
        exact z_nc _ _ _ _ _ _ ha
      have := ih (x + 1) m2 (by omega) (by omega) (fun j => by rw [a2 110 j (by decide), a2 109 j (by decide)]; exact i1 j) (fun j hj => by
        rw [hm2]
        show (z_i m1 108 x (m.1 109 x)).1 108 j = _
        by_cases c : j = x
        · subst c; rw [z_eq]
        · rw [z_nk _ _ _ _ _ _ c]; exact i2 j (by omega)) (fun c hc => by rw [o2 c (by omega)]; exact i3 c hc) (fun q' hq' => by
        by_cases c : q' = q
        · subst c
          have hl : m2.2.2 (20 * s + q') = X ||| (((iz (v : Int)) : Int32).toInt64 <<< shl9 r) := by rw [hm2, l1, if_pos rfl]
          rw [hl, hput, hXl]
          have : (if 7 * q' + 7 ≤ x + 1 then 7 else x + 1 - 7 * q') = r + 1 := by split <;> omega
          rw [this, pks]
          congr 2
          rw [if_pos (by omega), ← hx, hv', Int.toNat_natCast]
        · rw [o2 _ (by omega), i4 q' (by omega)]
          congr 1
          split <;> split <;> omega)
      rw [show ((x + 1 : Nat) : Int) = (x : Int) + 1 by omega] at this
      exact this
  obtain ⟨m', e1, e2, e3, e4⟩ := key n 0 m (by omega) (by omega) (fun j => ⟨rfl, rfl⟩) (fun j hj => by omega) (fun c _ => rfl) (fun q hq => by omega)
  have e5 : zF51 n s m = some ((), m') := e1
  refine ⟨m', e5, zF51_kp n s m _ _ e5, e2, fun j hj => ?_, e3⟩
  have hl := e4 (j / 7) (by omega)
  have hw : (if 7 * (j / 7) + 7 ≤ 128 then 7 else 128 - 7 * (j / 7)) ≤ 7 ∧ j % 7 < (if 7 * (j / 7) + 7 ≤ 128 then 7 else 128 - 7 * (j / 7)) := by split <;> omega
  rw [hl]
  refine ⟨?_, ?_⟩
  · have h1 := pks_lt _ (hs0 (j / 7)) (if 7 * (j / 7) + 7 ≤ 128 then 7 else 128 - 7 * (j / 7))
    have h2 : 512 ^ (if 7 * (j / 7) + 7 ≤ 128 then 7 else 128 - 7 * (j / 7)) ≤ 512 ^ 7 := Nat.pow_le_pow_right (by decide) hw.1
    have h3 : (512 : Nat) ^ 7 = 2 ^ 63 := by decide
    omega
  · rw [pks_get _ (hs0 (j / 7)) (j % 7) _ hw.2, if_pos (by omega), show 7 * (j / 7) + j % 7 = j by omega]
    have h9 := h0 j hj
    show (((m.1 110 j).toNat : Nat) : Int) = m.1 110 j
    omega
