/-! The tokens of a text, as both sides read them. -/
def skp (T : Nat → Int) (L : Nat) : Nat → Nat → Nat
  | 0, p => p
  | f + 1, p => if p < L ∧ T p = 32 then skp T L f (p + 1) else p
def sk (T : Nat → Int) (L p : Nat) : Nat := skp T L (L - p) p
def rnp (P : Int → Bool) (T : Nat → Int) (L : Nat) : Nat → Nat → Nat
  | 0, q => q
  | f + 1, q => if q < L ∧ P (T q) = true then rnp P T L f (q + 1) else q
def rn (P : Int → Bool) (T : Nat → Int) (L q : Nat) : Nat := rnp P T L (L - q) q
def vl (B o : Int) (T : Nat → Int) (s : Nat) : Nat → Int
  | 0 => 0
  | c + 1 => vl B o T s c * B + T (s + c) - o
def isl (c : Int) : Bool := decide (ltr c)
def isd (c : Int) : Bool := decide (dgt c)
/-- the code of the token at p or behind (0: the end, -1: none), where it begins, where it ends -/
def tkc (T : Nat → Int) (L p : Nat) : Int :=
  if L ≤ sk T L p then 0 else
  if ltr (T (sk T L p)) then (if rn isl T L (sk T L p) - sk T L p ≤ 3 then 1000 + vl 27 96 T (sk T L p) (rn isl T L (sk T L p) - sk T L p) else -1) else
  if dgt (T (sk T L p)) then (if rn isd T L (sk T L p) - sk T L p = 1 ∨ (rn isd T L (sk T L p) - sk T L p = 2 ∧ T (sk T L p) ≠ 48) then 300 + vl 10 48 T (sk T L p) (rn isd T L (sk T L p) - sk T L p) else -1) else
  if opn (T (sk T L p)) ∨ cls (T (sk T L p)) ∨ sgn (T (sk T L p)) then T (sk T L p) else -1
def tke (T : Nat → Int) (L p : Nat) : Nat :=
  if L ≤ sk T L p then sk T L p else
  if ltr (T (sk T L p)) then rn isl T L (sk T L p) else
  if dgt (T (sk T L p)) then rn isd T L (sk T L p) else sk T L p + 1
def srt (c : Int) : Int := if c = 0 then 6 else if c < 0 then 0 else if 1000 < c then 1 else if 300 ≤ c then 2 else if opn c then 4 else if cls c then 5 else 3
theorem skp_step (T : Nat → Int) (L p : Nat) (h : p < L ∧ T p = 32) : sk T L p = sk T L (p + 1) := by
  unfold sk
  obtain ⟨f, hf⟩ : ∃ f, L - p = f + 1 := ⟨L - p - 1, by omega⟩
  rw [hf, skp, if_pos h, show f = L - (p + 1) by omega]
theorem skp_stop (T : Nat → Int) (L p : Nat) (h : ¬ (p < L ∧ T p = 32)) : sk T L p = p := by
  unfold sk
  cases hf : L - p with
  | zero => rfl
  | succ f => rw [skp, if_neg h]
theorem rnp_step (P : Int → Bool) (T : Nat → Int) (L p : Nat) (h : p < L ∧ P (T p) = true) : rn P T L p = rn P T L (p + 1) := by
  unfold rn
  obtain ⟨f, hf⟩ : ∃ f, L - p = f + 1 := ⟨L - p - 1, by omega⟩
  rw [hf, rnp, if_pos h, show f = L - (p + 1) by omega]
theorem rnp_stop (P : Int → Bool) (T : Nat → Int) (L p : Nat) (h : ¬ (p < L ∧ P (T p) = true)) : rn P T L p = p := by
  unfold rn
  cases hf : L - p with
  | zero => rfl
  | succ f => rw [rnp, if_neg h]
theorem skp_le (T : Nat → Int) (L : Nat) : ∀ (f p : Nat), p ≤ skp T L f p ∧ (p ≤ L → skp T L f p ≤ L) := by
  intro f
  induction f with
  | zero => intro p; exact ⟨Nat.le_refl _, fun h => h⟩
  | succ f ih =>
    intro p
    rw [skp]
    by_cases h : p < L ∧ T p = 32
    · rw [if_pos h]
      have := ih (p + 1)
      exact ⟨by omega, fun _ => this.2 (by omega)⟩
    · rw [if_neg h]
      exact ⟨Nat.le_refl _, fun h => h⟩
theorem rnp_le (P : Int → Bool) (T : Nat → Int) (L : Nat) : ∀ (f p : Nat), p ≤ rnp P T L f p ∧ (p ≤ L → rnp P T L f p ≤ L) := by
  intro f
  induction f with
  | zero => intro p; exact ⟨Nat.le_refl _, fun h => h⟩
  | succ f ih =>
    intro p
    rw [rnp]
    by_cases h : p < L ∧ P (T p) = true
    · rw [if_pos h]
      have := ih (p + 1)
      exact ⟨by omega, fun _ => this.2 (by omega)⟩
    · rw [if_neg h]
      exact ⟨Nat.le_refl _, fun h => h⟩
theorem sk_le (T : Nat → Int) (L p : Nat) : p ≤ sk T L p ∧ (p ≤ L → sk T L p ≤ L) := skp_le T L _ p
theorem rn_le (P : Int → Bool) (T : Nat → Int) (L p : Nat) : p ≤ rn P T L p ∧ (p ≤ L → rn P T L p ≤ L) := rnp_le P T L _ p
/-- characters that may stand in a text -/
def chs (T : Nat → Int) (L : Nat) : Prop := ∀ k : Nat, k < L → 32 ≤ T k ∧ T k ≤ 126
theorem sk_ch (T : Nat → Int) (L : Nat) : ∀ (f p : Nat), L - p ≤ f → sk T L p < L → T (sk T L p) ≠ 32 := by
  intro f
  induction f with
  | zero => intro p hf h; have := (sk_le T L p).1; omega
  | succ f ih =>
    intro p hf h
    by_cases q : p < L ∧ T p = 32
    · rw [skp_step T L p q] at h ⊢
      exact ih (p + 1) (by omega) h
    · rw [skp_stop T L p q] at h ⊢
      exact fun z => q ⟨h, z⟩
theorem rn_gt (P : Int → Bool) (T : Nat → Int) (L p : Nat) (h : p < L) (hp : P (T p) = true) : p < rn P T L p := by
  rw [rnp_step P T L p ⟨h, hp⟩]
  have := (rn_le P T L (p + 1)).1
  omega
theorem rn_all (P : Int → Bool) (T : Nat → Int) (L : Nat) : ∀ (f p : Nat), L - p ≤ f → ∀ k, p ≤ k → k < rn P T L p → P (T k) = true := by
  intro f
  induction f with
  | zero =>
    intro p hf k h1 h2
    rw [rnp_stop P T L p (fun z => by omega)] at h2
    omega
  | succ f ih =>
    intro p hf k h1 h2
    by_cases q : p < L ∧ P (T p) = true
    · rw [rnp_step P T L p q] at h2
      by_cases e : k = p
      · subst e; exact q.2
      · exact ih (p + 1) (by omega) k (by omega) h2
    · rw [rnp_stop P T L p q] at h2
      omega
/-- bounds of a value of at most four places -/
theorem vl_27 (T : Nat → Int) (s : Nat) : ∀ c : Nat, (∀ k, k < c → ltr (T (s + k))) → 0 ≤ vl 27 96 T s c ∧ (c = 0 → vl 27 96 T s c ≤ 0) ∧ (c = 1 → vl 27 96 T s c ≤ 26) ∧ (c = 2 → vl 27 96 T s c ≤ 728) ∧ (c = 3 → vl 27 96 T s c ≤ 19682) ∧ (c = 4 → vl 27 96 T s c ≤ 531440) ∧ (0 < c → 0 < vl 27 96 T s c) := by
  intro c
  induction c with
  | zero => intro _; rw [vl]; omega
  | succ c ih =>
    intro h
    have h1 := ih (fun k hk => h k (by omega))
    have h2 := h c (by omega)
    rw [vl]
    omega
theorem vl_10 (T : Nat → Int) (s : Nat) : ∀ c : Nat, (∀ k, k < c → dgt (T (s + k))) → 0 ≤ vl 10 48 T s c ∧ (c = 0 → vl 10 48 T s c ≤ 0) ∧ (c = 1 → vl 10 48 T s c ≤ 9) ∧ (c = 2 → vl 10 48 T s c ≤ 99) ∧ (c = 3 → vl 10 48 T s c ≤ 999) ∧ (c = 4 → vl 10 48 T s c ≤ 9999) := by
  intro c
  induction c with
  | zero => intro _; rw [vl]; omega
  | succ c ih =>
    intro h
    have h1 := ih (fun k hk => h k (by omega))
    have h2 := h c (by omega)
    rw [vl]
    omega
/-! The reference's next. -/
section NEXT
variable {T : Nat → Int} {L : Nat} {m : ZM}
theorem nx_sk (n : Nat) (hL : L ≤ 120) (h3 : m.1 83 3 = L) (hT : ∀ k : Nat, k < L → m.1 85 k = T k) : ∀ (f p : Nat), p ≤ L → L - p < f → zL28_5 n f p m = zJ28_31 n (sk T L p) m := by
  intro f
  induction f with
  | zero => intro p _ hf; exact absurd hf (by omega)
  | succ f ih =>
    intro p hp hf
    rw [zL28_5]
    by_cases q : p < L
    · rw [if_neg (by omega), if_neg (by omega), Int.toNat_natCast, hT p q]
      by_cases q2 : T p = 32
      · rw [if_pos q2, if_pos (by omega), skp_step T L p ⟨q, q2⟩]
        have := ih (p + 1) (by omega) (by omega)
        rw [Int.natCast_add] at this
        exact this
      · rw [if_neg q2, skp_stop T L p (fun z => q2 z.2)]
    · rw [if_pos (by omega), skp_stop T L p (fun z => q z.1)]
theorem nx_l (n s : Nat) (c : Int) (hc : ltr c) (hL : L ≤ 120) (h3 : m.1 83 3 = L) (hT : ∀ k : Nat, k < L → m.1 85 k = T k) : ∀ (f q : Nat) (v : Int), s ≤ q → q ≤ L → L - q < f → (∀ k, s ≤ k → k < q → ltr (T k)) → v = (if q - s ≤ 4 then vl 27 96 T s (q - s) else 0) →
    zL28_60 n f s c q v m = zJ28_173 n s c (rn isl T L q) (if rn isl T L q - s ≤ 4 then vl 27 96 T s (rn isl T L q - s) else 0) m := by
  intro f
  induction f with
  | zero => intro q v _ _ hf; exact absurd hf (by omega)
  | succ f ih =>
    intro q v hs hq hf hl hv
    rw [zL28_60, zF25_eq]
    dsimp only
    by_cases q1 : q < L
    · rw [if_neg (by omega), ib, if_pos hc, if_neg (by omega), Int.toNat_natCast, hT q q1, zF25_eq]
      dsimp only
      rw [ib]
      by_cases q2 : ltr (T q)
      · rw [if_pos q2, rnp_step isl T L q ⟨q1, decide_eq_true q2⟩]
        unfold zJ28_109
        rw [zF25_eq]
        dsimp only
        have hb := vl_27 T s (q - s) (fun k hk => hl (s + k) (by omega) (by omega))
        have hv1 : 0 ≤ v ∧ v ≤ 531440 := by
          rw [hv]
          split <;> omega
        rw [ib, if_pos hc, if_neg (by omega), Int.toNat_natCast, hT q q1, if_pos (by omega)]
        unfold zJ28_149 zJ28_164
        have hl' : ∀ k, s ≤ k → k < q + 1 → ltr (T k) := by
          intro k h1 h2
          by_cases e : k = q
          · subst e; exact q2
          · exact hl k h1 (by omega)
        have hnx : ∀ v' : Int, v' = (if q + 1 - s ≤ 4 then vl 27 96 T s (q + 1 - s) else 0) → zL28_60 n f s c ((q : Int) + 1) v' m = zJ28_173 n s c (rn isl T L (q + 1)) (if rn isl T L (q + 1) - s ≤ 4 then vl 27 96 T s (rn isl T L (q + 1) - s) else 0) m := by
          intro v' hv'
          have := ih (q + 1) v' (by omega) (by omega) (by omega) hl' hv'
          rw [Int.natCast_add] at this
          exact this
        by_cases q3 : 4 ≤ (q : Int) - s
        · rw [if_pos (by omega), if_pos q3, if_pos (by omega)]
          exact hnx 0 (by rw [if_neg (by omega)])
        · rw [if_pos (by omega), if_neg q3, if_pos (by omega)]
          refine hnx _ ?_
          rw [if_pos (by omega), show q + 1 - s = (q - s) + 1 by omega, vl, show s + (q - s) = q by omega, hv, if_pos (by omega)]
      · rw [if_neg q2, rnp_stop isl T L q (fun z => q2 (of_decide_eq_true z.2)), hv]
    · rw [if_pos (by omega), rnp_stop isl T L q (fun z => q1 z.1), hv]
theorem nx_d (n s : Nat) (c : Int) (hc : dgt c) (hL : L ≤ 120) (h3 : m.1 83 3 = L) (hT : ∀ k : Nat, k < L → m.1 85 k = T k) : ∀ (f q : Nat) (v : Int), s ≤ q → q ≤ L → L - q < f → (∀ k, s ≤ k → k < q → dgt (T k)) → v = (if q - s ≤ 4 then vl 10 48 T s (q - s) else 0) →
    zL28_60 n f s c q v m = zJ28_173 n s c (rn isd T L q) (if rn isd T L q - s ≤ 4 then vl 10 48 T s (rn isd T L q - s) else 0) m := by
  have hnl : ¬ ltr c := by omega
  intro f
  induction f with
  | zero => intro q v _ _ hf; exact absurd hf (by omega)
  | succ f ih =>
    intro q v hs hq hf hl hv
    rw [zL28_60, zF25_eq]
    dsimp only
    by_cases q1 : q < L
    · rw [if_neg (by omega), ib, if_neg hnl, zF26_eq]
      dsimp only
      rw [ib, if_pos hc]
      unfold zJ28_97
      rw [if_neg (by omega), Int.toNat_natCast, hT q q1, zF26_eq]
      dsimp only
      rw [ib]
      by_cases q2 : dgt (T q)
      · rw [if_pos q2, rnp_step isd T L q ⟨q1, decide_eq_true q2⟩]
        unfold zJ28_109
        rw [zF25_eq]
        dsimp only
        have hb := vl_10 T s (q - s) (fun k hk => hl (s + k) (by omega) (by omega))
        have hv1 : 0 ≤ v ∧ v ≤ 9999 := by
          rw [hv]
          split <;> omega
        rw [ib, if_neg hnl, if_neg (by omega), Int.toNat_natCast, hT q q1, if_pos (by omega)]
        unfold zJ28_149 zJ28_164
        have hl' : ∀ k, s ≤ k → k < q + 1 → dgt (T k) := by
          intro k h1 h2
          by_cases e : k = q
          · subst e; exact q2
          · exact hl k h1 (by omega)
        have hnx : ∀ v' : Int, v' = (if q + 1 - s ≤ 4 then vl 10 48 T s (q + 1 - s) else 0) → zL28_60 n f s c ((q : Int) + 1) v' m = zJ28_173 n s c (rn isd T L (q + 1)) (if rn isd T L (q + 1) - s ≤ 4 then vl 10 48 T s (rn isd T L (q + 1) - s) else 0) m := by
          intro v' hv'
          have := ih (q + 1) v' (by omega) (by omega) (by omega) hl' hv'
          rw [Int.natCast_add] at this
          exact this
        by_cases q3 : 4 ≤ (q : Int) - s
        · rw [if_pos (by omega), if_pos q3, if_pos (by omega)]
          exact hnx 0 (by rw [if_neg (by omega)])
        · rw [if_pos (by omega), if_neg q3, if_pos (by omega)]
          refine hnx _ ?_
          rw [if_pos (by omega), show q + 1 - s = (q - s) + 1 by omega, vl, show s + (q - s) = q by omega, hv, if_pos (by omega)]
      · rw [if_neg q2, rnp_stop isd T L q (fun z => q2 (of_decide_eq_true z.2)), hv]
    · rw [if_pos (by omega), rnp_stop isd T L q (fun z => q1 z.1), hv]
theorem nx_o (n s : Nat) (c : Int) (hc : ¬ ltr c) (hd : ¬ dgt c) (f : Nat) (hf : 0 < f) : zL28_60 n f s c s 0 m = zJ28_173 n s c s 0 m := by
  obtain ⟨f, rfl⟩ : ∃ q, f = q + 1 := ⟨f - 1, by omega⟩
  rw [zL28_60, zF25_eq]
  dsimp only
  rw [ib, if_neg hc, zF26_eq]
  dsimp only
  rw [ib, if_neg hd]
  split <;> rfl
end NEXT
