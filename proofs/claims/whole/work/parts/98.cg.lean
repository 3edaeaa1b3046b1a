/-! The open brackets of a row that is being read; the row against the class's automaton. -/
def cntr (S : Nat → Nat → Int) : Nat → Int
  | 0 => 0
  | k + 1 => cntr S k + (if 0 ≤ S 1 k then 1 else 0)
def XS (C : Nat → Int) (i0 i d : Nat) (S : Nat → Nat → Int) (u v : Int) (n : Nat) (A Y : Nat → Nat → Int) : Prop :=
  Y 2 i0 = -1 ∧ i0 < i ∧
  (∀ k : Nat, k < d → (i0 : Int) < S 2 k ∧ S 2 k < i ∧ Y 2 (S 2 k).toNat = -1 ∧ C (S 2 k).toNat = S 0 k ∧ opn (S 0 k) ∧ -1 ≤ S 1 k ∧ (S 1 k = -1 → C ((S 2 k).toNat - 1) ≠ 36) ∧ (0 ≤ S 1 k → S 1 k < n ∧ A 0 (S 1 k).toNat = 4 ∧ A 2 (S 1 k).toNat = -1 ∧ A 7 (S 1 k).toNat + 1 = S 2 k ∧ Y 4 (A 7 (S 1 k).toNat).toNat = -1 ∧ S 0 k = 40)) ∧
  (∀ k k' : Nat, k < k' → k' < d → S 2 k < S 2 k') ∧
  cntr S d = (if 0 ≤ v then 2 else if 0 ≤ u then 1 else 0) ∧ (∀ k : Nat, k < d → 0 ≤ S 1 k → (cntr S k = 0 ∧ S 1 k = u) ∨ (cntr S k = 1 ∧ S 1 k = v)) ∧
  -1 ≤ u ∧ u < n ∧ -1 ≤ v ∧ v < n ∧ (0 ≤ u → A 5 u.toNat = -1 ∧ A 6 u.toNat = -1 ∧ A 0 u.toNat = 4) ∧ (0 ≤ v → 0 ≤ u ∧ A 5 v.toNat = u ∧ A 6 v.toNat = -1 ∧ A 0 v.toNat = 4)
/-- nothing of the open brackets is touched -/
theorem XS_k {C : Nat → Int} {i0 i i' d : Nat} {S : Nat → Nat → Int} {u v : Int} {n n' : Nat} {A A' Y Y' : Nat → Nat → Int} (h : XS C i0 i d S u v n A Y) (hi : i ≤ i') (hn : n ≤ n') (hA : ∀ a e : Nat, e < n → A' a e = A a e) (hY : ∀ p : Nat, p < i → Y' 2 p = Y 2 p ∧ Y' 4 p = Y 4 p) (h7 : ∀ e : Nat, e < n → A 7 e < i) : XS C i0 i' d S u v n' A' Y' := by
  obtain ⟨h1, h2, h3, h4, h5, h6, h7a, h7b, h7c, h7d, h8, h9⟩ := h
  refine ⟨by rw [(hY i0 h2).1]; exact h1, by omega, ?_, h4, h5, h6, h7a, by omega, h7c, by omega, ?_, ?_⟩
  · intro k hk
    obtain ⟨a1, a2, a3, a4, a5, a6, a7, a8⟩ := h3 k hk
    refine ⟨a1, by omega, by rw [(hY _ (by omega)).1]; exact a3, a4, a5, a6, a7, fun z => ?_⟩
    obtain ⟨b1, b2, b3, b4, b5, b6⟩ := a8 z
    have hz := h7 (S 1 k).toNat (by omega)
    rw [hA 0 _ (by omega), hA 2 _ (by omega), hA 7 _ (by omega), (hY _ (by omega)).2]
    exact ⟨by omega, b2, b3, b4, b5, b6⟩
  · intro z
    rw [hA 5 _ (by omega), hA 6 _ (by omega), hA 0 _ (by omega)]
    exact h8 z
  · intro z
    rw [hA 5 _ (by omega), hA 6 _ (by omega), hA 0 _ (by omega)]
    exact h9 z
/-- a row that is being read, on both sides -/
def XR (pat : Bool) (C : Nat → Int) (i0 : Nat) (s : RS) (t : CS) : Prop :=
  t.1 = 4 ∧ t.2.1 = pat ∧ (pat = true → t.2.2.1 = s.2.2.2.2.2.2.1) ∧ t.2.2.2.1 = innf s.2.2.2.2.2.2.2 s.2.2.2.1 s.2.2.2.2.1 ∧ t.2.2.2.2.2.1 = s.2.1 + 1 ∧
  t.2.2.2.2.2.2.1 0 0 = i0 ∧ t.2.2.2.2.2.2.1 1 0 = lb pat ∧ (∀ k : Nat, k < s.2.1 → t.2.2.2.2.2.2.1 0 (k + 1) = s.2.2.1 2 k ∧ t.2.2.2.2.2.2.1 1 (k + 1) = clo (s.2.2.1 0 k)) ∧
  1 ≤ i0 ∧ C (i0 - 1) ≠ 36 ∧ XA pat C i0 s.1 s.2.2.2.2.2.1 s.2.2.2.2.2.2.1 s.2.2.2.2.2.2.2 t.2.2.2.2.2.2.2.1 ∧ XS C i0 s.1 s.2.1 s.2.2.1 s.2.2.2.1 s.2.2.2.2.1 s.2.2.2.2.2.1 s.2.2.2.2.2.2.2 t.2.2.2.2.2.2.2.1
theorem crn_go {C : Nat → Int} {i : Nat} {t t' : CS} (f : Nat) (h0 : 0 < C i) (h : cst (C i) i t = some t') : crn C (f + 1) i t = crn C f (i + 1) t' := by
  rw [crn, if_neg (by omega), if_neg (by omega), h]
theorem crn_no {C : Nat → Int} {i : Nat} {t : CS} (f : Nat) (h0 : 0 < C i) (h : cst (C i) i t = none) : crn C (f + 1) i t = (1, i, t) := by
  rw [crn, if_neg (by omega), if_neg (by omega), h]
theorem crn_z {C : Nat → Int} {i : Nat} {t : CS} (f : Nat) (h0 : C i ≤ 0) (h : t.1 ≠ 3) : crn C (f + 1) i t = (1, i, t) := by
  rw [crn]
  by_cases z : C i = 0
  · rw [if_pos z, if_neg h]
  · rw [if_neg z, if_pos (by omega)]
/-- the arrays behind an appended token -/
theorem YK_app (Y : Nat → Nat → Int) (i : Nat) (c inn : Int) : YK Y (c_app Y i c inn) i := by
  intro p hp
  have : ∀ j, c_app Y i c inn j p = Y j p := by
    intro j
    unfold c_app
    rw [if_neg (by omega)]
  rw [this 3, this 5, this 1, this 2, this 4]
  exact ⟨rfl, rfl, rfl, fun _ => rfl, fun _ => rfl⟩
theorem app_lt (Y : Nat → Nat → Int) (i : Nat) (c inn : Int) (j p : Nat) (hp : p ≠ i) : c_app Y i c inn j p = Y j p := by
  unfold c_app
  rw [if_neg hp]
section SIM
variable {pat : Bool} {C : Nat → Int} {i0 i d n : Nat} {S A Y St : Nat → Nat → Int} {u v q rp cl : Int} {a : Nat} {P : Nat → Int}
theorem XA_lt (h : XA pat C i0 i n q A Y) : ∀ e : Nat, e < n → A 7 e < i := by
  intro e he
  have := PL_in h.1 e he
  have := lnf_pos A e
  omega
theorem ra (A : Nat → Nat → Int) (n : Nat) (k c mk u v p : Int) : r_add A n k c mk u v p 0 n = k ∧ r_add A n k c mk u v p 1 n = c ∧ r_add A n k c mk u v p 2 n = -1 ∧ r_add A n k c mk u v p 3 n = 0 ∧ r_add A n k c mk u v p 4 n = mk ∧ r_add A n k c mk u v p 5 n = u ∧ r_add A n k c mk u v p 6 n = v ∧ r_add A n k c mk u v p 7 n = p := by
  simp [r_add]
/-- a literal, or a bracket that belongs to no repetition, as an element -/
theorem EK_lit (k c : Int) (hk : k = 0 ∨ k = 1 ∨ k = 2) (hc : C i = c) (h0 : 0 < c) (h36 : c ≠ 36) (hu : -1 ≤ u ∧ u < n) (hv : -1 ≤ v ∧ v < n) (Y' : Nat → Nat → Int) (h41 : c = 41 → 0 ≤ Y' 2 i ∧ (Y' 2 i = 0 ∨ C (Y' 2 i - 1).toNat ≠ 36)) : EK pat C Y' (r_add A n k c 0 u v i) (n + 1) n := by
  obtain ⟨e0, e1, e2, e3, e4, e5, e6, e7⟩ := ra A n k c 0 u v i
  unfold EK
  rw [e0, e1, e2, e3, e4, e5, e6, e7, Int.toNat_natCast]
  refine ⟨by omega, hu.1, hu.2, hv.1, hv.2, by omega, fun _ => ⟨hc, h0, h36, h41⟩, fun z => by omega, fun z => by omega, fun z => by omega, fun z => by omega⟩
theorem EK_frag (c1 kd : Int) (hp : pat = true) (h0 : C i = 36) (h1 : C (i + 1) = c1) (hw : wd c1) (h2 : C (i + 2) = 58) (h3 : knd (C (i + 3))) (hkd : kd = r_kd (C (i + 3))) (hu : -1 ≤ u ∧ u < n) (hv : -1 ≤ v ∧ v < n) (Y' : Nat → Nat → Int) (hY : Y' 3 i = innf A u v) : EK pat C Y' (r_add A n 3 c1 kd u v i) (n + 1) n := by
  obtain ⟨e0, e1, e2, e3, e4, e5, e6, e7⟩ := ra A n 3 c1 kd u v i
  have hin := innf_k (AK_add A n 3 c1 kd u v i n) u v hu.2 hv.2
  unfold EK
  rw [e0, e1, e2, e3, e4, e5, e6, e7, Int.toNat_natCast, hin]
  refine ⟨by omega, hu.1, hu.2, hv.1, hv.2, by omega, fun z => by omega, fun _ => ⟨hp, h0, h1, hw, h2, h3, hkd, hY⟩, fun z => by omega, fun z => by omega, fun z => by omega⟩
theorem EK_use (c1 : Int) (hp : pat = false) (h0 : C i = 36) (h1 : C (i + 1) = c1) (hw : wd c1) (hu : -1 ≤ u ∧ u < n) (hv : -1 ≤ v ∧ v < n) (Y' : Nat → Nat → Int) (hY : Y' 3 i = innf A u v) : EK pat C Y' (r_add A n 7 c1 0 u v i) (n + 1) n := by
  obtain ⟨e0, e1, e2, e3, e4, e5, e6, e7⟩ := ra A n 7 c1 0 u v i
  have hin := innf_k (AK_add A n 7 c1 0 u v i n) u v hu.2 hv.2
  unfold EK
  rw [e0, e1, e2, e3, e4, e5, e6, e7, Int.toNat_natCast, hin]
  refine ⟨by omega, hu.1, hu.2, hv.1, hv.2, by omega, fun z => by omega, fun z => by omega, fun _ => ⟨hp, h0, h1, hw, hY⟩, fun z => by omega, fun z => by omega⟩
theorem EK_beg (h0 : C i = 36) (h1 : C (i + 1) = 40) (hu : -1 ≤ u ∧ u < n) (hv : v = -1) (Y' : Nat → Nat → Int) (hY : Y' 3 i = innf A u v) (hord : pat = true → Y' 5 i = ordf A n) : EK pat C Y' (r_add A n 4 0 0 u v i) (n + 1) n := by
  obtain ⟨e0, e1, e2, e3, e4, e5, e6, e7⟩ := ra A n 4 0 0 u v i
  have hin := innf_k (AK_add A n 4 0 0 u v i n) u v hu.2 (by omega)
  have hor := ordf_k (AK_add A n 4 0 0 u v i n) n (Nat.le_refl n)
  unfold EK
  rw [e0, e1, e2, e3, e4, e5, e6, e7, Int.toNat_natCast, hin, hor]
  refine ⟨by omega, hu.1, hu.2, by omega, by omega, by omega, fun z => by omega, fun z => by omega, fun z => by omega, fun _ => ⟨h0, h1, hY, hv, hord, Or.inl rfl⟩, fun z => by omega⟩
theorem ln_add (k c mk p : Int) : lnf (r_add A n k c mk u v p) n = if k = 3 then 4 else if k = 4 ∨ k = 7 then 2 else if k = 5 then 2 else 1 := by
  obtain ⟨e0, e1, e2, e3, e4, e5, e6, e7⟩ := ra A n k c mk u v p
  unfold lnf
  rw [e0, e3]
  simp
theorem ln_add1 (k c mk p : Int) (hk : k = 0 ∨ k = 1 ∨ k = 2) : lnf (r_add A n k c mk u v p) n = ((1 : Nat) : Int) := by
  rw [ln_add]
  rcases hk with rfl | rfl | rfl <;> rfl
/-- a literal is read -/
theorem sim_lit (h : XR pat C i0 (i, d, S, u, v, n, q, A) (4, pat, rp, innf A u v, cl, d + 1, St, Y, a, P)) (h0 : 0 < C i) (h36 : C i ≠ 36) (hno : ¬ opn (C i)) (hnc : ¬ cls (C i)) :
    ∃ t', cst (C i) i (4, pat, rp, innf A u v, cl, d + 1, St, Y, a, P) = some t' ∧ XR pat C i0 (i + 1, d, S, u, v, n + 1, q, r_add A n 0 (C i) 0 u v i) t' ∧ t'.2.2.2.2.2.2.2.2 = (a, P) ∧ (0 ≤ rp ∧ rp ≤ 4 → 0 ≤ t'.2.2.1 ∧ t'.2.2.1 ≤ 4) := by
  refine ⟨(4, pat, rp, innf A u v, cl, d + 1, St, c_app Y i (C i) (innf A u v), a, P), ?_, ?_, rfl, fun z => z⟩
  · unfold cst
    dsimp only
    rw [if_neg (by decide), if_neg (by decide), if_neg (by decide), if_neg (by decide), if_pos rfl, if_neg h36, if_neg hno, if_neg hnc]
  · obtain ⟨x1, x2, x3, x4, x5, x6, x7, x8, x9, x10, xa, xs⟩ := h
    dsimp only at x3 x6 x7 x8 xa xs
    have hu : -1 ≤ u ∧ u < n := ⟨xs.2.2.2.2.2.2.1, xs.2.2.2.2.2.2.2.1⟩
    have hv : -1 ≤ v ∧ v < n := ⟨xs.2.2.2.2.2.2.2.2.1, xs.2.2.2.2.2.2.2.2.2.1⟩
    refine ⟨rfl, rfl, x3, ?_, rfl, x6, x7, x8, x9, x10, ?_, ?_⟩
    · exact (innf_k (AK_add A n 0 (C i) 0 u v i n) u v hu.2 hv.2).symm
    · have := XA_add xa 0 (C i) 0 u v 1 (YK_app Y i (C i) (innf A u v)) (EK_lit 0 (C i) (Or.inl rfl) rfl h0 h36 hu hv _ (fun z => absurd (Or.inl z) hnc)) (by rw [ln_add]; rfl) (by omega) ?_ ?_
      · rw [if_neg (by decide), Int.add_zero] at this
        exact this
      · intro p hp
        by_cases z : p = i
        · subst z; simp [c_app]
        · rw [app_lt _ _ _ _ _ _ z]; exact xa.2.2.1 p (by omega)
      · rw [show i + 1 - 1 = i by omega]; exact h36
    · exact XS_k (i' := i + 1) (n' := n + 1) (A' := r_add A n 0 (C i) 0 u v i) (Y' := c_app Y i (C i) (innf A u v)) xs (by omega) (by omega) (fun a e he => by unfold r_add; rw [if_neg (by omega)]) (fun p hp => ⟨app_lt _ _ _ _ _ _ (by omega), app_lt _ _ _ _ _ _ (by omega)⟩) (XA_lt xa)
theorem XS_opn {A' Y' : Nat → Nat → Int} (xs : XS C i0 i d S u v n A Y) (c : Int) (hA : ∀ a e : Nat, e < n → A' a e = A a e) (hY : ∀ p : Nat, p < i → Y' 2 p = Y 2 p ∧ Y' 4 p = Y 4 p) (h7 : ∀ e : Nat, e < n → A 7 e < i) (hYi : Y' 2 i = -1) (hc : C i = c) (ho : opn c) (h36 : C (i - 1) ≠ 36) : XS C i0 (i + 1) (d + 1) (r_psh S d c (-1) i) u v (n + 1) A' Y' := by
  have xs' := XS_k (i' := i + 1) (n' := n + 1) xs (by omega) (by omega) hA hY h7
  obtain ⟨y1, y2, y3, y4, y5, y6, y7, y8, y9, y10, y11, y12⟩ := xs'
  have ps : ∀ a' k : Nat, k < d → r_psh S d c (-1) i a' k = S a' k := by
    intro a' k hk
    unfold r_psh
    rw [if_neg (by omega)]
  have pc : ∀ k : Nat, k ≤ d → cntr (r_psh S d c (-1) i) k = cntr S k := by
    intro k
    induction k with
    | zero => intro _; rfl
    | succ k ih => intro hk; rw [cntr, cntr, ih (by omega), ps 1 k (by omega)]
  have e1 : r_psh S d c (-1) i 1 d = -1 := by simp [r_psh]
  have e2 : r_psh S d c (-1) i 2 d = i := by simp [r_psh]
  have e0 : r_psh S d c (-1) i 0 d = c := by simp [r_psh]
  refine ⟨y1, y2, ?_, ?_, ?_, ?_, y7, y8, y9, y10, y11, y12⟩
  · intro k hk
    by_cases z : k = d
    · subst z
      rw [e0, e1, e2, Int.toNat_natCast]
      exact ⟨by have := xs.2.1; omega, by omega, hYi, hc, ho, by omega, fun _ => h36, fun w => by omega⟩
    · rw [ps 0 k (by omega), ps 1 k (by omega), ps 2 k (by omega)]
      exact y3 k (by omega)
  · intro k k' hk hk'
    by_cases z : k' = d
    · subst z
      rw [e2, ps 2 k (by omega)]
      exact (xs.2.2.1 k (by omega)).2.1
    · rw [ps 2 k (by omega), ps 2 k' (by omega)]
      exact y4 k k' hk (by omega)
  · rw [cntr, pc d (by omega), e1, if_neg (by omega), Int.add_zero]
    exact y5
  · intro k hk hk2
    by_cases z : k = d
    · subst z; rw [e1] at hk2; omega
    · rw [ps 1 k (by omega)] at hk2 ⊢
      rw [pc k (by omega)]
      exact y6 k (by omega) hk2
/-- a repetition's bracket -/
theorem XS_rep {A' Y' : Nat → Nat → Int} (xs : XS C i0 i d S u v n A Y) (hA : ∀ a e : Nat, e < n → A' a e = A a e) (hY : ∀ p : Nat, p < i → Y' 2 p = Y 2 p ∧ Y' 4 p = Y 4 p) (h7 : ∀ e : Nat, e < n → A 7 e < i) (hv : v < 0) (hYi : Y' 2 (i + 1) = -1) (hYi4 : Y' 4 i = -1) (hc : C (i + 1) = 40)
    (a0 : A' 0 n = 4) (a2 : A' 2 n = -1) (a7 : A' 7 n = i) (a5 : A' 5 n = u) (a6 : A' 6 n = -1) : XS C i0 (i + 2) (d + 1) (r_psh S d 40 n (i + 1 : Nat)) (if u < 0 then (n : Int) else u) (if u < 0 then -1 else (n : Int)) (n + 1) A' Y' := by
  have xs' := XS_k (i' := i + 2) (n' := n + 1) xs (by omega) (by omega) hA hY h7
  obtain ⟨y1, y2, y3, y4, y5, y6, y7, y8, y9, y10, y11, y12⟩ := xs'
  have ps : ∀ a' k : Nat, k < d → r_psh S d 40 n (i + 1 : Nat) a' k = S a' k := by
    intro a' k hk
    unfold r_psh
    rw [if_neg (by omega)]
  have pc : ∀ k : Nat, k ≤ d → cntr (r_psh S d 40 n (i + 1 : Nat)) k = cntr S k := by
    intro k
    induction k with
    | zero => intro _; rfl
    | succ k ih => intro hk; rw [cntr, cntr, ih (by omega), ps 1 k (by omega)]
  have e1 : r_psh S d 40 n (i + 1 : Nat) 1 d = n := by simp [r_psh]
  have e2 : r_psh S d 40 n (i + 1 : Nat) 2 d = ((i + 1 : Nat) : Int) := by simp [r_psh]
  have e0 : r_psh S d 40 n (i + 1 : Nat) 0 d = 40 := by simp [r_psh]
  refine ⟨y1, y2, ?_, ?_, ?_, ?_, by split <;> omega, by split <;> omega, by split <;> omega, by split <;> omega, ?_, ?_⟩
  · intro k hk
    by_cases z : k = d
    · subst z
      rw [e0, e1, e2, Int.toNat_natCast, Int.toNat_natCast]
      refine ⟨by have := xs.2.1; omega, by omega, hYi, hc, by decide, by omega, fun w => by omega, fun _ => ⟨by omega, a0, a2, by rw [a7]; omega, by rw [a7, Int.toNat_natCast]; exact hYi4, rfl⟩⟩
    · rw [ps 0 k (by omega), ps 1 k (by omega), ps 2 k (by omega)]
      exact y3 k (by omega)
  · intro k k' hk hk'
    by_cases z : k' = d
    · subst z
      rw [e2, ps 2 k (by omega)]
      have := (xs.2.2.1 k (by omega)).2.1
      omega
    · rw [ps 2 k (by omega), ps 2 k' (by omega)]
      exact y4 k k' hk (by omega)
  · rw [cntr, pc d (by omega), e1, if_pos (by omega), y5, if_neg (by omega)]
    by_cases z : u < 0
    · rw [if_neg (by omega), if_pos z, if_pos z, if_neg (by decide), if_pos (by omega)]
      rfl
    · rw [if_pos (by omega), if_neg z, if_neg z, if_pos (by omega)]
      rfl
  · intro k hk hk2
    by_cases z : k = d
    · subst z
      rw [e1, pc k (by omega), y5, if_neg (by omega)]
      by_cases w : u < 0
      · left; rw [if_neg (by omega), if_pos w]; exact ⟨rfl, rfl⟩
      · right; rw [if_pos (by omega), if_neg w]; exact ⟨rfl, rfl⟩
    · rw [ps 1 k (by omega)] at hk2 ⊢
      rw [pc k (by omega)]
      rcases y6 k (by omega) hk2 with w | w
      · left
        by_cases w2 : u < 0
        · omega
        · rw [if_neg w2]; exact w
      · omega
  · intro z
    by_cases w : u < 0
    · rw [if_pos w, Int.toNat_natCast, a5, a6, a0]
      exact ⟨by omega, rfl, rfl⟩
    · rw [if_neg w]
      exact y11 (by omega)
  · intro z
    by_cases w : u < 0
    · rw [if_pos w] at z; omega
    · rw [if_neg w, if_neg w, Int.toNat_natCast, a5, a6, a0]
      exact ⟨by omega, rfl, rfl, rfl⟩
/-- a bracket is opened -/
theorem sim_opn (h : XR pat C i0 (i, d, S, u, v, n, q, A) (4, pat, rp, innf A u v, cl, d + 1, St, Y, a, P)) (ho : opn (C i)) (hd : d < 9) :
    ∃ t', cst (C i) i (4, pat, rp, innf A u v, cl, d + 1, St, Y, a, P) = some t' ∧ XR pat C i0 (i + 1, d + 1, r_psh S d (C i) (-1) i, u, v, n + 1, q, r_add A n (if pat = true then 1 else 0) (C i) 0 u v i) t' ∧ t'.2.2.2.2.2.2.2.2 = (a, P) ∧ (0 ≤ rp ∧ rp ≤ 4 → 0 ≤ t'.2.2.1 ∧ t'.2.2.1 ≤ 4) := by
  refine ⟨(4, pat, rp, innf A u v, cl, d + 1 + 1, c_psh St (d + 1) i (C i), c_app Y i (C i) (innf A u v), a, P), ?_, ?_, rfl, fun z => z⟩
  · unfold cst
    dsimp only
    rw [if_neg (by decide), if_neg (by decide), if_neg (by decide), if_neg (by decide), if_pos rfl, if_neg (by omega), if_pos ho, if_pos (by omega)]
  · obtain ⟨x1, x2, x3, x4, x5, x6, x7, x8, x9, x10, xa, xs⟩ := h
    dsimp only at x3 x6 x7 x8 xa xs
    have hu : -1 ≤ u ∧ u < n := ⟨xs.2.2.2.2.2.2.1, xs.2.2.2.2.2.2.2.1⟩
    have hv : -1 ≤ v ∧ v < n := ⟨xs.2.2.2.2.2.2.2.2.1, xs.2.2.2.2.2.2.2.2.2.1⟩
    have hkk : (if pat = true then (1 : Int) else 0) = 0 ∨ (if pat = true then (1 : Int) else 0) = 1 ∨ (if pat = true then (1 : Int) else 0) = 2 := by split <;> omega
    have h4 : ¬ (if pat = true then (1 : Int) else 0) = 4 := by split <;> omega
    refine ⟨rfl, rfl, x3, ?_, rfl, ?_, ?_, ?_, x9, x10, ?_, ?_⟩
    · exact (innf_k (AK_add A n _ (C i) 0 u v i n) u v hu.2 hv.2).symm
    · show c_psh St (d + 1) i (C i) 0 0 = i0
      unfold c_psh
      rw [if_neg (by omega)]; exact x6
    · show c_psh St (d + 1) i (C i) 1 0 = lb pat
      unfold c_psh
      rw [if_neg (by omega)]; exact x7
    · intro k hk
      have hk' : k < d + 1 := hk
      show c_psh St (d + 1) i (C i) 0 (k + 1) = r_psh S d (C i) (-1) i 2 k ∧ c_psh St (d + 1) i (C i) 1 (k + 1) = clo (r_psh S d (C i) (-1) i 0 k)
      unfold c_psh r_psh
      by_cases z : k = d
      · subst z; simp
      · have z2 : ¬ k + 1 = d + 1 := by omega
        simp only [if_neg z, if_neg z2]
        exact x8 k (by omega)
    · have := XA_add xa (if pat = true then 1 else 0) (C i) 0 u v 1 (YK_app Y i (C i) (innf A u v)) (EK_lit _ (C i) hkk rfl (by omega) (by omega) hu hv _ (fun z => by omega)) (ln_add1 _ _ _ _ hkk) (by omega) ?_ ?_
      · rw [if_neg h4, Int.add_zero] at this
        exact this
      · intro p hp
        by_cases z : p = i
        · subst z; simp [c_app]
        · rw [app_lt _ _ _ _ _ _ z]; exact xa.2.2.1 p (by omega)
      · rw [show i + 1 - 1 = i by omega]; omega
    · exact XS_opn (A' := r_add A n (if pat = true then 1 else 0) (C i) 0 u v i) (Y' := c_app Y i (C i) (innf A u v)) xs (C i) (fun a e he => by unfold r_add; rw [if_neg (by omega)]) (fun p hp => ⟨app_lt _ _ _ _ _ _ (by omega), app_lt _ _ _ _ _ _ (by omega)⟩) (XA_lt xa) (by simp [c_app]) rfl ho xa.2.2.2.2.2
end SIM
