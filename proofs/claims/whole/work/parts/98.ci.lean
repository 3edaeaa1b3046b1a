/-! A closing bracket: the row against the class's automaton. -/
section STQ
variable {i d a : Nat} {pat : Bool} {rp inn cl : Int} {St Y : Nat → Nat → Int} {P : Nat → Int}
/-- the arrays behind a closing bracket at i whose opening one is at o -/
def c_jn (Y : Nat → Nat → Int) (i : Nat) (c inn o : Int) : Nat → Nat → Int := r_set (r_set (c_app Y i c inn) 2 o.toNat i) 2 i o
theorem c_cls (c : Int) (hc : cls c) (hd : 1 ≤ d) (h1 : St 1 d = c) : cst c i (4, pat, rp, inn, cl, d + 1, St, Y, a, P) = if c_rpe (c_jn Y i c inn (St 0 d)) i = -1 then some (4, pat, rp, inn, -1, d, St, c_jn Y i c inn (St 0 d), a, P) else some (8, pat, rp, c_jn Y i c inn (St 0 d) 3 (c_rpe (c_jn Y i c inn (St 0 d)) i).toNat, c_rpe (c_jn Y i c inn (St 0 d)) i, d, St, c_jn Y i c inn (St 0 d), a, P) := by
  unfold cst
  dsimp only
  rw [if_neg (by decide), if_neg (by decide), if_neg (by decide), if_neg (by decide), if_pos rfl, if_neg (by omega), if_neg (by omega), if_pos hc, if_neg (by omega), show d + 1 - 1 = d by omega, if_pos h1, if_neg (by omega)]
  rfl
theorem c_cls0 (c : Int) (hc : cls c) (h1 : St 1 0 = c) : cst c i (4, pat, rp, inn, cl, 0 + 1, St, Y, a, P) = some ((if pat = true then 2 else 3), pat, rp, inn, cl, 0, St, c_jn Y i c inn (St 0 0), a, P) := by
  unfold cst
  dsimp only
  rw [if_neg (by decide), if_neg (by decide), if_neg (by decide), if_neg (by decide), if_pos rfl, if_neg (by omega), if_neg (by omega), if_pos hc, if_neg (by omega), if_pos h1, if_pos rfl]
  rfl
theorem c_clsn (c : Int) (hc : cls c) (h1 : St 1 d ≠ c) : cst c i (4, pat, rp, inn, cl, d + 1, St, Y, a, P) = none := by
  unfold cst
  dsimp only
  rw [if_neg (by decide), if_neg (by decide), if_neg (by decide), if_neg (by decide), if_pos rfl, if_neg (by omega), if_neg (by omega), if_pos hc, if_neg (by omega), show d + 1 - 1 = d by omega, if_neg h1]
theorem c_8 (c : Int) : cst c i (8, pat, rp, inn, cl, d, St, Y, a, P) = if c = 42 ∨ c = 43 ∨ c = 63 then some (4, pat, rp, inn, cl, d, St, r_set (c_app Y i c inn) 4 cl.toNat i, a, P) else if c ≠ 36 ∧ ¬ opn c ∧ ¬ cls c then some (9, pat, rp, inn, cl, d, St, c_app Y i c inn, a, P) else none := by
  unfold cst
  dsimp only
  rw [if_neg (by decide), if_neg (by decide), if_neg (by decide), if_neg (by decide), if_neg (by decide), if_neg (by decide), if_neg (by decide), if_neg (by decide), if_pos rfl]
theorem c_9 (c : Int) : cst c i (9, pat, rp, inn, cl, d, St, Y, a, P) = if c = 42 ∨ c = 43 then some (4, pat, rp, inn, cl, d, St, r_set (c_app Y i c inn) 4 cl.toNat i, a, P) else none := by
  unfold cst
  dsimp only
  rw [if_neg (by decide), if_neg (by decide), if_neg (by decide), if_neg (by decide), if_neg (by decide), if_neg (by decide), if_neg (by decide), if_neg (by decide), if_neg (by decide)]
theorem jn_lt (c o : Int) (j p : Nat) (h1 : p ≠ i) (h2 : j ≠ 2 ∨ p ≠ o.toNat) : c_jn Y i c inn o j p = Y j p := by
  unfold c_jn r_set
  rw [if_neg (fun z => h1 z.2), if_neg (fun z => by rcases h2 with w | w; exact w z.1; exact w z.2), app_lt _ _ _ _ _ _ h1]
theorem jn_at (c o : Int) (h : o.toNat ≠ i) : c_jn Y i c inn o 1 i = c ∧ c_jn Y i c inn o 2 i = o ∧ c_jn Y i c inn o 3 i = inn ∧ c_jn Y i c inn o 4 i = -1 ∧ c_jn Y i c inn o 5 i = -1 ∧ c_jn Y i c inn o 2 o.toNat = i := by
  have := app_at Y i c inn
  unfold c_jn r_set
  simp [this, h]
end STQ
section CLS
variable {pat : Bool} {C : Nat → Int} {i0 i d n : Nat} {S A Y St : Nat → Nat → Int} {u v q rp cl : Int} {a : Nat} {P : Nat → Int}
theorem cntr_le (S : Nat → Nat → Int) : ∀ k k' : Nat, k ≤ k' → cntr S k ≤ cntr S k' := by
  intro k k' h
  induction h with
  | refl => exact Int.le_refl _
  | step _ ih => rw [cntr]; split <;> omega
/-- the innermost open bracket is taken off -/
theorem XS_pop {A' Y' : Nat → Nat → Int} {i' n' : Nat} {u' v' : Int} (xs : XS C i0 i d S u v n A Y) (hd : 0 < d) (hi : i ≤ i') (hn : n ≤ n')
    (hA : ∀ a e : Nat, e < n → (a ≠ 2 ∧ a ≠ 3 ∧ a ≠ 4) → A' a e = A a e) (hA2 : ∀ k : Nat, k < d - 1 → 0 ≤ S 1 k → A' 2 (S 1 k).toNat = A 2 (S 1 k).toNat ∧ Y' 4 (A 7 (S 1 k).toNat).toNat = -1)
    (hY : ∀ p : Nat, p < i → p ≠ (S 2 (d - 1)).toNat → Y' 2 p = Y 2 p)
    (hc : cntr S (d - 1) = (if 0 ≤ v' then 2 else if 0 ≤ u' then 1 else 0)) (hr : ∀ k : Nat, k < d - 1 → 0 ≤ S 1 k → (cntr S k = 0 ∧ S 1 k = u') ∨ (cntr S k = 1 ∧ S 1 k = v'))
    (hu : u' = u ∨ u' = -1) (hv : v' = v ∨ v' = -1) (huv : 0 ≤ v' → u' = u) : XS C i0 i' (d - 1) S u' v' n' A' Y' := by
  obtain ⟨h1, h2, h3, h4, h5, h6, h7, h8, h9, h10, h11, h12⟩ := xs
  have ho := h3 (d - 1) (by omega)
  refine ⟨?_, by omega, ?_, fun k k' w w' => h4 k k' w (by omega), hc, hr, by omega, by omega, by omega, by omega, ?_, ?_⟩
  · rw [hY i0 h2 (by omega)]; exact h1
  · intro k hk
    obtain ⟨a1, a2, a3, a4, a5, a6, a7, a8⟩ := h3 k (by omega)
    have hlt := h4 k (d - 1) hk (by omega)
    refine ⟨a1, by omega, by rw [hY _ (by omega) (by omega)]; exact a3, a4, a5, a6, a7, fun z => ?_⟩
    obtain ⟨b1, b2, b3, b4, b5, b6⟩ := a8 z
    obtain ⟨c1, c2⟩ := hA2 k hk z
    rw [hA 0 _ (by omega) (by omega), c1, hA 7 _ (by omega) (by omega)]
    exact ⟨by omega, b2, b3, b4, c2, b6⟩
  · intro z
    have e : u' = u := by omega
    rw [e] at z ⊢
    rw [hA 5 _ (by omega) (by omega), hA 6 _ (by omega) (by omega), hA 0 _ (by omega) (by omega)]
    exact h11 z
  · intro z
    have e : v' = v := by omega
    have e2 := huv z
    rw [e] at z ⊢
    rw [e2, hA 5 _ (by omega) (by omega), hA 6 _ (by omega) (by omega), hA 0 _ (by omega) (by omega)]
    exact h12 z
/-- a bracket that belongs to no repetition is closed -/
theorem sim_cls (h : XR pat C i0 (i, d, S, u, v, n, q, A) (4, pat, rp, innf A u v, cl, d + 1, St, Y, a, P)) (hc : cls (C i)) (hd : 0 < d) (hm : C i = clo (S 0 (d - 1))) (hs : S 1 (d - 1) < 0) :
    ∃ t', cst (C i) i (4, pat, rp, innf A u v, cl, d + 1, St, Y, a, P) = some t' ∧ XR pat C i0 (i + 1, d - 1, S, u, v, n + 1, q, r_add A n (if pat = true then 2 else 0) (C i) 0 u v i) t' ∧ t'.2.2.2.2.2.2.2.2 = (a, P) ∧ (0 ≤ rp ∧ rp ≤ 4 → 0 ≤ t'.2.2.1 ∧ t'.2.2.1 ≤ 4) := by
  obtain ⟨x1, x2, x3, x4, x5, x6, x7, x8, x9, x10, xa, xs⟩ := h
  dsimp only at x3 x6 x7 x8 xa xs
  have hu : -1 ≤ u ∧ u < n := ⟨xs.2.2.2.2.2.2.1, xs.2.2.2.2.2.2.2.1⟩
  have hv : -1 ≤ v ∧ v < n := ⟨xs.2.2.2.2.2.2.2.2.1, xs.2.2.2.2.2.2.2.2.2.1⟩
  have h8 := x8 (d - 1) (by omega)
  rw [show d - 1 + 1 = d by omega] at h8
  obtain ⟨a1, a2, a3, a4, a5, a6, a7, a8⟩ := xs.2.2.1 (d - 1) (by omega)
  have hon : (S 2 (d - 1)).toNat ≠ i := by omega
  have hat := jn_at (Y := Y) (inn := innf A u v) (C i) (S 2 (d - 1)) hon
  have hlt := fun j p h1 h2 => jn_lt (Y := Y) (i := i) (inn := innf A u v) (C i) (S 2 (d - 1)) j p h1 h2
  have hst := c_cls (i := i) (a := a) (pat := pat) (rp := rp) (inn := innf A u v) (cl := cl) (St := St) (Y := Y) (P := P) (C i) hc (show 1 ≤ d by omega) (by rw [h8.2, hm])
  rw [h8.1] at hst
  generalize c_jn Y i (C i) (innf A u v) (S 2 (d - 1)) = Y2 at hat hlt hst
  have h36 := a7 (by omega)
  have hrpe : c_rpe Y2 i = -1 := by
    unfold c_rpe
    rw [hat.1, hat.2.1, if_neg]
    rintro ⟨_, z2, z3⟩
    rw [hlt 1 _ (by omega) (Or.inl (by omega)), xa.2.2.1 _ (by omega)] at z3
    rw [show (S 2 (d - 1) - 1).toNat = (S 2 (d - 1)).toNat - 1 by omega] at z3
    exact h36 z3
  rw [if_pos hrpe] at hst
  refine ⟨_, hst, ?_, rfl, fun z => z⟩
  have hyk : YK Y Y2 i := fun p hp => ⟨hlt 3 p (by omega) (Or.inl (by omega)), hlt 5 p (by omega) (Or.inl (by omega)), hlt 1 p (by omega) (Or.inl (by omega)), fun z => hlt 2 p (by omega) (Or.inr (fun w => z (by rw [w]; exact a3))), fun _ => hlt 4 p (by omega) (Or.inl (by omega))⟩
  have hkk : (if pat = true then (2 : Int) else 0) = 0 ∨ (if pat = true then (2 : Int) else 0) = 1 ∨ (if pat = true then (2 : Int) else 0) = 2 := by split <;> omega
  have h4 : ¬ (if pat = true then (2 : Int) else 0) = 4 := by split <;> omega
  refine ⟨rfl, rfl, x3, ?_, ?_, x6, x7, fun k hk => x8 k (by have : k < d - 1 := hk; omega), x9, x10, ?_, ?_⟩
  · exact (innf_k (AK_add A n _ (C i) 0 u v i n) u v hu.2 hv.2).symm
  · show d = d - 1 + 1
    omega
  · have := XA_add xa (if pat = true then 2 else 0) (C i) 0 u v 1 hyk (EK_lit _ (C i) hkk rfl (by omega) (by omega) hu hv _ (fun z => by
      rw [hat.2.1]
      refine ⟨by omega, Or.inr ?_⟩
      rw [show (S 2 (d - 1) - 1).toNat = (S 2 (d - 1)).toNat - 1 by omega]
      exact h36)) (ln_add1 _ _ _ _ hkk) (by omega) ?_ ?_
    · rw [if_neg h4, Int.add_zero] at this
      exact this
    · intro p hp
      by_cases z : p = i
      · subst z; exact hat.1
      · rw [hlt 1 p z (Or.inl (by omega))]; exact xa.2.2.1 p (by omega)
    · rw [show i + 1 - 1 = i by omega]; omega
  · have cc : cntr S d = cntr S (d - 1) := by
      obtain ⟨d', rfl⟩ : ∃ x, d = x + 1 := ⟨d - 1, by omega⟩
      rw [cntr, show d' + 1 - 1 = d' by omega]
      rw [show d' + 1 - 1 = d' by omega] at hs
      rw [if_neg (by omega), Int.add_zero]
    refine XS_pop (A' := r_add A n (if pat = true then 2 else 0) (C i) 0 u v i) (Y' := Y2) (i' := i + 1) (n' := n + 1) xs hd (by omega) (by omega) (fun a e he _ => by unfold r_add; rw [if_neg (by omega)]) ?_ (fun p hp hne => hlt 2 p (by omega) (Or.inr hne)) (by rw [← cc]; exact xs.2.2.2.2.1) (fun k hk => xs.2.2.2.2.2.1 k (by omega)) (Or.inl rfl) (Or.inl rfl) (fun _ => rfl)
    intro k hk hk0
    replace hk0 : 0 ≤ S 1 k := hk0
    show r_add A n (if pat = true then 2 else 0) (C i) 0 u v i 2 (S 1 k).toNat = A 2 (S 1 k).toNat ∧ Y2 4 (A 7 (S 1 k).toNat).toNat = -1
    obtain ⟨b1, b2, b3, b4, b5, b6, b7, b8⟩ := xs.2.2.1 k (by omega)
    obtain ⟨c1, c2, c3, c4, c5, c6⟩ := b8 hk0
    have := XA_lt xa (S 1 k).toNat (by omega)
    have g := (xa.2.1 (S 1 k).toNat (by omega)).1
    refine ⟨by unfold r_add; rw [if_neg (by omega)], ?_⟩
    rw [hlt 4 _ (by omega) (Or.inl (by omega))]
    exact c5
/-- what the open repetitions say of the innermost one -/
theorem XS_top (xa : XA pat C i0 i n q A Y) (xs : XS C i0 i d S u v n A Y) (hd : 0 < d) (hs : 0 ≤ S 1 (d - 1)) : (A 5 (S 1 (d - 1)).toNat = (if v < 0 then -1 else u)) ∧ S 1 (d - 1) = (if v < 0 then u else v) ∧ cntr S (d - 1) = (if 0 ≤ (if v < 0 then -1 else u) then 1 else 0) ∧ (∀ k : Nat, k < d - 1 → 0 ≤ S 1 k → cntr S k = 0 ∧ S 1 k = (if v < 0 then -1 else u) ∧ S 1 k ≠ S 1 (d - 1)) := by
  obtain ⟨h1, h2, h3, h4, h5, h6, h7, h8, h9, h10, h11, h12⟩ := xs
  have cc : cntr S d = cntr S (d - 1) + 1 := by
    obtain ⟨d', rfl⟩ : ∃ x, d = x + 1 := ⟨d - 1, by omega⟩
    rw [cntr, show d' + 1 - 1 = d' by omega]
    rw [show d' + 1 - 1 = d' by omega] at hs
    rw [if_pos hs]
  have mono : ∀ k : Nat, k < d - 1 → 0 ≤ S 1 k → cntr S k + 1 ≤ cntr S (d - 1) := by
    intro k hk hk0
    have := cntr_le S (k + 1) (d - 1) (by omega)
    rw [cntr, if_pos hk0] at this
    exact this
  by_cases z : v < 0
  · rw [if_neg (show ¬ 0 ≤ v by omega)] at h5
    have hu0 : 0 ≤ u := by
      by_cases w : 0 ≤ u
      · exact w
      · rw [if_neg w] at h5
        have := cntr_le S 0 (d - 1) (by omega)
        rw [show cntr S 0 = 0 from rfl] at this
        omega
    rw [if_pos hu0] at h5
    have e : S 1 (d - 1) = u := by
      rcases h6 (d - 1) (by omega) hs with w | w
      · exact w.2
      · omega
    simp only [if_pos z]
    refine ⟨by rw [e]; exact (h11 hu0).1, e, by rw [if_neg (by decide)]; omega, ?_⟩
    intro k hk hk0
    have := mono k hk hk0
    rcases h6 k (by omega) hk0 with w | w <;> omega
  · rw [if_pos (show 0 ≤ v by omega)] at h5
    have e : S 1 (d - 1) = v := by
      rcases h6 (d - 1) (by omega) hs with w | w
      · omega
      · exact w.2
    obtain ⟨b1, b2, b3, b4⟩ := h12 (by omega)
    simp only [if_neg z]
    refine ⟨by rw [e]; exact b2, e, by rw [if_pos b1]; omega, ?_⟩
    intro k hk hk0
    have := mono k hk hk0
    rcases h6 k (by omega) hk0 with w | w
    · refine ⟨w.1, w.2, ?_⟩
      intro ez
      rw [w.2, e] at ez
      have := (h11 b1).1
      rw [ez] at this
      omega
    · omega
end CLS
