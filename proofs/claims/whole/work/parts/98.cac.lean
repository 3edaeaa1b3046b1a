/-! What accepts does at each place of the automaton. -/
def AO (b i : Nat) (m : ZM) (E : Option (Int × ZM)) (o : Option CS) : Prop :=
  match o with
  | some s' => ∃ m', E = some (1, m') ∧ CQ b (i + 1) s' m' ∧ kp (wl (wrd b)) m m'
  | none => ∃ m', E = some (0, m') ∧ kp (wl (wrd b)) m m'
theorem zF129_eq (n : Nat) (x ph : Int) (m : ZM) (h : x = 0 ∨ x = 1) : zF129 n x ph m = some (x, z_i m 3 2 ph) := by
  unfold zF129
  rw [zlet, if_pos h]
theorem kp_32 {b : Nat} (m : ZM) (x : Int) : kp (wl (wrd b)) m (z_i m 3 2 x) := kp_i (kp_refl _ m) (by simp [wrd])
section CAC
variable {b i : Nat} {ph rp inn cl : Int} {pat : Bool} {d a : Nat} {S Y : Nat → Nat → Int} {P : Nat → Int} {m : ZM}
theorem CQ_ph (hb : isD b) (ph' : Int) (h : CQ b i (ph, pat, rp, inn, cl, d, S, Y, a, P) m) : CQ b i (ph', pat, rp, inn, cl, d, S, Y, a, P) (z_i m 3 2 ph') := by
  have hge := isD_ge hb
  obtain ⟨h1, h2, h3, h4, h5, h6, h7, h8, h9, h10, h11, h12⟩ := h
  refine ⟨h1, z_eq _ _ _ _, ?_, ?_, ?_, ?_, ?_, ?_, ?_, ?_, ?_, ?_⟩
  · rw [z_nk _ _ _ _ _ _ (by decide)]; exact h3
  · rw [z_nk _ _ _ _ _ _ (by decide)]; exact h4
  · rw [z_nk _ _ _ _ _ _ (by decide)]; exact h5
  · rw [z_nk _ _ _ _ _ _ (by decide)]; exact h6
  · rw [z_nc _ _ _ _ _ _ (by decide)]; exact h7
  · intro k hk
    rw [z_nc _ _ _ _ _ _ (by decide), z_nc _ _ _ _ _ _ (by decide)]; exact h8 k hk
  · rw [z_nc _ _ _ _ _ _ (by omega)]; exact h9
  · intro p hp
    rw [z_nc _ _ _ _ _ _ (by omega), z_nc _ _ _ _ _ _ (by omega), z_nc _ _ _ _ _ _ (by omega), z_nc _ _ _ _ _ _ (by omega), z_nc _ _ _ _ _ _ (by omega)]; exact h10 p hp
  · rw [z_nc _ _ _ _ _ _ (by omega)]; exact h11
  · intro k hk
    rw [z_nc _ _ _ _ _ _ (by omega)]; exact h12 k hk
theorem CQ_fl (hb : isD b) (k0 : Nat) (x : Int) (hk0 : k0 = 4 ∨ k0 = 5 ∨ k0 = 6 ∨ k0 = 7) (h : CQ b i (ph, pat, rp, inn, cl, d, S, Y, a, P) m) (pat' : Bool) (rp' inn' cl' : Int) (hp : pb pat' = if k0 = 4 then x else pb pat) (hr : rp' = if k0 = 5 then x else rp) (hi : inn' = if k0 = 6 then x else inn) (hc : cl' = if k0 = 7 then x else cl) : CQ b i (ph, pat', rp', inn', cl', d, S, Y, a, P) (z_i m 3 k0 x) := by
  have hge := isD_ge hb
  obtain ⟨h1, h2, h3, h4, h5, h6, h7, h8, h9, h10, h11, h12⟩ := h
  refine ⟨h1, ?_, ?_, ?_, ?_, ?_, ?_, ?_, ?_, ?_, ?_, ?_⟩
  · rw [z_nk _ _ _ _ _ _ (by omega)]; exact h2
  · show (z_i m 3 k0 x).1 3 4 = pb pat'
    rw [hp, z_i_rd]
    by_cases q : k0 = 4
    · rw [if_pos ⟨rfl, q.symm⟩, if_pos q]
    · rw [if_neg (fun z => q z.2.symm), if_neg q]; exact h3
  · show (z_i m 3 k0 x).1 3 5 = rp'
    rw [hr, z_i_rd]
    by_cases q : k0 = 5
    · rw [if_pos ⟨rfl, q.symm⟩, if_pos q]
    · rw [if_neg (fun z => q z.2.symm), if_neg q]; exact h4
  · show (z_i m 3 k0 x).1 3 6 = inn'
    rw [hi, z_i_rd]
    by_cases q : k0 = 6
    · rw [if_pos ⟨rfl, q.symm⟩, if_pos q]
    · rw [if_neg (fun z => q z.2.symm), if_neg q]; exact h5
  · show (z_i m 3 k0 x).1 3 7 = cl'
    rw [hc, z_i_rd]
    by_cases q : k0 = 7
    · rw [if_pos ⟨rfl, q.symm⟩, if_pos q]
    · rw [if_neg (fun z => q z.2.symm), if_neg q]; exact h6
  · rw [z_nc _ _ _ _ _ _ (by decide)]; exact h7
  · intro k hk
    rw [z_nc _ _ _ _ _ _ (by decide), z_nc _ _ _ _ _ _ (by decide)]; exact h8 k hk
  · rw [z_nc _ _ _ _ _ _ (by omega)]; exact h9
  · intro p hp
    rw [z_nc _ _ _ _ _ _ (by omega), z_nc _ _ _ _ _ _ (by omega), z_nc _ _ _ _ _ _ (by omega), z_nc _ _ _ _ _ _ (by omega), z_nc _ _ _ _ _ _ (by omega)]; exact h10 p hp
  · rw [z_nc _ _ _ _ _ _ (by omega)]; exact h11
  · intro k hk
    rw [z_nc _ _ _ _ _ _ (by omega)]; exact h12 k hk
theorem kp_3 {b : Nat} (m : ZM) (k0 : Nat) (x : Int) (hk0 : k0 = 4 ∨ k0 = 5 ∨ k0 = 6 ∨ k0 = 7) : kp (wl (wrd b)) m (z_i m 3 k0 x) := by
  rcases hk0 with rfl | rfl | rfl | rfl <;> exact kp_i (kp_refl _ m) (by simp [wrd])
theorem CQ_psh (hb : isD b) (n : Nat) (p c : Int) (h : CQ b i (ph, pat, rp, inn, cl, d, S, Y, a, P) m) (hd : d < 10) : ∃ m', zF162 n 4 p c m = some (1, m') ∧ CQ b i (ph, pat, rp, inn, cl, d + 1, c_psh S d p c, Y, a, P) m' ∧ m'.1 3 3 = m.1 3 3 ∧ kp (wl (wrd b)) m m' := by
  have hge := isD_ge hb
  have e := zF162_eq n 4 p c m d h.2.2.2.2.2.2.1
  rw [if_pos hd] at e
  obtain ⟨h1, h2, h3, h4, h5, h6, h7, h8, h9, h10, h11, h12⟩ := h
  refine ⟨_, e, ?_, ?_, kp_i (kp_ia (kp_ia (kp_refl _ m) (by simp [wrd])) (by simp [wrd])) (by simp [wrd])⟩
  · refine ⟨h1, ?_, ?_, ?_, ?_, ?_, ?_, ?_, ?_, ?_, ?_, ?_⟩
    · rw [z_nc _ _ _ _ _ _ (by decide), z_nc _ _ _ _ _ _ (by decide), z_nc _ _ _ _ _ _ (by decide)]; exact h2
    · rw [z_nc _ _ _ _ _ _ (by decide), z_nc _ _ _ _ _ _ (by decide), z_nc _ _ _ _ _ _ (by decide)]; exact h3
    · rw [z_nc _ _ _ _ _ _ (by decide), z_nc _ _ _ _ _ _ (by decide), z_nc _ _ _ _ _ _ (by decide)]; exact h4
    · rw [z_nc _ _ _ _ _ _ (by decide), z_nc _ _ _ _ _ _ (by decide), z_nc _ _ _ _ _ _ (by decide)]; exact h5
    · rw [z_nc _ _ _ _ _ _ (by decide), z_nc _ _ _ _ _ _ (by decide), z_nc _ _ _ _ _ _ (by decide)]; exact h6
    · rw [z_eq, Int.natCast_add]; rfl
    · intro k hk
      rw [z_nc _ 4 _ _ 5 _ (by decide), z_nc _ 4 _ _ 6 _ (by decide), z_nc _ (4 + 2) _ _ 5 _ (by decide)]
      unfold c_psh
      by_cases q : k = d
      · subst q
        rw [show (5 : Nat) = 4 + 1 from rfl, show (6 : Nat) = 4 + 2 from rfl, z_eq, z_eq]
        simp
      · rw [z_nk _ _ _ _ _ _ q, z_nk _ _ _ _ _ _ q, z_nk _ _ _ _ _ _ q]
        simp only [if_neg q]
        exact h8 k (by have : k < d + 1 := hk; show k < d; omega)
    · rw [z_nc _ _ _ _ _ _ (by omega), z_nc _ _ _ _ _ _ (by omega), z_nc _ _ _ _ _ _ (by omega)]; exact h9
    · intro p' hp'
      have st : ∀ j : Nat, 1 ≤ j → (z_i (z_i (z_i m (4 + 1) d p) (4 + 2) d (clo c)) 4 2 (d + 1)).1 (b + j) p' = m.1 (b + j) p' := by
        intro j hj
        rw [z_nc _ _ _ _ _ _ (by omega), z_nc _ _ _ _ _ _ (by omega), z_nc _ _ _ _ _ _ (by omega)]
      rw [st 1 (by omega), st 2 (by omega), st 3 (by omega), st 4 (by omega), st 5 (by omega)]; exact h10 p' hp'
    · rw [z_nc _ _ _ _ _ _ (by omega), z_nc _ _ _ _ _ _ (by omega), z_nc _ _ _ _ _ _ (by omega)]; exact h11
    · intro k hk
      rw [z_nc _ _ _ _ _ _ (by omega), z_nc _ _ _ _ _ _ (by omega), z_nc _ _ _ _ _ _ (by omega)]; exact h12 k hk
  · rw [z_nc _ _ _ _ _ _ (by decide), z_nc _ _ _ _ _ _ (by decide), z_nc _ _ _ _ _ _ (by decide)]
theorem psh_no (n : Nat) (p c : Int) (h : CQ b i (ph, pat, rp, inn, cl, d, S, Y, a, P) m) (hd : ¬ d < 10) : zF162 n 4 p c m = some (0, m) := by
  have e := zF162_eq n 4 p c m d h.2.2.2.2.2.2.1
  rw [if_neg hd] at e
  exact e
/-- one place of an array is written -/
theorem CQ_set (hb : isD b) (j p : Nat) (x : Int) (hj : 2 ≤ j ∧ j ≤ 5) (h : CQ b i (ph, pat, rp, inn, cl, d, S, Y, a, P) m) : CQ b i (ph, pat, rp, inn, cl, d, S, r_set Y j p x, a, P) (z_i m (b + j) p x) ∧ kp (wl (wrd b)) m (z_i m (b + j) p x) := by
  have hge := isD_ge hb
  obtain ⟨h1, h2, h3, h4, h5, h6, h7, h8, h9, h10, h11, h12⟩ := h
  refine ⟨⟨h1, ?_, ?_, ?_, ?_, ?_, ?_, ?_, ?_, ?_, ?_, ?_⟩, ?_⟩
  · rw [z_nc _ _ _ _ _ _ (by omega)]; exact h2
  · rw [z_nc _ _ _ _ _ _ (by omega)]; exact h3
  · rw [z_nc _ _ _ _ _ _ (by omega)]; exact h4
  · rw [z_nc _ _ _ _ _ _ (by omega)]; exact h5
  · rw [z_nc _ _ _ _ _ _ (by omega)]; exact h6
  · rw [z_nc _ _ _ _ _ _ (by omega)]; exact h7
  · intro k hk
    rw [z_nc _ _ _ _ _ _ (by omega), z_nc _ _ _ _ _ _ (by omega)]; exact h8 k hk
  · rw [z_nc _ _ _ _ _ _ (by omega)]; exact h9
  · intro p' hp'
    have st : ∀ j' : Nat, (z_i m (b + j) p x).1 (b + j') p' = if j' = j ∧ p' = p then x else m.1 (b + j') p' := by
      intro j'
      rw [z_i_rd]
      by_cases q : j' = j
      · simp [q]
      · rw [if_neg (fun z => q (by have := z.1; omega)), if_neg (fun z => q z.1)]
    have old := h10 p' hp'
    rw [st 1, st 2, st 3, st 4, st 5]
    unfold r_set
    dsimp only at old ⊢
    rw [old.1, old.2.1, old.2.2.1, old.2.2.2.1, old.2.2.2.2]
    exact ⟨rfl, rfl, rfl, rfl, rfl⟩
  · rw [z_nc _ _ _ _ _ _ (by omega)]; exact h11
  · intro k hk
    rw [z_nc _ _ _ _ _ _ (by omega)]; exact h12 k hk
  · rcases (show j = 2 ∨ j = 3 ∨ j = 4 ∨ j = 5 by omega) with rfl | rfl | rfl | rfl <;> exact kp_ia (kp_refl _ m) (by simp [wrd])
end CAC
