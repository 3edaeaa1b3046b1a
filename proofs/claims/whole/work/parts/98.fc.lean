/-! Rounds: newRound, innerCount; goTo, whole. -/
/-- rounds q, inner rounds c, with k entries -/
def IS (q : Nat → Int) (c : Nat → Int → Int) (k : Nat) (m : ZM) : Prop :=
  (∀ j : Nat, j < 128 → m.1 118 j = q j) ∧ m.1 83 52 = k ∧ ∀ (b : Nat) (o : Int), (∃ i : Nat, i < k ∧ m.1 119 i = b ∧ m.1 120 i = o ∧ m.1 121 i = c b o ∧ ∀ i' : Nat, i' < k → m.1 119 i' = b → m.1 120 i' = o → i' = i) ∨ ((∀ i : Nat, i < k → ¬ (m.1 119 i = b ∧ m.1 120 i = o)) ∧ c b o = 0)
section
variable {C : Nat → Int} {Y A : Nat → Nat → Int} {N i0 z : Nat} {n : Nat} {q : Nat → Int} {c : Nat → Int → Int} {k : Nat} {m : ZM}
theorem m68 (hI : IS q c k m) (hk : k ≤ 511) (hn : 600 ≤ n) (b : Nat) (o : Int) : (∃ i : Nat, i < k ∧ zF68 n b o m = some ((i : Int), m) ∧ m.1 119 i = b ∧ m.1 120 i = o ∧ m.1 121 i = c b o) ∨ (zF68 n b o m = some ((k : Int), m) ∧ (∀ i : Nat, i < k → ¬ (m.1 119 i = b ∧ m.1 120 i = o)) ∧ c b o = 0) := by
  obtain ⟨a1, a2, a3⟩ := hI
  have stp : ∀ (f x : Nat) (y : Int), x < k → zL68_8 n (f + 1) b o y x m = zL68_8 n f b o (if m.1 119 x = b ∧ m.1 120 x = o then (x : Int) else y) ((x : Int) + 1) m := by
    intro f x y hx
    rw [zL68_8, a2, if_neg (by omega), if_neg (by omega), Int.toNat_natCast]
    unfold zJ68_39 zJ68_44 zJ68_45
    rw [if_pos (show rg ((x : Int) + 1) by omega), if_pos (show rg ((x : Int) + 1) by omega)]
    by_cases d1 : m.1 119 x = b
    · rw [if_pos d1]
      by_cases d2 : m.1 120 x = o
      · rw [if_pos d2, if_pos ⟨d1, d2⟩]
      · rw [if_neg d2, if_neg (fun w => d2 w.2)]
    · rw [if_neg d1, if_neg (fun w => d1 w.1)]
  have endd : ∀ (f : Nat) (y : Int), zL68_8 n (f + 1) b o y k m = some (y, m) := by
    intro f y
    rw [zL68_8, a2, if_pos (by omega)]
  rcases a3 b o with ⟨i, b1, b2, b3, b4, b5⟩ | ⟨b1, b2⟩
  · refine Or.inl ⟨i, b1, ?_, b2, b3, b4⟩
    have key : ∀ (f x : Nat) (y : Int), k + 1 ≤ f + x → x ≤ k → (i < x → y = i) → zL68_8 n f b o y x m = some ((i : Int), m) := by
      intro f
      induction f with
      | zero => intro x y h1 h2; omega
      | succ f ih =>
        intro x y h1 h2 h3
        by_cases w : x = k
        · subst w
          rw [endd, h3 b1]
        · rw [stp f x y (by omega)]
          have := ih (x + 1) (if m.1 119 x = b ∧ m.1 120 x = o then (x : Int) else y) (by omega) (by omega) (fun hi => by
            by_cases d : m.1 119 x = b ∧ m.1 120 x = o
            · rw [if_pos d, b5 x (by omega) d.1 d.2]
            · rw [if_neg d]
              have : x ≠ i := fun e => d (by rw [e]; exact ⟨b2, b3⟩)
              exact h3 (by omega))
          rw [show ((x + 1 : Nat) : Int) = (x : Int) + 1 by omega] at this
          exact this
    unfold zF68
    exact key n 0 _ (by omega) (by omega) (fun h => by omega)
  · refine Or.inr ⟨?_, b1, b2⟩
    have key : ∀ (f x : Nat), k + 1 ≤ f + x → x ≤ k → zL68_8 n f b o k x m = some ((k : Int), m) := by
      intro f
      induction f with
      | zero => intro x h1 h2; omega
      | succ f ih =>
        intro x h1 h2
        by_cases w : x = k
        · subst w
          rw [endd]
        · rw [stp f x k (by omega), if_neg (b1 x (by omega))]
          have := ih (x + 1) (by omega) (by omega)
          rw [show ((x + 1 : Nat) : Int) = (x : Int) + 1 by omega] at this
          exact this
    unfold zF68
    rw [a2]
    exact key n 0 (by omega) (by omega)
theorem m69 (hI : IS q c k m) (hk : k ≤ 511) (hn : 600 ≤ n) (b : Nat) (o : Int) : zF69 n b o m = some (c b o, m) := by
  unfold zF69 zJ69_25
  rcases m68 hI hk hn b o with ⟨i, b1, b2, b3, b4, b5⟩ | ⟨b2, b3, b4⟩
  · rw [b2]
    dsimp only
    rw [hI.2.1, if_neg (by omega), if_neg (by omega), Int.toNat_natCast, b5]
  · rw [b2]
    dsimp only
    rw [hI.2.1, if_pos (by omega), b4]
/-- a new round of v, purely -/
def nrq (A : Nat → Nat → Int) (v : Nat) (q : Nat → Int) : Nat → Int := fun j => if A 5 v < 0 ∧ j = v then q j + 1 else q j
def nrc (A : Nat → Nat → Int) (v : Nat) (q : Nat → Int) (c : Nat → Int → Int) : Nat → Int → Int := fun b o => if 0 ≤ A 5 v ∧ b = v ∧ o = q (A 5 v).toNat - 1 then c b o + 1 else c b o
def w70x : List (Nat × Nat) := [(118, 1000), (119, 1000), (120, 1000), (121, 1000), (83, 52)]
theorem m70 (hn : 600 ≤ n) (h : RX true C Y A N i0 z) (hA : AX true m A (N + 1)) (v : Nat) (hv : v < N) (h4 : A 0 v = 4) (hI : IS q c k m) (hk : k ≤ 500) (hq : ∀ j : Nat, j < 128 → 0 ≤ q j ∧ q j ≤ 100000) (hc : ∀ b o, 0 ≤ c b o ∧ c b o ≤ 100000) :
    ∃ m' k', zF70 n v m = some ((), m') ∧ IS (nrq A v q) (nrc A v q c) k' m' ∧ k ≤ k' ∧ (A 5 v < 0 → k' = k) ∧ k' ≤ k + 1 ∧ kp (wl w70x) m m' := by
  have hN := x_N119 h
  have ax := hA v (by omega)
  rw [if_pos rfl] at ax
  have hI0 := hI
  obtain ⟨a1, a2, a3⟩ := hI
  by_cases q5 : A 5 v < 0
  · refine ⟨z_i m 118 v (q v + 1), k, ?_, ⟨fun j hj => ?_, ?_, fun b o => ?_⟩, Nat.le_refl _, fun _ => rfl, by omega, kp_ia (kp_refl _ m) (by simp [w70x])⟩
    · have := hq v (by omega)
      unfold zF70 zJ70_100
      rw [if_neg (by omega), Int.toNat_natCast, ax.2.2.2.2.2.1, if_neg (by omega), a1 v (by omega), if_pos (by omega), zlet]
    · unfold nrq
      by_cases d : j = v
      · subst d
        rw [z_eq, if_pos ⟨q5, rfl⟩]
      · rw [z_nk _ _ _ _ _ _ d, if_neg (fun w => d w.2)]
        exact a1 j hj
    · rw [z_nc _ _ _ _ _ _ (by decide)]; exact a2
    · have e : nrc A v q c b o = c b o := by unfold nrc; rw [if_neg (fun w => by have := w.1; omega)]
      rw [e]
      have o9 : ∀ a i, a ≠ 118 → (z_i m 118 v (q v + 1)).1 a i = m.1 a i := fun a i ha => z_nc _ _ _ _ _ _ ha
      simp only [o9 119 _ (by decide), o9 120 _ (by decide), o9 121 _ (by decide)]
      exact a3 b o
  · obtain ⟨u, hu⟩ : ∃ u : Nat, A 5 v = u := ⟨(A 5 v).toNat, by omega⟩
    obtain ⟨g1, g2, g3, g4⟩ := h.1.n1 v u (by omega) hu
    have hqu := hq u (by omega)
    have hcv := hc v (q u - 1)
    have st : zF70 n v m = zJ70_40 n v (q u - 1) m := by
      unfold zF70
      rw [if_neg (by omega), Int.toNat_natCast, ax.2.2.2.2.2.1, if_pos (by omega), if_neg (by omega), hu, Int.toNat_natCast, a1 u (by omega), if_pos (by omega)]
    have nc : ∀ b o, nrc A v q c b o = if b = v ∧ o = q u - 1 then c b o + 1 else c b o := fun b o => by
      unfold nrc
      rw [hu, Int.toNat_natCast]
      by_cases d : b = v ∧ o = q u - 1
      · rw [if_pos ⟨by omega, d⟩, if_pos d]
      · rw [if_neg (fun w => d w.2), if_neg d]
    have nqe : nrq A v q = q := by
      funext j
      unfold nrq
      rw [if_neg (fun w => q5 w.1)]
    rw [nqe]
    rcases m68 hI0 (by omega) hn v (q u - 1) with ⟨i, b1, b2, b3, b4, b5⟩ | ⟨b2, b3, b4⟩
    · refine ⟨z_i m 121 i (c v (q u - 1) + 1), k, ?_, ⟨fun j hj => by rw [z_nc _ _ _ _ _ _ (by decide)]; exact a1 j hj, by rw [z_nc _ _ _ _ _ _ (by decide)]; exact a2, fun b o => ?_⟩, Nat.le_refl _, fun _ => rfl, by omega, kp_ia (kp_refl _ m) (by simp [w70x])⟩
      · rw [st]
        unfold zJ70_40
        rw [b2]
        dsimp only
        rw [a2, if_neg (by omega)]
        unfold zJ70_86 zJ70_100
        rw [if_neg (by omega), Int.toNat_natCast, b5, if_pos (by omega), zlet]
      · rw [nc b o]
        have o9 : ∀ a x, a ≠ 121 → (z_i m 121 i (c v (q u - 1) + 1)).1 a x = m.1 a x := fun a x ha => z_nc _ _ _ _ _ _ ha
        simp only [o9 119 _ (by decide), o9 120 _ (by decide)]
        by_cases d : b = v ∧ o = q u - 1
        · obtain ⟨rfl, rfl⟩ := d
          rw [if_pos ⟨rfl, rfl⟩]
          refine Or.inl ⟨i, b1, b3, b4, z_eq _ _ _ _, fun i' h1 h2 h3 => ?_⟩
          rcases a3 b (q u - 1) with ⟨i2, e1, e2, e3, e4, e5⟩ | ⟨e1, _⟩
          · rw [e5 i' h1 h2 h3, e5 i b1 b3 b4]
          · exact absurd ⟨b3, b4⟩ (e1 i b1)
        · rw [if_neg d]
          rcases a3 b o with ⟨i2, e1, e2, e3, e4, e5⟩ | ⟨e1, e2⟩
          · have : i2 ≠ i := fun w => d (by
              rw [w] at e2 e3
              exact ⟨by omega, by rw [← e3, b4]⟩)
            exact Or.inl ⟨i2, e1, e2, e3, by rw [z_nk _ _ _ _ _ _ this]; exact e4, e5⟩
          · exact Or.inr ⟨e1, e2⟩
    · obtain ⟨m', hm'⟩ : ∃ m', m' = z_i (z_i (z_i (z_i (z_i m 119 k v) 120 k (q u - 1)) 121 k 0) 83 52 ((k : Int) + 1)) 121 k 1 := ⟨_, rfl⟩
      have o9 : ∀ a x, a ≠ 119 → a ≠ 120 → a ≠ 121 → a ≠ 83 → m'.1 a x = m.1 a x := fun a x h1 h2 h3 h4 => by
        rw [hm', z_nc _ _ _ _ _ _ h3, z_nc _ _ _ _ _ _ h4, z_nc _ _ _ _ _ _ h3, z_nc _ _ _ _ _ _ h2, z_nc _ _ _ _ _ _ h1]
      have e119 : ∀ x, m'.1 119 x = if x = k then (v : Int) else m.1 119 x := fun x => by
        rw [hm', z_nc _ _ _ _ _ _ (by decide), z_nc _ _ _ _ _ _ (by decide), z_nc _ _ _ _ _ _ (by decide), z_nc _ _ _ _ _ _ (by decide)]
        by_cases w : x = k
        · rw [if_pos w, w, z_eq]
        · rw [if_neg w, z_nk _ _ _ _ _ _ w]
      have e120 : ∀ x, m'.1 120 x = if x = k then q u - 1 else m.1 120 x := fun x => by
        rw [hm', z_nc _ _ _ _ _ _ (by decide), z_nc _ _ _ _ _ _ (by decide), z_nc _ _ _ _ _ _ (by decide)]
        by_cases w : x = k
        · rw [if_pos w, w, z_eq]
        · rw [if_neg w, z_nk _ _ _ _ _ _ w, z_nc _ _ _ _ _ _ (by decide)]
      have e121 : ∀ x, m'.1 121 x = if x = k then 1 else m.1 121 x := fun x => by
        rw [hm']
        by_cases w : x = k
        · rw [if_pos w, w, z_eq]
        · rw [if_neg w, z_nk _ _ _ _ _ _ w, z_nc _ _ _ _ _ _ (by decide), z_nk _ _ _ _ _ _ w, z_nc _ _ _ _ _ _ (by decide), z_nc _ _ _ _ _ _ (by decide)]
      refine ⟨m', k + 1, ?_, ⟨fun j hj => by rw [o9 118 j (by decide) (by decide) (by decide) (by decide)]; exact a1 j hj, ?_, fun b o => ?_⟩, by omega, fun w => absurd w q5, Nat.le_refl _, ?_⟩
      · rw [st]
        unfold zJ70_40
        rw [b2]
        dsimp only
        rw [a2, if_pos rfl, if_neg (by omega), zlet, Int.toNat_natCast]
        unfold zJ70_62
        rw [if_neg (by omega), zlet, zlet, Int.toNat_natCast]
        unfold zJ70_76
        rw [z_nc _ _ _ _ _ _ (by decide), z_nc _ _ _ _ _ _ (by decide), z_nc _ _ _ _ _ _ (by decide), a2, if_pos (by omega), zlet]
        unfold zJ70_86 zJ70_100
        rw [if_neg (by omega), Int.toNat_natCast, z_nc _ _ _ _ _ _ (by decide), z_eq, if_pos (by decide), zlet, hm']
        rfl
      · rw [hm', z_nc _ _ _ _ _ _ (by decide), z_eq]
        omega
      · rw [nc b o]
        by_cases d : b = v ∧ o = q u - 1
        · obtain ⟨rfl, rfl⟩ := d
          rw [if_pos ⟨rfl, rfl⟩, b4]
          refine Or.inl ⟨k, by omega, by rw [e119, if_pos rfl], by rw [e120, if_pos rfl], by rw [e121, if_pos rfl]; rfl, fun i' h1 h2 h3 => ?_⟩
          apply Classical.byContradiction
          intro w
          rw [e119, if_neg w] at h2
          rw [e120, if_neg w] at h3
          exact b3 i' (by omega) ⟨h2, h3⟩
        · rw [if_neg d]
          rcases a3 b o with ⟨i2, e1, e2, e3, e4, e5⟩ | ⟨e1, e2⟩
          · refine Or.inl ⟨i2, by omega, by rw [e119, if_neg (by omega)]; exact e2, by rw [e120, if_neg (by omega)]; exact e3, by rw [e121, if_neg (by omega)]; exact e4, fun i' h1 h2 h3 => ?_⟩
            by_cases w : i' = k
            · subst w
              rw [e119, if_pos rfl] at h2
              rw [e120, if_pos rfl] at h3
              exact absurd ⟨by omega, h3.symm⟩ d
            · rw [e119, if_neg w] at h2
              rw [e120, if_neg w] at h3
              exact e5 i' (by omega) h2 h3
          · refine Or.inr ⟨fun i' h1 => ?_, e2⟩
            by_cases w : i' = k
            · subst w
              rw [e119, if_pos rfl, e120, if_pos rfl]
              exact fun w2 => d ⟨by omega, w2.2.symm⟩
            · rw [e119, if_neg w, e120, if_neg w]
              exact e1 i' (by omega)
      · rw [hm']
        exact kp_ia (kp_i (kp_ia (kp_ia (kp_ia (kp_refl _ m) (by simp [w70x])) (by simp [w70x])) (by simp [w70x])) (by simp [w70x])) (by simp [w70x])
end
