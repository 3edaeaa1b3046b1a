/-! What is written: lists of tokens with marks. -/
/-- what the reference has made -/
def MK (L : List (Int × Int)) (m : ZM) : Prop := m.1 83 62 = L.length ∧ ∀ (i : Nat) (x : Int × Int), i < 160 → L[i]? = some x → m.1 127 i = x.1 ∧ m.1 128 i = x.2
/-- a row of the class: the list, as far as there is room -/
def RL (r : Nat) (L : List (Int × Int)) (m : ZM) : Prop := m.1 r 2 = (if L.length ≤ 150 then (L.length : Int) else 150) ∧ m.1 r 3 = (if L.length ≤ 150 then 0 else 1) ∧ ∀ (i : Nat) (x : Int × Int), i < 150 → L[i]? = some x → m.1 (r + 1) i = x.1 ∧ m.1 (r + 2) i = x.2
def wRL (r : Nat) : List (Nat × Nat) := [(r, 2), (r, 3), (r + 1, 1000), (r + 2, 1000)]
/-- tokens p .. v - 1 of a row -/
def slc (X K : Nat → Int) (p : Nat) : Nat → List (Int × Int)
  | 0 => []
  | k + 1 => slc X K p k ++ [(X (p + k), K (p + k))]
theorem slc_len (X K : Nat → Int) (p : Nat) : ∀ k, (slc X K p k).length = k := by
  intro k
  induction k with
  | zero => rfl
  | succ k ih => rw [slc, List.length_append, ih]; rfl
section
variable {n : Nat} {m : ZM}
theorem m74 (L : List (Int × Int)) (hL : L.length ≤ 2000000000) (h : MK L m) (c k : Int) : ∃ m', zF74 n c k m = some ((), m') ∧ MK (L ++ [(c, k)]) m' ∧ kp (wl [(127, 1000), (128, 1000), (83, 62)]) m m' := by
  obtain ⟨a1, a2⟩ := h
  have app : ∀ (m' : ZM), m'.1 83 62 = (L.length : Int) + 1 → (∀ i : Nat, i < L.length → m'.1 127 i = m.1 127 i ∧ m'.1 128 i = m.1 128 i) → (L.length < 160 → m'.1 127 L.length = c ∧ m'.1 128 L.length = k) → MK (L ++ [(c, k)]) m' := by
    intro m' g1 g2 g3
    refine ⟨by rw [g1, List.length_append]; show (L.length : Int) + 1 = ((L.length + 1 : Nat) : Int); omega, fun i x hi hx => ?_⟩
    by_cases q : i < L.length
    · rw [List.getElem?_append_left q] at hx
      rw [(g2 i q).1, (g2 i q).2]
      exact a2 i x hi hx
    · rw [List.getElem?_append_right (by omega)] at hx
      have hi' : i = L.length := by
        apply Classical.byContradiction
        intro d
        rw [List.getElem?_eq_none (by show 1 ≤ i - L.length; omega)] at hx
        cases hx
      subst hi'
      rw [Nat.sub_self] at hx
      have hx : (c, k) = x := by
        have : some (c, k) = some x := hx
        cases this
        rfl
      subst hx
      exact g3 hi
  by_cases q : 160 ≤ L.length
  · refine ⟨z_i m 83 62 ((L.length : Int) + 1), ?_, app _ (z_eq _ _ _ _) (fun i hi => ⟨z_nc _ _ _ _ _ _ (by decide), z_nc _ _ _ _ _ _ (by decide)⟩) (fun d => by omega), kp_i (kp_refl _ m) (by simp)⟩
    unfold zF74 zJ74_30
    rw [a1, if_pos (by omega), if_pos (by omega), zlet]
  · refine ⟨z_i (z_i (z_i m 127 L.length c) 128 L.length k) 83 62 ((L.length : Int) + 1), ?_, app _ (z_eq _ _ _ _) (fun i hi => ⟨?_, ?_⟩) (fun _ => ⟨?_, ?_⟩), kp_i (kp_ia (kp_ia (kp_refl _ m) (by simp)) (by simp)) (by simp)⟩
    · unfold zF74 zJ74_20 zJ74_30
      rw [a1, if_neg (by omega), if_neg (by omega), zlet, Int.toNat_natCast, z_nc _ _ _ _ _ _ (show 83 ≠ 127 by decide), a1, if_neg (by omega), zlet, Int.toNat_natCast, z_nc _ _ _ _ _ _ (show 83 ≠ 128 by decide), z_nc _ _ _ _ _ _ (show 83 ≠ 127 by decide), a1, if_pos (by omega), zlet]
    · rw [z_nc _ _ _ _ _ _ (by decide), z_nc _ _ _ _ _ _ (by decide), z_nk _ _ _ _ _ _ (by omega)]
    · rw [z_nc _ _ _ _ _ _ (by decide), z_nk _ _ _ _ _ _ (by omega), z_nc _ _ _ _ _ _ (by decide)]
    · rw [z_nc _ _ _ _ _ _ (by decide), z_nc _ _ _ _ _ _ (by decide), z_eq]
    · rw [z_nc _ _ _ _ _ _ (by decide), z_eq]
theorem c168 (r : Nat) (L : List (Int × Int)) (h : RL r L m) (c k : Int) : ∃ m', zF168 n r c k m = some ((), m') ∧ RL r (L ++ [(c, k)]) m' ∧ kp (wl (wRL r)) m m' := by
  obtain ⟨a1, a2, a3⟩ := h
  have len1 : (L ++ [(c, k)]).length = L.length + 1 := by rw [List.length_append]; rfl
  by_cases q : L.length < 150
  · rw [if_pos (by omega)] at a1 a2
    refine ⟨_, zF168_eq n r c k m L.length a1 q, ⟨?_, ?_, fun i x hi hx => ?_⟩, kp_i (kp_ia (kp_ia (kp_refl _ m) (by simp [wRL])) (by simp [wRL])) (by simp [wRL])⟩
    · rw [z_eq, len1, if_pos (by omega)]
      omega
    · rw [z_nk _ _ _ _ _ _ (by decide), z_nc _ _ _ _ _ _ (by omega), z_nc _ _ _ _ _ _ (by omega), len1, if_pos (by omega)]
      exact a2
    · have e1 : (z_i (z_i (z_i m (r + 1) L.length c) (r + 2) L.length k) r 2 ((L.length : Int) + 1)).1 (r + 1) i = if i = L.length then c else m.1 (r + 1) i := by
        rw [z_nc _ r _ _ _ _ (by omega), z_nc _ (r + 2) _ _ _ _ (by omega)]
        by_cases w : i = L.length
        · rw [if_pos w, w, z_eq]
        · rw [if_neg w, z_nk _ _ _ _ _ _ w]
      have e2 : (z_i (z_i (z_i m (r + 1) L.length c) (r + 2) L.length k) r 2 ((L.length : Int) + 1)).1 (r + 2) i = if i = L.length then k else m.1 (r + 2) i := by
        rw [z_nc _ r _ _ _ _ (by omega)]
        by_cases w : i = L.length
        · rw [if_pos w, w, z_eq]
        · rw [if_neg w, z_nk _ _ _ _ _ _ w, z_nc _ (r + 1) _ _ _ _ (by omega)]
      rw [e1, e2]
      by_cases w : i < L.length
      · rw [List.getElem?_append_left w] at hx
        rw [if_neg (by omega), if_neg (by omega)]
        exact a3 i x hi hx
      · rw [List.getElem?_append_right (by omega)] at hx
        have hi' : i = L.length := by
          apply Classical.byContradiction
          intro d
          rw [List.getElem?_eq_none (by show 1 ≤ i - L.length; omega)] at hx
          cases hx
        subst hi'
        rw [Nat.sub_self] at hx
        have hx : (c, k) = x := by
          have : some (c, k) = some x := hx
          cases this
          rfl
        subst hx
        rw [if_pos rfl, if_pos rfl]
        exact ⟨rfl, rfl⟩
  · have h150 : m.1 r 2 = 150 := by
      rw [a1]
      split <;> omega
    refine ⟨_, zF168_full n r c k m (by rw [h150]; decide), ⟨?_, ?_, fun i x hi hx => ?_⟩, kp_i (kp_refl _ m) (by simp [wRL])⟩
    · rw [z_nk _ _ _ _ _ _ (by decide), h150, len1, if_neg (by omega)]
    · rw [z_eq, len1, if_neg (by omega)]
    · rw [z_nc _ _ _ _ _ _ (by omega), z_nc _ _ _ _ _ _ (by omega)]
      rw [List.getElem?_append_left (by omega)] at hx
      exact a3 i x hi hx
/-- the source row: tokens X, marks K -/
def SR (g S : Nat) (X K : Nat → Int) (m : ZM) : Prop := m.1 g 2 = S ∧ S ≤ 150 ∧ ∀ p : Nat, p < S → m.1 (g + 1) p = X p ∧ m.1 (g + 2) p = K p
theorem SR_kp {g S : Nat} {X K : Nat → Int} {m m' : ZM} {l : List (Nat × Nat)} (h : SR g S X K m) (k : kp (wl l) m m') (h2 : wl l g 2 = false) (hl : ∀ q, wl l (g + 1) q = false ∧ wl l (g + 2) q = false) : SR g S X K m' := ⟨by rw [(k.1 g 2 h2).1]; exact h.1, h.2.1, fun p hp => by rw [(k.1 _ p (hl p).1).1, (k.1 _ p (hl p).2).1]; exact h.2.2 p hp⟩
theorem c169 (hn : 200 ≤ n) (r g S : Nat) (X K : Nat → Int) (hrg : (r = 34 ∧ g = 37) ∨ (r = 37 ∧ g = 34)) (p : Nat) : ∀ (k : Nat) (L : List (Int × Int)) (m : ZM), RL r L m → SR g S X K m → p + k ≤ S → ∃ m', zF169 n r g p ((p + k : Nat) : Int) m = some ((), m') ∧ RL r (L ++ slc X K p k) m' ∧ kp (wl (wRL r)) m m' := by
  have wn : ∀ a x : Nat, a ≠ r → a ≠ r + 1 → a ≠ r + 2 → wl (wRL r) a x = false := fun a x h1 h2 h3 => by
    unfold wl wRL
    simp
    omega
  have key : ∀ (f q k : Nat) (L : List (Int × Int)) (m : ZM), RL r L m → SR g S X K m → q + k ≤ S → k + 1 ≤ f → ∃ m', zL169_3 n r g f ((q + k : Nat) : Int) q m = some ((), m') ∧ RL r (L ++ (slc X K q k)) m' ∧ kp (wl (wRL r)) m m' := by
    intro f
    induction f with
    | zero => intro q k L m _ _ _ hf; omega
    | succ f ih =>
      intro q k L m hL hS hq hf
      obtain ⟨s1, s2, s3⟩ := hS
      cases k with
      | zero =>
        refine ⟨m, ?_, by rw [slc, List.append_nil]; exact hL, kp_refl _ m⟩
        rw [zL169_3, if_pos (by omega)]
      | succ k =>
        obtain ⟨m1, a1, a2, a3⟩ := c168 (n := n) r L hL (X q) (K q)
        have S1 : SR g S X K m1 := SR_kp ⟨s1, s2, s3⟩ a3 (wn _ _ (by omega) (by omega) (by omega)) (fun x => ⟨wn _ _ (by omega) (by omega) (by omega), wn _ _ (by omega) (by omega) (by omega)⟩)
        obtain ⟨m2, b1, b2, b3⟩ := ih (q + 1) k (L ++ [(X q, K q)]) m1 a2 S1 (by omega) (by omega)
        have sl : ∀ k, slc X K q (k + 1) = (X q, K q) :: slc X K (q + 1) k := by
          intro k
          induction k with
          | zero => rfl
          | succ k ihk =>
            rw [slc, ihk]
            show (X q, K q) :: (slc X K (q + 1) k ++ [(X (q + (k + 1)), K (q + (k + 1)))]) = (X q, K q) :: (slc X K (q + 1) k ++ [(X (q + 1 + k), K (q + 1 + k))])
            rw [show q + (k + 1) = q + 1 + k by omega]
        refine ⟨m2, ?_, by rw [sl k]; rw [List.append_assoc] at b2; exact b2, kp_tr a3 b3⟩
        have e170 : zF170 n g q m = some (X q, m) := by
          rw [zF170_eq n g q m (by omega), if_pos (by omega), Int.toNat_natCast, (s3 q (by omega)).1]
        have e171 : zF171 n g q m = some (K q, m) := by
          unfold zF171 zJ171_21 zJ171_22
          rw [s1, if_neg (by omega), if_neg (by omega), if_neg (by omega), Int.toNat_natCast, (s3 q (by omega)).2]
        rw [zL169_3, if_neg (by omega), e170]
        dsimp only
        rw [e171]
        dsimp only
        rw [a1]
        dsimp only
        unfold zJ169_25
        rw [if_pos (by omega)]
        rw [show ((q + 1 + k : Nat) : Int) = ((q + (k + 1) : Nat) : Int) by omega, show ((q + 1 : Nat) : Int) = (q : Int) + 1 by omega] at b1
        exact b1
  intro k L m hL hS hk
  exact key n p k L m hL hS hk (by have := hS.2.1; omega)
end
