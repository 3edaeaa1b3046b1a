/-! The reference's step. -/
/-- what a fragment of kind k takes from p on -/
def TKX (X : Nat → Int) (k : Int) (p : Nat) (v : Int) : Prop :=
  (k = 4 ∧ ((v = -1 ∧ OPX X 0 p (-1)) ∨ ∃ e : Nat, OPX X 0 p e ∧ ∃ f, EXX X 0 f e v)) ∨ (k = 3 ∧ opn (X p) ∧ ∃ q : Nat, CL X p q ∧ v = (q : Int) + 1) ∨ (k ≠ 4 ∧ ¬ (k = 3 ∧ opn (X p)) ∧ v = (p : Int) + 1)
/-- a call's bracket ends at en: what opens from lo on ends before -/
def CB (X : Nat → Int) (S lo en : Nat) : Prop := en < S ∧ cls (X en) ∧ ∀ p : Nat, lo ≤ p → p < en → opn (X p) → ∃ q : Nat, q < en ∧ CL X p q
theorem m65 {X : Nat → Int} {S n lo en : Nat} {m : ZM} (hn : 2000 ≤ n) (hR : RRk S X m) (hB : CB X S lo en) (k : Int) (p : Nat) (hlo : lo ≤ p) (hp : p < en) (v : Int) (hv : TKX X k p v) : zF65 n k p en m = some (v, m) ∧ (v = -1 ∨ ((p : Int) < v ∧ v ≤ en)) := by
  obtain ⟨b1, b2, b3⟩ := hB
  have hS := hR.1
  have hx := hR.2 p (by omega)
  have e41 : zJ65_41 n p m = some ((p : Int) + 1, m) := by
    unfold zJ65_41 zJ65_44
    rw [if_pos (by omega)]
  rcases hv with ⟨h1, h2⟩ | ⟨h1, h2, q, h3, h4⟩ | ⟨h1, h2, h3⟩
  · obtain ⟨c1, c2⟩ := m63 hn hR en lo b1 b2 b3 p hlo hp v h2
    refine ⟨?_, c2⟩
    unfold zF65
    rw [if_pos h1, c1]
    rfl
  · obtain ⟨q', d1, d2⟩ := b3 p hlo hp h2
    have := CL_un X p q q' h3 d2
    subst this
    refine ⟨?_, Or.inr (by have := h3.1; omega)⟩
    unfold zF65
    rw [if_neg (by omega), if_pos h1, if_neg (by omega), Int.toNat_natCast, hx.1, zF21_eq]
    dsimp only
    rw [ib, if_pos h2]
    unfold zJ65_31 zJ65_44
    rw [m61 hR n (by omega) p q (by omega) h3]
    dsimp only
    rw [if_pos (by omega), h4]
  · refine ⟨?_, Or.inr (by omega)⟩
    unfold zF65
    rw [if_neg h1, h3]
    by_cases c : k = 3
    · rw [if_pos c, if_neg (by omega), Int.toNat_natCast, hx.1, zF21_eq]
      dsimp only
      rw [ib, if_neg (fun d => h2 ⟨c, d⟩)]
      exact e41
    · rw [if_neg c]
      exact e41
section
variable {C : Nat → Int} {Y A : Nat → Nat → Int} {N i0 z : Nat} {n : Nat} {H : Nat → List (List (Nat × List Nat))} {B : Int}
theorem Hn_ext (A : Nat → Nat → Int) (G : Nat → Bool) (H : Nat → List (List (Nat × List Nat))) (j N : Nat) (hG : ∀ e : Nat, G e = true → e < N) : ∀ k : Nat, Hn A G H j (N + k) = Hn A G H j N := by
  intro k
  induction k with
  | zero => rfl
  | succ k ih =>
    rw [show N + (k + 1) = (N + k) + 1 by omega, Hn, ih, if_neg (fun d => by have := hG _ d; omega), List.append_nil]
/-- the sources that a step leaves -/
def PV (A : Nat → Nat → Int) (N : Nat) (G : Nat → Bool) (H : Nat → List (List (Nat × List Nat))) (i j : Nat) : Prop := i < N ∧ G i = true ∧ 0 < (H i).length ∧ 0 < wc A (nx A i) j
theorem m66b (hn : 200000 ≤ n) (h : RX true C Y A N i0 z) (hne : ∀ e : Nat, e < N → ¬ em A e) (G : Nat → Bool) (hG : ∀ e : Nat, G e = true → e < N ∧ 0 < (H e).length) (p : Nat) (f o v : Int) (hp : p < 300) (c : Int) (hc0 : c ≠ 0)
    (hsel : ∀ e : Nat, e < 128 → (f = 1 → ((e : Int) = o ↔ G e = true)) ∧ (f ≠ 1 → ((0 < (H e).length ∧ bf A e = c) ↔ G e = true)) ∧ (0 < (H e).length → e ≤ N)) :
    ∀ (g e : Nat) (m : ZM), 129 ≤ g + e → e ≤ 128 → AX true m A (N + 1) → TR H m → m.1 105 p = c → (∀ j : Nat, j < 128 → m.1 109 j = mn ((Hn A G H j e).length : Int)) → (∀ j : Nat, j < 128 → 0 ≤ m.1 110 j ∧ m.1 110 j < 128 ∧ (Hn A G H j e ≠ [] → ∃ i : Nat, m.1 110 j = i ∧ PV A N G H i j)) →
    ∃ (g' : Nat) (m' : ZM), zL66_225 n g p f o v e m = zL66_225 n (g' + 1) p f o v 128 m' ∧ kp (wl w49) m m' ∧ (∀ j : Nat, j < 128 → m'.1 109 j = mn ((Hn A G H j 128).length : Int)) ∧ (∀ j : Nat, j < 128 → 0 ≤ m'.1 110 j ∧ m'.1 110 j < 128 ∧ (Hn A G H j 128 ≠ [] → ∃ i : Nat, m'.1 110 j = i ∧ PV A N G H i j)) := by
  have hN := x_N119 h
  intro g
  induction g with
  | zero => intro e m h1 h2; omega
  | succ g ih =>
    intro e m h1 h2 hA hT hc i9 i10
    by_cases q128 : e = 128
    · subst q128
      exact ⟨g, m, rfl, kp_refl _ m, i9, i10⟩
    have he : e < 128 := by omega
    obtain ⟨s1, s2, s3⟩ := hsel e he
    have e330 : ∀ m2 : ZM, zJ66_330 n (zL66_225 n g) p f o v e m2 = zL66_225 n g p f o v ((e : Int) + 1) m2 := by
      intro m2
      unfold zJ66_330
      rw [if_pos (by omega)]
    have sel : zL66_225 n (g + 1) p f o v e m = zJ66_283 n (zL66_225 n g) p f o v e (if G e = true then 1 else 0) m := by
      rw [zL66_225, if_neg (by omega)]
      by_cases cf : f = 1
      · rw [if_pos cf]
        by_cases d : (e : Int) = o
        · rw [if_pos d, if_pos ((s1 cf).1 d)]
        · rw [if_neg d, if_neg (fun q => d ((s1 cf).2 q))]
      · rw [if_neg cf, if_neg (by omega), Int.toNat_natCast, hT e he]
        unfold zJ66_282 zJ66_278
        by_cases d0 : (H e).length = 0
        · rw [mn_0.2 d0, if_pos (by decide), if_neg (fun q => by have := (hG e q).2; omega)]
        · have hl : 0 < (H e).length := by omega
          have := mn_p hl
          rw [if_neg (by omega), m53 h m hA e (s3 hl)]
          dsimp only
          rw [if_neg (by omega), Int.toNat_natCast, hc]
          by_cases d : bf A e = c
          · rw [if_pos d, if_pos ((s2 cf).1 ⟨hl, d⟩)]
          · rw [if_neg d, if_neg (fun q => d ((s2 cf).2 q).2)]
    have cont : ∀ m2 : ZM, zL66_225 n (g + 1) p f o v e m = zL66_225 n g p f o v ((e : Int) + 1) m2 → kp (wl w49) m m2 → (∀ j : Nat, j < 128 → m2.1 109 j = mn ((Hn A G H j (e + 1)).length : Int)) → (∀ j : Nat, j < 128 → 0 ≤ m2.1 110 j ∧ m2.1 110 j < 128 ∧ (Hn A G H j (e + 1) ≠ [] → ∃ i : Nat, m2.1 110 j = i ∧ PV A N G H i j)) →
        ∃ (g' : Nat) (m' : ZM), zL66_225 n (g + 1) p f o v e m = zL66_225 n (g' + 1) p f o v 128 m' ∧ kp (wl w49) m m' ∧ (∀ j : Nat, j < 128 → m'.1 109 j = mn ((Hn A G H j 128).length : Int)) ∧ (∀ j : Nat, j < 128 → 0 ≤ m'.1 110 j ∧ m'.1 110 j < 128 ∧ (Hn A G H j 128 ≠ [] → ∃ i : Nat, m'.1 110 j = i ∧ PV A N G H i j)) := by
      intro m2 e1 k1 n9 n10
      obtain ⟨g', m', a1, a2, a3, a4⟩ := ih (e + 1) m2 (by omega) (by omega) (AX_k hA (w49_90 k1)) (fun j hj => by rw [(k1.1 108 j (by unfold wl w49; simp)).1]; exact hT j hj) (by rw [(k1.1 105 p (by unfold wl w49; simp)).1]; exact hc) n9 n10
      rw [show ((e + 1 : Nat) : Int) = (e : Int) + 1 by omega] at a1
      exact ⟨g', m', by rw [e1]; exact a1, kp_tr k1 a2, a3, a4⟩
    by_cases qG : G e = true
    · obtain ⟨heN, hl⟩ := hG e qG
      have hm := mn_p hl
      have ax := hA e (by omega)
      rw [if_pos rfl] at ax
      have hnx := nx_le h e heN
      obtain ⟨m2, b1, b2, b3, b4⟩ := m49 hn h hne (mn ((H e).length : Int)) e (by omega) (nx A e) hnx m hA (fun j hj => by
        rw [i9 j hj]
        unfold mn
        split <;> omega)
      refine cont m2 ?_ b2 (fun j hj => ?_) (fun j hj => ?_)
      · rw [sel, if_pos qG]
        unfold zJ66_283
        rw [if_neg (by decide), if_neg (by omega), Int.toNat_natCast, ax.1, ax.2.2.1]
        have e318 : zJ66_318 n (zL66_225 n g) p f o v e (nx A e) m = zL66_225 n g p f o v ((e : Int) + 1) m2 := by
          unfold zJ66_318
          rw [if_neg (by omega), Int.toNat_natCast, hT e he, b1]
          dsimp only
          exact e330 m2
        by_cases c5 : A 0 e = 5
        · obtain ⟨t, g1, g2, g3, _⟩ := x_end h e (by omega) c5
          have hnx5 : A 2 e + 1 = (nx A e : Int) := by
            unfold nx
            rw [if_pos c5]; omega
          rw [if_pos c5, if_pos (by omega), hnx5]
          exact e318
        · have hnx5 : (e : Int) + 1 = (nx A e : Int) := by
            unfold nx
            rw [if_neg c5]; omega
          rw [if_neg c5, if_pos (by omega), hnx5]
          rw [hnx5] at e318
          exact e318
      · rw [(b4 j hj).1, i9 j hj, Hn_len, if_pos qG]
      · rw [(b4 j hj).2]
        by_cases c : 0 < wc A (nx A e) j
        · rw [if_pos c]
          exact ⟨by omega, by omega, fun _ => ⟨e, rfl, heN, qG, hl, c⟩⟩
        · rw [if_neg c]
          obtain ⟨d1, d2, d3⟩ := i10 j hj
          refine ⟨d1, d2, fun q => d3 (fun w => q ?_)⟩
          rw [Hn, w, if_pos qG, List.nil_append]
          apply List.eq_nil_of_length_eq_zero
          rw [hx_len, show wc A (nx A e) j = 0 by omega, Nat.mul_zero]
    · have hH : ∀ j, Hn A G H j (e + 1) = Hn A G H j e := fun j => by rw [Hn, if_neg qG, List.append_nil]
      refine cont m ?_ (kp_refl _ m) (fun j hj => by rw [hH]; exact i9 j hj) (fun j hj => by rw [hH]; exact i10 j hj)
      rw [sel, if_neg qG]
      unfold zJ66_283
      rw [if_pos rfl]
      exact e330 m
/-- a step that goes on -/
theorem m66c (hn : 200000 ≤ n) (h : RX true C Y A N i0 z) (hne : ∀ e : Nat, e < N → ¬ em A e) (G : Nat → Bool) (hG : ∀ e : Nat, G e = true → e < N ∧ 0 < (H e).length) (p : Nat) (f o : Int) (v : Nat) (hp : p < 300) (c : Int) (hc0 : c ≠ 0)
    (hsel : ∀ e : Nat, e < 128 → (f = 1 → ((e : Int) = o ↔ G e = true)) ∧ (f ≠ 1 → ((0 < (H e).length ∧ bf A e = c) ↔ G e = true)) ∧ (0 < (H e).length → e ≤ N))
    (m : ZM) (hA : AX true m A (N + 1)) (hT : TR H m) (hc : m.1 105 p = c) (s : Nat) (hs : s < 160) (h40 : m.1 83 40 = s) :
    ∃ m', zJ66_209 n p f o v m = some ((v : Int), m') ∧ kp (wl w66) m m' ∧ m'.1 83 40 = (s : Int) + 1 ∧ TR (fun j => Hn A G H j N) m' ∧ (m'.1 112 s = p ∧ m'.1 113 s = v) ∧ (∀ t : Nat, t ≠ s → m'.1 112 t = m.1 112 t ∧ m'.1 113 t = m.1 113 t) ∧ (∃ g, SRC (s + 1) g m' ∧ ∀ j : Nat, j < 128 → Hn A G H j N ≠ [] → ∃ i : Nat, g j = i ∧ PV A N G H i j) ∧ (∀ q : Nat, q < 20 * (s + 1) → m'.2.2 q = m.2.2 q) := by
  obtain ⟨m1, a1, a2, a3⟩ := m50 (n := n) (by omega) m
  have w50n : ∀ a k : Nat, a ≠ 109 → a ≠ 110 → wl w50 a k = false := fun a k h1 h2 => by
    unfold wl w50
    simp
    omega
  have w49n : ∀ a k : Nat, a ≠ 109 → a ≠ 110 → a ≠ 114 → wl w49 a k = false := fun a k h1 h2 h3 => by
    unfold wl w49
    simp
    omega
  obtain ⟨g', m2, b1, b2, b3, b4⟩ := m66b hn h hne G hG p f o v hp c hc0 hsel n 0 m1 (by omega) (by omega) (AX_k hA (fun a q x y => (a2.1 a q (w50n a q (by omega) (by omega))).1)) (fun j hj => by rw [(a2.1 108 j (w50n _ _ (by decide) (by decide))).1]; exact hT j hj) (by rw [(a2.1 105 p (w50n _ _ (by decide) (by decide))).1]; exact hc) (fun j hj => by rw [(a3 j hj).1]; rfl) (fun j hj => by
    rw [(a3 j hj).2]
    exact ⟨by omega, by omega, fun q => absurd rfl q⟩)
  have hX : ∀ j, Hn A G H j 128 = Hn A G H j N := fun j => by
    have hN := x_N119 h
    have := Hn_ext A G H j N (fun e he => (hG e he).1) (128 - N)
    rw [show N + (128 - N) = 128 by omega] at this
    exact this
  have s2 : m2.1 83 40 = s := by
    rw [(b2.1 83 40 (w49n _ _ (by decide) (by decide) (by decide))).1, (a2.1 83 40 (w50n _ _ (by decide) (by decide))).1]; exact h40
  obtain ⟨m3, hm3⟩ : ∃ m3, m3 = z_i (z_i (z_i m2 112 s p) 113 s v) 83 40 ((s : Int) + 1) := ⟨_, rfl⟩
  have o3 : ∀ a q : Nat, a ≠ 112 → a ≠ 113 → a ≠ 83 → m3.1 a q = m2.1 a q := fun a q h1 h2 h3 => by
    rw [hm3, z_nc _ _ _ _ _ _ h3, z_nc _ _ _ _ _ _ h2, z_nc _ _ _ _ _ _ h1]
  obtain ⟨m4, c1, c2, c3, c4, c5⟩ := m51 n (by omega) (s + 1) (by omega) m3 (fun j hj => by
    rw [o3 110 j (by decide) (by decide) (by decide)]
    have := b4 j hj
    omega)
  have w51n : ∀ a k : Nat, a ≠ 108 → a ≠ 111 → wl w51 a k = false := fun a k h1 h2 => by
    unfold wl w51
    simp
    omega
  have k3 : kp (wl w66) m m3 := by
    rw [hm3]
    exact kp_i (kp_ia (kp_ia (kp_tr (kp_sub (by simp [w50, w66]) a2) (kp_sub (by simp [w49, w66]) b2)) (by simp [w66])) (by simp [w66])) (by simp [w66])
  refine ⟨m4, ?_, kp_tr k3 (kp_sub (by simp [w51, w66]) c2), ?_, fun j hj => ?_, ⟨?_, ?_⟩, fun t ht => ⟨?_, ?_⟩, ⟨fun j => m3.1 110 j, c4, fun j hj q => ?_⟩, fun q hq => ?_⟩
  · unfold zJ66_209
    rw [if_pos (by omega), a1]
    dsimp only
    have e0 : ((0 : Nat) : Int) = 0 := rfl
    rw [e0] at b1
    rw [b1, zL66_225, if_pos (by decide), s2, if_neg (by omega), zlet, Int.toNat_natCast, z_nc _ _ _ _ _ _ (by decide), s2, if_neg (by omega), zlet, Int.toNat_natCast]
    unfold zJ66_357 zJ66_375
    rw [z_nc _ _ _ _ _ _ (by decide), z_nc _ _ _ _ _ _ (by decide), s2, if_pos (by omega), zlet, z_eq, ← hm3]
    rw [show ((s + 1 : Nat) : Int) = (s : Int) + 1 by omega] at c1
    rw [c1]
  · rw [(c2.1 83 40 (w51n _ _ (by decide) (by decide))).1, hm3, z_eq]
  · rw [c3 j hj, o3 109 j (by decide) (by decide) (by decide), b3 j hj, hX]
  · rw [(c2.1 112 s (w51n _ _ (by decide) (by decide))).1, hm3, z_nc _ _ _ _ _ _ (by decide), z_nc _ _ _ _ _ _ (by decide), z_eq]
  · rw [(c2.1 113 s (w51n _ _ (by decide) (by decide))).1, hm3, z_nc _ _ _ _ _ _ (by decide), z_eq]
  · rw [(c2.1 112 t (w51n _ _ (by decide) (by decide))).1, hm3, z_nc _ _ _ _ _ _ (by decide), z_nc _ _ _ _ _ _ (by decide), z_nk _ _ _ _ _ _ ht, (b2.1 112 t (w49n _ _ (by decide) (by decide) (by decide))).1, (a2.1 112 t (w50n _ _ (by decide) (by decide))).1]
  · rw [(c2.1 113 t (w51n _ _ (by decide) (by decide))).1, hm3, z_nc _ _ _ _ _ _ (by decide), z_nk _ _ _ _ _ _ ht, z_nc _ _ _ _ _ _ (by decide), (b2.1 113 t (w49n _ _ (by decide) (by decide) (by decide))).1, (a2.1 113 t (w50n _ _ (by decide) (by decide))).1]
  · have q2 : Hn A G H j 128 ≠ [] := by rw [hX]; exact q
    obtain ⟨i, i1, i2⟩ := (b4 j hj).2.2 q2
    exact ⟨i, by show m3.1 110 j = _; rw [o3 110 j (by decide) (by decide) (by decide)]; exact i1, i2⟩
  · rw [c5 q (Or.inl hq), hm3]
    show m2.2.2 q = _
    rw [b2.2 q (by unfold wl w49; simp), a2.2 q (by unfold wl w50; simp)]
end
