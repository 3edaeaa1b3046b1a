/-! What follows an expression: the reference's side. -/
theorem lp_acc2 {α : Type} (L : Nat → Int → Int → Option α) (R : Int → Option α) (t0 t1 : Int) (N : Nat) (Q : Nat → Prop) (he : ∀ k t, t = t0 ∨ t = t1 → L (k + 1) t N = R t) (h2 : ∀ (k x : Nat), x < N → L (k + 1) t1 x = L k t1 ((x : Int) + 1)) (h1 : ∀ (k x : Nat), x < N → Q x → L (k + 1) t0 x = L k t1 ((x : Int) + 1)) (h0 : ∀ (k x : Nat), x < N → ¬ Q x → L (k + 1) t0 x = L k t0 ((x : Int) + 1)) :
    ∀ k x : Nat, N + 1 ≤ x + k → x ≤ N → L k t1 x = R t1 ∧ ((L k t0 x = R t1 ∧ ∃ q : Nat, x ≤ q ∧ q < N ∧ Q q) ∨ (L k t0 x = R t0 ∧ ∀ q : Nat, x ≤ q → q < N → ¬ Q q)) := by
  intro k
  induction k with
  | zero => intro x h; omega
  | succ k ih =>
    intro x h hx
    by_cases q : x = N
    · subst q
      exact ⟨he k t1 (Or.inr rfl), Or.inr ⟨he k t0 (Or.inl rfl), fun q a b => by omega⟩⟩
    obtain ⟨i1, i2⟩ := ih (x + 1) (by omega) (by omega)
    rw [show ((x + 1 : Nat) : Int) = (x : Int) + 1 by omega] at i1 i2
    refine ⟨by rw [h2 k x (by omega)]; exact i1, ?_⟩
    by_cases c : Q x
    · rw [h1 k x (by omega) c]
      exact Or.inl ⟨i1, x, by omega, by omega, c⟩
    · rw [h0 k x (by omega) c]
      rcases i2 with ⟨g1, q1, a1, a2, a3⟩ | ⟨g1, g2⟩
      · exact Or.inl ⟨g1, q1, by omega, a2, a3⟩
      · refine Or.inr ⟨g1, fun q1 a1 a2 => ?_⟩
        by_cases d : q1 = x
        · subst d; exact c
        · exact g2 q1 (by omega) a2
theorem lp_accm (L : Nat → Int → Int → ZM → Option (Int × ZM)) (I : ZM → Prop) (t0 t1 : Int) (N : Nat) (Q : Nat → Prop) (he : ∀ k t m, I m → t = t0 ∨ t = t1 → L (k + 1) t N m = some (t, m)) (h2 : ∀ (k x : Nat) (m : ZM), I m → x < N → ∃ m', I m' ∧ L (k + 1) t1 x m = L k t1 ((x : Int) + 1) m') (h1 : ∀ (k x : Nat) (m : ZM), I m → x < N → Q x → ∃ m', I m' ∧ L (k + 1) t0 x m = L k t1 ((x : Int) + 1) m') (h0 : ∀ (k x : Nat) (m : ZM), I m → x < N → ¬ Q x → ∃ m', I m' ∧ L (k + 1) t0 x m = L k t0 ((x : Int) + 1) m') :
    ∀ (k x : Nat) (m : ZM), I m → N + 1 ≤ x + k → x ≤ N → (∃ m', I m' ∧ L k t1 x m = some (t1, m')) ∧ ((∃ m', I m' ∧ L k t0 x m = some (t1, m') ∧ ∃ q : Nat, x ≤ q ∧ q < N ∧ Q q) ∨ (∃ m', I m' ∧ L k t0 x m = some (t0, m') ∧ ∀ q : Nat, x ≤ q → q < N → ¬ Q q)) := by
  intro k
  induction k with
  | zero => intro x m _ h; omega
  | succ k ih =>
    intro x m hI h hx
    by_cases q : x = N
    · subst q
      exact ⟨⟨m, hI, he k t1 m hI (Or.inr rfl)⟩, Or.inr ⟨m, hI, he k t0 m hI (Or.inl rfl), fun q a b => by omega⟩⟩
    have ih' := fun m' hm' => ih (x + 1) m' hm' (by omega) (by omega)
    rw [show ((x + 1 : Nat) : Int) = (x : Int) + 1 by omega] at ih'
    refine ⟨?_, ?_⟩
    · obtain ⟨m1, y1, y2⟩ := h2 k x m hI (by omega)
      rw [y2]
      exact (ih' m1 y1).1
    by_cases c : Q x
    · obtain ⟨m1, y1, y2⟩ := h1 k x m hI (by omega) c
      obtain ⟨m2, z1, z2⟩ := (ih' m1 y1).1
      exact Or.inl ⟨m2, z1, by rw [y2]; exact z2, x, by omega, by omega, c⟩
    · obtain ⟨m1, y1, y2⟩ := h0 k x m hI (by omega) c
      rw [y2]
      rcases (ih' m1 y1).2 with ⟨m2, z1, g1, q1, a1, a2, a3⟩ | ⟨m2, z1, g1, g2⟩
      · exact Or.inl ⟨m2, z1, g1, q1, by omega, a2, a3⟩
      · refine Or.inr ⟨m2, z1, g1, fun q1 a1 a2 => ?_⟩
        by_cases d : q1 = x
        · subst d; exact c
        · exact g2 q1 (by omega) a2
/-- the token before which a thread stands, 0 if it is none -/
def bf (A : Nat → Nat → Int) (j : Nat) : Int := if A 0 j = 5 then A 3 j else if A 0 j = 3 then 0 else if A 0 j = 6 then 0 else A 1 j
def lk (A : Nat → Nat → Int) (j : Nat) : Prop := A 0 j ≠ 6 ∧ ¬ (cls (bf A j) ∨ bf A j = 44 ∨ bf A j = 59)
/-- an expression before something that doesn't keep it apart -/
def lx (A : Nat → Nat → Int) (N e : Nat) : Prop := A 0 e = 3 ∧ A 4 e = 4 ∧ ∃ j : Nat, j ≤ N ∧ 0 < wc A (e + 1) j ∧ lk A j
section
variable {C : Nat → Int} {Y A : Nat → Nat → Int} {N i0 z : Nat} {n : Nat}
theorem Wy_in (h : RX true C Y A N i0 z) (j : Nat) : ∀ (f k : Nat) (p : List Nat), k ≤ N → p ∈ Wy A f k j → j ≤ N ∧ sd A j := by
  intro f
  induction f with
  | zero => intro k p _ hp; cases hp
  | succ f ih =>
    intro k p hk hp
    rw [Wy] at hp
    rcases List.mem_append.1 hp with a | a
    · split at a
      · rename_i q
        rw [← q.2]
        exact ⟨hk, q.1⟩
      · cases a
    · rcases List.mem_append.1 a with a | a
      · split at a
        · rename_i q
          obtain ⟨p', g, _⟩ := List.mem_map.1 a
          exact ih (k + 1) p' (by have := (on2_t h k hk q).1; omega) g
        · cases a
      · split at a
        · rename_i q
          obtain ⟨p', g, _⟩ := List.mem_map.1 a
          obtain ⟨_, t, g1, g2, g3, _⟩ := on2_t h k hk (on2_1 q)
          exact ih (tg2 A k) p' (by omega) g
        · cases a
theorem wc_in (h : RX true C Y A N i0 z) (k j : Nat) (hk : k ≤ N) (hw : 0 < wc A k j) : j ≤ N ∧ sd A j := by
  unfold wc at hw
  obtain ⟨p, hp⟩ := List.exists_mem_of_length_pos hw
  exact Wy_in h j 17 k p hk hp
theorem m50 (hn : 200 ≤ n) (m : ZM) : ∃ m', zF50 n m = some ((), m') ∧ kp (wl w50) m m' ∧ ∀ j : Nat, j < 128 → m'.1 109 j = 0 ∧ m'.1 110 j = 0 := by
  have key : ∀ (f x : Nat) (m : ZM), 129 ≤ x + f → x ≤ 128 → (∀ j : Nat, j < x → m.1 109 j = 0 ∧ m.1 110 j = 0) → ∃ m', zL50_2 n f x m = some ((), m') ∧ ∀ j : Nat, j < 128 → m'.1 109 j = 0 ∧ m'.1 110 j = 0 := by
    intro f
    induction f with
    | zero => intro x m h1 h2; omega
    | succ f ih =>
      intro x m h1 h2 h3
      by_cases q : x = 128
      · subst q
        exact ⟨m, by rw [zL50_2, if_pos (by omega)], h3⟩
      · obtain ⟨m', e1, e2⟩ := ih (x + 1) (z_i (z_i m 109 x 0) 110 x 0) (by omega) (by omega) (fun j hj => by
          by_cases c : j = x
          · subst c
            rw [z_nc _ _ _ _ _ _ (by decide), z_eq, z_eq]
            exact ⟨rfl, rfl⟩
          · rw [z_nc _ _ _ _ _ _ (by decide), z_nk _ _ _ _ _ _ c, z_nk _ _ _ _ _ _ c, z_nc _ _ _ _ _ _ (by decide)]
            exact h3 j (by omega))
        refine ⟨m', ?_, e2⟩
        rw [zL50_2, if_neg (by omega), if_neg (by omega), zlet, zlet, Int.toNat_natCast]
        unfold zJ50_23
        rw [if_pos (by omega)]
        rw [show ((x + 1 : Nat) : Int) = (x : Int) + 1 by omega] at e1
        exact e1
  obtain ⟨m', e1, e2⟩ := key n 0 m (by omega) (by omega) (fun j hj => by omega)
  have e3 : zF50 n m = some ((), m') := e1
  exact ⟨m', e3, zF50_kp n m _ _ e3, e2⟩
theorem m53 (h : RX true C Y A N i0 z) (m : ZM) (hA : AX true m A (N + 1)) (k : Nat) (hk : k ≤ N) : zF53 n k m = some (bf A k, m) := by
  have hN := x_N119 h
  have ax := hA k (by omega)
  rw [if_pos rfl] at ax
  unfold zF53 zJ53_29 zJ53_40 zJ53_50 bf
  rw [if_neg (show ¬ ((k : Int) < 0 ∨ 128 ≤ (k : Int)) by omega), Int.toNat_natCast, ax.1, ax.2.1, ax.2.2.2.1]
  repeat' split
  all_goals first | rfl | omega
theorem m54i (hn : 200000 ≤ n) (h : RX true C Y A N i0 z) (hne : ∀ e : Nat, e < N → ¬ em A e) (rec : Int → Int → ZM → Option (Int × ZM)) (e : Nat) (he : e < N) (h4 : A 4 e = 4) (m : ZM) (hA : AX true m A (N + 1)) :
    ∃ m', AX true m' A (N + 1) ∧ zJ54_25 n rec 0 e m = rec 0 ((e : Int) + 1) m' ∧ (((∃ j : Nat, j ≤ N ∧ 0 < wc A (e + 1) j ∧ lk A j) ∧ zJ54_25 n rec 1 e m = rec 0 ((e : Int) + 1) m') ∨ ((¬ ∃ j : Nat, j ≤ N ∧ 0 < wc A (e + 1) j ∧ lk A j) ∧ zJ54_25 n rec 1 e m = rec 1 ((e : Int) + 1) m')) := by
  have hN := x_N119 h
  obtain ⟨m1, a1, a2, a3⟩ := m50 (n := n) (by omega) m
  have hA1 : AX true m1 A (N + 1) := AX_k hA (fun c q x y => (a2.1 c q (by unfold wl w50; simp; omega)).1)
  obtain ⟨m2, b1, b2, b3, b4⟩ := m49 hn h hne 1 0 (Or.inl rfl) (e + 1) (by omega) m1 hA1 (fun j hj => by rw [(a3 j hj).1]; omega)
  have hA2 : AX true m2 A (N + 1) := AX_k hA1 (w49_90 b2)
  rw [show ((e + 1 : Nat) : Int) = (e : Int) + 1 by omega] at b1
  have ax := hA e (by omega)
  rw [if_pos rfl] at ax
  have st : ∀ t : Int, zJ54_25 n rec t e m = zL54_50 n rec n t e 0 m2 := by
    intro t
    unfold zJ54_25
    rw [if_neg (by omega), Int.toNat_natCast, ax.2.2.2.2.1, if_pos h4, a1]
    dsimp only
    unfold zJ54_39
    rw [if_pos (by omega), b1]
  have m9 : ∀ j : Nat, j < 128 → m2.1 109 j = mn (wc A (e + 1) j) := fun j hj => by
    rw [(b4 j hj).1, (a3 j hj).1]
    congr 1
    omega
  have stp : ∀ (k x : Nat) (t : Int), x < 128 → (((0 < wc A (e + 1) x ∧ lk A x) → t = 1 → zL54_50 n rec (k + 1) t e x m2 = zL54_50 n rec k 0 e ((x : Int) + 1) m2) ∧ (¬ (0 < wc A (e + 1) x ∧ lk A x) → t = 1 → zL54_50 n rec (k + 1) t e x m2 = zL54_50 n rec k 1 e ((x : Int) + 1) m2) ∧ (t = 0 → zL54_50 n rec (k + 1) t e x m2 = zL54_50 n rec k 0 e ((x : Int) + 1) m2)) := by
    intro k x t hx
    have c124 : ∀ (rec50 : Int → Int → Int → ZM → Option (Int × ZM)) (s : Int), zJ54_124 n rec rec50 t e x s m2 = if t = 0 ∨ s = 0 then rec50 0 e ((x : Int) + 1) m2 else rec50 1 e ((x : Int) + 1) m2 := by
      intro rec50 s
      unfold zJ54_124 zJ54_139 zJ54_140
      rw [if_pos (show rg ((x : Int) + 1) by omega), if_pos (show rg ((x : Int) + 1) by omega)]
      by_cases q : t = 0
      · rw [if_pos q, if_pos (Or.inl q)]
      · rw [if_neg q]
        by_cases q2 : s = 0
        · rw [if_pos q2, if_pos (Or.inr q2)]
        · rw [if_neg q2, if_neg (show ¬ (t = 0 ∨ s = 0) by omega)]
    have go : ∃ s : Int, (s = 0 ∨ s = 1) ∧ (s = 0 ↔ (0 < wc A (e + 1) x ∧ lk A x)) ∧ zL54_50 n rec (k + 1) t e x m2 = zJ54_124 n rec (zL54_50 n rec k) t e x s m2 := by
      by_cases q0 : wc A (e + 1) x = 0
      · refine ⟨1, Or.inr rfl, ⟨fun d => by omega, fun d => by omega⟩, ?_⟩
        have mz : m2.1 109 x = 0 := by rw [m9 x hx, q0]; rfl
        rw [zL54_50, if_neg (by omega), if_neg (by omega), Int.toNat_natCast, mz, if_pos (by decide)]
        unfold zJ54_75 zJ54_119
        rw [if_neg (by omega), Int.toNat_natCast, mz, if_pos rfl]
      · have xin := wc_in h (e + 1) x (by omega) (by omega)
        have ax2 := hA2 x (by omega)
        rw [if_pos rfl] at ax2
        have mz : 0 < m2.1 109 x := by
          rw [m9 x hx]; unfold mn; split <;> omega
        have e1 : zL54_50 n rec (k + 1) t e x m2 = zJ54_75 n rec (zL54_50 n rec k) t e x (bf A x) m2 := by
          rw [zL54_50, if_neg (by omega), if_neg (by omega), Int.toNat_natCast, if_neg (by omega), m53 h m2 hA2 x xin.1]
        rw [e1]
        have e2 : zJ54_75 n rec (zL54_50 n rec k) t e x (bf A x) m2 = if A 0 x = 6 then zJ54_119 n rec (zL54_50 n rec k) t e x m2 else zJ54_97 n rec (zL54_50 n rec k) t e x (bf A x) m2 := by
          unfold zJ54_75
          rw [if_neg (by omega), Int.toNat_natCast, if_neg (show ¬ m2.1 109 x = 0 by omega), ax2.1]
        rw [e2]
        by_cases q6 : A 0 x = 6
        · exact ⟨1, Or.inr rfl, ⟨fun d => by omega, fun d => absurd q6 d.2.1⟩, by rw [if_pos q6]; rfl⟩
        · rw [if_neg q6]
          have e3 : zJ54_97 n rec (zL54_50 n rec k) t e x (bf A x) m2 = if cls (bf A x) ∨ bf A x = 44 ∨ bf A x = 59 then zJ54_124 n rec (zL54_50 n rec k) t e x 1 m2 else zJ54_124 n rec (zL54_50 n rec k) t e x 0 m2 := by
            unfold zJ54_97 zJ54_119 zJ54_123
            rw [zF22_eq]
            dsimp only
            rw [ib]
            by_cases c1 : cls (bf A x)
            · rw [if_pos c1, if_pos (Or.inl c1)]
            rw [if_neg c1]
            by_cases c2 : bf A x = 44
            · rw [if_pos c2, if_pos (Or.inr (Or.inl c2))]
            rw [if_neg c2]
            by_cases c3 : bf A x = 59
            · rw [if_pos c3, if_pos (Or.inr (Or.inr c3))]
            rw [if_neg c3, if_neg (by rintro (d | d | d) <;> contradiction)]
          rw [e3]
          by_cases c : cls (bf A x) ∨ bf A x = 44 ∨ bf A x = 59
          · exact ⟨1, Or.inr rfl, ⟨fun d => by omega, fun d => absurd c d.2.2⟩, by rw [if_pos c]⟩
          · exact ⟨0, Or.inl rfl, ⟨fun _ => ⟨by omega, q6, c⟩, fun _ => rfl⟩, by rw [if_neg c]⟩
    obtain ⟨s, s1, s2, s3⟩ := go
    rw [s3, c124]
    refine ⟨fun d1 d2 => ?_, fun d1 d2 => ?_, fun d1 => ?_⟩
    · rw [if_pos (Or.inr (s2.2 d1))]
    · rw [if_neg (show ¬ (t = 0 ∨ s = 0) from fun d => by
        rcases d with d | d
        · omega
        · exact d1 (s2.1 d))]
    · rw [if_pos (Or.inl d1)]
  have hh := lp_acc2 (fun k t x => zL54_50 n rec k t e x m2) (fun t => rec t ((e : Int) + 1) m2) 1 0 128 (fun x => 0 < wc A (e + 1) x ∧ lk A x) (fun k t ht => by
      show zL54_50 n rec (k + 1) t e ((128 : Nat) : Int) m2 = _
      rw [zL54_50, if_pos (by omega)]
      unfold zJ54_147
      rw [if_pos (by omega)]) (fun k x hx => (stp k x 0 hx).2.2 rfl) (fun k x hx hq => (stp k x 1 hx).1 hq rfl) (fun k x hx hq => (stp k x 1 hx).2.1 hq rfl) n 0 (by omega) (by omega)
  refine ⟨m2, hA2, ?_, ?_⟩
  · rw [st]; exact hh.1
  · rcases hh.2 with ⟨g1, q, _, g2, g3⟩ | ⟨g1, g2⟩
    · exact Or.inl ⟨⟨q, (wc_in h (e + 1) q (by omega) g3.1).1, g3.1, g3.2⟩, by rw [st]; exact g1⟩
    · refine Or.inr ⟨?_, by rw [st]; exact g1⟩
      rintro ⟨j, j1, j2, j3⟩
      exact g2 j (by omega) (by omega) ⟨j2, j3⟩
theorem m54 (hn : 200000 ≤ n) (h : RX true C Y A N i0 z) (hne : ∀ e : Nat, e < N → ¬ em A e) (m : ZM) (hA : AX true m A (N + 1)) :
    (∃ m', zF54 n m = some (0, m') ∧ kp (wl w54) m m' ∧ ∃ e : Nat, e < N ∧ lx A N e) ∨ (∃ m', zF54 n m = some (1, m') ∧ kp (wl w54) m m' ∧ ∀ e : Nat, e < N → ¬ lx A N e) := by
  have hN := x_N119 h
  have stp : ∀ (k x : Nat) (m : ZM), AX true m A (N + 1) → x < N → ∃ m', AX true m' A (N + 1) ∧ zL54_4 n (k + 1) 0 x m = zL54_4 n k 0 ((x : Int) + 1) m' ∧ ((lx A N x → zL54_4 n (k + 1) 1 x m = zL54_4 n k 0 ((x : Int) + 1) m') ∧ (¬ lx A N x → zL54_4 n (k + 1) 1 x m = zL54_4 n k 1 ((x : Int) + 1) m')) := by
    intro k x m hA hx
    have ax := hA x (by omega)
    rw [if_pos rfl] at ax
    have s1 : ∀ t : Int, zL54_4 n (k + 1) t x m = if A 0 x = 3 then zJ54_25 n (zL54_4 n k) t x m else zL54_4 n k t ((x : Int) + 1) m := by
      intro t
      rw [zL54_4, if_neg (by omega), Int.toNat_natCast, ax.1, if_neg (x_k6 h x hx)]
      unfold zJ54_147
      rw [if_pos (show rg ((x : Int) + 1) by omega)]
    by_cases q3 : A 0 x = 3
    · by_cases q4 : A 4 x = 4
      · obtain ⟨m', b1, b2, b3⟩ := m54i hn h hne (zL54_4 n k) x hx q4 m hA
        refine ⟨m', b1, by rw [s1, if_pos q3]; exact b2, fun d => ?_, fun d => ?_⟩
        · rw [s1, if_pos q3]
          rcases b3 with b3 | b3
          · exact b3.2
          · exact absurd d.2.2 b3.1
        · rw [s1, if_pos q3]
          rcases b3 with b3 | b3
          · exact absurd ⟨q3, q4, b3.1⟩ d
          · exact b3.2
      · have s2 : ∀ t : Int, zJ54_25 n (zL54_4 n k) t x m = zL54_4 n k t ((x : Int) + 1) m := by
          intro t
          unfold zJ54_25 zJ54_147
          rw [if_neg (by omega), Int.toNat_natCast, ax.2.2.2.2.1, if_neg q4, if_pos (by omega)]
        refine ⟨m, hA, by rw [s1, if_pos q3, s2], fun d => absurd d.2.1 q4, fun d => by rw [s1, if_pos q3, s2]⟩
    · exact ⟨m, hA, by rw [s1, if_neg q3], fun d => absurd d.1 q3, fun d => by rw [s1, if_neg q3]⟩
  have hh := lp_accm (fun k t x m => zL54_4 n k t x m) (fun m => AX true m A (N + 1)) 1 0 N (fun x => lx A N x) (fun k t m hA ht => by
      have ax := hA N (by omega)
      rw [if_pos rfl] at ax
      show zL54_4 n (k + 1) t N m = _
      rw [zL54_4, if_neg (by omega), Int.toNat_natCast, ax.1, if_pos h.2.2.2.1, if_pos (by omega)]) (fun k x m hA hx => by
      obtain ⟨m', b1, b2, b3⟩ := stp k x m hA hx
      exact ⟨m', b1, b2⟩) (fun k x m hA hx hq => by
      obtain ⟨m', b1, b2, b3⟩ := stp k x m hA hx
      exact ⟨m', b1, b3.1 hq⟩) (fun k x m hA hx hq => by
      obtain ⟨m', b1, b2, b3⟩ := stp k x m hA hx
      exact ⟨m', b1, b3.2 hq⟩) n 0 m hA (by omega) (by omega)
  rcases hh.2 with ⟨m', _, g1, q, _, g2, g3⟩ | ⟨m', _, g1, g2⟩
  · have g1 : zF54 n m = some (0, m') := g1
    exact Or.inl ⟨m', g1, zF54_kp n m _ _ g1, q, g2, g3⟩
  · have g1 : zF54 n m = some (1, m') := g1
    exact Or.inr ⟨m', g1, zF54_kp n m _ _ g1, fun e he => g2 e (by omega) he⟩
end
