/-! Repetitions that match nothing. -/
theorem ordf_mono (A : Nat → Nat → Int) (e : Nat) : ∀ k : Nat, ordf A e ≤ ordf A (e + k) := by
  intro k
  induction k with
  | zero => exact Int.le_refl _
  | succ k ih =>
    rw [show e + (k + 1) = (e + k) + 1 by omega, ordf]
    split <;> omega
theorem ordf_le (A : Nat → Nat → Int) (e e' : Nat) (h : e ≤ e') : ordf A e ≤ ordf A e' := by
  have := ordf_mono A e (e' - e)
  rw [show e + (e' - e) = e' by omega] at this
  exact this
theorem ordf_0 (A : Nat → Nat → Int) (e : Nat) : 0 ≤ ordf A e := ordf_le A 0 e (by omega)
theorem ordf_4 (A : Nat → Nat → Int) (e : Nat) (h : A 0 e = 4) : ordf A (e + 1) = ordf A e + 1 := by
  rw [ordf, if_pos h]
section
variable {C : Nat → Int} {Y A : Nat → Nat → Int} {N i0 z : Nat} {m : ZM} {n b sz a u : Nat} {P : Nat → Nat}
theorem m48 (hn : 200 ≤ n) (h : RX true C Y A N i0 z) (hA : AX true m A (N + 1)) : (zF48 n m = some (1, m) ∧ ∃ e : Nat, e < N ∧ em A e) ∨ (zF48 n m = some (0, m) ∧ ∀ e : Nat, e < N → ¬ em A e) := by
  have hN := x_N119 h
  have i48 : ∀ (rec : Int → Int → ZM → Option (Int × ZM)) (x1 : Int) (i : Nat), i < N → A 0 i = 4 → ∀ f k : Nat, k ≤ N → N + 1 ≤ k + f → zL48_19 n rec f x1 i k m = zJ48_61 n rec x1 i (ce A k) m := by
    intro rec x1 i hi h4 f
    induction f with
    | zero => intro k h1 h2; omega
    | succ f ih =>
      intro k h1 h2
      have ai := hA i (by omega)
      have ak := hA k (by omega)
      rw [if_pos rfl] at ai ak
      rw [zL48_19, if_neg (by omega), Int.toNat_natCast, ai.1, if_pos h4, if_neg (by omega), Int.toNat_natCast, ak.1]
      by_cases q : A 0 k = 4
      · rw [if_pos q]
        unfold zJ48_39
        rw [if_neg (by omega), Int.toNat_natCast, ak.2.2.2.2.1]
        by_cases q2 : A 4 k = 2
        · rw [if_pos q2, ce_n (fun c => c.2 q2)]
        · have hk : k < N := by
            by_cases c : k = N
            · rw [c, h.2.2.2.1] at q
              exact absurd q (by decide)
            · omega
          obtain ⟨t, g1, g2, g3, _⟩ := x_beg h k hk q
          rw [if_neg q2, ak.2.2.1, g1, if_pos (by omega), ce_s h k t hk ⟨q, q2⟩ g1]
          exact ih (t + 1) (by omega) (by omega)
      · rw [if_neg q, ce_n (fun c => q c.1)]
  have j48 : ∀ (rec : Int → Int → ZM → Option (Int × ZM)) (x1 : Int) (i k f : Nat), i < N → A 0 i ≠ 4 → zL48_19 n rec (f + 1) x1 i k m = zJ48_61 n rec x1 i k m := by
    intro rec x1 i k f hi h4
    have ai := hA i (by omega)
    rw [if_pos rfl] at ai
    rw [zL48_19, if_neg (by omega), Int.toNat_natCast, ai.1, if_neg h4]
  have e61 : ∀ (rec : Int → Int → ZM → Option (Int × ZM)) (i k : Nat) (x1 : Int), i < N → zJ48_61 n rec x1 i k m = if x1 = 0 then (if A 0 i = 4 ∧ A 2 i = k then rec 1 ((i : Int) + 1) m else rec 0 ((i : Int) + 1) m) else rec 1 ((i : Int) + 1) m := by
    intro rec i k x1 hi
    have ai := hA i (by omega)
    rw [if_pos rfl] at ai
    unfold zJ48_61 zJ48_85 zJ48_89 zJ48_90
    rw [if_neg (show ¬ ((i : Int) < 0 ∨ 128 ≤ (i : Int)) by omega), Int.toNat_natCast, ai.1, ai.2.2.1, if_pos (show rg ((i : Int) + 1) by omega), if_pos (show rg ((i : Int) + 1) by omega)]
    by_cases q : A 0 i = 4
    · rw [if_pos q]
      by_cases q2 : A 2 i = k
      · rw [if_pos q2, if_pos (show A 0 i = 4 ∧ A 2 i = k from ⟨q, q2⟩)]
      · rw [if_neg q2, if_neg (show ¬ (A 0 i = 4 ∧ A 2 i = k) from fun c => q2 c.2)]
    · rw [if_neg q, if_neg (show ¬ (A 0 i = 4 ∧ A 2 i = k) from fun c => q c.1)]
  have e1 : ∀ (k i : Nat), i < N → ∀ x1 : Int, ∃ k' : Nat, (A 0 i = 4 → k' = ce A (i + 1)) ∧ zL48_4 n (k + 1) x1 i m = zJ48_61 n (zL48_4 n k) x1 i k' m := by
    intro k i hi x1
    have ai := hA i (by omega)
    rw [if_pos rfl] at ai
    have st : zL48_4 n (k + 1) x1 i m = zL48_19 n (zL48_4 n k) n x1 i ((i + 1 : Nat) : Int) m := by
      rw [zL48_4, if_neg (by omega), Int.toNat_natCast, ai.1, if_neg (x_k6 h i hi), if_pos (by omega), show ((i + 1 : Nat) : Int) = (i : Int) + 1 by omega]
    rw [st]
    by_cases q : A 0 i = 4
    · exact ⟨ce A (i + 1), fun _ => rfl, i48 _ x1 i hi q n (i + 1) (by omega) (by omega)⟩
    · refine ⟨i + 1, fun c => absurd c q, ?_⟩
      have := j48 (zL48_4 n k) x1 i (i + 1) (n - 1) hi q
      rw [show n - 1 + 1 = n by omega] at this
      exact this
  unfold zF48
  have hh := lp_acc (fun k r x => zL48_4 n k r x m) m 0 1 N (fun x => em A x) (fun k r hr => by
      have ax := hA N (by omega)
      rw [if_pos rfl] at ax
      show zL48_4 n (k + 1) r N m = _
      rw [zL48_4, if_neg (by omega), Int.toNat_natCast, ax.1, if_pos h.2.2.2.1, if_pos hr]) (fun k x hx => by
      show zL48_4 n (k + 1) 1 x m = _
      obtain ⟨k', k1, k2⟩ := e1 k x hx 1
      rw [k2, e61 _ _ _ _ hx, if_neg (by decide)]; rfl) (fun k x hx hq => by
      show zL48_4 n (k + 1) 0 x m = _
      obtain ⟨k', k1, k2⟩ := e1 k x hx 0
      rw [k2, e61 _ _ _ _ hx, if_pos rfl, if_pos ⟨hq.1, by rw [k1 hq.1]; exact hq.2⟩]; rfl) (fun k x hx hq => by
      show zL48_4 n (k + 1) 0 x m = _
      obtain ⟨k', k1, k2⟩ := e1 k x hx 0
      rw [k2, e61 _ _ _ _ hx, if_pos rfl, if_neg (fun c => hq ⟨c.1, by rw [← k1 c.1]; exact c.2⟩)]; rfl) n 0 (by omega) (by omega)
  rcases hh.2 with ⟨g1, q, a1, a2, a3⟩ | ⟨g1, g2⟩
  · exact Or.inl ⟨g1, q, a2, a3⟩
  · exact Or.inr ⟨g1, fun e he => g2 e (by omega) he⟩
theorem c94 (hn : 200 ≤ n) (hD : DM b sz a C Y P m) (h : RX true C Y A N i0 z) (hz : z < sz) (e : Nat) (he : e < N) (h4 : A 0 e = 4) : (zF94 n b (pl A e) m = some (1, m) ∧ em A e) ∨ (zF94 n b (pl A e) m = some (0, m) ∧ ¬ em A e) := by
  obtain ⟨t, ht, h1, h2, t1, t2, t3, t4, t5, t6, _⟩ := x_beg h e he h4
  have pe := x_pl h e (by omega)
  have h120 := h.2.2.2.2.2.2.2.1
  have l2 : lnf A e = 2 := by
    unfold lnf
    rw [if_neg (by omega), if_pos (Or.inl h4)]
  have xn := x_nx h e he
  have := pe.2.2.2 he
  have ho4 := h.2.2.2.2.2.2.2.2.2.2.2.2.2.2 rfl
  have key : ∀ (f i k : Nat), 5 ≤ f + i → e < k → k ≤ t → (i : Int) + 1 ≤ ordf A k → (zL94_15 n b f (pl A t) (pl A k) i m = some (1, m) ∧ ce A k = t) ∨ (zL94_15 n b f (pl A t) (pl A k) i m = some (0, m) ∧ ce A k ≠ t) := by
    intro f
    induction f with
    | zero =>
      intro i k a1 a2 a3 a4
      have := ordf_le A k N (by omega)
      omega
    | succ f ih =>
      intro i k a1 a2 a3 a4
      have o1 := ordf_le A k N (by omega)
      have pk := x_pl h k (by omega)
      by_cases q : k = t
      · subst q
        have s1 : zL94_15 n b (f + 1) (pl A k) (pl A k) i m = some (1, m) := by
          rw [zL94_15, if_neg (by omega), if_pos (by omega)]
          rfl
        rw [s1, ce_n (fun c => by have := c.1; omega)]
        exact Or.inl ⟨rfl, rfl⟩
      · have mk := (x_mono h k t (by omega) (by omega)).1 (by omega)
        have pt := x_pl h t (by omega)
        have lk := lnf_pos A k
        have pk2 := pk.2.2.2 (by omega)
        by_cases q4 : A 0 k = 4
        · obtain ⟨c, c1, c2, c3⟩ := y_mk (n := n) hD h hz k (by omega) q4
          by_cases q2 : A 4 k = 2
          · have s1 : zL94_15 n b (f + 1) (pl A t) (pl A k) i m = some (0, m) := by
              rw [zL94_15, if_neg (by omega), if_neg (by omega), d_sr hD (pl A k) (by omega)]
              dsimp only
              rw [ib, if_pos ((x_srE h k (by omega)).2 q4)]
              unfold zJ94_34 zJ94_44
              rw [c1]
              dsimp only
              rw [if_pos (c2.2 q2)]
            rw [s1, ce_n (fun c => c.2 q2)]
            exact Or.inr ⟨rfl, q⟩
          · obtain ⟨t', g1, g2, g3, _⟩ := x_beg h k (by omega) q4
            have nx := x_nest h e k t he h4 ht a2 (by omega) q4
            have o2 := ordf_le A (k + 1) (t' + 1) (by omega)
            rw [ordf_4 A k q4] at o2
            have s1 : zL94_15 n b (f + 1) (pl A t) (pl A k) i m = zL94_15 n b f (pl A t) (pl A (t' + 1)) ((i + 1 : Nat) : Int) m := by
              rw [zL94_15, if_neg (by omega), if_neg (by omega), d_sr hD (pl A k) (by omega)]
              dsimp only
              rw [ib, if_pos ((x_srE h k (by omega)).2 q4)]
              unfold zJ94_34 zJ94_44
              rw [c1]
              dsimp only
              rw [if_neg (fun c => q2 (c2.1 c)), y_bh hD h hz k t' (by omega) q4 g1]
              dsimp only
              unfold zJ94_52
              rw [if_pos (by omega), show ((i + 1 : Nat) : Int) = (i : Int) + 1 by omega]
            rw [s1, ce_s h k t' (by omega) ⟨q4, q2⟩ g1]
            exact ih (i + 1) (t' + 1) (by omega) (by omega) (by omega) (by omega)
        · have s1 : zL94_15 n b (f + 1) (pl A t) (pl A k) i m = some (0, m) := by
            rw [zL94_15, if_neg (by omega), if_neg (by omega), d_sr hD (pl A k) (by omega)]
            dsimp only
            rw [ib, if_neg (fun c => q4 ((x_srE h k (by omega)).1 c))]
            rfl
          rw [s1, ce_n (fun c => q4 c.1)]
          exact Or.inr ⟨rfl, q⟩
  have hk := key n 0 (e + 1) (by omega) (by omega) (by omega) (by rw [ordf_4 A e h4]; have := ordf_0 A e; omega)
  have st : zF94 n b (pl A e) m = zL94_15 n b n (pl A t) (pl A (e + 1)) ((0 : Nat) : Int) m := by
    unfold zF94
    rw [if_pos (by omega), d_part hD, if_pos (by omega), show ((pl A e : Int) + 1).toNat = pl A e + 1 by omega, t6]
    dsimp only
    rw [if_pos (by omega), show (pl A e : Int) + 2 = pl A (e + 1) by omega]
    rfl
  rw [st]
  rcases hk with ⟨g1, g2⟩ | ⟨g1, g2⟩
  · exact Or.inl ⟨g1, h4, by rw [ht, g2]⟩
  · exact Or.inr ⟨g1, fun c => g2 (by have := c.2; omega)⟩
theorem c93 (hn : 200 ≤ n) (hD : DM b sz a C Y P m) (hu : u < a) (hP : P u = i0) (h : RX true C Y A N i0 z) (hz : z + 1 < sz) : (zF93 n b u m = some (1, m) ∧ ∃ e : Nat, e < N ∧ em A e) ∨ (zF93 n b u m = some (0, m) ∧ ∀ e : Nat, e < N → ¬ em A e) := by
  have h120 := h.2.2.2.2.2.2.2.1
  have hi0 := h.2.2.2.2.2.2.1
  have hY := h.2.2.2.2.2.2.2.2.1
  unfold zF93
  rw [d_pe hD u hu, hP, hY]
  dsimp only
  rw [d_ps hD u hu, hP]
  dsimp only
  have e0 : ∀ (k x : Nat), i0 + 1 ≤ x → x < z → ¬ (C x = 36 ∧ C (x + 1) = 40) → zL93_12 n b (k + 1) z x m = zL93_12 n b k z ((x : Int) + 1) m := by
    intro k x hx hxz q
    rw [zL93_12, if_neg (by omega), d_sr hD x (by omega)]
    dsimp only
    rw [ib, if_neg q]
    unfold zJ93_35
    rw [if_pos (by omega)]
  have eV : ∀ (k e : Nat), e < N → A 0 e = 4 → (em A e → zL93_12 n b (k + 1) z (pl A e) m = some (1, m)) ∧ (¬ em A e → zL93_12 n b (k + 1) z (pl A e) m = zL93_12 n b k z ((pl A e : Int) + 1) m) := by
    intro k e he h4
    have p1 := x_pl h e (by omega)
    have l1 := lnf_pos A e
    have p2 := p1.2.2.2 he
    have q := (x_srE h e (by omega)).2 h4
    rcases c94 hn hD h (by omega) e he h4 with ⟨g1, g2⟩ | ⟨g1, g2⟩
    · refine ⟨fun _ => ?_, fun c => absurd g2 c⟩
      rw [zL93_12, if_neg (by omega), d_sr hD (pl A e) (by omega)]
      dsimp only
      rw [ib, if_pos q, g1]
      dsimp only
      rw [if_neg (by decide)]
      rfl
    · refine ⟨fun c => absurd c g2, fun _ => ?_⟩
      rw [zL93_12, if_neg (by omega), d_sr hD (pl A e) (by omega)]
      dsimp only
      rw [ib, if_pos q, g1]
      dsimp only
      rw [if_pos rfl]
      unfold zJ93_35
      rw [if_pos (by omega)]
  obtain ⟨r, hr, hh⟩ := lp_ex (fun k x => zL93_12 n b k z x m) m (i0 + 1) z (fun x => ∃ e : Nat, e < N ∧ x = pl A e ∧ em A e) (fun k => by
      show zL93_12 n b (k + 1) z z m = _
      rw [zL93_12, if_pos (by omega)]) (fun k x h1 h2 hq => by
      show zL93_12 n b (k + 1) z x m = _
      obtain ⟨e, he, hp, h4⟩ := hq
      rw [hp]
      exact (eV k e he h4.1).1 h4) (fun k x h1 h2 hq => by
      show zL93_12 n b (k + 1) z x m = _
      by_cases q : C x = 36 ∧ C (x + 1) = 40
      · obtain ⟨e, he, hp, h4⟩ := (x_sr h x (by omega) h2).1 q
        have := (eV k e he h4).2 (fun c => hq ⟨e, he, hp, c⟩)
        rw [hp]
        exact this
      · exact e0 k x h1 h2 q) n (i0 + 1) (by omega) (by omega) (by omega)
  rw [show ((i0 + 1 : Nat) : Int) = (i0 : Int) + 1 by omega] at hr
  rcases hh with ⟨rfl, q, a1, a2, e, a3, a4, a5⟩ | ⟨rfl, g⟩
  · exact Or.inl ⟨hr, e, a3, a5⟩
  · refine Or.inr ⟨hr, fun e he c => ?_⟩
    have p1 := x_pl h e (by omega)
    have := lnf_pos A e
    have := p1.2.2.2 he
    exact g (pl A e) (by omega) (by omega) ⟨e, he, rfl, c⟩
end
