/-! goTo: its search, whole. -/
def dsc (i : Nat) (m : ZM) (v : Nat) : Prop := v = i ∨ 0 ≤ m.1 115 v
def unk (m : ZM) : Nat := cn (fun v => decide (m.1 115 v < 0)) 128
/-- while node j is looked at -/
def DI (A : Nat → Nat → Int) (N i h : Nat) (x : Nat → Prop) (m : ZM) : Prop :=
  (∀ v : Nat, v ≤ N → m.1 115 v = -1 ∨ ∃ q : Nat, m.1 115 v = q ∧ q ≤ N ∧ edg A q v ∧ dsc i m q ∧ phi A N q ≤ phi A N i) ∧
  (∀ s : Nat, s < h → ∃ v : Nat, v ≤ N ∧ m.1 114 s = v ∧ dsc i m v ∧ phi A N v ≤ phi A N i) ∧
  (∀ v : Nat, v ≤ N → dsc i m v → x v ∨ (∃ s : Nat, s < h ∧ m.1 114 s = v) ∨ ∀ j : Nat, edg A v j → dsc i m j) ∧ m.1 115 i = -1
section
variable {C : Nat → Int} {Y A : Nat → Nat → Int} {N i0 z : Nat} {n : Nat}
theorem edg_N (h : RX true C Y A N i0 z) (hne : ∀ e : Nat, e < N → ¬ em A e) {q j : Nat} (hq : q ≤ N) (e : edg A q j) : j ≤ N ∧ phi A N j < phi A N q := by
  rcases e with ⟨c, rfl⟩ | ⟨c, rfl⟩
  · have := (on2_t h q hq c).1
    exact ⟨by omega, phi_1 h hne q this c⟩
  · obtain ⟨hk, t, t1, t2, t3, _⟩ := on2_t h q hq (on2_1 c)
    exact ⟨by omega, phi_2 h hne q hk c⟩
theorem DI_p (h : RX true C Y A N i0 z) (hne : ∀ e : Nat, e < N → ¬ em A e) {i h0 j k : Nat} {x : Nat → Prop} {m : ZM} (hD : DI A N i h0 x m) (hj : j ≤ N) (he : edg A j k) (hn : m.1 115 k < 0) (hd : dsc i m j) (hp : phi A N j ≤ phi A N i) : DI A N i (h0 + 1) x (psh m h0 j k) ∧ unk (psh m h0 j k) + 1 = unk m ∧ (∀ v, dsc i m v → dsc i (psh m h0 j k) v) ∧ dsc i (psh m h0 j k) k := by
  have hN := x_N119 h
  obtain ⟨hk, hpk⟩ := edg_N h hne hj he
  obtain ⟨a1, a2, a3, a4⟩ := hD
  have hki : k ≠ i := fun c => by rw [c] at hpk; omega
  have pk : (psh m h0 j k).1 115 k = j := by unfold psh; rw [z_nc _ _ _ _ _ _ (by decide), z_eq]
  have po : ∀ v, v ≠ k → (psh m h0 j k).1 115 v = m.1 115 v := fun v hv => by unfold psh; rw [z_nc _ _ _ _ _ _ (by decide), z_nk _ _ _ _ _ _ hv]
  have s0 : (psh m h0 j k).1 114 h0 = k := by unfold psh; rw [z_eq]
  have so : ∀ s, s ≠ h0 → (psh m h0 j k).1 114 s = m.1 114 s := fun s hs => by unfold psh; rw [z_nk _ _ _ _ _ _ hs, z_nc _ _ _ _ _ _ (by decide)]
  have dk : dsc i (psh m h0 j k) k := Or.inr (by rw [pk]; omega)
  have dm : ∀ v, dsc i m v → dsc i (psh m h0 j k) v := fun v hv => by
    by_cases c : v = k
    · rw [c]; exact dk
    · rcases hv with d | d
      · exact Or.inl d
      · exact Or.inr (by rw [po v c]; exact d)
  have db : ∀ v, dsc i (psh m h0 j k) v → v = k ∨ dsc i m v := fun v hv => by
    by_cases c : v = k
    · exact Or.inl c
    · rcases hv with d | d
      · exact Or.inr (Or.inl d)
      · exact Or.inr (Or.inr (by rw [po v c] at d; exact d))
  refine ⟨⟨fun v hv => ?_, fun s hs => ?_, fun v hv dv => ?_, by rw [po i (fun c => hki c.symm)]; exact a4⟩, ?_, dm, dk⟩
  · by_cases c : v = k
    · subst c
      exact Or.inr ⟨j, pk, hj, he, dm j hd, hp⟩
    · rw [po v c]
      rcases a1 v hv with b | ⟨q, b1, b2, b3, b4, b5⟩
      · exact Or.inl b
      · exact Or.inr ⟨q, b1, b2, b3, dm q b4, b5⟩
  · by_cases c : s = h0
    · subst c
      exact ⟨k, hk, s0, dk, by omega⟩
    · obtain ⟨v, b1, b2, b3, b4⟩ := a2 s (by omega)
      exact ⟨v, b1, by rw [so s c]; exact b2, dm v b3, b4⟩
  · rcases db v dv with d | d
    · exact Or.inr (Or.inl ⟨h0, by omega, by rw [s0, d]⟩)
    · rcases a3 v hv d with b | ⟨s, b1, b2⟩ | b
      · exact Or.inl b
      · exact Or.inr (Or.inl ⟨s, by omega, by rw [so s (by omega)]; exact b2⟩)
      · exact Or.inr (Or.inr (fun w hw => dm w (b w hw)))
  · unfold unk
    refine (cn_one k 128 (by omega) (fun v hv hvk => ?_) (decide_eq_true hn) (decide_eq_false (by rw [pk]; omega))).symm
    rw [po v hvk]
theorem g_loop (h : RX true C Y A N i0 z) (hne : ∀ e : Nat, e < N → ¬ em A e) (i k : Nat) : ∀ (f h0 : Nat) (m : ZM), AX true m A (N + 1) → DI A N i h0 (fun _ => False) m → 2 * unk m + h0 + 1 ≤ f → unk m + h0 ≤ 200 → ∃ m', zL71_31 n f i k h0 m = zL71_217 n n i 0 k m' ∧ DI A N i 0 (fun _ => False) m' ∧ kp (wl [(114, 1000), (115, 1000)]) m m' := by
  have hN := x_N119 h
  intro f
  induction f with
  | zero => intro h0 m _ _ hf; omega
  | succ f ih =>
    intro h0 m hA hD hf hh
    cases h0 with
    | zero =>
      refine ⟨m, ?_, hD, kp_refl _ m⟩
      rw [zL71_31, if_pos (by decide)]
    | succ s =>
      obtain ⟨a1, a2, a3, a4⟩ := hD
      obtain ⟨j, j1, j2, j3, j4⟩ := a2 s (by omega)
      have st := g_st (n := n) h m hA i k f s j j1 j2 (by omega)
      rw [show (s : Int) + 1 = ((s + 1 : Nat) : Int) by omega, show ((s + 1 : Nat) : Int) + 1 = ((s + 1 + 1 : Nat) : Int) by omega] at st
      have D0 : DI A N i s (fun v => v = j) m := by
        refine ⟨a1, fun s' hs' => a2 s' (by omega), fun v hv dv => ?_, a4⟩
        rcases a3 v hv dv with b | ⟨s', b1, b2⟩ | b
        · exact absurd b not_false
        · by_cases c : s' = s
          · subst c
            exact Or.inl (by omega)
          · exact Or.inr (Or.inl ⟨s', by omega, b2⟩)
        · exact Or.inr (Or.inr b)
      have fin : ∀ (h' : Nat) (m' : ZM), DI A N i h' (fun v => v = j) m' → (∀ w, edg A j w → dsc i m' w) → DI A N i h' (fun _ => False) m' := by
        intro h' m' hD' hcl
        obtain ⟨b1, b2, b3, b4⟩ := hD'
        refine ⟨b1, b2, fun v hv dv => ?_, b4⟩
        rcases b3 v hv dv with b | b | b
        · subst b
          exact Or.inr (Or.inr hcl)
        · exact Or.inr (Or.inl b)
        · exact Or.inr (Or.inr b)
      have kps : ∀ (m' : ZM) (s' j' k' : Nat), kp (wl [(114, 1000), (115, 1000)]) m' (psh m' s' j' k') := fun m' s' j' k' => by
        unfold psh
        exact kp_ia (kp_ia (kp_refl _ m') (by simp)) (by simp)
      have axk : ∀ m', kp (wl [(114, 1000), (115, 1000)]) m m' → AX true m' A (N + 1) := fun m' g => AX_k hA (fun c q p1 p2 => (g.1 c q (by unfold wl; simp; omega)).1)
      rw [st]
      by_cases q1 : on1 A j ∧ m.1 115 (j + 1) < 0
      · obtain ⟨D1, u1, m1, d1⟩ := DI_p h hne D0 j1 (Or.inl ⟨q1.1, rfl⟩) q1.2 j3 j4
        rw [if_pos q1]
        by_cases q2 : on2 A j ∧ (psh m s j (j + 1)).1 115 (tg2 A j) < 0
        · obtain ⟨D2, u2, m2, d2⟩ := DI_p h hne D1 j1 (Or.inr ⟨q2.1, rfl⟩) q2.2 (m1 j j3) j4
          rw [if_pos q2]
          have k2 := kp_tr (kps m s j (j + 1)) (kps (psh m s j (j + 1)) (s + 1) j (tg2 A j))
          obtain ⟨m', g1, g2, g3⟩ := ih (s + 1 + 1) _ (axk _ k2) (fin _ _ D2 (fun w hw => by
            rcases hw with ⟨_, rfl⟩ | ⟨_, rfl⟩
            · exact m2 _ d1
            · exact d2)) (by omega) (by omega)
          exact ⟨m', g1, g2, kp_tr k2 g3⟩
        · rw [if_neg q2]
          have k1 := kps m s j (j + 1)
          obtain ⟨m', g1, g2, g3⟩ := ih (s + 1) _ (axk _ k1) (fin _ _ D1 (fun w hw => by
            rcases hw with ⟨_, rfl⟩ | ⟨c, rfl⟩
            · exact d1
            · exact Or.inr (by
                apply Classical.byContradiction
                intro e
                exact q2 ⟨c, by omega⟩))) (by omega) (by omega)
          exact ⟨m', g1, g2, kp_tr k1 g3⟩
      · rw [if_neg q1]
        have c1 : on1 A j → dsc i m (j + 1) := fun c => Or.inr (by
          apply Classical.byContradiction
          intro e
          exact q1 ⟨c, by omega⟩)
        by_cases q2 : on2 A j ∧ m.1 115 (tg2 A j) < 0
        · obtain ⟨D2, u2, m2, d2⟩ := DI_p h hne D0 j1 (Or.inr ⟨q2.1, rfl⟩) q2.2 j3 j4
          rw [if_pos q2]
          have k1 := kps m s j (tg2 A j)
          obtain ⟨m', g1, g2, g3⟩ := ih (s + 1) _ (axk _ k1) (fin _ _ D2 (fun w hw => by
            rcases hw with ⟨c, rfl⟩ | ⟨_, rfl⟩
            · exact m2 _ (c1 c)
            · exact d2)) (by omega) (by omega)
          exact ⟨m', g1, g2, kp_tr k1 g3⟩
        · rw [if_neg q2]
          exact ih s m hA (fin _ _ D0 (fun w hw => by
            rcases hw with ⟨c, rfl⟩ | ⟨c, rfl⟩
            · exact c1 c
            · exact Or.inr (by
                apply Classical.byContradiction
                intro e
                exact q2 ⟨c, by omega⟩))) (by omega) (by omega)
/-- a chain of steps without a token -/
def chn (A : Nat → Nat → Int) : List Nat → Prop
  | [] => True
  | [_] => True
  | a :: b :: p => edg A a b ∧ chn A (b :: p)
theorem ways_chn (A : Nat → Nat → Int) (j : Nat) : ∀ (f k : Nat) (p : List Nat), p ∈ Wy A f k j → chn A p ∧ p.getLast? = some j := by
  intro f
  induction f with
  | zero => intro k p hp; cases hp
  | succ f ih =>
    intro k p hp
    rw [Wy] at hp
    rcases List.mem_append.1 hp with a | a
    · split at a
      · rename_i q
        rw [List.mem_singleton.1 a]
        exact ⟨trivial, by rw [q.2]; rfl⟩
      · cases a
    · rcases List.mem_append.1 a with a | a
      · split at a
        · rename_i q
          obtain ⟨p', g, e⟩ := List.mem_map.1 a
          obtain ⟨i1, i2⟩ := ih (k + 1) p' g
          obtain ⟨q', rfl⟩ := ways_hd A j f (k + 1) p' g
          rw [← e]
          exact ⟨⟨Or.inl ⟨q, rfl⟩, i1⟩, by rw [List.getLast?_cons_cons]; exact i2⟩
        · cases a
      · split at a
        · rename_i q
          obtain ⟨p', g, e⟩ := List.mem_map.1 a
          obtain ⟨i1, i2⟩ := ih (tg2 A k) p' g
          obtain ⟨q', rfl⟩ := ways_hd A j f (tg2 A k) p' g
          rw [← e]
          exact ⟨⟨Or.inr ⟨q, rfl⟩, i1⟩, by rw [List.getLast?_cons_cons]; exact i2⟩
        · cases a
theorem chn_ways (h : RX true C Y A N i0 z) (hne : ∀ e : Nat, e < N → ¬ em A e) (j : Nat) (hj : sd A j) : ∀ (p : List Nat) (k : Nat), k ≤ N → chn A (k :: p) → (k :: p).getLast? = some j → (k :: p) ∈ ways A k j := by
  intro p
  induction p with
  | nil =>
    intro k hk _ hl
    have : k = j := by
      have : some k = some j := hl
      cases this
      rfl
    subst this
    rw [ways_eq h hne k k hk, if_pos ⟨hj, rfl⟩]
    exact List.mem_append_left _ (List.mem_singleton.2 rfl)
  | cons b p ih =>
    intro k hk hc hl
    obtain ⟨e, hc'⟩ := hc
    rw [List.getLast?_cons_cons] at hl
    have hb := (edg_N h hne hk e).1
    have := ih b hb hc' hl
    rw [ways_eq h hne k j hk]
    apply List.mem_append_right
    rcases e with ⟨c, rfl⟩ | ⟨c, rfl⟩
    · apply List.mem_append_left
      rw [if_pos c]
      exact List.mem_map.2 ⟨_, this, rfl⟩
    · apply List.mem_append_right
      rw [if_pos c]
      exact List.mem_map.2 ⟨_, this, rfl⟩
/-- what can be reached has been found -/
theorem DI_all (h : RX true C Y A N i0 z) (hne : ∀ e : Nat, e < N → ¬ em A e) {i : Nat} {m : ZM} (hD : DI A N i 0 (fun _ => False) m) : ∀ (p : List Nat) (k : Nat), k ≤ N → dsc i m k → chn A (k :: p) → ∀ j, (k :: p).getLast? = some j → dsc i m j ∧ j ≤ N := by
  intro p
  induction p with
  | nil =>
    intro k hk hd _ j hl
    have : k = j := by
      have : some k = some j := hl
      cases this
      rfl
    subst this
    exact ⟨hd, hk⟩
  | cons b p ih =>
    intro k hk hd hc j hl
    obtain ⟨e, hc'⟩ := hc
    rw [List.getLast?_cons_cons] at hl
    have hb := (edg_N h hne hk e).1
    have db : dsc i m b := by
      rcases hD.2.2.1 k hk hd with c | ⟨s, c, _⟩ | c
      · exact absurd c not_false
      · omega
      · exact c b e
    exact ih b hb db hc' j hl
end
