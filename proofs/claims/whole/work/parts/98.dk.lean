/-! Threads.walk. -/
/-- threads c of definition b -/
def TC (c b sz a : Nat) (C : Nat → Int) (Y : Nat → Nat → Int) (P : Nat → Nat) (wt bd : Int) (m : ZM) : Prop :=
  m.2.1 c 4 = some b ∧ DM b sz a C Y P m ∧ m.1 c 3 = wt ∧ (∀ p : Nat, p < 120 → 0 ≤ m.1 (c + 1) p ∧ m.1 (c + 1) p ≤ 2) ∧ ∀ o : Nat, o < 4 → 0 ≤ m.1 (c + 3) o ∧ m.1 (c + 3) o ≤ bd
theorem wT_n {c : Nat} (c' k : Nat) (h : c' ≠ c + 1 ∧ c' ≠ c + 2 ∧ c' ≠ c + 3) : wl (wT c) c' k = false := by
  unfold wl wT
  simp
  omega
theorem ways_hd (A : Nat → Nat → Int) (j : Nat) : ∀ (f k : Nat) (p : List Nat), p ∈ Wy A f k j → ∃ q, p = k :: q := by
  intro f k p hp
  cases f with
  | zero => cases hp
  | succ f =>
    rw [Wy] at hp
    rcases List.mem_append.1 hp with a | a
    · split at a
      · exact ⟨[], List.mem_singleton.1 a⟩
      · cases a
    · rcases List.mem_append.1 a with a | a
      · split at a
        · obtain ⟨q, _, e⟩ := List.mem_map.1 a
          exact ⟨q, e.symm⟩
        · cases a
      · split at a
        · obtain ⟨q, _, e⟩ := List.mem_map.1 a
          exact ⟨q, e.symm⟩
        · cases a
theorem rho_c (A : Nat → Nat → Int) (k k' j : Nat) (p : List Nat) (hp : p ∈ ways A k' j) (o : Nat) : rho A (k :: p) o = inc A k k' o + rho A p o := by
  obtain ⟨q, rfl⟩ := ways_hd A j 17 k' p hp
  rfl
section
variable {C : Nat → Int} {Y A : Nat → Nat → Int} {N i0 z : Nat} {n b sz a c : Nat} {P : Nat → Nat} {wt : Int}
theorem TC_EF {L : Nat → List (List Nat)} {m m' : ZM} {bd : Int} (hb : isD b) (hc : c + 3 < 41) (hw : wt = 1 ∨ wt = 2) (h : TC c b sz a C Y P wt bd m) (g : EF A N c wt L m m') : TC c b sz a C Y P wt bd m' := by
  have hge := isD_ge hb
  obtain ⟨a1, a2, a3, a4, a5⟩ := h
  obtain ⟨b1, b2, b3, b4⟩ := g
  refine ⟨by rw [(b1.1 c 4 (wT_n c 4 (by omega))).2]; exact a1, DM_kp a2 b1 (fun c' k h1 h2 => wT_n c' k (by omega)), by rw [(b1.1 c 3 (wT_n c 3 (by omega))).1]; exact a3, fun p hp => ?_, fun o ho => by rw [b2 o ho]; exact a5 o ho⟩
  by_cases q : ∃ j : Nat, j ≤ N ∧ sd A j ∧ p = sp A j
  · obtain ⟨j, j1, j2, j3⟩ := q
    rw [j3, (b4 j j1 j2).1]
    have := a4 (sp A j) (by omega)
    have := mul_w wt hw (L j).length
    exact mn_r (by omega)
  · rw [b3 p hp (fun j j1 j2 j3 => q ⟨j, j1, j2, j3⟩)]
    exact a4 p hp
theorem TC_i {m : ZM} {bd x : Int} {o : Nat} (hb : isD b) (hc : c + 3 < 41) (h : TC c b sz a C Y P wt bd m) (hx : 0 ≤ x ∧ x ≤ bd + 1) : TC c b sz a C Y P wt (bd + 1) (z_i m (c + 3) o x) := by
  have hge := isD_ge hb
  obtain ⟨a1, a2, a3, a4, a5⟩ := h
  have k1 : kp (wl (wT c)) m (z_i m (c + 3) o x) := kp_ia (kp_refl _ m) (by simp [wT])
  refine ⟨a1, DM_kp a2 k1 (fun c' k h1 h2 => wT_n c' k (by omega)), by rw [z_nc _ _ _ _ _ _ (by omega)]; exact a3, fun p hp => by rw [z_nc _ _ _ _ _ _ (by omega)]; exact a4 p hp, fun o' ho => ?_⟩
  by_cases q : o' = o
  · subst q
    rw [z_eq]; exact hx
  · rw [z_nk _ _ _ _ _ _ q]
    have := a5 o' ho
    omega
theorem TC_up {m : ZM} {bd bd' : Int} (h : TC c b sz a C Y P wt bd m) (hx : bd ≤ bd') : TC c b sz a C Y P wt bd' m := by
  obtain ⟨a1, a2, a3, a4, a5⟩ := h
  exact ⟨a1, a2, a3, a4, fun o ho => by have := a5 o ho; omega⟩
/-- a round begins: what follows -/
theorem j139 (h : RX true C Y A N i0 z) (hb : isD b) (hc : c + 3 < 41) (hz : z + 1 < sz) (hw : wt = 1 ∨ wt = 2) (zgg : Nat → Int → Int → ZM → Option (Unit × ZM)) (e k0 way : Nat) (he : e < N) (h4 : A 0 e = 4) (hway : way ≤ 16) (m : ZM) (bd : Int) (hbd : bd ≤ 1000000) (hT : TC c b sz a C Y P wt bd m) (hk0 : ∀ o : Nat, inc A k0 (e + 1) o = if A 5 e < 0 ∧ ordf A e = o then 1 else 0)
    (hrec : ∀ m1, TC c b sz a C Y P wt (bd + 1) m1 → ∃ m', zgg c (pl A (e + 1)) ((way : Int) + 1) m1 = some ((), m') ∧ EF A N c wt (ways A (e + 1)) m1 m') : ∃ m', zJ194_139 n zgg c way (pl A e) m = some ((), m') ∧ EF A N c wt (fun j => (ways A (e + 1) j).map (fun p => k0 :: p)) m m' := by
  have hT0 := hT
  obtain ⟨a1, a2, a3, a4, a5⟩ := hT
  have p1 := x_pl h e (by omega)
  have h120 := h.2.2.2.2.2.2.2.1
  have xn := x_nx h e he
  have l2 : lnf A e = 2 := by
    unfold lnf
    rw [if_neg (by omega), if_pos (Or.inl h4)]
  have hor := ordf_le A (e + 1) N (by omega)
  rw [ordf_4 A e h4] at hor
  have ho4 := h.2.2.2.2.2.2.2.2.2.2.2.2.2.2 rfl
  have ho0 := ordf_0 A e
  by_cases q5 : A 5 e < 0
  · obtain ⟨o, ho⟩ : ∃ o : Nat, ordf A e = o := ⟨(ordf A e).toNat, by omega⟩
    have r5 := a5 o (by omega)
    obtain ⟨m1, x1, x2⟩ := hrec (z_i m (c + 3) o (m.1 (c + 3) o + 1)) (TC_i hb hc hT0 (by omega))
    have r6 := x2.2.1 o (by omega)
    rw [z_eq] at r6
    refine ⟨z_i m1 (c + 3) o (m1.1 (c + 3) o - 1), ?_, EF_in (by omega) x2 (fun j p hp o' ho' => ?_)⟩
    · unfold zJ194_139 zJ194_155 zJ194_165
      rw [a1]
      dsimp only
      rw [if_pos hb, y_oo a2 h (by omega) e he h4, if_pos q5, ho]
      dsimp only
      rw [if_neg (show ¬ (o : Int) < 0 by omega), if_neg (show ¬ 4 ≤ (o : Int) by omega)]
      unfold zJ194_166
      rw [if_neg (by decide), if_neg (show ¬ ((o : Int) < 0 ∨ 4 ≤ (o : Int)) by omega), Int.toNat_natCast, if_pos (show rg (m.1 (c + 3) o + 1) by omega), zlet]
      unfold zJ194_184 zJ194_211
      rw [if_pos (show rg ((pl A e : Int) + 2) ∧ rg ((way : Int) + 1) by omega), show (pl A e : Int) + 2 = pl A (e + 1) by omega, x1]
      dsimp only
      rw [if_neg (by decide), if_neg (show ¬ ((o : Int) < 0 ∨ 4 ≤ (o : Int)) by omega), Int.toNat_natCast, if_pos (show rg (m1.1 (c + 3) o - 1) by omega), zlet]
    · rw [rho_c A k0 (e + 1) j p hp o', hk0 o']
      congr 1
      by_cases q : o' = o
      · rw [if_pos q, if_pos ⟨q5, by omega⟩]
      · rw [if_neg q, if_neg (fun c => q (by omega))]
  · obtain ⟨m1, x1, x2⟩ := hrec m (TC_up hT0 (by omega))
    refine ⟨m1, ?_, EF_map x2 (fun j p hp o' ho' => ?_)⟩
    · unfold zJ194_139 zJ194_155 zJ194_165
      rw [a1]
      dsimp only
      rw [if_pos hb, y_oo a2 h (by omega) e he h4, if_neg q5]
      dsimp only
      rw [if_pos (show (-1 : Int) < 0 by decide)]
      unfold zJ194_166
      rw [if_pos rfl]
      unfold zJ194_184 zJ194_211
      rw [if_pos (show rg ((pl A e : Int) + 2) ∧ rg ((way : Int) + 1) by omega), show (pl A e : Int) + 2 = pl A (e + 1) by omega, x1]
      dsimp only
      rw [if_pos rfl]
    · rw [rho_c A k0 (e + 1) j p hp o', hk0 o', if_neg (fun c => q5 c.1)]
      omega
theorem wk (h : RX true C Y A N i0 z) (hne : ∀ e : Nat, e < N → ¬ em A e) (hn : 10 ≤ n) (hb : isD b) (hc : c + 3 < 41) (hz : z + 1 < sz) (hw : wt = 1 ∨ wt = 2) : ∀ (f k way : Nat) (bd : Int) (m : ZM), k ≤ N → phi A N k < f → way + phi A N k ≤ 16 → bd + phi A N k ≤ 1000000 → TC c b sz a C Y P wt bd m →
    ∃ m', zK194 n f c (pl A k) way m = some ((), m') ∧ EF A N c wt (ways A k) m m' := by
  intro f
  induction f with
  | zero => intro k way bd m _ hf; omega
  | succ f ih =>
    intro k way bd m hk hf hway hbd hT
    have hT0 := hT
    obtain ⟨a1, a2, a3, a4, a5⟩ := hT
    have h120 := h.2.2.2.2.2.2.2.1
    have pk := x_pl h k hk
    rw [zK194]
    have start : zG194 n (zK194 n f) c (pl A k) way m = zJ194_16 n (zK194 n f) c (pl A k) way (if A 0 k = 5 then (pl A (A 2 k).toNat : Int) else -1) m := by
      unfold zG194
      rw [if_pos (by omega), a1]
      dsimp only
      rw [if_pos hb, d_re a2 (pl A k) (by omega), x_re h k hk]
    rw [start]
    by_cases q4 : A 0 k = 4
    · obtain ⟨hkN, t, t1, t2, t3, t4, t5, _⟩ := on2_t h k hk (Or.inl q4)
      have t5 := t5 q4
      have f1 := phi_1 h hne k hkN (Or.inl q4)
      have s16 : zJ194_16 n (zK194 n f) c (pl A k) way (if A 0 k = 5 then (pl A (A 2 k).toNat : Int) else -1) m = zJ194_52 n (zK194 n f) c way 1 (pl A k) m := by
        unfold zJ194_16
        rw [a1]
        dsimp only
        rw [if_pos hb, d_sr a2 (pl A k) (by omega), bi_p ((x_srE h k hk).2 q4), if_neg (show ¬ A 0 k = 5 by omega)]
        dsimp only
        rw [if_pos rfl]
        unfold zJ194_31 zJ194_42
        rw [if_neg (by decide), if_neg (by decide)]
      rw [s16]
      have s89 : ∀ m2, TC c b sz a C Y P wt bd m2 → zJ194_89 n (zK194 n f) c way 1 (pl A k) m2 = zJ194_139 n (zK194 n f) c way (pl A k) m2 := by
        intro m2 hm2
        unfold zJ194_89
        rw [hm2.1]
        dsimp only
        rw [if_pos hb, y_sp hm2.2.1 h (by omega) k t hkN q4 t1]
        dsimp only
        rw [if_neg (by decide)]
        unfold zJ194_120
        rw [if_neg (by decide)]
      have hin : ∀ o : Nat, inc A k (k + 1) o = if A 5 k < 0 ∧ ordf A k = o then 1 else 0 := fun o => by
        unfold inc
        rw [if_pos ⟨q4, rfl⟩]
      have r139 : ∀ m2, TC c b sz a C Y P wt bd m2 → ∃ m', zJ194_139 n (zK194 n f) c way (pl A k) m2 = some ((), m') ∧ EF A N c wt (fun j => (ways A (k + 1) j).map (fun p => k :: p)) m2 m' := fun m2 hm2 =>
        j139 h hb hc hz hw (zK194 n f) k k way hkN q4 (by omega) m2 bd (by omega) hm2 hin (fun m1 hm1 => ih (k + 1) (way + 1) (bd + 1) m1 (by omega) (by omega) (by omega) (by omega) hm1)
      obtain ⟨ch, c1, c2, c3⟩ := y_mk (n := n) a2 h (by omega) k hkN q4
      by_cases q2 : A 4 k = 2
      · obtain ⟨m', x1, x2⟩ := r139 m hT0
        refine ⟨m', ?_, ?_⟩
        · unfold zJ194_52
          rw [if_neg (by decide), a1]
          dsimp only
          rw [if_pos hb, c1]
          dsimp only
          rw [if_pos (c2.2 q2), s89 m hT0]
          exact x1
        · have : ways A k = fun j => (ways A (k + 1) j).map (fun p => k :: p) := by
            funext j
            rw [ways_eq h hne k j hk, if_neg (show ¬ (sd A k ∧ k = j) from fun c => c.1.1 q4), if_pos (show on1 A k from Or.inl q4), if_neg (show ¬ on2 A k by rintro (c | c) <;> omega), List.append_nil, List.nil_append]
          rw [this]
          exact x2
      · have o2 : on2 A k := Or.inl ⟨q4, q2⟩
        have f2 := phi_2 h hne k hkN o2
        rw [t3] at f2
        obtain ⟨m1, y1, y2⟩ := ih (t + 1) (way + 1) bd m (by omega) (by omega) (by omega) (by omega) hT0
        have hT1 := TC_EF hb hc hw hT0 y2
        obtain ⟨m', x1, x2⟩ := r139 m1 hT1
        refine ⟨m', ?_, ?_⟩
        · unfold zJ194_52
          rw [if_neg (by decide), a1]
          dsimp only
          rw [if_pos hb, c1]
          dsimp only
          rw [if_neg (fun c => q2 (c2.1 c))]
          unfold zJ194_73
          rw [a1]
          dsimp only
          rw [if_pos hb, y_bh a2 h (by omega) k t hkN q4 t1]
          dsimp only
          rw [if_pos (show rg ((way : Int) + 1) by omega), show (way : Int) + 1 = ((way + 1 : Nat) : Int) by omega, y1]
          dsimp only
          rw [s89 m1 hT1]
          exact x1
        · have y3 := EF_map (k := k) y2 (fun j p hp o ho => by
            rw [rho_c A k (t + 1) j p hp o]
            unfold inc
            rw [if_neg (show ¬ (A 0 k = 4 ∧ t + 1 = k + 1) by omega), if_neg (show ¬ (A 0 k = 5 ∧ ((t + 1 : Nat) : Int) = A 2 k + 1) by omega)]
            omega)
          have we : ∀ j, ways A k j = (ways A (k + 1) j).map (fun p => k :: p) ++ (ways A (t + 1) j).map (fun p => k :: p) := fun j => by
            rw [ways_eq h hne k j hk, if_neg (show ¬ (sd A k ∧ k = j) from fun c => c.1.1 q4), if_pos (show on1 A k from Or.inl q4), if_pos o2, t3, List.nil_append]
          refine EF_cmp hw y3 x2 (fun j => ?_) (fun j p hp => ?_) (fun j p hp => ?_)
          · rw [we j, List.length_append]; omega
          · rw [we j]; exact List.mem_append_right _ hp
          · rw [we j]; exact List.mem_append_left _ hp
    · by_cases q5 : A 0 k = 5
      · obtain ⟨hkN, e, e1, e2, e3, e4, _, e5⟩ := on2_t h k hk (Or.inr q5)
        have e5 := e5 q5
        have f1 := phi_1 h hne k hkN (Or.inr q5)
        have xm := x_mkp h e k e2 e5.2 e4
        have pe := x_pl h e (by omega)
        have s16 : zJ194_16 n (zK194 n f) c (pl A k) way (if A 0 k = 5 then (pl A (A 2 k).toNat : Int) else -1) m = zJ194_73 n (zK194 n f) c way 0 (pl A e) m := by
          unfold zJ194_16
          rw [a1]
          dsimp only
          rw [if_pos hb, d_sr a2 (pl A k) (by omega), bi_n (fun d => q4 ((x_srE h k hk).1 d)), if_pos q5, e1, Int.toNat_natCast]
          dsimp only
          rw [if_neg (show ¬ (pl A e : Int) = -1 by omega)]
          unfold zJ194_42 zJ194_52
          rw [if_pos rfl, if_pos rfl]
        rw [s16]
        obtain ⟨m1, y1, y2⟩ := ih (k + 1) (way + 1) bd m (by omega) (by omega) (by omega) (by omega) hT0
        have hT1 := TC_EF hb hc hw hT0 y2
        have s73 : zJ194_73 n (zK194 n f) c way 0 (pl A e) m = zJ194_105 n (zK194 n f) c way 0 (pl A e) (if A 3 k = 0 then -1 else (pl A k : Int) + 1) m1 := by
          unfold zJ194_73
          rw [a1]
          dsimp only
          rw [if_pos hb, y_bh a2 h (by omega) e k e2 e5.2 e4]
          dsimp only
          rw [if_pos (show rg ((way : Int) + 1) by omega), show (way : Int) + 1 = ((way + 1 : Nat) : Int) by omega, y1]
          dsimp only
          unfold zJ194_89
          rw [hT1.1]
          dsimp only
          rw [if_pos hb, y_sp hT1.2.1 h (by omega) e k e2 e5.2 e4]
          dsimp only
          rw [if_pos rfl]
        rw [s73]
        have y3 := EF_map (k := k) y2 (fun j p hp o ho => by
            rw [rho_c A k (k + 1) j p hp o]
            unfold inc
            rw [if_neg (show ¬ (A 0 k = 4 ∧ k + 1 = k + 1) by omega), if_neg (show ¬ (A 0 k = 5 ∧ ((k + 1 : Nat) : Int) = A 2 k + 1) by omega)]
            omega)
        by_cases q0 : A 3 k = 0
        · have nsd : ∀ j, ¬ (sd A k ∧ k = j) := fun j d => (d.1.2 q5).2 q0
          rw [if_pos q0]
          unfold zJ194_105 zJ194_120
          rw [if_pos rfl, if_pos rfl, hT1.1]
          obtain ⟨ch, c1, c2, c3⟩ := y_mk (n := n) hT1.2.1 h (by omega) e e2 e5.2
          by_cases q3 : A 4 k = 3
          · refine ⟨m1, ?_, ?_⟩
            · dsimp only
              rw [if_pos hb, c1]
              dsimp only
              rw [if_pos (c3.2 (by omega))]
              rfl
            · have : ways A k = fun j => (ways A (k + 1) j).map (fun p => k :: p) := by
                funext j
                rw [ways_eq h hne k j hk, if_neg (nsd j), if_pos (show on1 A k from Or.inr q5), if_neg (show ¬ on2 A k by rintro (c | c) <;> omega), List.append_nil, List.nil_append]
              rw [this]
              exact y3
          · have o2 : on2 A k := Or.inr ⟨q5, q3, q0⟩
            have f2 := phi_2 h hne k hkN o2
            rw [e3] at f2
            have hin : ∀ o : Nat, inc A k (e + 1) o = if A 5 e < 0 ∧ ordf A e = o then 1 else 0 := fun o => by
              unfold inc
              rw [if_neg (show ¬ (A 0 k = 4 ∧ e + 1 = k + 1) by omega), if_pos (show A 0 k = 5 ∧ ((e + 1 : Nat) : Int) = A 2 k + 1 by omega), e1, Int.toNat_natCast]
            obtain ⟨m', x1, x2⟩ := j139 (n := n) h hb hc hz hw (zK194 n f) e k way e2 e5.2 (by omega) m1 bd (by omega) hT1 hin (fun m2 hm2 => ih (e + 1) (way + 1) (bd + 1) m2 (by omega) (by omega) (by omega) (by omega) hm2)
            refine ⟨m', ?_, ?_⟩
            · dsimp only
              rw [if_pos hb, c1]
              dsimp only
              rw [if_neg (fun d => q3 (by have := c3.1 d; omega))]
              exact x1
            · have we : ∀ j, ways A k j = (ways A (k + 1) j).map (fun p => k :: p) ++ (ways A (e + 1) j).map (fun p => k :: p) := fun j => by
                rw [ways_eq h hne k j hk, if_neg (nsd j), if_pos (show on1 A k from Or.inr q5), if_pos o2, e3, List.nil_append]
              refine EF_cmp hw y3 x2 (fun j => ?_) (fun j p hp => ?_) (fun j p hp => ?_)
              · rw [we j, List.length_append]
              · rw [we j]; exact List.mem_append_left _ hp
              · rw [we j]; exact List.mem_append_right _ hp
        · have hsd : sd A k := ⟨q4, fun _ => ⟨fun d => xm.2.2.2.2.2.2.2.2.2.2.2.2 q0 d, q0⟩⟩
          have hsp : (sp A k : Int) = (pl A k : Int) + 1 := by
            unfold sp
            rw [if_pos q5]; omega
          obtain ⟨m', x1, x2⟩ := EF_st h hn c k hk hsd m1 wt hw hT1.2.2.1 hT1.2.2.2.1
          refine ⟨m', ?_, ?_⟩
          · rw [if_neg q0]
            unfold zJ194_105
            rw [if_neg (by omega), ← hsp, x1]
            rfl
          · have we : ∀ j, ways A k j = (if sd A k ∧ k = j then [[k]] else []) ++ (ways A (k + 1) j).map (fun p => k :: p) := fun j => by
              rw [ways_eq h hne k j hk, if_pos (show on1 A k from Or.inr q5), if_neg (show ¬ on2 A k by rintro (c | c) <;> omega), List.append_nil]
            refine EF_cmp hw y3 x2 (fun j => ?_) (fun j p hp => ?_) (fun j p hp => ?_)
            · rw [we j, List.length_append]; omega
            · rw [we j]; exact List.mem_append_right _ hp
            · rw [we j]; exact List.mem_append_left _ hp
      · have hsd : sd A k := ⟨q4, fun d => absurd d q5⟩
        have hsp : sp A k = pl A k := by
          unfold sp
          rw [if_neg q5]
        obtain ⟨m', x1, x2⟩ := EF_st h hn c k hk hsd m wt hw a3 a4
        rw [hsp] at x1
        refine ⟨m', ?_, ?_⟩
        · unfold zJ194_16
          rw [a1]
          dsimp only
          rw [if_pos hb, d_sr a2 (pl A k) (by omega), bi_n (fun d => q4 ((x_srE h k hk).1 d)), if_neg q5]
          dsimp only
          rw [if_pos rfl]
          unfold zJ194_31
          rw [if_pos rfl, x1]
        · have : ways A k = fun j => if sd A k ∧ k = j then [[k]] else [] := by
            funext j
            rw [ways_eq h hne k j hk, if_neg (show ¬ on1 A k by rintro (c | c) <;> omega), if_neg (show ¬ on2 A k by rintro (c | c) <;> omega), List.append_nil, List.append_nil]
          rw [this]
          exact x2
end
