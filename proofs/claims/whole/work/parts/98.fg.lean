/-! What a history's takings are. -/
/-- how often (f, o) has taken -/
def cfl (L : List (Nat × Int × Int × Nat × Nat)) (f : Nat) (o : Int) : Nat := (L.filter (fun x => decide (x.1 = f ∧ x.2.1 = o))).length
theorem cfl_app (L : List (Nat × Int × Int × Nat × Nat)) (y : Nat × Int × Int × Nat × Nat) (f : Nat) (o : Int) : cfl (L ++ [y]) f o = cfl L f o + (if y.1 = f ∧ y.2.1 = o then 1 else 0) := by
  unfold cfl
  rw [List.filter_append, List.length_append]
  congr 1
  by_cases q : y.1 = f ∧ y.2.1 = o
  · rw [if_pos q, List.filter_cons, if_pos (show decide (y.1 = f ∧ y.2.1 = o) = true from decide_eq_true q)]
    rfl
  · rw [if_neg q, List.filter_cons, if_neg (show ¬ decide (y.1 = f ∧ y.2.1 = o) = true by rw [decide_eq_true_eq]; exact q)]
    rfl
/-- what is known of fragment f before node j -/
def NV (A : Nat → Nat → Int) (f : Nat) (cf : Int → Nat) (s : (Nat → Int) × (Nat → Int → Int)) (j : Nat) : Prop :=
  (A 5 f < 0 → (∀ o, o ≠ 0 → cf o = 0) ∧ cf 0 ≤ 1 ∧ (j ≤ f → cf 0 = 0)) ∧
  (∀ u : Nat, A 5 f = u → A 6 f < 0 → (∀ o, cf o ≤ 1) ∧ (∀ o, s.1 u ≤ o → cf o = 0) ∧ (u < j → j ≤ f → cf (s.1 u - 1) = 0)) ∧
  (∀ u v : Nat, A 5 f = u → A 6 f = v → ∀ o, (s.1 u ≤ o → cf o = 0 ∧ s.2 v o = 0) ∧ (cf o : Int) = s.2 v o - (if v < j ∧ j ≤ f ∧ o = s.1 u - 1 then 1 else 0))
section
variable {C : Nat → Int} {Y A : Nat → Nat → Int} {N i0 z : Nat}
theorem NV_tr (h : RX true C Y A N i0 z) (f : Nat) (hf : f < N) (h3 : A 0 f = 3) (cf : Int → Nat) (s : (Nat → Int) × (Nat → Int → Int)) (j b : Nat) (hj : j < N) (hb : b = j + 1 ∨ ((A 0 j = 4 ∨ A 0 j = 5) ∧ (b : Int) = A 2 j + 1)) (hjf : j ≠ f) (hN : NV A f cf s j) : NV A f cf (trs A j b s) b := by
  have hni := h.1
  obtain ⟨n1, n2, n3⟩ := hN
  have kinds : (b = j + 1 ∧ A 0 j ≠ 4 ∧ trs A j b s = s) ∨ (A 0 j = 4 ∧ b = j + 1 ∧ trs A j b s = (nrq A j s.1, nrc A j s.1 s.2)) ∨ (∃ t : Nat, A 0 j = 4 ∧ A 2 j = t ∧ j < t ∧ t < N ∧ A 0 t = 5 ∧ b = t + 1 ∧ trs A j b s = s) ∨ (∃ e : Nat, A 0 j = 5 ∧ A 2 j = e ∧ e < j ∧ A 0 e = 4 ∧ A 2 e = j ∧ b = e + 1 ∧ trs A j b s = (nrq A e s.1, nrc A e s.1 s.2)) := by
    by_cases k4 : A 0 j = 4
    · obtain ⟨t, t1, t2, t3, t4, t5, _⟩ := x_beg h j hj k4
      by_cases kb : b = j + 1
      · refine Or.inr (Or.inl ⟨k4, kb, ?_⟩)
        have : evb A j b = some j := by unfold evb; rw [if_pos ⟨k4, kb⟩]
        unfold trs
        rw [this]
      · have hb2 : (b : Int) = A 2 j + 1 := by
          rcases hb with c | c
          · exact absurd c kb
          · exact c.2
        refine Or.inr (Or.inr (Or.inl ⟨t, k4, t1, t2, t3, t4, by omega, ?_⟩))
        have : evb A j b = none := by
          unfold evb
          rw [if_neg (fun w => kb w.2), if_neg (fun w => by have := w.1; omega)]
        unfold trs
        rw [this]
    · by_cases k5 : A 0 j = 5
      · obtain ⟨e, e1, e2, e3, e4, e5⟩ := x_end h j (by omega) k5
        by_cases kb : (b : Int) = A 2 j + 1
        · refine Or.inr (Or.inr (Or.inr ⟨e, k5, e1, e2, e4, e5, by omega, ?_⟩))
          have : evb A j b = some e := by
            unfold evb
            rw [if_neg (fun w => k4 w.1), if_pos ⟨k5, kb⟩, e1, Int.toNat_natCast]
          unfold trs
          rw [this]
        · refine Or.inl ⟨?_, k4, ?_⟩
          · rcases hb with c | c
            · exact c
            · exact absurd c.2 kb
          · have : evb A j b = none := by
              unfold evb
              rw [if_neg (fun w => k4 w.1), if_neg (fun w => kb w.2)]
            unfold trs
            rw [this]
      · refine Or.inl ⟨?_, k4, ?_⟩
        · rcases hb with c | c
          · exact c
          · rcases c.1 with d | d
            · exact absurd d k4
            · exact absurd d k5
        · have : evb A j b = none := by
            unfold evb
            rw [if_neg (fun w => k4 w.1), if_neg (fun w => k5 w.1)]
          unfold trs
          rw [this]
  have insd : ∀ e : Nat, e < f → A 0 e = 4 → (f : Int) < A 2 e → (A 5 e = -1 → A 5 f = e) ∧ (0 ≤ A 5 e → A 6 f = e) := fun e h1 h2 h3' => ⟨fun c => hni.n3 f e (by omega) h1 h2 c (Or.inr h3'), fun c => hni.n4 f e (by omega) h1 h2 c (Or.inr h3')⟩
  refine ⟨fun q5 => ?_, fun u hu q6 => ?_, fun u v hu hv => ?_⟩
  · obtain ⟨a1, a2, a3⟩ := n1 q5
    refine ⟨a1, a2, fun hbf => a3 ?_⟩
    rcases kinds with ⟨k1, _, _⟩ | ⟨_, k1, _⟩ | ⟨t, _, _, k1, _, _, k2, _⟩ | ⟨e, k0, k1, k2, k3, k4, k5, _⟩
    · omega
    · omega
    · omega
    · apply Classical.byContradiction
      intro c
      have hef : e ≠ f := fun w => by rw [w] at k3; omega
      have r5 := hni.r5 e (by omega)
      obtain ⟨i1, i2⟩ := insd e (by omega) k3 (by omega)
      by_cases d : A 5 e = -1
      · have := i1 d; omega
      · have := i2 (by omega)
        have := hni.n2 f e (by omega) this
        omega
  · obtain ⟨a1, a2, a3⟩ := n2 u hu q6
    obtain ⟨u1, u2, u3, u4⟩ := hni.n1 f u (by omega) hu
    obtain ⟨tu, w1, w2, w3, w4, w5, _⟩ := x_beg h u (by omega) u1
    have hftu : f < tu := by omega
    rcases kinds with ⟨k1, k2, k3⟩ | ⟨k2, k1, k3⟩ | ⟨t, k0, k1, k2, k3, k4, k5, k6⟩ | ⟨e, k0, k1, k2, k3, k4, k5, k6⟩
    · rw [k3]
      refine ⟨a1, a2, fun x1 x2 => a3 ?_ (by omega)⟩
      have : j ≠ u := fun w => k2 (by rw [w]; exact u1)
      omega
    · rw [k3]
      by_cases c : j = u
      · subst c
        have qv : nrq A j s.1 j = s.1 j + 1 := by unfold nrq; rw [if_pos ⟨by omega, rfl⟩]
        refine ⟨a1, fun o ho => a2 o ?_, fun _ _ => ?_⟩
        · have : nrq A j s.1 j ≤ o := ho
          omega
        · show cf (nrq A j s.1 j - 1) = 0
          rw [qv]
          exact a2 _ (by omega)
      · have qv : nrq A j s.1 u = s.1 u := by unfold nrq; rw [if_neg (fun w => c w.2.symm)]
        refine ⟨a1, fun o ho => a2 o ?_, fun x1 x2 => ?_⟩
        · have : nrq A j s.1 u ≤ o := ho
          omega
        · show cf (nrq A j s.1 u - 1) = 0
          rw [qv]
          exact a3 (by omega) (by omega)
    · rw [k6]
      refine ⟨a1, a2, fun x1 x2 => a3 ?_ (by omega)⟩
      apply Classical.byContradiction
      intro c
      by_cases d : j = u
      · subst d; omega
      · have htu : t ≠ u := fun w => by rw [w] at k4; omega
        by_cases d2 : u < t
        · have := x_nest h j u t hj k0 k1 (by omega) d2 u1
          omega
        · omega
    · rw [k6]
      by_cases c : e = u
      · subst c
        have qv : nrq A e s.1 e = s.1 e + 1 := by unfold nrq; rw [if_pos ⟨by omega, rfl⟩]
        refine ⟨a1, fun o ho => a2 o ?_, fun _ _ => ?_⟩
        · have : nrq A e s.1 e ≤ o := ho
          omega
        · show cf (nrq A e s.1 e - 1) = 0
          rw [qv]
          exact a2 _ (by omega)
      · have qv : nrq A e s.1 u = s.1 u := by unfold nrq; rw [if_neg (fun w => c w.2.symm)]
        refine ⟨a1, fun o ho => a2 o ?_, fun x1 x2 => ?_⟩
        · have : nrq A e s.1 u ≤ o := ho
          omega
        · show cf (nrq A e s.1 u - 1) = 0
          rw [qv]
          refine a3 (by omega) ?_
          apply Classical.byContradiction
          intro d
          have hef : e ≠ f := fun w => by rw [w] at k3; omega
          have a5 := hni.n3 e u (by omega) (by omega) u1 u2 (by omega)
          have := (insd e (by omega) k3 (by omega)).2 (by omega)
          omega
  · obtain ⟨v1, v2, v3, v4, v5⟩ := hni.n2 f v (by omega) hv
    obtain ⟨u1, u2, u3, u4⟩ := hni.n1 f u (by omega) hu
    obtain ⟨tv, w1, w2, w3, w4, w5, _⟩ := x_beg h v (by omega) v1
    obtain ⟨tu, y1, y2, y3, y4, y5, _⟩ := x_beg h u (by omega) u1
    have huv := (hni.n1 v u (by omega) (by omega)).2.2
    have hne := x_nest h u v tu (by omega) u1 y1 (by omega) (by omega) v1
    have nin : ∀ x : Nat, v < x → x < tv → A 0 x ≠ 4 ∧ A 0 x ≠ 5 := fun x p1 p2 => by
      have a6 := hni.n4 x v (by omega) p1 v1 (by omega) (by omega)
      refine ⟨fun c => ?_, fun c => ?_⟩
      · have := hni.b6 x (by omega) c; omega
      · have := (hni.n5 x (by omega) c).1; omega
    have n3' := n3 u v hu hv
    have fin : ∀ s' : (Nat → Int) × (Nat → Int → Int), s'.1 u = s.1 u → (∀ o, s'.2 v o = s.2 v o) → ((v < b ∧ b ≤ f) ↔ (v < j ∧ j ≤ f)) → ∀ o, (s'.1 u ≤ o → cf o = 0 ∧ s'.2 v o = 0) ∧ (cf o : Int) = s'.2 v o - (if v < b ∧ b ≤ f ∧ o = s'.1 u - 1 then 1 else 0) := by
      intro s' e1 e2 e3 o
      rw [e1, e2 o]
      obtain ⟨m1, m2⟩ := n3' o
      refine ⟨m1, ?_⟩
      rw [m2]
      congr 1
      by_cases d : v < j ∧ j ≤ f ∧ o = s.1 u - 1
      · rw [if_pos d, if_pos ⟨(e3.2 ⟨d.1, d.2.1⟩).1, (e3.2 ⟨d.1, d.2.1⟩).2, d.2.2⟩]
      · rw [if_neg d, if_neg (fun w => d ⟨(e3.1 ⟨w.1, w.2.1⟩).1, (e3.1 ⟨w.1, w.2.1⟩).2, w.2.2⟩)]
    have evU : (j = u ∨ j = tu) → ∀ o, ((nrq A u s.1) u ≤ o → cf o = 0 ∧ (nrc A u s.1 s.2) v o = 0) ∧ (cf o : Int) = (nrc A u s.1 s.2) v o - (if v < u + 1 ∧ u + 1 ≤ f ∧ o = (nrq A u s.1) u - 1 then 1 else 0) := by
      intro hju o
      have e1 : nrq A u s.1 u = s.1 u + 1 := by unfold nrq; rw [if_pos ⟨by omega, rfl⟩]
      have e2 : nrc A u s.1 s.2 v o = s.2 v o := by unfold nrc; rw [if_neg (fun w => by have := w.1; omega)]
      obtain ⟨m1, m2⟩ := n3' o
      rw [e1, e2, if_neg (by omega)]
      rw [if_neg (by omega)] at m2
      exact ⟨fun w => m1 (by omega), m2⟩
    have evV : (j = v ∨ j = tv) → ∀ o, ((nrq A v s.1) u ≤ o → cf o = 0 ∧ (nrc A v s.1 s.2) v o = 0) ∧ (cf o : Int) = (nrc A v s.1 s.2) v o - (if v < v + 1 ∧ v + 1 ≤ f ∧ o = (nrq A v s.1) u - 1 then 1 else 0) := by
      intro hjv o
      have e1 : nrq A v s.1 u = s.1 u := by unfold nrq; rw [if_neg (fun w => by have := w.1; omega)]
      obtain ⟨m1, m2⟩ := n3' o
      rw [if_neg (by omega)] at m2
      rw [e1]
      have hA5 : (A 5 v).toNat = u := by omega
      by_cases d : o = s.1 u - 1
      · have e2 : nrc A v s.1 s.2 v o = s.2 v o + 1 := by unfold nrc; rw [if_pos ⟨by omega, rfl, by rw [hA5]; exact d⟩]
        rw [e2, if_pos ⟨by omega, by omega, d⟩]
        exact ⟨fun w => by omega, by omega⟩
      · have e2 : nrc A v s.1 s.2 v o = s.2 v o := by unfold nrc; rw [if_neg (fun w => d (by rw [hA5] at w; exact w.2.2))]
        rw [e2, if_neg (fun w => d w.2.2)]
        exact ⟨m1, by omega⟩
    have evO : ∀ w : Nat, w ≠ u → w ≠ v → (nrq A w s.1) u = s.1 u ∧ ∀ o, (nrc A w s.1 s.2) v o = s.2 v o := fun w c1 c2 => by
      refine ⟨?_, fun o => ?_⟩
      · unfold nrq; rw [if_neg (fun x => c1 x.2.symm)]
      · unfold nrc; rw [if_neg (fun x => c2 x.2.1.symm)]
    rcases kinds with ⟨k1, k2, k3⟩ | ⟨k2, k1, k3⟩ | ⟨t, k0, k1, k2, k3, k4, k5, k6⟩ | ⟨e, k0, k1, k2, k3, k4, k5, k6⟩
    · rw [k3]
      have : j ≠ v := fun w => k2 (by rw [w]; exact v1)
      exact fin s rfl (fun _ => rfl) (by omega)
    · rw [k3]
      by_cases c1 : j = u
      · subst c1
        rw [k1]
        exact evU (Or.inl rfl)
      · by_cases c2 : j = v
        · subst c2
          rw [k1]
          exact evV (Or.inl rfl)
        · obtain ⟨e1, e2⟩ := evO j c1 c2
          refine fin _ e1 e2 ?_
          have : ¬ (v < j ∧ j ≤ f) := fun w => (nin j w.1 (by omega)).1 k2
          omega
    · rw [k6]
      refine fin s rfl (fun _ => rfl) ?_
      have q1 : ¬ (v < j ∧ j ≤ f) := fun w => (nin j w.1 (by omega)).1 k0
      have q2 : ¬ (v < b ∧ b ≤ f) := fun w => by
        by_cases d : j < v
        · have : t ≠ v := fun w => by rw [w] at k4; omega
          by_cases d2 : v < t
          · have := x_nest h j v t hj k0 k1 d d2 v1
            omega
          · omega
        · by_cases d3 : j = v
          · subst d3; omega
          · omega
      exact ⟨fun w => absurd w q2, fun w => absurd w q1⟩
    · rw [k6]
      by_cases c1 : e = u
      · subst c1
        rw [k5]
        exact evU (Or.inr (by omega))
      · by_cases c2 : e = v
        · subst c2
          rw [k5]
          exact evV (Or.inr (by omega))
        · obtain ⟨e1, e2⟩ := evO e c1 c2
          refine fin _ e1 e2 ?_
          have q1 : ¬ (v < j ∧ j ≤ f) := fun w => (nin j w.1 (by omega)).2 k0
          have q2 : ¬ (v < b ∧ b ≤ f) := fun w => (nin e (by omega) (by omega)).1 k3
          exact ⟨fun w => absurd w q2, fun w => absurd w q1⟩
/-- a fragment takes -/
theorem NV_tk (h : RX true C Y A N i0 z) (f : Nat) (hf : f < N) (cf : Int → Nat) (s : (Nat → Int) × (Nat → Int → Int)) (hN : NV A f cf s f) : NV A f (fun o => cf o + (if prs A s (A 5 f) = o then 1 else 0)) s (f + 1) ∧ (0 ≤ A 6 f → prs A s (A 6 f) = cf (prs A s (A 5 f))) := by
  have hni := h.1
  obtain ⟨n1, n2, n3⟩ := hN
  have ou : ∀ u : Nat, A 5 f = u → prs A s (A 5 f) = s.1 u - 1 := fun u hu => by
    obtain ⟨u1, u2, u3, u4⟩ := hni.n1 f u (by omega) hu
    unfold prs
    rw [if_neg (by omega), hu, Int.toNat_natCast, if_pos (by omega)]
  refine ⟨⟨fun q5 => ?_, fun u hu q6 => ?_, fun u v hu hv => ?_⟩, fun q6 => ?_⟩
  · obtain ⟨a1, a2, a3⟩ := n1 q5
    have o0 : prs A s (A 5 f) = 0 := by unfold prs; rw [if_pos q5]
    rw [o0]
    refine ⟨fun o ho => ?_, ?_, fun c => by omega⟩
    · dsimp only
      rw [a1 o ho, if_neg (fun c => ho c.symm)]
    · dsimp only
      rw [a3 (by omega), if_pos rfl]
      exact Nat.le_refl _
  · obtain ⟨a1, a2, a3⟩ := n2 u hu q6
    have hu3 := (hni.n1 f u (by omega) hu).2.2.1
    rw [ou u hu]
    refine ⟨fun o => ?_, fun o ho => ?_, fun c d => by omega⟩
    · dsimp only
      by_cases c : s.1 u - 1 = o
      · rw [if_pos c, ← c, a3 hu3 (Nat.le_refl _)]
        exact Nat.le_refl _
      · rw [if_neg c]
        exact a1 o
    · dsimp only
      rw [if_neg (by omega), a2 o ho]
  · rw [ou u hu]
    have v4 := (hni.n2 f v (by omega) hv).2.2.2.1
    intro o
    obtain ⟨m1, m2⟩ := n3 u v hu hv o
    dsimp only
    refine ⟨fun w => ?_, ?_⟩
    · rw [if_neg (by omega)]
      exact m1 w
    · by_cases c : s.1 u - 1 = o
      · rw [if_pos ⟨v4, Nat.le_refl _, c.symm⟩] at m2
        rw [if_pos c, if_neg (by omega)]
        omega
      · rw [if_neg (fun w => c w.2.2.symm)] at m2
        rw [if_neg c, if_neg (by omega)]
        omega
  · obtain ⟨v, hv⟩ : ∃ v : Nat, A 6 f = v := ⟨(A 6 f).toNat, by omega⟩
    obtain ⟨v1, v2, v3, v4, v5⟩ := hni.n2 f v (by omega) hv
    obtain ⟨u, hu⟩ : ∃ u : Nat, A 5 f = u := ⟨(A 5 f).toNat, by omega⟩
    obtain ⟨m1, m2⟩ := n3 u v hu hv (s.1 u - 1)
    rw [if_pos ⟨v4, Nat.le_refl _, rfl⟩] at m2
    rw [ou u hu]
    unfold prs
    rw [if_neg (by omega), hv, Int.toNat_natCast, if_neg (by omega), show (A 5 v).toNat = u by omega]
    omega
end
