/-! What a history's takings are: whole. -/
def drp (x : Nat × Int × Int × Nat × Nat) : Nat × Int × Nat × Nat := (x.1, x.2.1, x.2.2.2.1, x.2.2.2.2)
/-- inner rounds count a fragment's takings -/
def WI (A : Nat → Nat → Int) (L : List (Nat × Int × Int × Nat × Nat)) : Prop := ∀ (i : Nat) (x : Nat × Int × Int × Nat × Nat), L[i]? = some x → 0 ≤ A 6 x.1 → x.2.2.1 = cfl (L.take i) x.1 x.2.1
theorem WI_app {A : Nat → Nat → Int} {L : List (Nat × Int × Int × Nat × Nat)} {y : Nat × Int × Int × Nat × Nat} (h : WI A L) (hy : 0 ≤ A 6 y.1 → y.2.2.1 = cfl L y.1 y.2.1) : WI A (L ++ [y]) := by
  intro i x hx h6
  by_cases q : i < L.length
  · rw [List.getElem?_append_left q] at hx
    rw [List.take_append_of_le_length (by omega)]
    exact h i x hx h6
  · rw [List.getElem?_append_right (by omega)] at hx
    have hi : i = L.length := by
      apply Classical.byContradiction
      intro d
      rw [List.getElem?_eq_none (by show 1 ≤ i - L.length; omega)] at hx
      cases hx
    subst hi
    rw [Nat.sub_self] at hx
    have hx : y = x := by
      have : some y = some x := hx
      cases this
      rfl
    subst hx
    rw [List.take_append_of_le_length (Nat.le_refl _), List.take_length]
    exact hy h6
section
variable {C : Nat → Int} {Y A : Nat → Nat → Int} {N i0 z : Nat}
theorem ordf_inj (u v : Nat) (hu : A 0 u = 4) (hv : A 0 v = 4) (e : ordf A u = ordf A v) : u = v := by
  rcases Nat.lt_trichotomy u v with c | c | c
  · have := ordf_le A (u + 1) v (by omega)
    rw [ordf_4 A u hu] at this
    omega
  · exact c
  · have := ordf_le A (v + 1) u (by omega)
    rw [ordf_4 A v hv] at this
    omega
theorem tr_q (h : RX true C Y A N i0 z) (j b u : Nat) (hj : j ≤ N) (hu : A 0 u = 4) (hu5 : A 5 u < 0) (o : Nat) (ho : ordf A u = o) (s : (Nat → Int) × (Nat → Int → Int)) : (trs A j b s).1 u = s.1 u + inc A j b o := by
  have hinc : inc A j b o = match evb A j b with
      | some v => if A 5 v < 0 ∧ ordf A v = o then 1 else 0
      | none => 0 := by
    unfold inc evb
    by_cases q4 : A 0 j = 4 ∧ b = j + 1
    · rw [if_pos q4, if_pos q4]
    · rw [if_neg q4, if_neg q4]
      by_cases q5 : A 0 j = 5 ∧ (b : Int) = A 2 j + 1
      · rw [if_pos q5, if_pos q5]
      · rw [if_neg q5, if_neg q5]
  rw [hinc]
  unfold trs
  cases hev : evb A j b with
  | none => show s.1 u = s.1 u + 0; omega
  | some v =>
    obtain ⟨v1, v2, v3⟩ := evb_v h j b v hj hev
    show nrq A v s.1 u = s.1 u + (if A 5 v < 0 ∧ ordf A v = o then 1 else 0)
    unfold nrq
    by_cases d : u = v
    · subst d
      rw [if_pos ⟨hu5, rfl⟩, if_pos ⟨hu5, ho⟩]
    · rw [if_neg (fun w => d w.2), if_neg (fun w => d (ordf_inj u v hu v2 (by rw [ho, w.2])))]
      omega
theorem fl_q (h : RX true C Y A N i0 z) (hne : ∀ e : Nat, e < N → ¬ em A e) (u : Nat) (hu : A 0 u = 4) (hu5 : A 5 u < 0) (o : Nat) (ho : ordf A u = o) : ∀ (p : List Nat) (k : Nat) (s : (Nat → Int) × (Nat → Int → Int)), k ≤ N → chn A (k :: p) → (fls A (k :: p) s).1 u = s.1 u + rho A (k :: p) o := by
  intro p
  induction p with
  | nil => intro k s _ _; show s.1 u = s.1 u + 0; omega
  | cons b p ih =>
    intro k s hk hc
    have hb := (edg_N h hne hk hc.1).1
    show (fls A (b :: p) (trs A k b s)).1 u = s.1 u + (inc A k b o + rho A (b :: p) o)
    rw [ih b (trs A k b s) hb hc.2, tr_q h k b u hk hu hu5 o ho]
    omega
theorem NV_f (h : RX true C Y A N i0 z) (hne : ∀ e : Nat, e < N → ¬ em A e) (f : Nat) (hf : f < N) (h3 : A 0 f = 3) (cf : Int → Nat) : ∀ (p : List Nat) (k j : Nat) (s : (Nat → Int) × (Nat → Int → Int)), k ≤ N → chn A (k :: p) → (k :: p).getLast? = some j → NV A f cf s k → NV A f cf (fls A (k :: p) s) j := by
  intro p
  induction p with
  | nil =>
    intro k j s _ _ hl hN
    have : k = j := by
      have : some k = some j := hl
      cases this
      rfl
    subst this
    exact hN
  | cons b p ih =>
    intro k j s hk hc hl hN
    rw [List.getLast?_cons_cons] at hl
    have hb := (edg_N h hne hk hc.1).1
    have hon : on1 A k := by
      rcases hc.1 with ⟨c, _⟩ | ⟨c, _⟩
      · exact c
      · exact on2_1 c
    obtain ⟨hkN, t, t1, t2, t3, _⟩ := on2_t h k hk hon
    exact ih b j (trs A k b s) hb hc.2 hl (NV_tr h f hf h3 cf s k b hkN (by
      rcases hc.1 with ⟨_, c⟩ | ⟨_, c⟩
      · exact Or.inl c
      · exact Or.inr ⟨hon, by rw [c, t3]; omega⟩) (fun w => by rw [w] at hon; rcases hon with d | d <;> omega) hN)
/-- all that is known of a history that stands before j -/
def SHf (A : Nat → Nat → Int) (N : Nat) (t : List PE) (h : List (Nat × List Nat)) (j : Nat) : Prop :=
  (∀ u : Nat, u < N → A 0 u = 4 → A 5 u < 0 → ∀ o : Nat, ordf A u = o → (shs A h).1 u = Rd A h o) ∧ ctk A t h = (rtk A t h).map drp ∧ (∀ f : Nat, f < N → A 0 f = 3 → NV A f (cfl (rtk A t h) f) (shs A h) j) ∧ WI A (rtk A t h) ∧ ∀ x ∈ rtk A t h, x.1 < N ∧ A 0 x.1 = 3
theorem SH_all (h : RX true C Y A N i0 z) (hne : ∀ e : Nat, e < N → ¬ em A e) : ∀ (t : List PE) (H : Nat → List (List (Nat × List Nat))) (j : Nat) (hh : List (Nat × List Nat)), PP A N t H → PO A N t → hh ∈ H j → SHf A N t hh j := by
  intro t
  induction t with
  | nil =>
    intro H j hh hP _ hm
    have hP : H = H0 A := hP
    subst hP
    obtain ⟨w, hw, rfl⟩ := List.mem_map.1 hm
    obtain ⟨hc, hl⟩ := ways_chn A j 17 0 w hw
    obtain ⟨w', rfl⟩ := ways_hd A j 17 0 w hw
    refine ⟨fun u hu h4 h5 o ho => ?_, rfl, fun f hf h3 => ?_, (fun i x hx => (by cases hx)), (fun x hx => (by cases hx))⟩
    · have := fl_q h hne u h4 h5 o ho w' 0 zs0 (Nat.zero_le _) hc
      show (fls A (0 :: w') zs0).1 u = 0 + 0 + rho A (0 :: w') o
      rw [this]
      show (0 : Int) + rho A (0 :: w') o = _
      omega
    · refine NV_f h hne f hf h3 _ w' 0 j zs0 (Nat.zero_le _) hc hl ⟨fun _ => ⟨fun _ _ => rfl, Nat.zero_le _, fun _ => rfl⟩, fun u _ _ => ⟨fun _ => Nat.zero_le _, fun _ _ => rfl, fun _ _ => rfl⟩, fun u v _ _ o => ⟨fun _ => ⟨rfl, rfl⟩, ?_⟩⟩
      rw [if_neg (by omega)]
      rfl
  | cons y t ih =>
    obtain ⟨Hp, G, p, v⟩ := y
    intro H j hh hP hPO hm
    obtain ⟨hP1, hP2⟩ := hP
    subst hP1
    obtain ⟨⟨B, hO⟩, hPO2⟩ := hPO
    obtain ⟨e, e1, e2, e3⟩ := (Hn_mem A G Hp j hh N).1 hm
    obtain ⟨h', a1, w, a2, rfl⟩ := (hx_mem A e j (Hp e) hh).1 e3
    obtain ⟨_, hsd, ⟨w0, hr, rfl⟩, _⟩ := hO e h' a1
    obtain ⟨i1, i2, i3, i4, i5⟩ := ih Hp e _ hP2 hPO2 a1
    have hnx := nx_le h e e1
    obtain ⟨hc, hl⟩ := ways_chn A j 17 (nx A e) w a2
    obtain ⟨w', rfl⟩ := ways_hd A j 17 (nx A e) w a2
    have es : shs A ((j, nx A e :: w') :: (e, w0) :: hr) = fls A (nx A e :: w') (trs A e (nx A e) (shs A ((e, w0) :: hr))) := rfl
    have er : rtk A ((Hp, G, p, v) :: t) ((j, nx A e :: w') :: (e, w0) :: hr) = rtk A t ((e, w0) :: hr) ++ (if A 0 e = 3 then [(e, prs A (shs A ((e, w0) :: hr)) (A 5 e), prs A (shs A ((e, w0) :: hr)) (A 6 e), p, v)] else []) := rfl
    have ec : ctk A ((Hp, G, p, v) :: t) ((j, nx A e :: w') :: (e, w0) :: hr) = ctk A t ((e, w0) :: hr) ++ (if A 0 e = 3 then [(e, orr A ((e, w0) :: hr) e, p, v)] else []) := rfl
    have hor : A 0 e = 3 → orr A ((e, w0) :: hr) e = prs A (shs A ((e, w0) :: hr)) (A 5 e) := fun h3 => by
      unfold orr prs
      by_cases q5 : A 5 e < 0
      · rw [if_pos q5, if_pos q5]
      · obtain ⟨u, hu⟩ : ∃ u : Nat, A 5 e = u := ⟨(A 5 e).toNat, by omega⟩
        obtain ⟨u1, u2, u3, u4⟩ := h.1.n1 e u (by omega) hu
        have := ordf_0 A u
        rw [if_neg q5, if_neg q5, hu, Int.toNat_natCast, if_pos (by omega), i1 u (by omega) u1 (by omega) (ordf A u).toNat (by omega)]
    rw [SHf, es, er, ec]
    refine ⟨fun u hu h4 h5 o ho => ?_, ?_, fun f hf h3 => ?_, ?_, fun x hx => ?_⟩
    · rw [fl_q h hne u h4 h5 o ho w' (nx A e) _ hnx hc, tr_q h e (nx A e) u (by omega) h4 h5 o ho, i1 u hu h4 h5 o ho]
      rfl
    · rw [List.map_append, ← i2]
      congr 1
      by_cases q3 : A 0 e = 3
      · rw [if_pos q3, if_pos q3, hor q3]
        rfl
      · rw [if_neg q3, if_neg q3]
        rfl
    · refine NV_f h hne f hf h3 _ w' (nx A e) j _ hnx hc hl ?_
      have hb : nx A e = e + 1 ∨ ((A 0 e = 4 ∨ A 0 e = 5) ∧ ((nx A e : Nat) : Int) = A 2 e + 1) := by
        unfold nx
        by_cases q5 : A 0 e = 5
        · obtain ⟨t', g1, g2, g3, _⟩ := x_end h e (by omega) q5
          rw [if_pos q5]
          exact Or.inr ⟨Or.inr q5, by omega⟩
        · rw [if_neg q5]
          exact Or.inl rfl
      by_cases q3 : A 0 e = 3
      · rw [if_pos q3]
        have hnx3 : nx A e = e + 1 := by unfold nx; rw [if_neg (by omega)]
        have htr : trs A e (nx A e) (shs A ((e, w0) :: hr)) = shs A ((e, w0) :: hr) := by
          have : evb A e (nx A e) = none := by
            unfold evb
            rw [if_neg (fun w => by have := w.1; omega), if_neg (fun w => by have := w.1; omega)]
          unfold trs
          rw [this]
        by_cases q : f = e
        · subst q
          have := (NV_tk h f hf _ _ (i3 f hf h3)).1
          rw [htr, hnx3]
          have ef : cfl (rtk A t ((f, w0) :: hr) ++ [(f, prs A (shs A ((f, w0) :: hr)) (A 5 f), prs A (shs A ((f, w0) :: hr)) (A 6 f), p, v)]) f = (fun o => cfl (rtk A t ((f, w0) :: hr)) f o + (if prs A (shs A ((f, w0) :: hr)) (A 5 f) = o then 1 else 0)) := by
            funext o
            rw [cfl_app]
            congr 1
            by_cases d : prs A (shs A ((f, w0) :: hr)) (A 5 f) = o
            · rw [if_pos ⟨rfl, d⟩, if_pos d]
            · rw [if_neg (fun w => d w.2), if_neg d]
          rw [ef]
          exact this
        · have ef : cfl (rtk A t ((e, w0) :: hr) ++ [(e, prs A (shs A ((e, w0) :: hr)) (A 5 e), prs A (shs A ((e, w0) :: hr)) (A 6 e), p, v)]) f = cfl (rtk A t ((e, w0) :: hr)) f := by
            funext o
            rw [cfl_app, if_neg (fun w => q w.1.symm)]
            rfl
          rw [ef]
          exact NV_tr h f hf h3 _ _ e (nx A e) e1 hb (fun w => q w.symm) (i3 f hf h3)
      · rw [if_neg q3, List.append_nil]
        exact NV_tr h f hf h3 _ _ e (nx A e) e1 hb (fun w => q3 (by rw [w]; exact h3)) (i3 f hf h3)
    · by_cases q3 : A 0 e = 3
      · rw [if_pos q3]
        exact WI_app i4 (fun h6 => (NV_tk h e e1 _ _ (i3 e e1 q3)).2 h6)
      · rw [if_neg q3, List.append_nil]
        exact i4
    · rcases List.mem_append.1 hx with c | c
      · exact i5 x c
      · by_cases q3 : A 0 e = 3
        · rw [if_pos q3] at c
          rw [List.mem_singleton.1 c]
          exact ⟨e1, q3⟩
        · rw [if_neg q3] at c
          cases c
end
