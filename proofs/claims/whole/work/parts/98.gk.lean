/-! How many rounds at most; what is taken is balanced. -/
/-- tokens p .. v - 1 are balanced -/
def TB (X : Nat → Int) (p v : Nat) : Prop := Dp X v = Dp X p ∧ ∀ q : Nat, p ≤ q → q ≤ v → Dp X p ≤ Dp X q
def PKx (A : Nat → Nat → Int) (X : Nat → Int) (en : Nat) : List PE → Prop
  | [] => True
  | (_, G, p, v) :: t => (p < v ∧ v ≤ en ∧ ∀ e : Nat, G e = true → A 0 e = 3 → TB X p v) ∧ PKx A X en t
section
variable {C : Nat → Int} {Y A : Nat → Nat → Int} {N i0 z : Nat} {X : Nat → Int} {en : Nat}
theorem inc_u (h : RX true C Y A N i0 z) (j b u o : Nat) (hj : j ≤ N) (hu : A 0 u = 4) (ho : ordf A u = o) : inc A j b o = 0 ∨ b = u + 1 := by
  have hr := inc_r A j b o
  by_cases q : inc A j b o = 0
  · exact Or.inl q
  · right
    unfold inc at q
    by_cases q4 : A 0 j = 4 ∧ b = j + 1
    · rw [if_pos q4] at q
      by_cases d : A 5 j < 0 ∧ ordf A j = o
      · have := ordf_inj (A := A) u j hu q4.1 (by rw [ho, d.2])
        omega
      · rw [if_neg d] at q
        exact absurd rfl q
    · rw [if_neg q4] at q
      by_cases q5 : A 0 j = 5 ∧ (b : Int) = A 2 j + 1
      · rw [if_pos q5] at q
        obtain ⟨t, g1, g2, g3, g4, g5⟩ := x_end h j hj q5.1
        rw [g1, Int.toNat_natCast] at q
        by_cases d : A 5 t < 0 ∧ ordf A t = o
        · have := ordf_inj (A := A) u t hu g4 (by rw [ho, d.2])
          omega
        · rw [if_neg d] at q
          exact absurd rfl q
      · rw [if_neg q5] at q
        exact absurd rfl q
theorem rho_1 (h : RX true C Y A N i0 z) (hne : ∀ e : Nat, e < N → ¬ em A e) (u o : Nat) (hu : A 0 u = 4) (ho : ordf A u = o) : ∀ (p : List Nat) (k : Nat), k ≤ N → chn A (k :: p) → rho A (k :: p) o ≤ 1 ∧ (phi A N k ≤ phi A N (u + 1) → rho A (k :: p) o ≤ 0) := by
  intro p
  induction p with
  | nil => intro k _ _; exact ⟨by show (0 : Int) ≤ 1; decide, fun _ => Int.le_refl _⟩
  | cons b p ih =>
    intro k hk hc
    obtain ⟨e1, e2⟩ := edg_N h hne hk hc.1
    obtain ⟨i1, i2⟩ := ih b e1 hc.2
    have hr := inc_r A k b o
    have er : rho A (k :: b :: p) o = inc A k b o + rho A (b :: p) o := rfl
    rw [er]
    rcases inc_u h k b u o hk hu ho with c | c
    · rw [c]
      exact ⟨by omega, fun d => by have := i2 (by omega); omega⟩
    · subst c
      have := i2 (Nat.le_refl _)
      exact ⟨by omega, fun d => by omega⟩
/-- rounds at most -/
theorem Rd_b (h : RX true C Y A N i0 z) (hne : ∀ e : Nat, e < N → ¬ em A e) (u o : Nat) (hu : A 0 u = 4) (ho : ordf A u = o) : ∀ (t : List PE) (H : Nat → List (List (Nat × List Nat))) (j : Nat) (hh : List (Nat × List Nat)), PP A N t H → PO A N t → hh ∈ H j → Rd A hh o ≤ 2 * t.length + 1 := by
  intro t
  induction t with
  | nil =>
    intro H j hh hP _ hm
    have hP : H = H0 A := hP
    subst hP
    obtain ⟨w, hw, rfl⟩ := List.mem_map.1 hm
    obtain ⟨hc, hl⟩ := ways_chn A j 17 0 w hw
    obtain ⟨w', rfl⟩ := ways_hd A j 17 0 w hw
    have := (rho_1 h hne u o hu ho w' 0 (Nat.zero_le _) hc).1
    show (0 : Int) + 0 + rho A (0 :: w') o ≤ 2 * ((0 : Nat) : Int) + 1
    omega
  | cons y t ih =>
    obtain ⟨Hp, G, p, v⟩ := y
    intro H j hh hP hPO hm
    obtain ⟨hP1, hP2⟩ := hP
    subst hP1
    obtain ⟨⟨B, hO⟩, hPO2⟩ := hPO
    obtain ⟨e, e1, e2, e3⟩ := (Hn_mem A G Hp j hh N).1 hm
    obtain ⟨h', a1, w, a2, rfl⟩ := (hx_mem A e j (Hp e) hh).1 e3
    obtain ⟨_, hsd, ⟨w0, hr, rfl⟩, _⟩ := hO e h' a1
    have i1 := ih Hp e _ hP2 hPO2 a1
    have hnx := nx_le h e e1
    obtain ⟨hc, hl⟩ := ways_chn A j 17 (nx A e) w a2
    obtain ⟨w', rfl⟩ := ways_hd A j 17 (nx A e) w a2
    have r1 := (rho_1 h hne u o hu ho w' (nx A e) hnx hc).1
    have r2 := inc_r A e (nx A e) o
    show Rd A ((e, w0) :: hr) o + inc A e (nx A e) o + rho A (nx A e :: w') o ≤ 2 * ((t.length + 1 : Nat) : Int) + 1
    omega
theorem TK_b (p v : Nat) (k : Int) (hb : bg k (X p)) (hv : TKX X k p (v : Int)) : TB X p v := by
  rcases hv with ⟨h4, ⟨d, _⟩ | ⟨e, e1, f, e2⟩⟩ | ⟨h3, ho, q, q1, q2⟩ | ⟨n4, n3, n1⟩
  · omega
  · obtain ⟨k1, k2, k3, k4⟩ := OPX_g e1 (by omega)
    obtain ⟨k5, k6, k7, _⟩ := EXX_e X 0 f e v e2
    have he : e = p + k1 := by omega
    subst he
    have hv : v = p + k1 + k5 := by omega
    subst hv
    obtain ⟨g1, g2⟩ := GC_D X 0 _ _ _ _ _ _ k4
    obtain ⟨g3, g4⟩ := GC_D X 0 _ _ _ _ _ _ k7
    refine ⟨by omega, fun q q1 q2 => ?_⟩
    by_cases c : q ≤ p + k1
    · have := g2 (q - p) (by omega)
      rw [show p + (q - p) = q by omega] at this
      omega
    · have := g4 (q - (p + k1)) (by omega)
      rw [show p + k1 + (q - (p + k1)) = q by omega] at this
      omega
  · obtain ⟨c1, c2, c3⟩ := q1
    have hv : v = q + 1 := by omega
    subst hv
    refine ⟨c2, fun q' h1 h2 => ?_⟩
    by_cases d1 : q' = p
    · rw [d1]; exact Int.le_refl _
    · by_cases d2 : q' = q + 1
      · rw [d2, c2]; exact Int.le_refl _
      · have := c3 q' (by omega) (by omega)
        omega
  · have hv : v = p + 1 := by omega
    subst hv
    have hbr : br (X p) = 0 := by
      unfold br
      rcases hb with ⟨_, c⟩ | ⟨_, c⟩ | ⟨c3, c⟩ | ⟨c, _⟩
      · rw [if_neg (by omega), if_neg (by omega)]
      · rw [if_neg (by omega), if_neg (by omega)]
      · rw [if_neg (fun w => n3 ⟨c3, w⟩), if_neg c]
      · exact absurd c n4
    have hD : Dp X (p + 1) = Dp X p := by
      show Dp X p + br (X p) = Dp X p
      omega
    refine ⟨hD, fun q' h1 h2 => ?_⟩
    by_cases d1 : q' = p
    · rw [d1]; exact Int.le_refl _
    · have : q' = p + 1 := by omega
      rw [this, hD]; exact Int.le_refl _
theorem TV_PK (hX : ∀ p : Nat, p < en → 0 < X p) : ∀ (tr : List ((Nat → Bool) × Nat × Nat)) (H : Nat → List (List (Nat × List Nat))) (t : List PE) (p : Nat) (r : Int), TV A N X en tr H p r → PKx A X en t → PKx A X en (PF A N tr H t).2 := by
  intro tr
  induction tr with
  | nil => intro H t p r _ hK; exact hK
  | cons x tr ih =>
    obtain ⟨G, p0, v⟩ := x
    intro H t p r hV hK
    obtain ⟨rfl, u1, u2, u3, u4, u5, u6⟩ := hV
    have hx0 := hX p0 u1
    refine ih (fun j => Hn A G H j N) ((H, G, p0, v) :: t) v r u6 ⟨⟨u2, u3, fun e he h3 => ?_⟩, hK⟩
    rcases u5 with ⟨d1, e0, d2, d3, d4⟩ | ⟨d1, d2, d3, d4⟩
    · obtain ⟨e', q1, q2, q3, q4, q5⟩ := ac_f1 (A := A) (H := H) (c := X p0) N d1
      have : e' = e0 := by omega
      subst this
      exact TK_b p0 v (A 4 e') q3.2.2 d3
    · rw [d4] at he
      have q := (of_decide_eq_true he).2
      unfold bf at q
      rw [if_neg (by omega), if_pos h3] at q
      omega
theorem rtk_b : ∀ (t : List PE) (H : Nat → List (List (Nat × List Nat))) (j : Nat) (hh : List (Nat × List Nat)), PP A N t H → PO A N t → PKx A X en t → hh ∈ H j → ∀ x ∈ rtk A t hh, x.2.2.2.1 < x.2.2.2.2 ∧ x.2.2.2.2 ≤ en ∧ TB X x.2.2.2.1 x.2.2.2.2 := by
  intro t
  induction t with
  | nil => intro H j hh _ _ _ _ x hx; cases hx
  | cons y t ih =>
    obtain ⟨Hp, G, p, v⟩ := y
    intro H j hh hP hPO hK hm x hx
    obtain ⟨hP1, hP2⟩ := hP
    subst hP1
    obtain ⟨⟨B, hO⟩, hPO2⟩ := hPO
    obtain ⟨⟨k1, k2, k3⟩, hK2⟩ := hK
    obtain ⟨e, e1, e2, e3⟩ := (Hn_mem A G Hp j hh N).1 hm
    obtain ⟨h', a1, w, a2, rfl⟩ := (hx_mem A e j (Hp e) hh).1 e3
    obtain ⟨_, hsd, ⟨w0, hr, rfl⟩, _⟩ := hO e h' a1
    have er : rtk A ((Hp, G, p, v) :: t) ((j, w) :: (e, w0) :: hr) = rtk A t ((e, w0) :: hr) ++ (if A 0 e = 3 then [(e, prs A (shs A ((e, w0) :: hr)) (A 5 e), prs A (shs A ((e, w0) :: hr)) (A 6 e), p, v)] else []) := rfl
    rw [er] at hx
    rcases List.mem_append.1 hx with c | c
    · exact ih Hp e _ hP2 hPO2 hK2 a1 x c
    · by_cases q3 : A 0 e = 3
      · rw [if_pos q3] at c
        rw [List.mem_singleton.1 c]
        exact ⟨k1, k2, k3 e e2 q3⟩
      · rw [if_neg q3] at c
        cases c
end
