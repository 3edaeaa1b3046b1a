/-! follow -/
def zs0 : (Nat → Int) × (Nat → Int → Int) := (fun _ => 0, fun _ _ => 0)
/-- rounds and inner rounds of a history -/
def shs (A : Nat → Nat → Int) : List (Nat × List Nat) → (Nat → Int) × (Nat → Int → Int)
  | [] => zs0
  | (_, w) :: h => fls A w (match h with
    | [] => zs0
    | (e, _) :: _ => trs A e (nx A e) (shs A h))
def prs (A : Nat → Nat → Int) (s : (Nat → Int) × (Nat → Int → Int)) (r : Int) : Int := if r < 0 then 0 else (if A 5 r.toNat < 0 then s.1 r.toNat else s.2 r.toNat (s.1 (A 5 r.toNat).toNat - 1)) - 1
/-- the reference's takings of a history: by, outer, inner, from, to -/
def rtk (A : Nat → Nat → Int) : List PE → List (Nat × List Nat) → List (Nat × Int × Int × Nat × Nat)
  | [], _ => []
  | _ :: _, [] => []
  | (_, _, p, v) :: t, _ :: h => rtk A t h ++ (match h with
    | [] => []
    | (e, _) :: _ => if A 0 e = 3 then [(e, prs A (shs A h) (A 5 e), prs A (shs A h) (A 6 e), p, v)] else [])
def KR (k : List (Nat × Int × Int × Nat × Nat)) (m : ZM) : Prop := m.1 83 56 = k.length ∧ ∀ (i : Nat) (x : Nat × Int × Int × Nat × Nat), k[i]? = some x → m.1 122 i = x.1 ∧ m.1 123 i = x.2.1 ∧ m.1 124 i = x.2.2.1 ∧ m.1 125 i = x.2.2.2.1 ∧ m.1 126 i = x.2.2.2.2
theorem rtk_len (A : Nat → Nat → Int) : ∀ (t : List PE) (h : List (Nat × List Nat)), (rtk A t h).length ≤ t.length := by
  intro t
  induction t with
  | nil => intro h; exact Nat.le_refl _
  | cons x t ih =>
    intro h
    obtain ⟨Hp, G, p, v⟩ := x
    cases h with
    | nil => exact Nat.zero_le _
    | cons y h =>
      have ihh := ih h
      cases h with
      | nil =>
        have e : rtk A ((Hp, G, p, v) :: t) [y] = rtk A t [] ++ [] := rfl
        rw [e, List.append_nil, List.length_cons]
        omega
      | cons w h =>
        obtain ⟨e0, w0⟩ := w
        have e : rtk A ((Hp, G, p, v) :: t) (y :: (e0, w0) :: h) = rtk A t ((e0, w0) :: h) ++ (if A 0 e0 = 3 then [(e0, prs A (shs A ((e0, w0) :: h)) (A 5 e0), prs A (shs A ((e0, w0) :: h)) (A 6 e0), p, v)] else []) := rfl
        rw [e, List.length_append, List.length_cons]
        have : (if A 0 e0 = 3 then [(e0, prs A (shs A ((e0, w0) :: h)) (A 5 e0), prs A (shs A ((e0, w0) :: h)) (A 6 e0), p, v)] else []).length ≤ 1 := by
          split
          · exact Nat.le_refl _
          · exact Nat.zero_le _
        omega
section
variable {C : Nat → Int} {Y A : Nat → Nat → Int} {N i0 z : Nat} {n : Nat}
theorem KR_k {k : List (Nat × Int × Int × Nat × Nat)} {m m' : ZM} (h : KR k m) (g : m'.1 83 56 = m.1 83 56) (g2 : ∀ a i : Nat, 122 ≤ a → a ≤ 126 → m'.1 a i = m.1 a i) : KR k m' := by
  refine ⟨g.trans h.1, fun i x hx => ?_⟩
  rw [g2 122 i (by omega) (by omega), g2 123 i (by omega) (by omega), g2 124 i (by omega) (by omega), g2 125 i (by omega) (by omega), g2 126 i (by omega) (by omega)]
  exact h.2 i x hx
theorem m72 (hn : 600 ≤ n) (h : RX true C Y A N i0 z) (m : ZM) (hA : AX true m A (N + 1)) (s : (Nat → Int) × (Nat → Int → Int)) (k : Nat) (hI : IS s.1 s.2 k m) (hk : k ≤ 511) (hs : sbd 90000 s) (e : Nat) (he : e < N) (r : Int) (hr : r = A 5 e ∨ r = A 6 e) : zF72 n r m = some (prs A s r, m) := by
  have hN := x_N119 h
  have hx := x_e h e he
  unfold zF72 zJ72_42 prs
  by_cases q : r < 0
  · rw [if_neg (by omega), if_pos q]
  · obtain ⟨v, hv⟩ : ∃ v : Nat, r = v := ⟨r.toNat, by omega⟩
    subst hv
    have hvN : v < N := by
      rcases hr with d | d
      · have := hx.2.2.1; omega
      · have := hx.2.2.2.2.1; omega
    have ax := hA v (by omega)
    rw [if_pos rfl] at ax
    rw [if_pos (by omega), if_neg (by omega), if_neg q, Int.toNat_natCast, ax.2.2.2.2.2.1]
    have h1 := hs.1 v
    by_cases q5 : A 5 v < 0
    · rw [if_neg (by omega), hI.1 v (by omega), if_pos (by omega), if_pos q5]
    · obtain ⟨u, hu⟩ : ∃ u : Nat, A 5 v = u := ⟨(A 5 v).toNat, by omega⟩
      have hxv := (x_e h v hvN).2.2.1
      have h2 := hs.1 u
      have h3 := hs.2 v (s.1 u - 1)
      rw [if_pos (by omega), if_neg (by omega), if_neg q5, hu, Int.toNat_natCast, hI.1 u (by omega), if_pos (by omega), m69 hI hk hn v (s.1 u - 1)]
      dsimp only
      rw [if_pos (by omega)]
/-- the loop's head before step t.length, where stand j follows -/
def HEAD (A : Nat → Nat → Int) (N : Nat) (t : List PE) (j x : Nat) (s : (Nat → Int) × (Nat → Int → Int)) (h' : List (Nat × List Nat)) : Prop := match t with
  | [] => x = 0 ∧ s = zs0 ∧ h' = []
  | (Hp, G, _, _) :: _ => ∃ i : Nat, PV A N G Hp i j ∧ h' ∈ Hp i ∧ x = nx A i ∧ s = trs A i (nx A i) (shs A h')
theorem HEAD_w (h : RX true C Y A N i0 z) (t : List PE) (H : Nat → List (List (Nat × List Nat))) (B : Int) (j x : Nat) (s : (Nat → Int) × (Nat → Int → Int)) (h' : List (Nat × List Nat)) (hP : PP A N t H) (hO : ∀ Hp G p v t', t = (Hp, G, p, v) :: t' → HO A N B Hp) (hj : H j ≠ []) (hH : HEAD A N t j x s h') : x ≤ N ∧ 0 < wc A x j ∧ ∀ w ∈ ways A x j, (j, w) :: h' ∈ H j ∧ fls A w s = shs A ((j, w) :: h') := by
  cases t with
  | nil =>
    obtain ⟨rfl, rfl, rfl⟩ := hH
    have hP : H = H0 A := hP
    subst hP
    refine ⟨Nat.zero_le _, ?_, fun w hw => ⟨List.mem_map.2 ⟨w, hw, rfl⟩, rfl⟩⟩
    have : (H0 A j).length ≠ 0 := fun c => hj (List.eq_nil_of_length_eq_zero c)
    rw [H0_len] at this
    omega
  | cons y t' =>
    obtain ⟨Hp, G, p, v⟩ := y
    obtain ⟨i, i1, i2, rfl, rfl⟩ := hH
    obtain ⟨hP1, hP2⟩ := hP
    subst hP1
    refine ⟨nx_le h i i1.1, i1.2.2.2, fun w hw => ⟨(Hn_mem A G Hp j _ N).2 ⟨i, i1.1, i1.2.1, (hx_mem A i j (Hp i) _).2 ⟨h', i2, w, hw, rfl⟩⟩, ?_⟩⟩
    obtain ⟨_, _, ⟨p', hr', b3⟩, _⟩ := hO Hp G p v t' rfl i h' i2
    subst b3
    rfl
def wF : List (Nat × Nat) := w73
theorem w73_n (a x : Nat) (h : (a < 114 ∨ a = 116 ∨ 126 < a) ∧ (a = 83 → x ≠ 52 ∧ x ≠ 56)) : wl w73 a x = false := by
  unfold wl w73
  simp
  omega
/-- one turn of follow's loop, after goTo -/
theorem m73s (hn : 600 ≤ n) (h : RX true C Y A N i0 z) (j x2 : Nat) (hj : j ≤ N) (hx2 : x2 ≤ 155) (m : ZM) (hA : AX true m A (N + 1)) (s : (Nat → Int) × (Nat → Int → Int)) (k : Nat) (hI : IS s.1 s.2 k m) (hk : k ≤ 499) (hs : sbd 80000 s) (κ : List (Nat × Int × Int × Nat × Nat)) (hK : KR κ m) (hκ : κ.length ≤ 155) (hb : A 0 j ≠ 4) (p v : Nat) (hp : A 0 j = 3 → m.1 112 x2 = p ∧ m.1 113 x2 = v) :
    ∃ m' k', (∀ rec : Int → Int → ZM → Option (Unit × ZM), zJ73_57 n rec x2 j m = rec (nx A j) ((x2 : Int) + 1) m') ∧ IS (trs A j (nx A j) s).1 (trs A j (nx A j) s).2 k' m' ∧ k' ≤ k + 1 ∧ KR (κ ++ (if A 0 j = 3 then [(j, prs A s (A 5 j), prs A s (A 6 j), p, v)] else [])) m' ∧ kp (wl w73) m m' := by
  have hN := x_N119 h
  have ax := hA j (by omega)
  rw [if_pos rfl] at ax
  have tail : ∀ (m1 : ZM), AX true m1 A (N + 1) → IS s.1 s.2 k m1 → ∃ m' k', (∀ rec : Int → Int → ZM → Option (Unit × ZM), zJ73_155 n rec x2 j m1 = rec (nx A j) ((x2 : Int) + 1) m') ∧ IS (trs A j (nx A j) s).1 (trs A j (nx A j) s).2 k' m' ∧ k' ≤ k + 1 ∧ kp (wl w70x) m1 m' := by
    intro m1 hA1 hI1
    have ax1 := hA1 j (by omega)
    rw [if_pos rfl] at ax1
    by_cases q5 : A 0 j = 5
    · obtain ⟨t, g1, g2, g3, g4, g5⟩ := x_end h j hj q5
      have hnx : nx A j = t + 1 := by unfold nx; rw [if_pos q5]; omega
      have hev : evb A j (nx A j) = some t := by
        unfold evb
        rw [if_neg (fun w => by have := w.1; omega), if_pos ⟨q5, by rw [hnx]; omega⟩, g1, Int.toNat_natCast]
      have ht : trs A j (nx A j) s = (nrq A t s.1, nrc A t s.1 s.2) := by unfold trs; rw [hev]
      obtain ⟨m2, k2, c1, c2, c3, c4, c5, c6⟩ := m70 (n := n) hn h hA1 t (by omega) g4 hI1 (by omega) (fun x _ => by have := hs.1 x; omega) (fun x o => by have := hs.2 x o; omega)
      have w70n : ∀ a x : Nat, a ≠ 83 → (a < 118 ∨ 121 < a) → wl w70x a x = false := fun a x h1 h2 => by
        unfold wl w70x
        simp
        omega
      refine ⟨m2, k2, ?_, by rw [ht]; exact c2, c5, c6⟩
      intro rec
      unfold zJ73_155
      rw [if_neg (by omega), Int.toNat_natCast, ax1.1, if_pos q5]
      unfold zJ73_170
      rw [if_neg (by decide), if_neg (by omega), Int.toNat_natCast, ax1.2.2.1, g1, c1]
      dsimp only
      unfold zJ73_187 zJ73_206
      rw [if_neg (by decide), if_neg (by omega), Int.toNat_natCast, (c6.1 92 j (w70n _ _ (by decide) (by decide))).1, ax1.2.2.1, g1, if_pos (by omega), if_pos (by omega), hnx, show ((t + 1 : Nat) : Int) = (t : Int) + 1 by omega]
    · have hnx : nx A j = j + 1 := by unfold nx; rw [if_neg q5]
      have hev : evb A j (nx A j) = none := by
        unfold evb
        rw [if_neg (fun w => hb w.1), if_neg (fun w => q5 w.1)]
      have ht : trs A j (nx A j) s = s := by unfold trs; rw [hev]
      refine ⟨m1, k, ?_, by rw [ht]; exact hI1, by omega, kp_refl _ m1⟩
      intro rec
      unfold zJ73_155
      rw [if_neg (by omega), Int.toNat_natCast, ax1.1, if_neg q5]
      unfold zJ73_170 zJ73_187 zJ73_206
      rw [if_pos rfl, if_pos rfl, if_pos (by omega), if_pos (by omega), hnx, show ((j + 1 : Nat) : Int) = (j : Int) + 1 by omega]
  have w70s : ∀ q ∈ w70x, q ∈ w73 := by simp [w70x, w73]
  have kr70 : ∀ (κ' : List (Nat × Int × Int × Nat × Nat)) (m1 m2 : ZM), KR κ' m1 → kp (wl w70x) m1 m2 → KR κ' m2 := fun κ' m1 m2 h1 g => KR_k h1 (g.1 83 56 rfl).1 (fun a i p1 p2 => (g.1 a i (by unfold wl w70x; simp; omega)).1)
  by_cases q3 : A 0 j = 3
  · have hjN : j < N := by
      by_cases c : j = N
      · rw [c, h.2.2.2.1] at q3
        exact absurd q3 (by decide)
      · omega
    obtain ⟨hp1, hp2⟩ := hp q3
    rw [if_pos q3]
    obtain ⟨a1, a2⟩ := hK
    obtain ⟨m5, hm5⟩ : ∃ m5, m5 = z_i (z_i (z_i (z_i (z_i (z_i m 122 κ.length j) 123 κ.length (prs A s (A 5 j))) 124 κ.length (prs A s (A 6 j))) 125 κ.length p) 126 κ.length v) 83 56 ((κ.length : Int) + 1) := ⟨_, rfl⟩
    have o5 : ∀ a x : Nat, a < 122 → (a = 83 → x ≠ 56) → m5.1 a x = m.1 a x := fun a x h1 h2 => by
      rw [hm5]
      by_cases c : a = 83
      · rw [z_nk _ _ _ _ _ _ (h2 c), z_nc _ _ _ _ _ _ (by omega), z_nc _ _ _ _ _ _ (by omega), z_nc _ _ _ _ _ _ (by omega), z_nc _ _ _ _ _ _ (by omega), z_nc _ _ _ _ _ _ (by omega)]
      · rw [z_nc _ _ _ _ _ _ c, z_nc _ _ _ _ _ _ (by omega), z_nc _ _ _ _ _ _ (by omega), z_nc _ _ _ _ _ _ (by omega), z_nc _ _ _ _ _ _ (by omega), z_nc _ _ _ _ _ _ (by omega)]
    have AXo : ∀ m1 : ZM, (∀ a x : Nat, 90 ≤ a → a ≤ 96 → m1.1 a x = m.1 a x) → AX true m1 A (N + 1) := fun m1 g => AX_k hA g
    have ISo : ∀ m1 : ZM, (∀ a x : Nat, a = 83 ∧ x = 52 ∨ (118 ≤ a ∧ a ≤ 121) → m1.1 a x = m.1 a x) → IS s.1 s.2 k m1 := fun m1 g => by
      obtain ⟨d1, d2, d3⟩ := hI
      refine ⟨fun x hx => by rw [g 118 x (by omega)]; exact d1 x hx, by rw [g 83 52 (by omega)]; exact d2, fun b o => ?_⟩
      have h9 : ∀ x, m1.1 119 x = m.1 119 x := fun x => g 119 x (by omega)
      have h0 : ∀ x, m1.1 120 x = m.1 120 x := fun x => g 120 x (by omega)
      have h1 : ∀ x, m1.1 121 x = m.1 121 x := fun x => g 121 x (by omega)
      simp only [h9, h0, h1]
      exact d3 b o
    have A5 := AXo m5 (fun a x p1 p2 => o5 a x (by omega) (by omega))
    have I5 := ISo m5 (fun a x w => o5 a x (by omega) (by omega))
    obtain ⟨m', k', e1, e2, e3, e4⟩ := tail m5 A5 I5
    have K5 : KR (κ ++ [(j, prs A s (A 5 j), prs A s (A 6 j), p, v)]) m5 := by
      refine ⟨?_, fun i x hx => ?_⟩
      · rw [hm5, z_eq, List.length_append]
        show (κ.length : Int) + 1 = ((κ.length + 1 : Nat) : Int)
        omega
      · have r2 : ∀ i', m5.1 122 i' = if i' = κ.length then (j : Int) else m.1 122 i' := fun i' => by
          rw [hm5, z_nc _ _ _ _ _ _ (by decide), z_nc _ _ _ _ _ _ (by decide), z_nc _ _ _ _ _ _ (by decide), z_nc _ _ _ _ _ _ (by decide), z_nc _ _ _ _ _ _ (by decide)]
          by_cases c : i' = κ.length
          · rw [if_pos c, c, z_eq]
          · rw [if_neg c, z_nk _ _ _ _ _ _ c]
        have r3 : ∀ i', m5.1 123 i' = if i' = κ.length then prs A s (A 5 j) else m.1 123 i' := fun i' => by
          rw [hm5, z_nc _ _ _ _ _ _ (by decide), z_nc _ _ _ _ _ _ (by decide), z_nc _ _ _ _ _ _ (by decide), z_nc _ _ _ _ _ _ (by decide)]
          by_cases c : i' = κ.length
          · rw [if_pos c, c, z_eq]
          · rw [if_neg c, z_nk _ _ _ _ _ _ c, z_nc _ _ _ _ _ _ (by decide)]
        have r4 : ∀ i', m5.1 124 i' = if i' = κ.length then prs A s (A 6 j) else m.1 124 i' := fun i' => by
          rw [hm5, z_nc _ _ _ _ _ _ (by decide), z_nc _ _ _ _ _ _ (by decide), z_nc _ _ _ _ _ _ (by decide)]
          by_cases c : i' = κ.length
          · rw [if_pos c, c, z_eq]
          · rw [if_neg c, z_nk _ _ _ _ _ _ c, z_nc _ _ _ _ _ _ (by decide), z_nc _ _ _ _ _ _ (by decide)]
        have r5 : ∀ i', m5.1 125 i' = if i' = κ.length then (p : Int) else m.1 125 i' := fun i' => by
          rw [hm5, z_nc _ _ _ _ _ _ (by decide), z_nc _ _ _ _ _ _ (by decide)]
          by_cases c : i' = κ.length
          · rw [if_pos c, c, z_eq]
          · rw [if_neg c, z_nk _ _ _ _ _ _ c, z_nc _ _ _ _ _ _ (by decide), z_nc _ _ _ _ _ _ (by decide), z_nc _ _ _ _ _ _ (by decide)]
        have r6 : ∀ i', m5.1 126 i' = if i' = κ.length then (v : Int) else m.1 126 i' := fun i' => by
          rw [hm5, z_nc _ _ _ _ _ _ (by decide)]
          by_cases c : i' = κ.length
          · rw [if_pos c, c, z_eq]
          · rw [if_neg c, z_nk _ _ _ _ _ _ c, z_nc _ _ _ _ _ _ (by decide), z_nc _ _ _ _ _ _ (by decide), z_nc _ _ _ _ _ _ (by decide), z_nc _ _ _ _ _ _ (by decide)]
        rw [r2, r3, r4, r5, r6]
        by_cases q : i < κ.length
        · rw [List.getElem?_append_left q] at hx
          rw [if_neg (by omega), if_neg (by omega), if_neg (by omega), if_neg (by omega), if_neg (by omega)]
          exact a2 i x hx
        · rw [List.getElem?_append_right (by omega)] at hx
          have hi : i = κ.length := by
            apply Classical.byContradiction
            intro d
            rw [List.getElem?_eq_none (by show 1 ≤ i - κ.length; omega)] at hx
            cases hx
          subst hi
          rw [Nat.sub_self] at hx
          have hx : (j, prs A s (A 5 j), prs A s (A 6 j), p, v) = x := by
            have : some (j, prs A s (A 5 j), prs A s (A 6 j), p, v) = some x := hx
            cases this
            rfl
          subst hx
          rw [if_pos rfl, if_pos rfl, if_pos rfl, if_pos rfl, if_pos rfl]
          exact ⟨rfl, rfl, rfl, rfl, rfl⟩
    refine ⟨m', k', ?_, e2, e3, kr70 _ _ _ K5 e4, ?_⟩
    · intro rec
      rw [← e1 rec]
      have hs9 : sbd 90000 s := ⟨fun x => by have := hs.1 x; omega, fun x o => by have := hs.2 x o; omega⟩
      unfold zJ73_57
      rw [if_neg (by omega), Int.toNat_natCast, ax.1, if_pos q3, a1, if_neg (by omega), zlet, Int.toNat_natCast]
      have P1 := m72 (n := n) hn h (z_i m 122 κ.length (j : Int)) (AXo _ (fun a x p1 p2 => z_nc _ _ _ _ _ _ (by omega))) s k (ISo _ (fun a x w => z_nc _ _ _ _ _ _ (by omega))) (by omega) hs9 j hjN (A 5 j) (Or.inl rfl)
      unfold zJ73_77
      rw [if_neg (by omega), Int.toNat_natCast, z_nc _ _ _ _ _ _ (show 95 ≠ 122 by decide), ax.2.2.2.2.2.1, P1]
      dsimp only
      rw [z_nc _ _ _ _ _ _ (show 83 ≠ 122 by decide), a1, if_neg (by omega), zlet, Int.toNat_natCast]
      have P2 := m72 (n := n) hn h (z_i (z_i m 122 κ.length (j : Int)) 123 κ.length (prs A s (A 5 j))) (AXo _ (fun a x p1 p2 => by rw [z_nc _ _ _ _ _ _ (by omega), z_nc _ _ _ _ _ _ (by omega)])) s k (ISo _ (fun a x w => by rw [z_nc _ _ _ _ _ _ (by omega), z_nc _ _ _ _ _ _ (by omega)])) (by omega) hs9 j hjN (A 6 j) (Or.inr rfl)
      unfold zJ73_96
      rw [if_neg (by omega), Int.toNat_natCast, z_nc _ _ _ _ _ _ (show 96 ≠ 123 by decide), z_nc _ _ _ _ _ _ (show 96 ≠ 122 by decide), ax.2.2.2.2.2.2, P2]
      dsimp only
      rw [z_nc _ _ _ _ _ _ (show 83 ≠ 123 by decide), z_nc _ _ _ _ _ _ (show 83 ≠ 122 by decide), a1, if_neg (by omega), zlet, Int.toNat_natCast]
      unfold zJ73_115
      rw [if_neg (by omega), z_nc _ _ _ _ _ _ (show 83 ≠ 124 by decide), z_nc _ _ _ _ _ _ (show 83 ≠ 123 by decide), z_nc _ _ _ _ _ _ (show 83 ≠ 122 by decide), a1, if_neg (by omega), zlet, Int.toNat_natCast, Int.toNat_natCast, z_nc _ _ _ _ _ _ (show 112 ≠ 124 by decide), z_nc _ _ _ _ _ _ (show 112 ≠ 123 by decide), z_nc _ _ _ _ _ _ (show 112 ≠ 122 by decide), hp1]
      rw [z_nc _ _ _ _ _ _ (show 83 ≠ 125 by decide), z_nc _ _ _ _ _ _ (show 83 ≠ 124 by decide), z_nc _ _ _ _ _ _ (show 83 ≠ 123 by decide), z_nc _ _ _ _ _ _ (show 83 ≠ 122 by decide), a1, if_neg (by omega), zlet, Int.toNat_natCast, z_nc _ _ _ _ _ _ (show 113 ≠ 125 by decide), z_nc _ _ _ _ _ _ (show 113 ≠ 124 by decide), z_nc _ _ _ _ _ _ (show 113 ≠ 123 by decide), z_nc _ _ _ _ _ _ (show 113 ≠ 122 by decide), hp2]
      unfold zJ73_145
      rw [z_nc _ _ _ _ _ _ (show 83 ≠ 126 by decide), z_nc _ _ _ _ _ _ (show 83 ≠ 125 by decide), z_nc _ _ _ _ _ _ (show 83 ≠ 124 by decide), z_nc _ _ _ _ _ _ (show 83 ≠ 123 by decide), z_nc _ _ _ _ _ _ (show 83 ≠ 122 by decide), a1, if_pos (by omega), zlet, ← hm5]
    · have k5 : kp (wl w73) m m5 := by
        rw [hm5]
        exact kp_i (kp_ia (kp_ia (kp_ia (kp_ia (kp_ia (kp_refl _ m) (by simp [w73])) (by simp [w73])) (by simp [w73])) (by simp [w73])) (by simp [w73])) (by simp [w73])
      exact kp_tr k5 (kp_sub w70s e4)
  · obtain ⟨m', k', e1, e2, e3, e4⟩ := tail m hA hI
    rw [if_neg q3, List.append_nil]
    refine ⟨m', k', ?_, e2, e3, kr70 _ _ _ hK e4, kp_sub w70s e4⟩
    intro rec
    unfold zJ73_57
    rw [if_neg (by omega), Int.toNat_natCast, ax.1, if_neg q3]
    exact e1 rec
end
