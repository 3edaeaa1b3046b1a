/-! The course of a match, and the reference's match. -/
def AMB (A : Nat → Nat → Int) (N : Nat) (H : Nat → List (List (Nat × List Nat))) (c : Int) : Prop := 1 < (ac A H c N).1 ∨ ((ac A H c N).1 = 1 ∧ 0 < (ac A H c N).2.1)
def DEAD (A : Nat → Nat → Int) (N : Nat) (X : Nat → Int) (H : Nat → List (List (Nat × List Nat))) (p : Nat) : Prop := ((ac A H (X p) N).1 = 0 ∧ (ac A H (X p) N).2.1 = 0) ∨ ((ac A H (X p) N).1 = 1 ∧ ∃ e : Nat, (ac A H (X p) N).2.2 = e ∧ TKX X (A 4 e) p (-1))
def STP (A : Nat → Nat → Int) (N : Nat) (X : Nat → Int) (H : Nat → List (List (Nat × List Nat))) (p : Nat) (G : Nat → Bool) (v : Nat) : Prop :=
  ((ac A H (X p) N).1 = 1 ∧ ∃ e : Nat, (ac A H (X p) N).2.2 = e ∧ TKX X (A 4 e) p v ∧ G = fun i => decide (i = e)) ∨ ((ac A H (X p) N).1 = 0 ∧ 0 < (ac A H (X p) N).2.1 ∧ v = p + 1 ∧ G = fun i => decide (goes A H (X p) i))
/-- from H before token p the match goes the steps t, and ends with r (as the class says it) -/
def TV (A : Nat → Nat → Int) (N : Nat) (X : Nat → Int) (en : Nat) : List ((Nat → Bool) × Nat × Nat) → (Nat → List (List (Nat × List Nat))) → Nat → Int → Prop
  | [], H, p, r => (en ≤ p ∧ r = (if (H N).length = 0 then -2001 else if (H N).length = 1 then 0 else -2002)) ∨ (p < en ∧ AMB A N H (X p) ∧ r = -2002) ∨ (p < en ∧ ¬ AMB A N H (X p) ∧ DEAD A N X H p ∧ r = -2001)
  | (G, p0, v) :: t, H, p, r => p0 = p ∧ p < en ∧ p < v ∧ v ≤ en ∧ ¬ AMB A N H (X p) ∧ STP A N X H p G v ∧ TV A N X en t (fun j => Hn A G H j N) v r
abbrev PE := (Nat → List (List (Nat × List Nat))) × (Nat → Bool) × Nat × Nat
/-- how H came about -/
def PP (A : Nat → Nat → Int) (N : Nat) : List PE → (Nat → List (List (Nat × List Nat))) → Prop
  | [], H => H = H0 A
  | (Hp, G, _, _) :: t, H => (H = fun j => Hn A G Hp j N) ∧ PP A N t Hp
/-- what the reference keeps of the steps -/
def PM : List PE → ZM → Prop
  | [], _ => True
  | (_, _, p, v) :: t, m => (m.1 112 t.length = p ∧ m.1 113 t.length = v) ∧ PM t m
/-- its sources -/
def PS (A : Nat → Nat → Int) (N : Nat) : List PE → (Nat → List (List (Nat × List Nat))) → ZM → Prop
  | [], _, _ => True
  | (Hp, G, _, _) :: t, H, m => (∃ g, SRC (t.length + 1) g m ∧ ∀ j : Nat, j < 128 → H j ≠ [] → ∃ i : Nat, g j = i ∧ PV A N G Hp i j) ∧ PS A N t Hp m
/-- its path -/
def PTH (A : Nat → Nat → Int) (N : Nat) : List PE → Nat → ZM → Prop
  | [], j, m => m.1 116 0 = j
  | (Hp, G, _, _) :: t, j, m => m.1 116 (t.length + 1) = j ∧ ∃ i : Nat, PV A N G Hp i j ∧ PTH A N t i m
theorem PM_k {m m' : ZM} : ∀ (t : List PE), PM t m → (∀ q : Nat, q < t.length → m'.1 112 q = m.1 112 q ∧ m'.1 113 q = m.1 113 q) → PM t m' := by
  intro t
  induction t with
  | nil => intro _ _; trivial
  | cons x t ih =>
    obtain ⟨Hp, G, p, v⟩ := x
    intro h g
    have := g t.length (by rw [List.length_cons]; omega)
    exact ⟨⟨this.1.trans h.1.1, this.2.trans h.1.2⟩, ih h.2 (fun q hq => g q (by rw [List.length_cons]; omega))⟩
theorem PS_k (A : Nat → Nat → Int) (N : Nat) {m m' : ZM} : ∀ (t : List PE) (H : Nat → List (List (Nat × List Nat))), PS A N t H m → (∀ q : Nat, q < 20 * (t.length + 1) → m'.2.2 q = m.2.2 q) → PS A N t H m' := by
  intro t
  induction t with
  | nil => intro _ _ _; trivial
  | cons x t ih =>
    obtain ⟨Hp, G, p, v⟩ := x
    intro H h g
    rw [List.length_cons] at g
    obtain ⟨⟨f, a1, a2⟩, a3⟩ := h
    refine ⟨⟨f, fun j hj => ?_, a2⟩, ih Hp a3 (fun q hq => g q (by omega))⟩
    rw [g (20 * (t.length + 1) + j / 7) (by omega)]
    exact a1 j hj
section
variable {C : Nat → Int} {Y A : Nat → Nat → Int} {N i0 z : Nat} {n : Nat} {X : Nat → Int} {S lo en : Nat}
theorem PTH_k {m m' : ZM} : ∀ (t : List PE) (j : Nat), PTH A N t j m → (∀ q : Nat, q ≤ t.length → m'.1 116 q = m.1 116 q) → PTH A N t j m' := by
  intro t
  induction t with
  | nil => intro j h g; exact (g 0 (Nat.le_refl _)).trans h
  | cons x t ih =>
    obtain ⟨Hp, G, p, v⟩ := x
    intro j h g
    rw [List.length_cons] at g
    obtain ⟨a1, i, a2, a3⟩ := h
    exact ⟨(g (t.length + 1) (Nat.le_refl _)).trans a1, i, a2, ih i a3 (fun q hq => g q (by omega))⟩
/-- the path, backwards -/
theorem m67p (hN : N < 119) : ∀ (t : List PE) (H : Nat → List (List (Nat × List Nat))) (f j : Nat) (m : ZM), t.length ≤ 160 → t.length < f → PS A N t H m → j ≤ N → H j ≠ [] → m.1 116 t.length = j → ∃ m', zL67_126 n f t.length m = some (1, m') ∧ PTH A N t j m' ∧ (∀ a q : Nat, (a = 116 → t.length ≤ q) → m'.1 a q = m.1 a q) := by
  intro t
  induction t with
  | nil =>
    intro H f j m _ hf _ _ _ h116
    obtain ⟨f, rfl⟩ : ∃ f', f = f' + 1 := ⟨f - 1, by have : ([] : List PE).length = 0 := rfl; omega⟩
    refine ⟨m, ?_, h116, fun a q _ => rfl⟩
    rw [zL67_126, if_pos (by show ((0 : Nat) : Int) ≤ 0; omega)]
  | cons x t ih =>
    obtain ⟨Hp, G, p, v⟩ := x
    intro H f j m hl hf hS hj hH h116
    rw [List.length_cons] at hl hf h116 ⊢
    obtain ⟨f, rfl⟩ : ∃ f', f = f' + 1 := ⟨f - 1, by omega⟩
    obtain ⟨⟨g, a1, a2⟩, a3⟩ := hS
    obtain ⟨i, i1, i2⟩ := a2 j (by omega) hH
    obtain ⟨m', b1, b2, b3⟩ := ih Hp f i (z_i m 116 t.length (i : Int)) (by omega) (by omega) (PS_k A N t Hp a3 (fun q _ => rfl)) (by have := i2.1; omega) (fun q => by have := i2.2.2.1; rw [q] at this; exact absurd this (Nat.lt_irrefl 0)) (z_eq _ _ _ _)
    have h116' : m'.1 116 (t.length + 1) = j := by
      rw [b3 116 (t.length + 1) (fun _ => by omega), z_nk _ _ _ _ _ _ (by omega)]; exact h116
    refine ⟨m', ?_, ⟨h116', i, i2, b2⟩, fun a q hq => ?_⟩
    · have e52 := m52 n (t.length + 1) j (by omega) (by omega) g m a1
      rw [zL67_126, if_neg (by omega), if_neg (by omega), Int.toNat_natCast, h116, e52]
      dsimp only
      rw [if_pos (by omega), if_neg (by omega), zlet, show (((t.length + 1 : Nat) : Int) - 1).toNat = t.length by omega, i1]
      unfold zJ67_153
      rw [if_pos (by omega), show ((t.length + 1 : Nat) : Int) + -1 = (t.length : Int) by omega]
      exact b1
    · rw [b3 a q (fun c => by have := hq c; omega)]
      by_cases c : a = 116
      · exact z_nk _ _ _ _ _ _ (by have := hq c; omega)
      · exact z_nc _ _ _ _ _ _ c
/-- the steps, newest first -/
def PF (A : Nat → Nat → Int) (N : Nat) : List ((Nat → Bool) × Nat × Nat) → (Nat → List (List (Nat × List Nat))) → List PE → (Nat → List (List (Nat × List Nat))) × List PE
  | [], H, t => (H, t)
  | (G, p, v) :: tr, H, t => PF A N tr (fun j => Hn A G H j N) ((H, G, p, v) :: t)
/-- what the reference's match answers, and what it keeps -/
def MA (A : Nat → Nat → Int) (N : Nat) (H : Nat → List (List (Nat × List Nat))) (t : List PE) (r v : Int) (m' : ZM) : Prop :=
  (r = -2002 ∧ v = -1) ∨ (r = -2001 ∧ v = 0) ∨ (r = 0 ∧ v = 1 ∧ PP A N t H ∧ (H N).length = 1 ∧ PM t m' ∧ PTH A N t N m' ∧ m'.1 83 40 = t.length ∧ t.length ≤ 160)
theorem m67l (hn : 200000 ≤ n) (h : RX true C Y A N i0 z) (hne : ∀ e : Nat, e < N → ¬ em A e) (hB : CB X S lo en) : ∀ (tr : List ((Nat → Bool) × Nat × Nat)) (t : List PE) (H : Nat → List (List (Nat × List Nat))) (p f : Nat) (r : Int) (m : ZM) (B : Int), TV A N X en tr H p r → PP A N t H → HO A N B H → 0 ≤ B → lo ≤ p → p ≤ en → t.length + (en - p) ≤ 150 → en - p + 2 ≤ f → AX true m A (N + 1) → RRk S X m → TR H m → PM t m → PS A N t H m → m.1 83 40 = t.length → 
    ∃ v m', zL67_23 n f en p m = some (v, m') ∧ MA A N (PF A N tr H t).1 (PF A N tr H t).2 r v m' := by
  have hN := x_N119 h
  intro tr
  induction tr with
  | nil =>
    intro t H p f r m B hV hP hO hB0 hlo hp hl hf hA hR hT hM hS h40
    obtain ⟨f, rfl⟩ : ∃ f', f = f' + 1 + 1 := ⟨f - 2, by omega⟩
    have hSS := hR.1
    rcases hV with ⟨v1, v2⟩ | ⟨v1, v2, v3⟩ | ⟨v1, v2, v3, v4⟩
    · have st : zL67_23 n (f + 1 + 1) en p m = zL67_61 n n ((0 : Nat) : Int) m := by
        rw [zL67_23, if_neg (by omega), if_pos (by omega)]
        unfold zJ67_42
        rw [if_pos (by omega)]
        rfl
      have find : ∀ (g e : Nat), N + 1 ≤ g + e → e ≤ N → zL67_61 n g e m = if mn ((H N).length : Int) = 1 then zJ67_109 n N m else zJ67_97 n (mn ((H N).length : Int)) m := by
        intro g
        induction g with
        | zero => intro e h1 h2; omega
        | succ g ihg =>
          intro e h1 h2
          have ax := hA e (by omega)
          rw [if_pos rfl] at ax
          by_cases c : e = N
          · subst c
            rw [zL67_61, if_neg (by omega), Int.toNat_natCast, ax.1, if_pos h.2.2.2.1, hT e (by omega)]
          · have := ihg (e + 1) (by omega) (by omega)
            rw [show ((e + 1 : Nat) : Int) = (e : Int) + 1 by omega] at this
            rw [zL67_61, if_neg (by omega), Int.toNat_natCast, ax.1, if_neg (x_k6 h e (by omega)), if_pos (by omega)]
            exact this
      have st2 := st.trans (find n 0 (by omega) (by omega))
      by_cases c1 : (H N).length = 1
      · rw [if_pos (mn_1.2 c1)] at st2
        rw [if_neg (by omega), if_pos c1] at v2
        obtain ⟨m', b1, b2, b3⟩ := m67p (n := n) hN t H n N (z_i m 116 t.length (N : Int)) (by omega) (by omega) (PS_k A N t H hS (fun q _ => rfl)) (by omega) (fun q => by rw [q] at c1; cases c1) (z_eq _ _ _ _)
        refine ⟨1, m', ?_, Or.inr (Or.inr ⟨v2, rfl, hP, c1, ?_, b2, ?_, by show t.length ≤ 160; omega⟩)⟩
        · rw [st2]
          unfold zJ67_109
          rw [h40, if_neg (by omega), zlet, Int.toNat_natCast, z_nc _ _ _ _ _ _ (by decide), h40]
          exact b1
        · exact PM_k t hM (fun q hq => by
            rw [b3 112 q (fun c => absurd c (by decide)), b3 113 q (fun c => absurd c (by decide)), z_nc _ _ _ _ _ _ (by decide), z_nc _ _ _ _ _ _ (by decide)]
            exact ⟨rfl, rfl⟩)
        · rw [b3 83 40 (fun c => absurd c (by decide)), z_nc _ _ _ _ _ _ (by decide)]; exact h40
      · rw [if_neg (fun q => c1 (mn_1.1 q))] at st2
        by_cases c0 : (H N).length = 0
        · rw [if_pos c0] at v2
          refine ⟨0, m, ?_, Or.inr (Or.inl ⟨v2, rfl⟩)⟩
          rw [st2, mn_0.2 c0]
          unfold zJ67_97
          rw [if_pos (by decide)]
          rfl
        · rw [if_neg c0, if_neg c1] at v2
          refine ⟨-1, m, ?_, Or.inl ⟨v2, rfl⟩⟩
          rw [st2]
          unfold zJ67_97
          have : ¬ mn ((H N).length : Int) ≤ 1 := by
            unfold mn
            split <;> omega
          rw [if_neg this]
          rfl
    · have hb := hB.1
      have hx := hR.2 p (by omega)
      have e66 := m66a (n := n) (by omega) h hO m hA hT p en (by omega) (X p) hx.1 hx.2
      refine ⟨-1, m, ?_, Or.inl ⟨v3, rfl⟩⟩
      rw [zL67_23, if_neg (by omega), if_neg (by omega), e66, show n - 128 = (n - 129) + 1 by omega, zL66_11, if_pos (by decide)]
      have amb : (if 1 < (ac A H (X p) N).1 then zJ66_173 n m else if (ac A H (X p) N).1 = 1 then (if (ac A H (X p) N).2.1 ≤ 0 then zJ66_176 n p en (ac A H (X p) N).1 (ac A H (X p) N).2.1 (ac A H (X p) N).2.2 m else zJ66_173 n m) else zJ66_176 n p en (ac A H (X p) N).1 (ac A H (X p) N).2.1 (ac A H (X p) N).2.2 m) = some (-2, m) := by
        rcases v2 with c | ⟨c1, c2⟩
        · rw [if_pos c]; rfl
        · rw [if_neg (by omega), if_pos c1, if_neg (by omega)]; rfl
      rw [amb]
      dsimp only
      rw [zL67_23, if_pos (by decide)]
      unfold zJ67_42
      rw [if_neg (by decide), if_pos rfl]
      rfl
    · have hb := hB.1
      have hx := hR.2 p (by omega)
      have e66 := m66a (n := n) (by omega) h hO m hA hT p en (by omega) (X p) hx.1 hx.2
      refine ⟨0, m, ?_, Or.inr (Or.inl ⟨v4, rfl⟩)⟩
      have na : ¬ 1 < (ac A H (X p) N).1 := fun c => v2 (Or.inl c)
      have nb : (ac A H (X p) N).1 = 1 → (ac A H (X p) N).2.1 ≤ 0 := fun c => by
        apply Classical.byContradiction
        intro d
        exact v2 (Or.inr ⟨c, by omega⟩)
      have hr := ac_r (A := A) (H := H) (c := X p) N
      have go : (if 1 < (ac A H (X p) N).1 then zJ66_173 n m else if (ac A H (X p) N).1 = 1 then (if (ac A H (X p) N).2.1 ≤ 0 then zJ66_176 n p en (ac A H (X p) N).1 (ac A H (X p) N).2.1 (ac A H (X p) N).2.2 m else zJ66_173 n m) else zJ66_176 n p en (ac A H (X p) N).1 (ac A H (X p) N).2.1 (ac A H (X p) N).2.2 m) = zJ66_176 n p en (ac A H (X p) N).1 (ac A H (X p) N).2.1 (ac A H (X p) N).2.2 m := by
        rw [if_neg na]
        by_cases c : (ac A H (X p) N).1 = 1
        · rw [if_pos c, if_pos (nb c)]
        · rw [if_neg c]
      have dead : zJ66_176 n p en (ac A H (X p) N).1 (ac A H (X p) N).2.1 (ac A H (X p) N).2.2 m = some (-1, m) := by
        unfold zJ66_176
        rw [if_pos (by omega)]
        rcases v3 with ⟨d1, d2⟩ | ⟨d1, e, d2, d3⟩
        · rw [if_pos (by omega)]
        · obtain ⟨e', q1, q2, q3, q4, q5⟩ := ac_f1 (A := A) (H := H) (c := X p) N d1
          have : e' = e := by omega
          subst this
          have ax := hA e' (by omega)
          rw [if_pos rfl] at ax
          obtain ⟨w1, _⟩ := m65 (n := n) (by omega) hR hB (A 4 e') p hlo v1 (-1) d3
          rw [if_neg (by omega), if_pos d1, d2, if_neg (by omega), Int.toNat_natCast, ax.2.2.2.2.1, w1]
          dsimp only
          unfold zJ66_209
          rw [if_neg (by decide)]
      rw [zL67_23, if_neg (by omega), if_neg (by omega), e66, show n - 128 = (n - 129) + 1 by omega, zL66_11, if_pos (by decide), go, dead]
      dsimp only
      rw [zL67_23, if_pos (by decide)]
      unfold zJ67_42
      rw [if_neg (by decide), if_neg (by decide)]
      rfl
  | cons x tr ih =>
    obtain ⟨G, p0, v⟩ := x
    intro t H p f r m B hV hP hO hB0 hlo hp hl hf hA hR hT hM hS h40
    obtain ⟨rfl, u1, u2, u3, u4, u5, u6⟩ := hV
    obtain ⟨f, rfl⟩ : ∃ f', f = f' + 1 := ⟨f - 1, by omega⟩
    have hSS := hR.1
    have hb := hB.1
    have hx := hR.2 p0 (by omega)
    have hx0 : 0 < X p0 := by rcases hx.2 with d | d | d <;> omega
    have e66 := m66a (n := n) (by omega) h hO m hA hT p0 en (by omega) (X p0) hx.1 hx.2
    have na : ¬ 1 < (ac A H (X p0) N).1 := fun c => u4 (Or.inl c)
    have nb : (ac A H (X p0) N).1 = 1 → (ac A H (X p0) N).2.1 ≤ 0 := fun c => by
      apply Classical.byContradiction
      intro d
      exact u4 (Or.inr ⟨c, by omega⟩)
    have hr := ac_r (A := A) (H := H) (c := X p0) N
    have go : (if 1 < (ac A H (X p0) N).1 then zJ66_173 n m else if (ac A H (X p0) N).1 = 1 then (if (ac A H (X p0) N).2.1 ≤ 0 then zJ66_176 n p0 en (ac A H (X p0) N).1 (ac A H (X p0) N).2.1 (ac A H (X p0) N).2.2 m else zJ66_173 n m) else zJ66_176 n p0 en (ac A H (X p0) N).1 (ac A H (X p0) N).2.1 (ac A H (X p0) N).2.2 m) = zJ66_176 n p0 en (ac A H (X p0) N).1 (ac A H (X p0) N).2.1 (ac A H (X p0) N).2.2 m := by
      rw [if_neg na]
      by_cases c : (ac A H (X p0) N).1 = 1
      · rw [if_pos c, if_pos (nb c)]
      · rw [if_neg c]
    have hgN : ∀ e : Nat, goes A H (X p0) e → e < N := fun e q => by
      have h1 := q.1
      have he : e ≤ N := by
        apply Classical.byContradiction
        intro d
        have := HO_hi hO e (by omega)
        omega
      by_cases d : e = N
      · subst d
        have q2 := q.2
        unfold bf at q2
        rw [h.2.2.2.1, if_neg (by decide), if_neg (by decide), if_pos rfl] at q2
        omega
      · omega
    have hG : ∀ e : Nat, G e = true → e < N ∧ 0 < (H e).length := by
      intro e he
      rcases u5 with ⟨d1, e0, d2, d3, d4⟩ | ⟨d1, d2, d3, d4⟩
      · obtain ⟨e', q1, q2, q3, q4, q5⟩ := ac_f1 (A := A) (H := H) (c := X p0) N d1
        rw [d4] at he
        have he := of_decide_eq_true he
        have : e' = e := by omega
        subst this
        exact ⟨q1, by omega⟩
      · rw [d4] at he
        have he := of_decide_eq_true he
        exact ⟨hgN e he, he.1⟩
    have s176 : zJ66_176 n p0 en (ac A H (X p0) N).1 (ac A H (X p0) N).2.1 (ac A H (X p0) N).2.2 m = zJ66_209 n p0 (ac A H (X p0) N).1 (ac A H (X p0) N).2.2 v m := by
      unfold zJ66_176
      rw [if_pos (by omega)]
      rcases u5 with ⟨d1, e0, d2, d3, d4⟩ | ⟨d1, d2, d3, d4⟩
      · obtain ⟨e', q1, q2, q3, q4, q5⟩ := ac_f1 (A := A) (H := H) (c := X p0) N d1
        have : e' = e0 := by omega
        subst this
        have ax := hA e' (by omega)
        rw [if_pos rfl] at ax
        obtain ⟨w1, _⟩ := m65 (n := n) (by omega) hR hB (A 4 e') p0 hlo u1 v d3
        rw [if_neg (by omega), if_pos d1, d2, if_neg (by omega), Int.toNat_natCast, ax.2.2.2.2.1, w1]
      · rw [if_neg (by omega), if_neg (by omega), if_pos (by omega), d3, show ((p0 + 1 : Nat) : Int) = (p0 : Int) + 1 by omega]
    obtain ⟨m', c1, c2, c3, c4, c5, c6, c7, c8⟩ := m66c hn h hne G hG p0 (ac A H (X p0) N).1 (ac A H (X p0) N).2.2 v (by omega) (X p0) (by omega) (fun e he => by
      refine ⟨fun q => ?_, fun q => ?_, fun q => ?_⟩
      · rcases u5 with ⟨d1, e0, d2, d3, d4⟩ | ⟨d1, _⟩
        · rw [d2, d4]
          constructor
          · intro w; exact decide_eq_true (by omega)
          · intro w; have := of_decide_eq_true w; omega
        · omega
      · rcases u5 with ⟨d1, _⟩ | ⟨d1, d2, d3, d4⟩
        · exact absurd d1 q
        · rw [d4]
          exact ⟨fun w => decide_eq_true w, fun w => of_decide_eq_true w⟩
      · apply Classical.byContradiction
        intro d
        have := HO_hi hO e (by omega)
        omega) m hA hT hx.1 t.length (by omega) h40
    have w66n : ∀ a k : Nat, a ≠ 83 → (a < 108 ∨ 114 < a) → wl w66 a k = false := fun a k h1 h2 => by
      unfold wl w66
      simp
      omega
    have st : zL67_23 n (f + 1) en p0 m = zL67_23 n f en v m' := by
      rw [zL67_23, if_neg (by omega), if_neg (by omega), e66, show n - 128 = (n - 129) + 1 by omega, zL66_11, if_pos (by decide), go, s176, c1]
    obtain ⟨w, m2, f1, f2⟩ := ih ((H, G, p0, v) :: t) (fun j => Hn A G H j N) v f r m' (B + 20) u6 ⟨rfl, hP⟩ (HO_n h B G H hO hB0 (fun e he => (hG e he).1) N) (by omega) (by omega) (by omega) (by rw [List.length_cons]; omega) (by omega) (AX_k hA (fun a q x y => (c2.1 a q (w66n a q (by omega) (by omega))).1)) ⟨hR.1, fun q hq => by rw [(c2.1 105 q (w66n _ _ (by decide) (by decide))).1]; exact hR.2 q hq⟩ c4 ⟨c5, PM_k t hM (fun q hq => c6 q (by omega))⟩ ⟨c7, PS_k A N t H hS c8⟩ (by rw [c3, List.length_cons]; omega)
    exact ⟨w, m2, by rw [st]; exact f1, f2⟩
end
