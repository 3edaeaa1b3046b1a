/-! token, mark, means: what both sides show of the outcome. -/
abbrev vt (c : Int) : Prop := (1000 < c ∧ c < 40000) ∨ (300 ≤ c ∧ c < 400) ∨ (33 ≤ c ∧ c ≤ 125)
/-- the outcome: row r of the class (s the spare one), token and marked of the reference -/
def RW (m : ZM) (r s : Nat) : Prop := ((r = 34 ∧ s = 37) ∨ (r = 37 ∧ s = 34)) ∧ m.2.1 12 4 = some r ∧ m.2.1 12 5 = some s ∧ 0 ≤ m.1 r 2 ∧ m.1 r 2 ≤ 150 ∧ m.1 83 37 = m.1 r 2 ∧
  ∀ k : Nat, (k : Int) < m.1 r 2 → m.1 (r + 1) k = m.1 105 k ∧ m.1 (r + 2) k = m.1 106 k ∧ vt (m.1 105 k)
theorem RW_r {m : ZM} {r s : Nat} (h : RW m r s) : isR r := by
  rcases h.1 with ⟨h, _⟩ | ⟨h, _⟩
  · exact Or.inl h
  · exact Or.inr h
theorem RW_tok {m : ZM} {r s : Nat} (h : RW m r s) (n : Nat) (a : Int) : ∃ v, zF6 n a m = some (v, m) ∧ zF83 n a m = some (v, m) := by
  have hr := RW_r h
  obtain ⟨h1, h2, h3, h4, h5, h6, h7⟩ := h
  refine ⟨_, zF6_eq n a m h2 hr h5, ?_⟩
  rw [zF83_eq n a m (by omega) (by omega), h6]
  by_cases q : 0 ≤ a ∧ a < m.1 r 2
  · rw [if_pos q, if_pos q, (h7 (Int.toNat a) (by omega)).1]
  · rw [if_neg q, if_neg q]
theorem RW_mark {m : ZM} {r s : Nat} (h : RW m r s) (n : Nat) (a : Int) : ∃ v, zF7 n a m = some (v, m) ∧ zF84 n a m = some (v, m) := by
  have hr := RW_r h
  obtain ⟨h1, h2, h3, h4, h5, h6, h7⟩ := h
  refine ⟨_, zF7_eq n a m h2 hr h5, ?_⟩
  rw [zF84_eq n a m (by omega) (by omega), h6]
  by_cases q : 0 ≤ a ∧ a < m.1 r 2
  · rw [if_pos q, if_pos q, (h7 (Int.toNat a) (by omega)).2.1]
  · rw [if_neg q, if_neg q]
/-- a binder stands there -/
def bnd (t : Nat → Int) (j : Nat) : Prop := wd (t j) ∧ 0 < j ∧ t (j - 1) = 9903
def mns (t k : Nat → Int) (a : Nat) : Nat → Nat → Int
  | 0, _ => -1
  | j + 1, d => if cls (t j) then mns t k a j (d + 1) else if opn (t j) then mns t k a j (d - 1) else if d = 0 ∧ t j = t a ∧ k j = k a ∧ wd (t j) ∧ 0 < j ∧ t (j - 1) = 9903 then j else mns t k a j d
theorem zF175_eq (n b : Nat) (a : Nat) (m : ZM) (h : m.1 b 2 ≤ 150) (ha : (a : Int) < m.1 b 2) : zF175 n b a m = some (bi (wd (m.1 (b + 1) a) ∧ 0 < a ∧ m.1 (b + 1) (a - 1) = 9903), m) := by
  unfold zF175
  rw [zF170_eq n b a m h, if_pos (by omega)]
  dsimp only
  rw [zF11_eq]
  dsimp only
  rw [ib, Int.toNat_natCast]
  by_cases q : wd (m.1 (b + 1) a)
  · rw [if_pos q, if_pos (by omega), zF170_eq n b _ m h]
    dsimp only
    by_cases q2 : 0 < a
    · rw [if_pos (show 0 ≤ (a : Int) - 1 ∧ (a : Int) - 1 < m.1 b 2 by omega), show Int.toNat ((a : Int) - 1) = a - 1 by omega]
      by_cases q3 : m.1 (b + 1) (a - 1) = 9903
      · rw [if_pos q3, bi_p ⟨q, q2, q3⟩]; rfl
      · rw [if_neg q3, bi_n (fun z => q3 z.2.2)]; rfl
    · rw [if_neg (show ¬ (0 ≤ (a : Int) - 1 ∧ (a : Int) - 1 < m.1 b 2) by omega), if_neg (by decide), bi_n (fun z => q2 z.2.1)]; rfl
  · rw [if_neg q, bi_n (fun z => q z.1)]; rfl
theorem zF176_eq (n b : Nat) (i a : Nat) (m : ZM) (h : m.1 b 2 ≤ 150) (hi : (i : Int) < m.1 b 2) (ha : (a : Int) < m.1 b 2) : zF176 n b i a m = some (bi (m.1 (b + 1) i = m.1 (b + 1) a ∧ m.1 (b + 2) i = m.1 (b + 2) a), m) := by
  unfold zF176
  rw [zF170_eq n b i m h, if_pos (by omega)]
  dsimp only
  rw [zF170_eq n b a m h, if_pos (by omega)]
  dsimp only
  rw [Int.toNat_natCast, Int.toNat_natCast]
  by_cases q : m.1 (b + 1) i = m.1 (b + 1) a
  · rw [if_pos q]
    unfold zJ176_13
    rw [zF171_eq n b i m h, if_pos (by omega)]
    dsimp only
    rw [zF171_eq n b a m h, if_pos (by omega)]
    dsimp only
    rw [Int.toNat_natCast, Int.toNat_natCast]
    by_cases q2 : m.1 (b + 2) i = m.1 (b + 2) a
    · rw [if_pos q2, bi_p ⟨q, q2⟩]; rfl
    · rw [if_neg q2, bi_n (fun z => q2 z.2)]; rfl
  · rw [if_neg q, bi_n (fun z => q z.1)]; rfl
theorem mns_c (n b a : Nat) (m : ZM) (t k : Nat → Int) (h : m.1 b 2 ≤ 150) (ha : (a : Int) < m.1 b 2) (ht : ∀ i : Nat, (i : Int) < m.1 b 2 → m.1 (b + 1) i = t i ∧ m.1 (b + 2) i = k i) :
    ∀ (f j d : Nat), j ≤ a → j < f → d + j ≤ 150 → zL174_29 n b f a d ((j : Int) - 1) m = some (mns t k a j d, m) := by
  intro f
  induction f with
  | zero => intro j d _ hf; exact absurd hf (by omega)
  | succ f ih =>
    intro j d hj hf hd
    rw [zL174_29]
    cases j with
    | zero => rw [if_pos (by omega)]; rfl
    | succ j =>
      rw [if_neg (by omega), if_neg (by omega), show Int.toNat (((j + 1 : Nat) : Int) - 1) = j by omega, (ht j (by omega)).1, zF14_eq]
      dsimp only
      rw [ib, mns]
      have ihx : ∀ d' : Nat, d' + j ≤ 150 → zL174_29 n b f a d' (((j + 1 : Nat) : Int) - 1 + (-1)) m = some (mns t k a j d', m) := by
        intro d' hd'
        rw [show (((j + 1 : Nat) : Int) - 1 + (-1)) = (j : Int) - 1 by omega]
        exact ih j d' (by omega) (by omega) hd'
      have go : ∀ d' : Nat, d' + j ≤ 150 → zJ174_97 n b (zL174_29 n b f) a d' (((j + 1 : Nat) : Int) - 1) m = some (mns t k a j d', m) := by
        intro d' hd'
        unfold zJ174_97
        rw [if_pos (by omega)]
        exact ihx d' hd'
      by_cases q : cls (t j)
      · rw [if_pos q, if_pos q]
        unfold zJ174_45
        rw [if_pos (by omega)]
        have := go (d + 1) (by omega)
        rw [Int.natCast_add] at this
        exact this
      · rw [if_neg q, if_neg q]
        unfold zJ174_51
        rw [if_neg (by omega), show Int.toNat (((j + 1 : Nat) : Int) - 1) = j by omega, (ht j (by omega)).1, zF13_eq]
        dsimp only
        rw [ib]
        by_cases q2 : opn (t j)
        · rw [if_pos q2, if_pos q2, if_pos (by omega)]
          have := go (d - 1) (by omega)
          rw [show (if 0 < (d : Int) - 1 then (d : Int) - 1 else 0) = ((d - 1 : Nat) : Int) by split <;> omega]
          exact this
        · rw [if_neg q2, if_neg q2]
          by_cases q3 : d = 0
          · rw [if_pos (by omega)]
            unfold zJ174_78
            rw [show (((j + 1 : Nat) : Int) - 1) = (j : Int) by omega] at go ⊢
            rw [zF176_eq n b j a m h (by omega) ha]
            dsimp only
            rw [ib, (ht j (by omega)).1, (ht a ha).1, (ht j (by omega)).2, (ht a ha).2]
            by_cases q4 : t j = t a ∧ k j = k a
            · rw [if_pos q4, zF175_eq n b j m h (by omega)]
              dsimp only
              rw [ib, (ht j (by omega)).1, (ht (j - 1) (by omega)).1]
              by_cases q5 : wd (t j) ∧ 0 < j ∧ t (j - 1) = 9903
              · rw [if_pos q5, if_pos ⟨q3, q4.1, q4.2, q5⟩]; rfl
              · rw [if_neg q5, if_neg (fun z => q5 z.2.2.2)]
                exact go d (by omega)
            · rw [if_neg q4, if_neg (fun z => q4 ⟨z.2.1, z.2.2.1⟩)]
              exact go d (by omega)
          · rw [if_neg (by omega), if_neg (fun z => q3 z.1)]
            exact go d (by omega)
theorem zF85_eq (n : Nat) (a : Nat) (m : ZM) (ha : a < 150) (hv : vt (m.1 105 a)) : zF85 n a m = some (bi (wd (m.1 105 a) ∧ 0 < a ∧ m.1 105 (a - 1) = 9903), m) := by
  unfold zF85
  rw [if_neg (by omega), Int.toNat_natCast]
  by_cases q : wd (m.1 105 a)
  · rw [if_neg (by omega)]
    by_cases q2 : 0 < a
    · rw [if_neg (by omega), if_pos (by omega), if_neg (by omega), zF27_eq _ _ _ _ _ (by decide) (by decide) (by decide)]
      dsimp only
      rw [show Int.toNat ((a : Int) - 1) = a - 1 by omega]
      by_cases q3 : m.1 105 (a - 1) = 9903
      · rw [if_pos (by rw [q3]; rfl), bi_p ⟨q, q2, q3⟩]; rfl
      · rw [if_neg (fun z => q3 (z.trans rfl)), bi_n (fun z => q3 z.2.2)]; rfl
    · rw [if_pos (by omega), bi_n (fun z => q2 z.2.1)]; rfl
  · rw [if_pos (by omega), bi_n (fun z => q z.1)]; rfl
theorem mns_m (n a : Nat) (m : ZM) (ha : a < 150) (hv : ∀ i : Nat, i ≤ a → vt (m.1 105 i)) :
    ∀ (f j d : Nat), j ≤ a → j + 1 < f → d + j ≤ 150 → zL86_47 n f a (-1) d ((j : Int) - 1) m = some (mns (m.1 105) (m.1 106) a j d, m) := by
  intro f
  induction f with
  | zero => intro j d _ hf; exact absurd hf (by omega)
  | succ f ih =>
    intro j d hj hf hd
    rw [zL86_47]
    cases j with
    | zero => rw [if_pos (by omega)]; rfl
    | succ j =>
      rw [if_neg (by omega), if_neg (by omega), if_neg (by omega), show Int.toNat (((j + 1 : Nat) : Int) - 1) = j by omega, zF22_eq]
      dsimp only
      rw [ib, mns]
      rw [show (((j + 1 : Nat) : Int) - 1) = (j : Int) by omega]
      have go : ∀ d' : Nat, d' + j ≤ 150 → zJ86_149 n (zL86_47 n f) a (-1) d' j m = some (mns (m.1 105) (m.1 106) a j d', m) := by
        intro d' hd'
        unfold zJ86_149 zJ86_150 zJ86_163
        rw [if_pos rfl, if_pos (by omega)]
        exact ih j d' (by omega) (by omega) hd'
      have hit : ∀ d' : Nat, zJ86_150 n (zL86_47 n f) a (-1) d' j 1 m = some ((j : Int), m) := by
        intro d'
        unfold zJ86_150 zJ86_163
        rw [if_neg (by decide), if_pos (by omega)]
        obtain ⟨f, rfl⟩ : ∃ q, f = q + 1 := ⟨f - 1, by omega⟩
        rw [zL86_47]
        by_cases q : (j : Int) + -1 < 0
        · rw [if_pos q]; rfl
        · rw [if_neg q, if_pos (by omega)]; rfl
      have at0 : ∀ d' : Nat, d' + j ≤ 150 → (¬ wd (m.1 105 j) ∨ d' ≠ 0 → zJ86_99 n (zL86_47 n f) a (-1) j d' m = some (mns (m.1 105) (m.1 106) a j d', m)) := by
        intro d' hd' hn
        unfold zJ86_99
        by_cases q : d' = 0
        · rw [if_pos (by omega), zF85_eq n j m (by omega) (hv j (by omega))]
          dsimp only
          rw [ib, if_neg (fun z => by omega)]
          exact go d' hd'
        · rw [if_neg (by omega)]
          exact go d' hd'
      by_cases q : cls (m.1 105 j)
      · rw [if_pos q, if_pos q]
        unfold zJ86_69
        rw [if_pos (by omega)]
        have := at0 (d + 1) (by omega) (Or.inr (by omega))
        rw [Int.natCast_add] at this
        exact this
      · rw [if_neg q, if_neg q]
        unfold zJ86_75
        rw [if_neg (by omega), Int.toNat_natCast, zF21_eq]
        dsimp only
        rw [ib]
        by_cases q2 : opn (m.1 105 j)
        · rw [if_pos q2, if_pos q2]
          by_cases q3 : d = 0
          · rw [if_pos (by omega)]
            subst q3
            exact at0 0 (by omega) (Or.inl (by omega))
          · rw [if_neg (by omega)]
            unfold zJ86_92
            rw [if_pos (by omega)]
            have := at0 (d - 1) (by omega) (Or.inl (by omega))
            rw [show (d : Int) - 1 = ((d - 1 : Nat) : Int) by omega]
            exact this
        · rw [if_neg q2, if_neg q2]
          unfold zJ86_98
          by_cases q3 : d = 0
          · subst q3
            by_cases q5 : wd (m.1 105 j) ∧ 0 < j ∧ m.1 105 (j - 1) = 9903
            · unfold zJ86_99
              rw [if_pos (by omega), zF85_eq n j m (by omega) (hv j (by omega))]
              dsimp only
              rw [ib, if_pos q5, if_neg (by omega), if_neg (by omega), Int.toNat_natCast, Int.toNat_natCast]
              by_cases q4 : m.1 105 j = m.1 105 a
              · rw [if_pos q4]
                unfold zJ86_129
                rw [if_neg (by omega), if_neg (by omega), Int.toNat_natCast, Int.toNat_natCast]
                by_cases q6 : m.1 106 j = m.1 106 a
                · rw [if_pos q6, if_pos ⟨rfl, q4, q6, q5⟩]
                  exact hit 0
                · rw [if_neg q6, if_neg (fun z => q6 z.2.2.1)]
                  exact go 0 (by omega)
              · rw [if_neg q4, if_neg (fun z => q4 z.2.1)]
                exact go 0 (by omega)
            · rw [if_neg (fun z => q5 z.2.2.2)]
              unfold zJ86_99
              rw [if_pos (by omega), zF85_eq n j m (by omega) (hv j (by omega))]
              dsimp only
              rw [ib, if_neg q5]
              exact go 0 (by omega)
          · rw [if_neg (fun z => q3 z.1)]
            exact at0 d (by omega) (Or.inr q3)
theorem RW_means {m : ZM} {r s : Nat} (h : RW m r s) (n : Nat) (hn : 200 ≤ n) (a : Int) : ∃ v, zF8 n a m = some (v, m) ∧ zF86 n a m = some (v, m) := by
  have hr := RW_r h
  obtain ⟨h1, h2, h3, h4, h5, h6, h7⟩ := h
  unfold zF8
  rw [zF136_eq n m h2 hr]
  dsimp only
  rw [if_pos hr]
  unfold zF174 zF86
  rw [zF170_eq n r a m h5, if_pos (show rg (m.1 83 37 - 1) by omega), zF19_eq]
  dsimp only
  rw [zF11_eq, ib]
  dsimp only
  rw [ib]
  by_cases q : 0 ≤ a ∧ a < m.1 r 2
  · obtain ⟨a, rfl⟩ : ∃ j : Nat, a = j := ⟨a.toNat, by omega⟩
    have hv := (h7 a (by omega)).2.2
    rw [if_pos (show 0 ≤ (a : Int) ∧ (a : Int) ≤ m.1 83 37 - 1 by omega), if_neg (show ¬ ((a : Int) < 0 ∨ 320 ≤ (a : Int)) by omega), if_pos q, Int.toNat_natCast, (h7 a (by omega)).1]
    by_cases q1 : wd (m.1 105 a)
    · rw [if_pos q1, if_pos (by omega), zF175_eq n r a m h5 (by omega)]
      unfold zJ86_28
      rw [zF85_eq n a m (by omega) hv]
      dsimp only
      rw [ib, ib, (h7 a (by omega)).1]
      have e : m.1 (r + 1) (a - 1) = m.1 105 (a - 1) := (h7 (a - 1) (by omega)).1
      rw [e]
      by_cases q2 : wd (m.1 105 a) ∧ 0 < a ∧ m.1 105 (a - 1) = 9903
      · rw [if_pos q2, if_pos q2]
        exact ⟨_, rfl, rfl⟩
      · rw [if_neg q2, if_neg q2]
        unfold zJ174_23
        rw [if_pos (by omega), if_pos (by omega)]
        have x1 := mns_c n r a m (m.1 105) (m.1 106) h5 (by omega) (fun i hi => ⟨(h7 i hi).1, (h7 i hi).2.1⟩) n a 0 (by omega) (by omega) (by omega)
        have x2 := mns_m n a m (by omega) (fun i hi => (h7 i (by omega)).2.2) n a 0 (by omega) (by omega) (by omega)
        refine ⟨_, ?_, x2⟩
        have x3 : zL174_29 n r n a 0 ((a : Int) - 1) m = some (mns (m.1 105) (m.1 106) a a 0, m) := x1
        rw [x3]
    · rw [if_neg q1, if_neg (by omega)]
      exact ⟨_, rfl, rfl⟩
  · rw [if_neg (show ¬ (0 ≤ a ∧ a ≤ m.1 83 37 - 1) by omega), if_neg q, if_neg (by decide)]
    exact ⟨_, rfl, rfl⟩
