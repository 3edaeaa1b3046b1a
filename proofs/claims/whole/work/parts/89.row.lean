/-! A row of a definition (a pattern or a body), token by token: the pure reading that both sides follow. -/
/-- token, depth, open brackets (code, element, place), outer and inner repetition, elements, repetitions, the elements' fields (sort, code, other, separator, mark, outer, inner, place) -/
abbrev RS : Type := Nat × Nat × (Nat → Nat → Int) × Int × Int × Nat × Int × (Nat → Nat → Int)
def r_add (A : Nat → Nat → Int) (n : Nat) (k c m u v p : Int) : Nat → Nat → Int := fun a j => if j = n then (if a = 0 then k else if a = 1 then c else if a = 2 then -1 else if a = 3 then 0 else if a = 4 then m else if a = 5 then u else if a = 6 then v else p) else A a j
def r_set (A : Nat → Nat → Int) (a j : Nat) (x : Int) : Nat → Nat → Int := fun b i => if b = a ∧ i = j then x else A b i
def r_psh (S : Nat → Nat → Int) (d : Nat) (c b p : Int) : Nat → Nat → Int := fun a k => if k = d then (if a = 0 then c else if a = 1 then b else p) else S a k
def r_mk (c : Int) : Int := if c = 42 then 1 else if c = 43 then 2 else 3
def r_kd (c : Int) : Int := if c = 1247 then 1 else if c = 11786 then 2 else if c = 1560 then 3 else if c = 1159 then 4 else 0
/-- the end of a repetition that began at element b -/
def r_end (pat : Bool) (A : Nat → Nat → Int) (n b : Nat) (sp mk u p : Int) : Nat → Nat → Int :=
  let A1 := r_set (r_set (r_add A n 5 0 mk u (-1) p) 2 n b) 3 n sp
  let A2 := r_set A1 2 b n
  if pat = true then r_set (r_set A2 3 b sp) 4 b mk else A2
/-- one part: 0 go on, 1 a fault at the token, 2 the row has ended -/
def rst (pat : Bool) (C : Nat → Int) (s : RS) : Nat × RS :=
  match s with
  | (i, d, S, u, v, n, q, A) =>
    let F := fun j : Nat => ((1, j, d, S, u, v, n, q, A) : Nat × RS)
    if C i ≤ 0 then F i else
    if cls (C i) then
      (if d = 0 then (if C i = (if pat = true then 41 else 125) then (2, i + 1, 0, S, u, v, n + 1, q, r_add A n 6 0 0 u v i) else F i)
      else if C i ≠ clo (S 0 (d - 1)) then F i
      else if S 1 (d - 1) < 0 then (0, i + 1, d - 1, S, u, v, n + 1, q, r_add A n (if pat = true then 2 else 0) (C i) 0 u v i)
      else if C (i + 1) = 42 ∨ C (i + 1) = 43 ∨ C (i + 1) = 63 then
        (0, i + 2, d - 1, S, (if v < 0 then -1 else u), -1, n + 1, q, r_end pat A n (S 1 (d - 1)).toNat 0 (r_mk (C (i + 1))) (if v < 0 then -1 else u) i)
      else if 0 < C (i + 1) ∧ ¬ opn (C (i + 1)) ∧ ¬ cls (C (i + 1)) ∧ C (i + 1) ≠ 36 then
        (if C (i + 2) = 42 ∨ C (i + 2) = 43 then
          (0, i + 3, d - 1, S, (if v < 0 then -1 else u), -1, n + 1, q, r_end pat A n (S 1 (d - 1)).toNat (C (i + 1)) (r_mk (C (i + 2))) (if v < 0 then -1 else u) i)
        else F (i + 2))
      else F (i + 1))
    else if C i = 36 then
      (if wd (C (i + 1)) then
        (if pat = true then
          (if C (i + 2) ≠ 58 then F (i + 2) else
          if knd (C (i + 3)) then (0, i + 4, d, S, u, v, n + 1, q, r_add A n 3 (C (i + 1)) (r_kd (C (i + 3))) u v i) else F (i + 3))
        else (0, i + 2, d, S, u, v, n + 1, q, r_add A n 7 (C (i + 1)) 0 u v i))
      else if C (i + 1) ≠ 40 ∨ 0 ≤ v ∨ (pat = true ∧ 4 ≤ q) ∨ 9 ≤ d then F (i + 1)
      else (0, i + 2, d + 1, r_psh S d 40 n (i + 1 : Nat), (if u < 0 then (n : Int) else u), (if u < 0 then -1 else (n : Int)), n + 1, q + 1, r_add A n 4 0 0 u v i))
    else if opn (C i) then
      (if 9 ≤ d then F i else (0, i + 1, d + 1, r_psh S d (C i) (-1) i, u, v, n + 1, q, r_add A n (if pat = true then 1 else 0) (C i) 0 u v i))
    else (0, i + 1, d, S, u, v, n + 1, q, r_add A n 0 (C i) 0 u v i)
def rrn (pat : Bool) (C : Nat → Int) : Nat → RS → Nat × RS
  | 0, s => (1, s)
  | f + 1, s => if (rst pat C s).1 = 0 then rrn pat C f (rst pat C s).2 else rst pat C s
/-! The reference's arrays of elements. -/
def AX (pat : Bool) (m : ZM) (A : Nat → Nat → Int) (n : Nat) : Prop := ∀ j : Nat, j < n →
  (if pat = true then m.1 90 j = A 0 j ∧ m.1 91 j = A 1 j ∧ m.1 92 j = A 2 j ∧ m.1 93 j = A 3 j ∧ m.1 94 j = A 4 j ∧ m.1 95 j = A 5 j ∧ m.1 96 j = A 6 j
  else m.1 97 j = A 0 j ∧ m.1 98 j = A 1 j ∧ m.1 99 j = A 2 j ∧ m.1 100 j = A 3 j ∧ m.1 101 j = A 5 j ∧ m.1 102 j = A 6 j)
def ca (pat : Bool) : List Nat := if pat = true then [90, 91, 92, 93, 94, 95, 96] else [97, 98, 99, 100, 101, 102]
theorem AX_kp {pat : Bool} {m m' : ZM} {A : Nat → Nat → Int} {n : Nat} {l : List (Nat × Nat)} (h : AX pat m A n) (g : kp (wl l) m m') (hl : ∀ c ∈ ca pat, ∀ k, wl l c k = false) : AX pat m' A n := by
  intro j hj
  have := h j hj
  cases pat with
  | true =>
    simp only [if_true] at this ⊢
    rw [(g.1 90 j (hl 90 (by simp [ca]) j)).1, (g.1 91 j (hl 91 (by simp [ca]) j)).1, (g.1 92 j (hl 92 (by simp [ca]) j)).1, (g.1 93 j (hl 93 (by simp [ca]) j)).1, (g.1 94 j (hl 94 (by simp [ca]) j)).1, (g.1 95 j (hl 95 (by simp [ca]) j)).1, (g.1 96 j (hl 96 (by simp [ca]) j)).1]
    exact this
  | false =>
    simp only [Bool.false_eq_true, if_false] at this ⊢
    rw [(g.1 97 j (hl 97 (by simp [ca]) j)).1, (g.1 98 j (hl 98 (by simp [ca]) j)).1, (g.1 99 j (hl 99 (by simp [ca]) j)).1, (g.1 100 j (hl 100 (by simp [ca]) j)).1, (g.1 101 j (hl 101 (by simp [ca]) j)).1, (g.1 102 j (hl 102 (by simp [ca]) j)).1]
    exact this
theorem ad_p (n N : Nat) (k c mk p : Int) (A : Nat → Nat → Int) (m : ZM) (hN : m.1 83 32 = N) (h128 : N < 128) (h : AX true m A N) :
    ∃ m', zF35 n k c mk m = some ((), m') ∧ AX true m' (r_add A N k c mk (m.1 83 30) (m.1 83 31) p) (N + 1) ∧ m'.1 83 32 = N + 1 ∧ kp (wl w35) m m' := by
  have e : zF35 n k c mk m = some ((), z_i (z_i (z_i (z_i (z_i (z_i (z_i (z_i m 90 N k) 91 N c) 92 N (-1)) 93 N 0) 94 N mk) 95 N (m.1 83 30)) 96 N (m.1 83 31)) 83 32 (N + 1)) := by
    unfold zF35 zJ35_20 zJ35_40 zJ35_63
    simp only [zlet, z_nc _ _ _ _ 83 _ (by decide : (83 : Nat) ≠ 90), z_nc _ _ _ _ 83 _ (by decide : (83 : Nat) ≠ 91), z_nc _ _ _ _ 83 _ (by decide : (83 : Nat) ≠ 92), z_nc _ _ _ _ 83 _ (by decide : (83 : Nat) ≠ 93), z_nc _ _ _ _ 83 _ (by decide : (83 : Nat) ≠ 94), z_nc _ _ _ _ 83 _ (by decide : (83 : Nat) ≠ 95), z_nc _ _ _ _ 83 _ (by decide : (83 : Nat) ≠ 96), hN, Int.toNat_natCast]
    rw [if_neg (by omega), if_neg (by omega), if_neg (by omega), if_neg (by omega), if_neg (by omega), if_neg (by omega), if_neg (by omega), if_pos (by omega)]
  refine ⟨_, e, ?_, by rw [z_eq], zF35_kp n k c mk m _ _ e⟩
  intro j hj
  simp only [if_true]
  by_cases q : j = N
  · subst q
    simp [z_i_rd, r_add]
  · have := h j (by omega)
    simp only [if_true] at this
    simp [z_i_rd, r_add, q, this]
theorem ad_b (n N : Nat) (k c mk p : Int) (A : Nat → Nat → Int) (m : ZM) (hN : m.1 83 32 = N) (h128 : N < 128) (h : AX false m A N) :
    ∃ m', zF36 n k c m = some ((), m') ∧ AX false m' (r_add A N k c mk (m.1 83 30) (m.1 83 31) p) (N + 1) ∧ m'.1 83 32 = N + 1 ∧ kp (wl w36) m m' := by
  have e : zF36 n k c m = some ((), z_i (z_i (z_i (z_i (z_i (z_i (z_i m 97 N k) 98 N c) 99 N (-1)) 100 N 0) 101 N (m.1 83 30)) 102 N (m.1 83 31)) 83 32 (N + 1)) := by
    unfold zF36 zJ36_20 zJ36_40 zJ36_66
    simp only [zlet, z_nc _ _ _ _ 83 _ (by decide : (83 : Nat) ≠ 97), z_nc _ _ _ _ 83 _ (by decide : (83 : Nat) ≠ 98), z_nc _ _ _ _ 83 _ (by decide : (83 : Nat) ≠ 99), z_nc _ _ _ _ 83 _ (by decide : (83 : Nat) ≠ 100), z_nc _ _ _ _ 83 _ (by decide : (83 : Nat) ≠ 101), z_nc _ _ _ _ 83 _ (by decide : (83 : Nat) ≠ 102), hN, Int.toNat_natCast]
    rw [if_neg (by omega), if_neg (by omega), if_neg (by omega), if_neg (by omega), if_neg (by omega), if_neg (by omega), if_pos (by omega)]
  refine ⟨_, e, ?_, by rw [z_eq], zF36_kp n k c m _ _ e⟩
  intro j hj
  simp only [Bool.false_eq_true, if_false]
  by_cases q : j = N
  · subst q
    simp [z_i_rd, r_add]
  · have := h j (by omega)
    simp only [Bool.false_eq_true, if_false] at this
    simp [z_i_rd, r_add, q, this]
/-- the reference reads a row: it stands where the pure reading stands -/
def MR (pat : Bool) (T : Nat → Int) (L : Nat) (s : RS) (m : ZM) : Prop :=
  CU T L s.1 m ∧ m.1 83 27 = s.2.1 ∧ (∀ k : Nat, k < s.2.1 → m.1 103 k = s.2.2.1 0 k ∧ m.1 104 k = s.2.2.1 1 k) ∧ m.1 83 30 = s.2.2.2.1 ∧ m.1 83 31 = s.2.2.2.2.1 ∧ m.1 83 32 = s.2.2.2.2.2.1 ∧ m.1 83 33 = s.2.2.2.2.2.2.1 ∧ AX pat m s.2.2.2.2.2.2.2 s.2.2.2.2.2.1
/-- what the pure reading keeps -/
def RI (s : RS) : Prop := s.2.1 ≤ 9 ∧ s.2.2.2.2.2.1 ≤ s.1 ∧ (∀ k : Nat, k < s.2.1 → -1 ≤ s.2.2.1 1 k ∧ s.2.2.1 1 k < s.2.2.2.2.2.1) ∧ 0 ≤ s.2.2.2.2.2.2.1 ∧ s.2.2.2.2.2.2.1 ≤ s.2.2.2.2.2.1 ∧ -1 ≤ s.2.2.2.1 ∧ s.2.2.2.1 < s.2.2.2.2.2.1 ∧ -1 ≤ s.2.2.2.2.1 ∧ s.2.2.2.2.1 < s.2.2.2.2.2.1 ∧ (s.2.2.2.1 < 0 → s.2.2.2.2.1 < 0)
theorem RI_st (pat : Bool) (C : Nat → Int) (s : RS) (h : RI s) (h0 : (rst pat C s).1 = 0) : RI (rst pat C s).2 := by
  obtain ⟨i, d, S, u, v, n, q, A⟩ := s
  obtain ⟨a1, a2, a3, a4, a5, a6, a7, a8, a9, a10⟩ := h
  dsimp only at a1 a2 a3 a4 a5 a6 a7 a8 a9 a10
  have hk : ∀ (d' : Nat), d' ≤ d → ∀ k : Nat, k < d' → -1 ≤ S 1 k ∧ S 1 k < ((n + 1 : Nat) : Int) := fun d' hd k hk => ⟨(a3 k (by omega)).1, by have := (a3 k (by omega)).2; omega⟩
  have hp : ∀ (c b p : Int), -1 ≤ b → b ≤ n → ∀ k : Nat, k < d + 1 → -1 ≤ r_psh S d c b p 1 k ∧ r_psh S d c b p 1 k < ((n + 1 : Nat) : Int) := by
    intro c b p h1 h2 k hk2
    unfold r_psh
    by_cases e : k = d
    · rw [if_pos e]
      simp
      omega
    · rw [if_neg e]
      have := a3 k (by omega)
      omega
  have hu : -1 ≤ (if v < 0 then -1 else u) ∧ (if v < 0 then -1 else u) < ((n + 1 : Nat) : Int) := by split <;> omega
  unfold rst at h0 ⊢
  dsimp only at h0 ⊢
  by_cases c0 : C i ≤ 0
  · rw [if_pos c0] at h0; cases h0
  rw [if_neg c0] at h0 ⊢
  by_cases c1 : cls (C i)
  · rw [if_pos c1] at h0 ⊢
    by_cases c2 : d = 0
    · rw [if_pos c2] at h0
      by_cases c3 : C i = (if pat = true then 41 else 125)
      · rw [if_pos c3] at h0; cases h0
      · rw [if_neg c3] at h0; cases h0
    rw [if_neg c2] at h0 ⊢
    by_cases c3 : C i ≠ clo (S 0 (d - 1))
    · rw [if_pos c3] at h0; cases h0
    rw [if_neg c3] at h0 ⊢
    by_cases c4 : S 1 (d - 1) < 0
    · rw [if_pos c4] at h0 ⊢
      exact ⟨by show d - 1 ≤ 9; omega, by show n + 1 ≤ i + 1; omega, hk (d - 1) (by omega), a4, by show q ≤ ((n + 1 : Nat) : Int); omega, a6, by show u < ((n + 1 : Nat) : Int); omega, a8, by show v < ((n + 1 : Nat) : Int); omega, a10⟩
    rw [if_neg c4] at h0 ⊢
    by_cases c5 : C (i + 1) = 42 ∨ C (i + 1) = 43 ∨ C (i + 1) = 63
    · rw [if_pos c5] at h0 ⊢
      exact ⟨by show d - 1 ≤ 9; omega, by show n + 1 ≤ i + 2; omega, hk (d - 1) (by omega), a4, by show q ≤ ((n + 1 : Nat) : Int); omega, hu.1, hu.2, by show (-1 : Int) ≤ -1; omega, by show (-1 : Int) < ((n + 1 : Nat) : Int); omega, fun _ => by show (-1 : Int) < 0; omega⟩
    rw [if_neg c5] at h0 ⊢
    by_cases c6 : 0 < C (i + 1) ∧ ¬ opn (C (i + 1)) ∧ ¬ cls (C (i + 1)) ∧ C (i + 1) ≠ 36
    · rw [if_pos c6] at h0 ⊢
      by_cases c7 : C (i + 2) = 42 ∨ C (i + 2) = 43
      · rw [if_pos c7] at h0 ⊢
        exact ⟨by show d - 1 ≤ 9; omega, by show n + 1 ≤ i + 3; omega, hk (d - 1) (by omega), a4, by show q ≤ ((n + 1 : Nat) : Int); omega, hu.1, hu.2, by show (-1 : Int) ≤ -1; omega, by show (-1 : Int) < ((n + 1 : Nat) : Int); omega, fun _ => by show (-1 : Int) < 0; omega⟩
      · rw [if_neg c7] at h0; cases h0
    · rw [if_neg c6] at h0; cases h0
  rw [if_neg c1] at h0 ⊢
  by_cases c2 : C i = 36
  · rw [if_pos c2] at h0 ⊢
    by_cases c3 : wd (C (i + 1))
    · rw [if_pos c3] at h0 ⊢
      by_cases c4 : pat = true
      · rw [if_pos c4] at h0 ⊢
        by_cases c5 : C (i + 2) ≠ 58
        · rw [if_pos c5] at h0; cases h0
        rw [if_neg c5] at h0 ⊢
        by_cases c6 : knd (C (i + 3))
        · rw [if_pos c6] at h0 ⊢
          exact ⟨a1, by show n + 1 ≤ i + 4; omega, hk d (by omega), a4, by show q ≤ ((n + 1 : Nat) : Int); omega, a6, by show u < ((n + 1 : Nat) : Int); omega, a8, by show v < ((n + 1 : Nat) : Int); omega, a10⟩
        · rw [if_neg c6] at h0; cases h0
      · rw [if_neg c4] at h0 ⊢
        exact ⟨a1, by show n + 1 ≤ i + 2; omega, hk d (by omega), a4, by show q ≤ ((n + 1 : Nat) : Int); omega, a6, by show u < ((n + 1 : Nat) : Int); omega, a8, by show v < ((n + 1 : Nat) : Int); omega, a10⟩
    rw [if_neg c3] at h0 ⊢
    by_cases c4 : C (i + 1) ≠ 40 ∨ 0 ≤ v ∨ (pat = true ∧ 4 ≤ q) ∨ 9 ≤ d
    · rw [if_pos c4] at h0; cases h0
    rw [if_neg c4] at h0 ⊢
    have c4' : ¬ 9 ≤ d := fun z => c4 (Or.inr (Or.inr (Or.inr z)))
    refine ⟨by show d + 1 ≤ 9; omega, by show n + 1 ≤ i + 2; omega, hp 40 n _ (by omega) (by omega), by show 0 ≤ q + 1; omega, by show q + 1 ≤ ((n + 1 : Nat) : Int); omega, ?_, ?_, ?_, ?_, ?_⟩
    · show -1 ≤ (if u < 0 then (n : Int) else u)
      split <;> omega
    · show (if u < 0 then (n : Int) else u) < ((n + 1 : Nat) : Int)
      split <;> omega
    · show -1 ≤ (if u < 0 then (-1 : Int) else (n : Int))
      split <;> omega
    · show (if u < 0 then (-1 : Int) else (n : Int)) < ((n + 1 : Nat) : Int)
      split <;> omega
    · show (if u < 0 then (n : Int) else u) < 0 → (if u < 0 then (-1 : Int) else (n : Int)) < 0
      split <;> omega
  rw [if_neg c2] at h0 ⊢
  by_cases c3 : opn (C i)
  · rw [if_pos c3] at h0 ⊢
    by_cases c4 : 9 ≤ d
    · rw [if_pos c4] at h0; cases h0
    rw [if_neg c4] at h0 ⊢
    exact ⟨by show d + 1 ≤ 9; omega, by show n + 1 ≤ i + 1; omega, hp (C i) (-1) _ (by omega) (by omega), a4, by show q ≤ ((n + 1 : Nat) : Int); omega, a6, by show u < ((n + 1 : Nat) : Int); omega, a8, by show v < ((n + 1 : Nat) : Int); omega, a10⟩
  rw [if_neg c3] at h0 ⊢
  exact ⟨a1, by show n + 1 ≤ i + 1; omega, hk d (by omega), a4, by show q ≤ ((n + 1 : Nat) : Int); omega, a6, by show u < ((n + 1 : Nat) : Int); omega, a8, by show v < ((n + 1 : Nat) : Int); omega, a10⟩
