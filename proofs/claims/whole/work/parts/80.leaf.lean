/-! The small methods: what they answer. -/
abbrev wd (c : Int) : Prop := 1000 < c
abbrev nmb (c : Int) : Prop := 300 ≤ c ∧ c < 1000
abbrev opn (c : Int) : Prop := c = 40 ∨ c = 91 ∨ c = 123
abbrev cls (c : Int) : Prop := c = 41 ∨ c = 93 ∨ c = 125
abbrev ltr (c : Int) : Prop := 97 ≤ c ∧ c ≤ 122
abbrev dgt (c : Int) : Prop := 48 ≤ c ∧ c ≤ 57
abbrev sgn (c : Int) : Prop := c = 43 ∨ c = 42 ∨ c = 44 ∨ c = 59 ∨ c = 61 ∨ c = 58 ∨ c = 33 ∨ c = 63 ∨ c = 62 ∨ c = 36
abbrev knd (c : Int) : Prop := c = 1247 ∨ c = 11786 ∨ c = 1560 ∨ c = 1159
def clo (c : Int) : Int := if c = 40 then 41 else if c = 91 then 93 else 125
def bi (p : Prop) [Decidable p] : Int := if p then 1 else 0
theorem bi_0 (p : Prop) [Decidable p] : (bi p = 0) = ¬ p := by
  unfold bi
  by_cases h : p
  · rw [if_pos h]; simp [h]
  · rw [if_neg h]; simp [h]
theorem ib {α : Type} (p : Prop) [Decidable p] (A B : α) : (if bi p = 0 then A else B) = (if p then B else A) := by
  unfold bi
  by_cases h : p
  · simp [h]
  · simp [h]
theorem bi_01 (p : Prop) [Decidable p] : bi p = 0 ∨ bi p = 1 := by
  unfold bi
  by_cases h : p
  · rw [if_pos h]; exact Or.inr rfl
  · rw [if_neg h]; exact Or.inl rfl
theorem bi_p {p : Prop} [Decidable p] (h : p) : bi p = 1 := if_pos h
theorem bi_n {p : Prop} [Decidable p] (h : ¬ p) : bi p = 0 := if_neg h
theorem zF11_eq (n : Nat) (a : Int) (M : ZM) : zF11 n a M = some (bi (wd a), M) := by
  unfold zF11 zJ11_12 bi
  repeat' split
  all_goals first | rfl | omega | (exfalso; omega)
theorem zF12_eq (n : Nat) (a : Int) (M : ZM) : zF12 n a M = some (bi (nmb a), M) := by
  unfold zF12 zJ12_18 zJ12_19 bi
  repeat' split
  all_goals first | rfl | omega | (exfalso; omega)
theorem zF13_eq (n : Nat) (a : Int) (M : ZM) : zF13 n a M = some (bi (opn a), M) := by
  unfold zF13 zJ13_18 zJ13_23 bi
  repeat' split
  all_goals first | rfl | omega | (exfalso; omega)
theorem zF14_eq (n : Nat) (a : Int) (M : ZM) : zF14 n a M = some (bi (cls a), M) := by
  unfold zF14 zJ14_18 zJ14_23 bi
  repeat' split
  all_goals first | rfl | omega | (exfalso; omega)
theorem zF15_eq (n : Nat) (a : Int) (M : ZM) : zF15 n a M = some (bi (a = 42 ∨ a = 43 ∨ a = 63), M) := by
  unfold zF15 zJ15_18 zJ15_23 bi
  repeat' split
  all_goals first | rfl | omega | (exfalso; omega)
theorem zF16_eq (n : Nat) (a : Int) (M : ZM) : zF16 n a M = some (bi (knd a), M) := by
  unfold zF16 zJ16_28 zJ16_33 bi
  repeat' split
  all_goals first | rfl | omega | (exfalso; omega)
theorem zF17_eq (n : Nat) (a : Int) (M : ZM) : zF17 n a M = some (clo a, M) := by
  unfold zF17 zJ17_24 clo
  repeat' split
  all_goals rfl
theorem zF19_eq (n : Nat) (a b c : Int) (M : ZM) : zF19 n a b c M = some (bi (b ≤ a ∧ a ≤ c), M) := by
  unfold zF19 zJ19_14 zJ19_15 bi
  repeat' split
  all_goals first | rfl | omega | (exfalso; omega)
theorem zF21_eq (n : Nat) (a : Int) (M : ZM) : zF21 n a M = some (bi (opn a), M) := by
  unfold zF21 zJ21_18 zJ21_23 bi
  repeat' split
  all_goals first | rfl | omega | (exfalso; omega)
theorem zF22_eq (n : Nat) (a : Int) (M : ZM) : zF22 n a M = some (bi (cls a), M) := by
  unfold zF22 zJ22_18 zJ22_23 bi
  repeat' split
  all_goals first | rfl | omega | (exfalso; omega)
theorem zF23_eq (n : Nat) (a : Int) (M : ZM) : zF23 n a M = some (clo a, M) := by
  unfold zF23 zJ23_24 clo
  repeat' split
  all_goals rfl
theorem zF24_eq (n : Nat) (a : Int) (M : ZM) : zF24 n a M = some (bi (sgn a), M) := by
  unfold zF24 zJ24_30 zJ24_64 zJ24_60 zJ24_65 bi
  repeat' split
  all_goals first | rfl | omega | (exfalso; omega)
theorem zF25_eq (n : Nat) (a : Int) (M : ZM) : zF25 n a M = some (bi (ltr a), M) := by
  unfold zF25
  rw [zF19_eq]
  dsimp only
  rw [if_pos (bi_01 _)]
theorem zF26_eq (n : Nat) (a : Int) (M : ZM) : zF26 n a M = some (bi (dgt a), M) := by
  unfold zF26
  rw [zF19_eq]
  dsimp only
  rw [if_pos (bi_01 _)]
theorem zF205_eq (n : Nat) (a : Int) (M : ZM) : zF205 n a M = some (bi (ltr a), M) := by
  unfold zF205 zJ205_16 zJ205_17 bi
  repeat' split
  all_goals first | rfl | omega | (exfalso; omega)
theorem zF206_eq (n : Nat) (a : Int) (M : ZM) : zF206 n a M = some (bi (dgt a), M) := by
  unfold zF206 zJ206_16 zJ206_17 bi
  repeat' split
  all_goals first | rfl | omega | (exfalso; omega)
theorem zF31_eq (n : Nat) (a : Int) (M : ZM) : zF31 n a M = some (bi (3 ≤ M.1 83 4 ∧ M.1 83 4 ≤ 5 ∧ M.1 83 5 = a), M) := by
  unfold zF31 zJ31_24 zJ31_28 zJ31_29 bi
  repeat' split
  all_goals first | rfl | omega | (exfalso; omega)
theorem zF27_eq (n : Nat) (a b c : Int) (M : ZM) (h : 0 ≤ a ∧ a ≤ 26) (h2 : 0 ≤ b ∧ b ≤ 26) (h3 : 0 ≤ c ∧ c ≤ 26) : zF27 n a b c M = some (1000 + (if 0 < c then (a * 27 + b) * 27 + c else if 0 < b then a * 27 + b else a), M) := by
  unfold zF27 zJ27_35
  repeat' split
  all_goals first | rfl | omega | (exfalso; omega)
theorem zF41_eq (n : Nat) (a : Int) (M : ZM) : zF41 n a M = some (if a = 1247 then 1 else if a = 11786 then 2 else if a = 1560 then 3 else if a = 1159 then 4 else 0, M) := by
  unfold zF41 zJ41_32 zJ41_28 zJ41_59 zJ41_63 zJ41_64
  rw [zF27_eq _ _ _ _ _ (by decide) (by decide) (by decide)]
  dsimp only
  rw [zF27_eq _ _ _ _ _ (by decide) (by decide) (by decide)]
  dsimp only
  rw [zF27_eq _ _ _ _ _ (by decide) (by decide) (by decide)]
  dsimp only
  rw [zF27_eq _ _ _ _ _ (by decide) (by decide) (by decide)]
  dsimp only
  repeat' split
  all_goals first | rfl | omega | (exfalso; omega)
theorem zF56_eq (n : Nat) (a b : Int) (M : ZM) : zF56 n a b M = some (if a < 0 then 0 else if b < 0 then 1 else 2, M) := by
  unfold zF56 zJ56_17
  repeat' split
  all_goals first | rfl | omega | (exfalso; omega)
theorem zF64_eq (n : Nat) (a c : Int) (M : ZM) : zF64 n a c M = some (bi ((a = 1 ∧ 1000 ≤ c) ∨ (a = 2 ∧ nmb c) ∨ (a = 3 ∧ ¬ cls c) ∨ (a ≠ 1 ∧ a ≠ 2 ∧ a ≠ 3 ∧ (300 ≤ c ∨ c = 40))), M) := by
  unfold zF64
  rw [zF22_eq]
  dsimp only
  rw [ib]
  unfold zJ64_55 zJ64_59 zJ64_76 zJ64_80 zJ64_81 zJ64_41 zJ64_42 zJ64_17 bi
  repeat' split
  all_goals first | rfl | omega | (exfalso; omega)
theorem zF29_eq (n : Nat) (M : ZM) : zF29 n M = some (0, z_i M 83 8 (M.1 83 6)) := rfl
theorem zF4_eq (n : Nat) (M : ZM) : zF4 n M = some (M.1 0 5, M) := rfl
theorem zF59_eq (n : Nat) (M : ZM) : zF59 n M = some (M.1 83 9, M) := rfl
theorem zF9_eq (n : Nat) (M : ZM) : zF9 n M = some (M.1 12 6, M) := rfl
theorem zF87_eq (n : Nat) (M : ZM) : zF87 n M = some (M.1 83 38, M) := rfl
theorem zF108_eq (n b : Nat) (M : ZM) : zF108 n b M = some (M.1 b 7, M) := rfl
theorem zF170_eq (n b : Nat) (a : Int) (M : ZM) (h : M.1 b 2 ≤ 150) : zF170 n b a M = some (if 0 ≤ a ∧ a < M.1 b 2 then M.1 (b + 1) (Int.toNat a) else -1, M) := by
  unfold zF170 zJ170_21 zJ170_22
  repeat' split
  all_goals first | rfl | omega | (exfalso; omega)
theorem zF171_eq (n b : Nat) (a : Int) (M : ZM) (h : M.1 b 2 ≤ 150) : zF171 n b a M = some (if 0 ≤ a ∧ a < M.1 b 2 then M.1 (b + 2) (Int.toNat a) else -1, M) := by
  unfold zF171 zJ171_21 zJ171_22
  repeat' split
  all_goals first | rfl | omega | (exfalso; omega)
theorem zF109_eq (n b : Nat) (a : Int) (M : ZM) (h : M.1 b 6 ≤ 120) : zF109 n b a M = some (if 0 ≤ a ∧ a < M.1 b 6 then M.1 (b + 1) (Int.toNat a) else -1, M) := by
  unfold zF109 zJ109_21 zJ109_22
  repeat' split
  all_goals first | rfl | omega | (exfalso; omega)
theorem zF110_eq (n b : Nat) (a : Int) (M : ZM) (h : M.1 b 6 ≤ 120) : zF110 n b a M = some (if 0 ≤ a ∧ a < M.1 b 6 then M.1 (b + 2) (Int.toNat a) else -1, M) := by
  unfold zF110 zJ110_21 zJ110_22
  repeat' split
  all_goals first | rfl | omega | (exfalso; omega)
theorem zF121_eq (n b : Nat) (a : Int) (M : ZM) (h : M.1 b 6 ≤ 120) : zF121 n b a M = some (if 0 ≤ a ∧ a < M.1 b 6 then M.1 (b + 3) (Int.toNat a) else -1, M) := by
  unfold zF121 zJ121_21 zJ121_22
  repeat' split
  all_goals first | rfl | omega | (exfalso; omega)
theorem zF136_eq (n : Nat) (M : ZM) {r : Nat} (h : M.2.1 12 4 = some r) (hr : isR r) : zF136 n M = some (some r, M) := by
  unfold zF136
  rw [h]
  dsimp only
  rw [if_pos hr]
theorem zF6_eq (n : Nat) (a : Int) (M : ZM) {r : Nat} (h : M.2.1 12 4 = some r) (hr : isR r) (hs : M.1 r 2 ≤ 150) : zF6 n a M = some (if 0 ≤ a ∧ a < M.1 r 2 then M.1 (r + 1) (Int.toNat a) else -1, M) := by
  unfold zF6
  rw [zF136_eq n M h hr]
  dsimp only
  rw [if_pos hr, zF170_eq n r a M hs]
theorem zF7_eq (n : Nat) (a : Int) (M : ZM) {r : Nat} (h : M.2.1 12 4 = some r) (hr : isR r) (hs : M.1 r 2 ≤ 150) : zF7 n a M = some (if 0 ≤ a ∧ a < M.1 r 2 then M.1 (r + 2) (Int.toNat a) else -1, M) := by
  unfold zF7
  rw [zF136_eq n M h hr]
  dsimp only
  rw [if_pos hr, zF171_eq n r a M hs]
theorem zF83_eq (n : Nat) (a : Int) (M : ZM) (h0 : 0 ≤ M.1 83 37) (hs : M.1 83 37 ≤ 150) : zF83 n a M = some (if 0 ≤ a ∧ a < M.1 83 37 then M.1 105 (Int.toNat a) else -1, M) := by
  unfold zF83 zJ83_24
  rw [if_pos (by omega), zF19_eq]
  dsimp only
  rw [ib]
  repeat' split
  all_goals first | rfl | omega | (exfalso; omega)
theorem zF84_eq (n : Nat) (a : Int) (M : ZM) (h0 : 0 ≤ M.1 83 37) (hs : M.1 83 37 ≤ 150) : zF84 n a M = some (if 0 ≤ a ∧ a < M.1 83 37 then M.1 106 (Int.toNat a) else -1, M) := by
  unfold zF84 zJ84_24
  rw [if_pos (by omega), zF19_eq]
  dsimp only
  rw [ib]
  repeat' split
  all_goals first | rfl | omega | (exfalso; omega)
theorem zF138_eq (n : Nat) (a : Int) (M : ZM) (h : M.1 12 6 ≤ 10) : zF138 n a M = some (if 1 ≤ a ∧ a ≤ M.1 12 6 then M.1 33 (Int.toNat (a - 1)) else -1, M) := by
  unfold zF138 zJ138_24 zJ138_25
  repeat' split
  all_goals first | rfl | omega | (exfalso; omega)
theorem zF10_eq (n : Nat) (a : Int) (M : ZM) (h : M.1 12 6 ≤ 10) : zF10 n a M = some (if 1 ≤ a ∧ a ≤ M.1 12 6 then M.1 33 (Int.toNat (a - 1)) else -1, M) := by
  unfold zF10
  rw [zF138_eq n a M h]
theorem zF88_eq (n : Nat) (a : Int) (M : ZM) (h : M.1 83 38 ≤ 10) : zF88 n a M = some (if 1 ≤ a ∧ a ≤ M.1 83 38 then M.1 107 (Int.toNat a) else -1, M) := by
  unfold zF88 zJ88_22
  rw [zF19_eq]
  dsimp only
  rw [ib]
  repeat' split
  all_goals first | rfl | omega | (exfalso; omega)
theorem m_pl_d {d : Nat} (h : d < 6) : m_pl d = some (41 + 7 * d) ∧ isD (41 + 7 * d) := by
  rcases (show d = 0 ∨ d = 1 ∨ d = 2 ∨ d = 3 ∨ d = 4 ∨ d = 5 by omega) with rfl | rfl | rfl | rfl | rfl | rfl <;> exact ⟨rfl, by decide⟩
theorem zF5_eq (n : Nat) (a : Int) (M : ZM) (h : M.1 0 5 ≤ 6) : zF5 n a M = some (if 0 ≤ a ∧ a < M.1 0 5 then M.1 (41 + 7 * Int.toNat a) 7 else -1, M) := by
  unfold zF5 zJ5_24 zJ5_25
  by_cases h0 : a < 0
  · rw [if_pos h0, if_neg (by omega)]
  · rw [if_neg h0]
    by_cases h1 : M.1 0 5 ≤ a
    · rw [if_pos h1, if_neg (by omega)]
    · rw [if_neg h1, if_neg (by omega), if_pos (by omega)]
      obtain ⟨e1, e2⟩ := m_pl_d (d := Int.toNat a) (by omega)
      rw [e1]
      dsimp only
      rw [if_pos e2, zF108_eq]
theorem zF60_eq (n : Nat) (a : Int) (M : ZM) (h0 : 0 ≤ M.1 83 9) (h : M.1 83 9 ≤ 6) : zF60 n a M = some (if 0 ≤ a ∧ a < M.1 83 9 then M.1 89 (Int.toNat a) else -1, M) := by
  unfold zF60 zJ60_24
  rw [if_pos (by omega), zF19_eq]
  dsimp only
  rw [ib]
  repeat' split
  all_goals first | rfl | omega | (exfalso; omega)
