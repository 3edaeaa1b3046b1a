/-! The cells behind the constructors as numbers: ints (cell, place), references that change, the one array of longs. -/
abbrev Mem : Type := (Nat → Nat → Int32) × (Nat → Nat → Option Nat) × (Nat → Int64)
def m_cell (i : Nat) (s : Nat → Int32) (r : Nat → Option Nat) : va_E := if i < 129 then (if i < 64 then (if i < 32 then (if i < 16 then (if i < 8 then (if i < 4 then (if i < 2 then (if i < 1 then (.inr (0, [.ref 1, .ref 3, .ref 7, .ref 12, .ref 40, .int (s 5)])) else (.inr (10, [.ref 2, .int (s 1), .int (s 2), .int (s 3)]))) else (if i < 3 then (.inl (0, 120, .inl s)) else (.inr (3, [.ref 4, va_rf (r 1), .int (s 2), .int (s 3), .int (s 4), .int (s 5), .int (s 6), .int (s 7)])))) else (if i < 6 then (if i < 5 then (.inr (6, [.ref 5, .ref 6, .int (s 2)])) else (.inl (0, 10, .inl s))) else (if i < 7 then (.inl (0, 10, .inl s)) else (.inr (1, [.ref 8]))))) else (if i < 12 then (if i < 10 then (if i < 9 then (.inr (9, [.ref 9, .ref 10, .ref 11, .int (s 3), va_rf (r 4)])) else (.inl (0, 120, .inl s))) else (if i < 11 then (.inl (0, 480, .inl s)) else (.inl (0, 4, .inl s)))) else (if i < 14 then (if i < 13 then (.inr (4, [.ref 13, .ref 16, .ref 31, .ref 33, va_rf (r 4), va_rf (r 5), .int (s 6)])) else (.inr (6, [.ref 14, .ref 15, .int (s 2)]))) else (if i < 15 then (.inl (0, 10, .inl s)) else (.inl (0, 10, .inl s)))))) else (if i < 24 then (if i < 20 then (if i < 18 then (if i < 17 then (.inr (5, [.ref 17, va_rf (r 1), va_rf (r 2), va_rf (r 3), .int (s 4), .int (s 5), va_rf (r 6)])) else (.inr (8, [.ref 18, .ref 19, .ref 20, .ref 21, .ref 22, .int (s 5)]))) else (if i < 19 then (.inl (0, 150, .inl s)) else (.inl (0, 150, .inl s)))) else (if i < 22 then (if i < 21 then (.inl (0, 150, .inl s)) else (.inl (0, 150, .inl s))) else (if i < 23 then (.inl (0, 4, .inl s)) else (.inr (9, [.ref 24, .ref 25, .ref 26, .int (s 3), va_rf (r 4)]))))) else (if i < 28 then (if i < 26 then (if i < 25 then (.inl (0, 120, .inl s)) else (.inl (0, 480, .inl s))) else (if i < 27 then (.inl (0, 4, .inl s)) else (.inr (9, [.ref 28, .ref 29, .ref 30, .int (s 3), va_rf (r 4)])))) else (if i < 30 then (if i < 29 then (.inl (0, 120, .inl s)) else (.inl (0, 480, .inl s))) else (if i < 31 then (.inl (0, 4, .inl s)) else (.inr (11, [.ref 32, va_rf (r 1), .int (s 2), .int (s 3), va_rf (r 4), va_rf (r 5), va_rf (r 6)]))))))) else (if i < 48 then (if i < 40 then (if i < 36 then (if i < 34 then (if i < 33 then (.inl (0, 2, .inl s)) else (.inl (0, 10, .inl s))) else (if i < 35 then (.inr (7, [.ref 35, .ref 36, .int (s 2), .int (s 3)])) else (.inl (0, 150, .inl s)))) else (if i < 38 then (if i < 37 then (.inl (0, 150, .inl s)) else (.inr (7, [.ref 38, .ref 39, .int (s 2), .int (s 3)]))) else (if i < 39 then (.inl (0, 150, .inl s)) else (.inl (0, 150, .inl s))))) else (if i < 44 then (if i < 42 then (if i < 41 then (.inl (2, 6, .inr (.inr (.inr (.inr (va_up (va_up (va_up (va_up (va_up (va_up (fun _ => none) 0 (some 41)) 1 (some 48)) 2 (some 55)) 3 (some 62)) 4 (some 69)) 5 (some 76))))))) else (.inr (2, [.ref 42, .ref 43, .ref 44, .ref 45, .ref 46, .ref 47, .int (s 6), .int (s 7)]))) else (if i < 43 then (.inl (0, 120, .inl s)) else (.inl (0, 120, .inl s)))) else (if i < 46 then (if i < 45 then (.inl (0, 120, .inl s)) else (.inl (0, 120, .inl s))) else (if i < 47 then (.inl (0, 120, .inl s)) else (.inl (0, 3, .inl s)))))) else (if i < 56 then (if i < 52 then (if i < 50 then (if i < 49 then (.inr (2, [.ref 49, .ref 50, .ref 51, .ref 52, .ref 53, .ref 54, .int (s 6), .int (s 7)])) else (.inl (0, 120, .inl s))) else (if i < 51 then (.inl (0, 120, .inl s)) else (.inl (0, 120, .inl s)))) else (if i < 54 then (if i < 53 then (.inl (0, 120, .inl s)) else (.inl (0, 120, .inl s))) else (if i < 55 then (.inl (0, 3, .inl s)) else (.inr (2, [.ref 56, .ref 57, .ref 58, .ref 59, .ref 60, .ref 61, .int (s 6), .int (s 7)]))))) else (if i < 60 then (if i < 58 then (if i < 57 then (.inl (0, 120, .inl s)) else (.inl (0, 120, .inl s))) else (if i < 59 then (.inl (0, 120, .inl s)) else (.inl (0, 120, .inl s)))) else (if i < 62 then (if i < 61 then (.inl (0, 120, .inl s)) else (.inl (0, 3, .inl s))) else (if i < 63 then (.inr (2, [.ref 63, .ref 64, .ref 65, .ref 66, .ref 67, .ref 68, .int (s 6), .int (s 7)])) else (.inl (0, 120, .inl s)))))))) else (if i < 96 then (if i < 80 then (if i < 72 then (if i < 68 then (if i < 66 then (if i < 65 then (.inl (0, 120, .inl s)) else (.inl (0, 120, .inl s))) else (if i < 67 then (.inl (0, 120, .inl s)) else (.inl (0, 120, .inl s)))) else (if i < 70 then (if i < 69 then (.inl (0, 3, .inl s)) else (.inr (2, [.ref 70, .ref 71, .ref 72, .ref 73, .ref 74, .ref 75, .int (s 6), .int (s 7)]))) else (if i < 71 then (.inl (0, 120, .inl s)) else (.inl (0, 120, .inl s))))) else (if i < 76 then (if i < 74 then (if i < 73 then (.inl (0, 120, .inl s)) else (.inl (0, 120, .inl s))) else (if i < 75 then (.inl (0, 120, .inl s)) else (.inl (0, 3, .inl s)))) else (if i < 78 then (if i < 77 then (.inr (2, [.ref 77, .ref 78, .ref 79, .ref 80, .ref 81, .ref 82, .int (s 6), .int (s 7)])) else (.inl (0, 120, .inl s))) else (if i < 79 then (.inl (0, 120, .inl s)) else (.inl (0, 120, .inl s)))))) else (if i < 88 then (if i < 84 then (if i < 82 then (if i < 81 then (.inl (0, 120, .inl s)) else (.inl (0, 120, .inl s))) else (if i < 83 then (.inl (0, 3, .inl s)) else (.inr (12, [.ref 84, .int (s 1), .ref 85, .int (s 3), .int (s 4), .int (s 5), .int (s 6), .int (s 7), .int (s 8), .int (s 9), .ref 86, .ref 87, .ref 88, .ref 89, .ref 90, .ref 91, .ref 92, .ref 93, .ref 94, .ref 95, .ref 96, .ref 97, .ref 98, .ref 99, .ref 100, .ref 101, .ref 102, .int (s 27), .ref 103, .ref 104, .int (s 30), .int (s 31), .int (s 32), .int (s 33), .int (s 34), .ref 105, .ref 106, .int (s 37), .int (s 38), .ref 107, .int (s 40), .ref 108, .ref 109, .ref 110, .ref 111, .ref 112, .ref 113, .ref 114, .ref 115, .ref 116, .ref 117, .ref 118, .int (s 52), .ref 119, .ref 120, .ref 121, .int (s 56), .ref 122, .ref 123, .ref 124, .ref 125, .ref 126, .int (s 62), .ref 127, .ref 128])))) else (if i < 86 then (if i < 85 then (.inl (0, 120, .inl s)) else (.inl (0, 120, .inl s))) else (if i < 87 then (.inl (0, 600, .inl s)) else (.inl (0, 5, .inl s))))) else (if i < 92 then (if i < 90 then (if i < 89 then (.inl (0, 6, .inl s)) else (.inl (0, 6, .inl s))) else (if i < 91 then (.inl (0, 128, .inl s)) else (.inl (0, 128, .inl s)))) else (if i < 94 then (if i < 93 then (.inl (0, 128, .inl s)) else (.inl (0, 128, .inl s))) else (if i < 95 then (.inl (0, 128, .inl s)) else (.inl (0, 128, .inl s))))))) else (if i < 112 then (if i < 104 then (if i < 100 then (if i < 98 then (if i < 97 then (.inl (0, 128, .inl s)) else (.inl (0, 128, .inl s))) else (if i < 99 then (.inl (0, 128, .inl s)) else (.inl (0, 128, .inl s)))) else (if i < 102 then (if i < 101 then (.inl (0, 128, .inl s)) else (.inl (0, 128, .inl s))) else (if i < 103 then (.inl (0, 128, .inl s)) else (.inl (0, 16, .inl s))))) else (if i < 108 then (if i < 106 then (if i < 105 then (.inl (0, 16, .inl s)) else (.inl (0, 320, .inl s))) else (if i < 107 then (.inl (0, 320, .inl s)) else (.inl (0, 12, .inl s)))) else (if i < 110 then (if i < 109 then (.inl (0, 128, .inl s)) else (.inl (0, 128, .inl s))) else (if i < 111 then (.inl (0, 128, .inl s)) else (.inr (0, [])))))) else (if i < 120 then (if i < 116 then (if i < 114 then (if i < 113 then (.inl (0, 161, .inl s)) else (.inl (0, 161, .inl s))) else (if i < 115 then (.inl (0, 512, .inl s)) else (.inl (0, 128, .inl s)))) else (if i < 118 then (if i < 117 then (.inl (0, 162, .inl s)) else (.inl (0, 128, .inl s))) else (if i < 119 then (.inl (0, 128, .inl s)) else (.inl (0, 512, .inl s))))) else (if i < 124 then (if i < 122 then (if i < 121 then (.inl (0, 512, .inl s)) else (.inl (0, 512, .inl s))) else (if i < 123 then (.inl (0, 160, .inl s)) else (.inl (0, 160, .inl s)))) else (if i < 126 then (if i < 125 then (.inl (0, 160, .inl s)) else (.inl (0, 160, .inl s))) else (if i < 127 then (.inl (0, 160, .inl s)) else (if i < 128 then (.inl (0, 160, .inl s)) else (.inl (0, 160, .inl s)))))))))) else .inr (0, [])
def hp (M : Mem) : Nat → va_E := fun i => if i = 111 then .inl (1, 3220, .inr (.inl M.2.2)) else m_cell i (M.1 i) (M.2.1 i)
def m_i (M : Mem) (c k : Nat) (x : Int32) : Mem := (fun a => if a = c then upd (M.1 a) k x else M.1 a, M.2)
def m_r (M : Mem) (c k : Nat) (v : Option Nat) : Mem := (M.1, fun a => if a = c then va_up (M.2.1 a) k v else M.2.1 a, M.2.2)
def m_l (M : Mem) (k : Nat) (x : Int64) : Mem := (M.1, M.2.1, vp_updL M.2.2 k x)
theorem hp_i {M : Mem} {c k : Nat} {x : Int32} {e : va_E} (h : hp (m_i M c k x) c = e) : va_up (hp M) c e = hp (m_i M c k x) := by
  funext a
  by_cases ha : a = c
  · subst ha
    rw [va_up_self, h]
  · rw [va_up_ne _ _ ha]
    unfold hp m_i
    dsimp only
    rw [if_neg ha]
theorem hp_r {M : Mem} {c k : Nat} {v : Option Nat} {e : va_E} (h : hp (m_r M c k v) c = e) : va_up (hp M) c e = hp (m_r M c k v) := by
  funext a
  by_cases ha : a = c
  · subst ha
    rw [va_up_self, h]
  · rw [va_up_ne _ _ ha]
    unfold hp m_r
    dsimp only
    rw [if_neg ha]
theorem hp_l {M : Mem} {k : Nat} {x : Int64} : va_up (hp M) 111 (.inl (1, 3220, .inr (.inl (vp_updL M.2.2 k x)))) = hp (m_l M k x) := by
  funext a
  by_cases ha : a = 111
  · subst ha
    rw [va_up_self]
    rfl
  · rw [va_up_ne _ _ ha]
    unfold hp m_l
    dsimp only
    rw [if_neg ha, if_neg ha]
theorem m_i_self (M : Mem) (c k : Nat) (x : Int32) : (m_i M c k x).1 c = upd (M.1 c) k x := by simp [m_i]
theorem m_i_ne (M : Mem) {c a : Nat} (k : Nat) (x : Int32) (h : a ≠ c) : (m_i M c k x).1 a = M.1 a := by simp [m_i, h]
theorem m_r_self (M : Mem) (c k : Nat) (v : Option Nat) : (m_r M c k v).2.1 c = va_up (M.2.1 c) k v := by simp [m_r]
abbrev isD (b : Nat) : Prop := b = 41 ∨ b = 48 ∨ b = 55 ∨ b = 62 ∨ b = 69 ∨ b = 76
theorem isD_0 {b : Nat} (h : isD b) (M : Mem) : hp M (b) = .inr (2, [.ref (b + 1), .ref (b + 2), .ref (b + 3), .ref (b + 4), .ref (b + 5), .ref (b + 6), .int (M.1 b 6), .int (M.1 b 7)]) := by
  rcases h with rfl | rfl | rfl | rfl | rfl | rfl <;> rfl
theorem isD_1 {b : Nat} (h : isD b) (M : Mem) : hp M (b + 1) = .inl (0, 120, .inl (M.1 (b + 1))) := by
  rcases h with rfl | rfl | rfl | rfl | rfl | rfl <;> rfl
theorem isD_2 {b : Nat} (h : isD b) (M : Mem) : hp M (b + 2) = .inl (0, 120, .inl (M.1 (b + 2))) := by
  rcases h with rfl | rfl | rfl | rfl | rfl | rfl <;> rfl
theorem isD_3 {b : Nat} (h : isD b) (M : Mem) : hp M (b + 3) = .inl (0, 120, .inl (M.1 (b + 3))) := by
  rcases h with rfl | rfl | rfl | rfl | rfl | rfl <;> rfl
theorem isD_4 {b : Nat} (h : isD b) (M : Mem) : hp M (b + 4) = .inl (0, 120, .inl (M.1 (b + 4))) := by
  rcases h with rfl | rfl | rfl | rfl | rfl | rfl <;> rfl
theorem isD_5 {b : Nat} (h : isD b) (M : Mem) : hp M (b + 5) = .inl (0, 120, .inl (M.1 (b + 5))) := by
  rcases h with rfl | rfl | rfl | rfl | rfl | rfl <;> rfl
theorem isD_6 {b : Nat} (h : isD b) (M : Mem) : hp M (b + 6) = .inl (0, 3, .inl (M.1 (b + 6))) := by
  rcases h with rfl | rfl | rfl | rfl | rfl | rfl <;> rfl
theorem isD_lt {b : Nat} (h : isD b) : b + 7 ≤ 129 := by
  rcases h with rfl | rfl | rfl | rfl | rfl | rfl <;> decide
abbrev isT (b : Nat) : Prop := b = 8 ∨ b = 23 ∨ b = 27
theorem isT_0 {b : Nat} (h : isT b) (M : Mem) : hp M (b) = .inr (9, [.ref (b + 1), .ref (b + 2), .ref (b + 3), .int (M.1 b 3), va_rf (M.2.1 b 4)]) := by
  rcases h with rfl | rfl | rfl <;> rfl
theorem isT_1 {b : Nat} (h : isT b) (M : Mem) : hp M (b + 1) = .inl (0, 120, .inl (M.1 (b + 1))) := by
  rcases h with rfl | rfl | rfl <;> rfl
theorem isT_2 {b : Nat} (h : isT b) (M : Mem) : hp M (b + 2) = .inl (0, 480, .inl (M.1 (b + 2))) := by
  rcases h with rfl | rfl | rfl <;> rfl
theorem isT_3 {b : Nat} (h : isT b) (M : Mem) : hp M (b + 3) = .inl (0, 4, .inl (M.1 (b + 3))) := by
  rcases h with rfl | rfl | rfl <;> rfl
theorem isT_lt {b : Nat} (h : isT b) : b + 4 ≤ 129 := by
  rcases h with rfl | rfl | rfl <;> decide
abbrev isR (b : Nat) : Prop := b = 34 ∨ b = 37
theorem isR_0 {b : Nat} (h : isR b) (M : Mem) : hp M (b) = .inr (7, [.ref (b + 1), .ref (b + 2), .int (M.1 b 2), .int (M.1 b 3)]) := by
  rcases h with rfl | rfl <;> rfl
theorem isR_1 {b : Nat} (h : isR b) (M : Mem) : hp M (b + 1) = .inl (0, 150, .inl (M.1 (b + 1))) := by
  rcases h with rfl | rfl <;> rfl
theorem isR_2 {b : Nat} (h : isR b) (M : Mem) : hp M (b + 2) = .inl (0, 150, .inl (M.1 (b + 2))) := by
  rcases h with rfl | rfl <;> rfl
theorem isR_lt {b : Nat} (h : isR b) : b + 3 ≤ 129 := by
  rcases h with rfl | rfl <;> decide
abbrev isN (b : Nat) : Prop := b = 4 ∨ b = 13
theorem isN_0 {b : Nat} (h : isN b) (M : Mem) : hp M (b) = .inr (6, [.ref (b + 1), .ref (b + 2), .int (M.1 b 2)]) := by
  rcases h with rfl | rfl <;> rfl
theorem isN_1 {b : Nat} (h : isN b) (M : Mem) : hp M (b + 1) = .inl (0, 10, .inl (M.1 (b + 1))) := by
  rcases h with rfl | rfl <;> rfl
theorem isN_2 {b : Nat} (h : isN b) (M : Mem) : hp M (b + 2) = .inl (0, 10, .inl (M.1 (b + 2))) := by
  rcases h with rfl | rfl <;> rfl
theorem isN_lt {b : Nat} (h : isN b) : b + 3 ≤ 129 := by
  rcases h with rfl | rfl <;> decide
def M0 : Mem := (fun _ _ => 0, fun c k => if c = 16 ∧ k = 1 then some 23 else if c = 16 ∧ k = 2 then some 27 else if c = 12 ∧ k = 4 then some 34 else if c = 12 ∧ k = 5 then some 37 else none, fun _ => 0)
