/-! Histories of a match. -/
def nx (A : Nat → Nat → Int) (e : Nat) : Nat := if A 0 e = 5 then (A 2 e + 1).toNat else e + 1
/-- all ways on from histories that stand before e -/
def hx (A : Nat → Nat → Int) (e j : Nat) (hs : List (List (Nat × List Nat))) : List (List (Nat × List Nat)) := hs.flatMap (fun h => (ways A (nx A e) j).map (fun p => (j, p) :: h))
def Hn (A : Nat → Nat → Int) (G : Nat → Bool) (H : Nat → List (List (Nat × List Nat))) (j : Nat) : Nat → List (List (Nat × List Nat))
  | 0 => []
  | e + 1 => Hn A G H j e ++ (if G e = true then hx A e j (H e) else [])
def H0 (A : Nat → Nat → Int) (j : Nat) : List (List (Nat × List Nat)) := (ways A 0 j).map (fun p => [(j, p)])
theorem hx_len (A : Nat → Nat → Int) (e j : Nat) : ∀ hs, (hx A e j hs).length = hs.length * wc A (nx A e) j := by
  intro hs
  induction hs with
  | nil => show 0 = 0 * _; omega
  | cons h hs ih =>
    have : hx A e j (h :: hs) = (ways A (nx A e) j).map (fun p => (j, p) :: h) ++ hx A e j hs := rfl
    rw [this, List.length_append, List.length_map, ih, List.length_cons, Nat.add_mul, Nat.one_mul]
    have : (ways A (nx A e) j).length = wc A (nx A e) j := rfl
    omega
theorem hx_mem (A : Nat → Nat → Int) (e j : Nat) (hs : List (List (Nat × List Nat))) (x : List (Nat × List Nat)) : x ∈ hx A e j hs ↔ ∃ h ∈ hs, ∃ p ∈ ways A (nx A e) j, x = (j, p) :: h := by
  unfold hx
  rw [List.mem_flatMap]
  constructor
  · rintro ⟨h, a, b⟩
    obtain ⟨p, c, d⟩ := List.mem_map.1 b
    exact ⟨h, a, p, c, d.symm⟩
  · rintro ⟨h, a, p, c, d⟩
    exact ⟨h, a, List.mem_map.2 ⟨p, c, d.symm⟩⟩
theorem Hn_mem (A : Nat → Nat → Int) (G : Nat → Bool) (H : Nat → List (List (Nat × List Nat))) (j : Nat) (x : List (Nat × List Nat)) : ∀ k : Nat, x ∈ Hn A G H j k ↔ ∃ e : Nat, e < k ∧ G e = true ∧ x ∈ hx A e j (H e) := by
  intro k
  induction k with
  | zero =>
    constructor
    · intro h; cases h
    · rintro ⟨e, h, _⟩; omega
  | succ k ih =>
    rw [Hn, List.mem_append, ih]
    constructor
    · rintro (⟨e, a, b, c⟩ | h)
      · exact ⟨e, by omega, b, c⟩
      · split at h
        · exact ⟨k, by omega, by assumption, h⟩
        · cases h
    · rintro ⟨e, a, b, c⟩
      by_cases q : e = k
      · subst q
        exact Or.inr (by rw [if_pos b]; exact c)
      · exact Or.inl ⟨e, by omega, b, c⟩
/-- rounds begun of the repetition with order o -/
def hin (A : Nat → Nat → Int) (h : List (Nat × List Nat)) (o : Nat) : Int := match h with
  | [] => 0
  | (e, _) :: _ => inc A e (nx A e) o
def Rd (A : Nat → Nat → Int) : List (Nat × List Nat) → Nat → Int
  | [], _ => 0
  | (_, p) :: h, o => Rd A h o + hin A h o + rho A p o
theorem inc_r (A : Nat → Nat → Int) (a b o : Nat) : 0 ≤ inc A a b o ∧ inc A a b o ≤ 1 := by
  unfold inc
  repeat' split
  all_goals omega
theorem rho_r (A : Nat → Nat → Int) (o : Nat) : ∀ p : List Nat, 0 ≤ rho A p o ∧ rho A p o ≤ p.length
  | [] => ⟨Int.le_refl _, Int.le_refl _⟩
  | [_] => ⟨Int.le_refl _, by show (0 : Int) ≤ (1 : Nat); omega⟩
  | a :: b :: p => by
    have h1 := inc_r A a b o
    have h2 := rho_r A o (b :: p)
    have e : rho A (a :: b :: p) o = inc A a b o + rho A (b :: p) o := rfl
    rw [e, List.length_cons]
    omega
theorem Wy_len (A : Nat → Nat → Int) (j : Nat) : ∀ (f k : Nat) (p : List Nat), p ∈ Wy A f k j → p.length ≤ f := by
  intro f
  induction f with
  | zero => intro k p hp; cases hp
  | succ f ih =>
    intro k p hp
    rw [Wy] at hp
    rcases List.mem_append.1 hp with a | a
    · split at a
      · rw [List.mem_singleton.1 a]
        show 1 ≤ f + 1
        omega
      · cases a
    · rcases List.mem_append.1 a with a | a
      · split at a
        · obtain ⟨q, b, e⟩ := List.mem_map.1 a
          have := ih _ q b
          rw [← e, List.length_cons]; omega
        · cases a
      · split at a
        · obtain ⟨q, b, e⟩ := List.mem_map.1 a
          have := ih _ q b
          rw [← e, List.length_cons]; omega
        · cases a
theorem mn_mul (x : Int) (hx : 0 ≤ x) (a w : Nat) : mn (x + mn a * w) = mn (x + ((a * w : Nat) : Int)) := by
  by_cases h2 : (a : Int) ≤ 2
  · have : mn (a : Int) = a := by unfold mn; rw [if_pos h2]
    rw [this, Int.natCast_mul]
  · have h3 : mn (a : Int) = 2 := by unfold mn; rw [if_neg h2]
    rw [h3]
    by_cases hw : w = 0
    · subst hw
      rw [Nat.mul_zero]
      rfl
    · have h4 : 2 * w ≤ a * w := Nat.mul_le_mul_right _ (by omega)
      unfold mn
      repeat' split
      all_goals omega
theorem mn_0 {a : Nat} : mn (a : Int) = 0 ↔ a = 0 := by
  unfold mn
  split <;> omega
theorem mn_1 {a : Nat} : mn (a : Int) = 1 ↔ a = 1 := by
  unfold mn
  split <;> omega
section
variable {C : Nat → Int} {Y A : Nat → Nat → Int} {N i0 z : Nat}
theorem nx_le (h : RX true C Y A N i0 z) (e : Nat) (he : e < N) : nx A e ≤ N := by
  unfold nx
  split
  · rename_i q
    obtain ⟨t, g1, g2, g3, _⟩ := x_end h e (by omega) q
    omega
  · omega
/-- H gives histories that stand before what they say, with few rounds -/
def HO (A : Nat → Nat → Int) (N : Nat) (B : Int) (H : Nat → List (List (Nat × List Nat))) : Prop := ∀ (j : Nat) (h : List (Nat × List Nat)), h ∈ H j → j ≤ N ∧ sd A j ∧ (∃ p h', h = (j, p) :: h') ∧ ∀ o : Nat, o < 4 → 0 ≤ Rd A h o ∧ Rd A h o ≤ B
theorem HO_0 (h : RX true C Y A N i0 z) : HO A N 20 (H0 A) := by
  intro j x hx
  obtain ⟨p, hp, e⟩ := List.mem_map.1 hx
  have h1 := Wy_in h j 17 0 p (by omega) hp
  have h2 := Wy_len A j 17 0 p hp
  refine ⟨h1.1, h1.2, ⟨p, [], e.symm⟩, fun o ho => ?_⟩
  have h3 := rho_r A o p
  rw [← e]
  show 0 ≤ 0 + 0 + rho A p o ∧ 0 + 0 + rho A p o ≤ 20
  omega
theorem HO_n (h : RX true C Y A N i0 z) (B : Int) (G : Nat → Bool) (H : Nat → List (List (Nat × List Nat))) (hH : HO A N B H) (hB : 0 ≤ B) (hG : ∀ e : Nat, G e = true → e < N) (k : Nat) : HO A N (B + 20) (fun j => Hn A G H j k) := by
  intro j x hx
  obtain ⟨e, e1, e2, e3⟩ := (Hn_mem A G H j x k).1 hx
  obtain ⟨h', a1, p, a2, a3⟩ := (hx_mem A e j (H e) x).1 e3
  have hn := nx_le h e (hG e e2)
  have h1 := Wy_in h j 17 (nx A e) p hn a2
  have h2 := Wy_len A j 17 (nx A e) p a2
  obtain ⟨b1, b2, ⟨p', h'', b3⟩, b4⟩ := hH e h' a1
  refine ⟨h1.1, h1.2, ⟨p, h', a3⟩, fun o ho => ?_⟩
  have h3 := rho_r A o p
  have h4 := b4 o ho
  have h5 : 0 ≤ hin A h' o ∧ hin A h' o ≤ 1 := by
    rw [b3]
    exact inc_r A e (nx A e) o
  rw [a3]
  show 0 ≤ Rd A h' o + hin A h' o + rho A p o ∧ Rd A h' o + hin A h' o + rho A p o ≤ B + 20
  omega
theorem Hn_len (A : Nat → Nat → Int) (G : Nat → Bool) (H : Nat → List (List (Nat × List Nat))) (j e : Nat) : mn ((Hn A G H j (e + 1)).length : Int) = mn (mn ((Hn A G H j e).length : Int) + (if G e = true then mn ((H e).length : Int) * wc A (nx A e) j else 0)) := by
  rw [Hn, List.length_append]
  split
  · rw [hx_len]
    have h0 : (0 : Int) ≤ mn ((H e).length : Int) * (wc A (nx A e) j : Int) := by
      apply Int.mul_nonneg
      · unfold mn; split <;> omega
      · omega
    rw [mn_mn _ _ h0, mn_mul _ (by omega), Int.natCast_add]
  · rw [List.length_nil, Nat.add_zero]
    unfold mn
    repeat' split
    all_goals omega
end
