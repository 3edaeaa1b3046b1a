/-! A use is written: the class's side, and that both are alike. -/
def fnd (f : Nat) (o : Int) : Nat → List EN → Option EN
  | _, [] => none
  | nn, x :: xs => if x.1 = f ∧ x.2.1 = o then (if nn = 0 then some x else fnd f o (nn - 1) xs) else fnd f o nn xs
def fuo (X K : Nat → Int) (mk k4 : Int) (y : Option EN) : List (Int × Int) := match y with
  | some x => uo X K mk k4 x.2.2.2.1 x.2.2.2.2
  | none => []
theorem cfl_cons (x : EN) (xs : List EN) (f : Nat) (o : Int) : cfl (x :: xs) f o = (if x.1 = f ∧ x.2.1 = o then 1 else 0) + cfl xs f o := by
  unfold cfl
  rw [List.filter_cons]
  by_cases q : x.1 = f ∧ x.2.1 = o
  · rw [if_pos (show decide (x.1 = f ∧ x.2.1 = o) = true from decide_eq_true q), if_pos q, List.length_cons]
    omega
  · rw [if_neg (show ¬ decide (x.1 = f ∧ x.2.1 = o) = true by rw [decide_eq_true_eq]; exact q), if_neg q]
    omega
section
variable {A : Nat → Nat → Int} {X K : Nat → Int}
theorem uL_nil (mk : Int) (f : Nat) (o nn : Int) : ∀ xs : List EN, (∀ x ∈ xs, ¬ um A f o nn x) → uL X K A mk f o nn xs = [] := by
  intro xs
  induction xs with
  | nil => intro _; rfl
  | cons x xs ih =>
    intro h
    rw [uL, if_neg (h x List.mem_cons_self), ih (fun y hy => h y (List.mem_cons_of_mem _ hy))]
    rfl
theorem cfl_0 {xs : List EN} {f : Nat} {o : Int} (h : cfl xs f o = 0) : ∀ x ∈ xs, ¬ (x.1 = f ∧ x.2.1 = o) := by
  induction xs with
  | nil => intro x hx; cases hx
  | cons y ys ih =>
    intro x hx
    rw [cfl_cons] at h
    rcases List.mem_cons.1 hx with rfl | c
    · intro w
      rw [if_pos w] at h
      omega
    · exact ih (by omega) x c
/-- at most one -/
theorem uL_one (mk : Int) (f : Nat) (o nn o' : Int) : ∀ xs : List EN, (∀ x ∈ xs, (um A f o nn x ↔ (x.1 = f ∧ x.2.1 = o'))) → cfl xs f o' ≤ 1 → uL X K A mk f o nn xs = fuo X K mk (A 4 f) (fnd f o' 0 xs) := by
  intro xs
  induction xs with
  | nil => intro _ _; rfl
  | cons x xs ih =>
    intro h hc
    rw [cfl_cons] at hc
    have hx := h x List.mem_cons_self
    rw [uL, fnd]
    by_cases q : x.1 = f ∧ x.2.1 = o'
    · rw [if_pos q] at hc
      have h0 := cfl_0 (xs := xs) (f := f) (o := o') (by omega)
      rw [if_pos (hx.2 q), if_pos q, if_pos rfl, uL_nil mk f o nn xs (fun y hy w => h0 y hy ((h y (List.mem_cons_of_mem _ hy)).1 w)), List.append_nil]
      rfl
    · rw [if_neg q] at hc
      rw [if_neg (fun w => q (hx.1 w)), if_neg q, List.nil_append]
      exact ih (fun y hy => h y (List.mem_cons_of_mem _ hy)) (by omega)
/-- by number -/
theorem uL_num (mk : Int) (f : Nat) (h5 : ¬ A 5 f < 0) (h6 : ¬ A 6 f < 0) (o : Int) (nn : Nat) : ∀ (xs : List EN) (b : Nat), (∀ (i : Nat) (x : EN), xs[i]? = some x → x.1 = f → x.2.1 = o → x.2.2.1 = (b : Int) + cfl (xs.take i) f o) → uL X K A mk f o nn xs = if nn < b then [] else fuo X K mk (A 4 f) (fnd f o (nn - b) xs) := by
  intro xs
  induction xs with
  | nil => intro b _; rw [uL]; split <;> rfl
  | cons x xs ih =>
    intro b h
    rw [uL, fnd]
    by_cases q : x.1 = f ∧ x.2.1 = o
    · have hx : x.2.2.1 = (b : Int) + 0 := h 0 x rfl q.1 q.2
      have hxs := ih (b + 1) (fun i y hy y1 y2 => by
        have := h (i + 1) y hy y1 y2
        rw [List.take_succ_cons, cfl_cons, if_pos q] at this
        omega)
      rw [hxs, if_pos q]
      by_cases c1 : nn < b
      · rw [if_pos (show nn < b + 1 by omega), if_pos c1, if_neg (fun w => by rcases w.2.2 with d | d; exact h6 d; omega), List.nil_append]
      · rw [if_neg c1]
        by_cases c2 : nn = b
        · rw [if_pos (show nn < b + 1 by omega), if_pos (show nn - b = 0 by omega), if_pos ⟨q.1, Or.inr q.2, Or.inr (by omega)⟩, List.append_nil]
          rfl
        · rw [if_neg (show ¬ nn < b + 1 by omega), if_neg (show ¬ nn - b = 0 by omega), if_neg (fun w => by rcases w.2.2 with d | d; exact h6 d; omega), List.nil_append, show nn - b - 1 = nn - (b + 1) by omega]
    · have hxs := ih b (fun i y hy y1 y2 => by
        have := h (i + 1) y hy y1 y2
        rw [List.take_succ_cons, cfl_cons, if_neg q] at this
        omega)
      rw [hxs, if_neg q, if_neg (fun w => q ⟨w.1, by rcases w.2.1 with d | d; exact absurd d h5; exact d⟩), List.nil_append]
end
section
variable {C : Nat → Int} {Y A : Nat → Nat → Int} {N i0 z : Nat} {n : Nat} {X K : Nat → Int}
/-- both sides find the same -/
theorem u_sme (h : RX true C Y A N i0 z) (κ : List EN) (s : (Nat → Int) × (Nat → Int → Int)) (f : Nat) (hf : f < N) (hV : NV A f (cfl κ f) s N) (hW : WI A κ) (mk o : Int) (nn : Nat) : uL X K A mk f o nn κ = fuo X K mk (A 4 f) (fnd f (if A 5 f < 0 then 0 else o) (if A 6 f < 0 then 0 else nn) κ) := by
  have hni := h.1
  obtain ⟨n1, n2, n3⟩ := hV
  by_cases q5 : A 5 f < 0
  · have q6 : A 6 f < 0 := by
      apply Classical.byContradiction
      intro c
      have := hni.n2 f (A 6 f).toNat (by omega) (by omega)
      omega
    obtain ⟨a1, a2, a3⟩ := n1 q5
    rw [if_pos q5, if_pos q6]
    refine uL_one mk f o nn 0 κ (fun x hx => ⟨fun w => ⟨w.1, ?_⟩, fun w => ⟨w.1, Or.inl q5, Or.inl q6⟩⟩) a2
    apply Classical.byContradiction
    intro c
    exact cfl_0 (a1 x.2.1 c) x hx ⟨w.1, rfl⟩
  · obtain ⟨u, hu⟩ : ∃ u : Nat, A 5 f = u := ⟨(A 5 f).toNat, by omega⟩
    rw [if_neg q5]
    by_cases q6 : A 6 f < 0
    · obtain ⟨a1, a2, a3⟩ := n2 u hu q6
      rw [if_pos q6]
      refine uL_one mk f o nn o κ (fun x hx => ⟨fun w => ⟨w.1, ?_⟩, fun w => ⟨w.1, Or.inr w.2, Or.inl q6⟩⟩) (a1 o)
      rcases w.2.1 with d | d
      · exact absurd d q5
      · exact d
    · rw [if_neg q6]
      have := uL_num (X := X) (K := K) mk f q5 q6 o nn κ 0 (fun i x hx x1 x2 => by
        have := hW i x hx (by rw [x1]; omega)
        rw [x1, x2] at this
        rw [this]
        omega)
      rw [this, if_neg (Nat.not_lt_zero _), Nat.sub_zero]
/-- Takings.find -/
theorem c183 (hn : 600 ≤ n) (h : RX true C Y A N i0 z) (κ : List EN) (hκ : ∀ x ∈ κ, x.1 < N) (m : ZM) (hK : KG A (κ.map drp) m) (f : Nat) (hf : f < N) (o : Int) (nn : Nat) (hnn : nn ≤ 100000) : (∃ (i : Nat) (x : EN), κ[i]? = some x ∧ fnd f o nn κ = some x ∧ zF183 n (pl A f) o nn m = some ((i : Int), m)) ∨ (fnd f o nn κ = none ∧ zF183 n (pl A f) o nn m = some (-1, m)) := by
  obtain ⟨a1, a2, a3⟩ := hK
  rw [List.length_map] at a1 a2
  have key : ∀ (k i g b : Nat), κ.length ≤ i + k → i ≤ κ.length → κ.length + 1 ≤ g + i → b ≤ nn → (∃ (i' : Nat) (x : EN), κ[i']? = some x ∧ fnd f o (nn - b) (κ.drop i) = some x ∧ zL183_6 n g (pl A f) o nn b i m = some ((i' : Int), m)) ∨ (fnd f o (nn - b) (κ.drop i) = none ∧ zL183_6 n g (pl A f) o nn b i m = some (-1, m)) := by
    intro k
    induction k with
    | zero =>
      intro i g b h1 h2 h3 _
      have : i = κ.length := by omega
      subst this
      obtain ⟨g, rfl⟩ : ∃ g', g = g' + 1 := ⟨g - 1, by omega⟩
      right
      rw [List.drop_length]
      refine ⟨rfl, ?_⟩
      rw [zL183_6, a1, if_pos (by omega)]
    | succ k ih =>
      intro i g b h1 h2 h3 hb
      obtain ⟨g, rfl⟩ : ∃ g', g = g' + 1 := ⟨g - 1, by omega⟩
      by_cases qe : i = κ.length
      · subst qe
        right
        rw [List.drop_length]
        refine ⟨rfl, ?_⟩
        rw [zL183_6, a1, if_pos (by omega)]
      obtain ⟨x, hx⟩ : ∃ x, κ[i]? = some x := ⟨κ[i]'(by omega), List.getElem?_eq_getElem (by omega)⟩
      have hxi : κ[i]'(by omega) = x := Option.some.inj ((List.getElem?_eq_getElem (l := κ) (i := i) (by omega)).symm.trans hx)
      have hdrop : κ.drop i = x :: κ.drop (i + 1) := by
        rw [← hxi]
        exact List.drop_eq_getElem_cons (by omega)
      have hmem : x ∈ κ := List.mem_of_getElem? hx
      have hxN := hκ x hmem
      have hm : (κ.map drp)[i]? = some (drp x) := by rw [List.getElem?_map, hx]; rfl
      obtain ⟨x1, x2, x3, x4⟩ := a3 i (drp x) hm
      have x1 : m.1 18 i = pl A x.1 := x1
      have x2 : m.1 19 i = x.2.1 := x2
      have hpl : ((pl A x.1 : Nat) : Int) = (pl A f : Nat) ↔ x.1 = f := ⟨fun w => x_inj h x.1 f (by omega) (by omega) (by omega), fun w => by rw [w]⟩
      rw [hdrop, fnd]
      have go : ∀ b' : Nat, b' ≤ nn → zJ183_49 n (zL183_6 n g) (pl A f) o nn b' i m = zL183_6 n g (pl A f) o nn b' ((i + 1 : Nat) : Int) m := by
        intro b' _
        unfold zJ183_49
        rw [if_pos (by omega), show ((i + 1 : Nat) : Int) = (i : Int) + 1 by omega]
      by_cases q : x.1 = f ∧ x.2.1 = o
      · rw [if_pos q]
        have st : zL183_6 n (g + 1) (pl A f) o nn b i m = zJ183_37 n (zL183_6 n g) (pl A f) o nn b i m := by
          rw [zL183_6, a1, if_neg (by omega), if_neg (by omega), Int.toNat_natCast, x1, if_pos (hpl.2 q.1), x2, if_pos q.2]
        rw [st]
        by_cases c : b = nn
        · left
          rw [if_pos (show nn - b = 0 by omega)]
          refine ⟨i, x, hx, rfl, ?_⟩
          unfold zJ183_37
          rw [if_pos (by omega)]
        · rw [if_neg (show ¬ nn - b = 0 by omega), show nn - b - 1 = nn - (b + 1) by omega]
          have s2 : zJ183_37 n (zL183_6 n g) (pl A f) o nn b i m = zL183_6 n g (pl A f) o nn ((b + 1 : Nat) : Int) ((i + 1 : Nat) : Int) m := by
            unfold zJ183_37
            rw [if_neg (by omega), if_pos (by omega), show (b : Int) + 1 = ((b + 1 : Nat) : Int) by omega]
            exact go (b + 1) (by omega)
          rw [s2]
          exact ih (i + 1) g (b + 1) (by omega) (by omega) (by omega) (by omega)
      · rw [if_neg q]
        have st : zL183_6 n (g + 1) (pl A f) o nn b i m = zL183_6 n g (pl A f) o nn b ((i + 1 : Nat) : Int) m := by
          rw [← go b hb, zL183_6, a1, if_neg (by omega), if_neg (by omega), Int.toNat_natCast, x1, x2]
          by_cases c1 : x.1 = f
          · rw [if_pos (hpl.2 c1), if_neg (fun w => q ⟨c1, w⟩)]
          · rw [if_neg (fun w => c1 (hpl.1 w))]
        rw [st]
        exact ih (i + 1) g b (by omega) (by omega) (by omega) hb
  have := key κ.length 0 n 0 (by omega) (by omega) (by omega) (by omega)
  rw [List.drop_zero, Nat.sub_zero] at this
  exact this
end
