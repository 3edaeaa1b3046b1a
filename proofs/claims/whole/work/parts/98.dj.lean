/-! The class's threads: what a walk leaves. -/
/-- the place at which a thread stands that stands before element j -/
def sp (A : Nat → Nat → Int) (j : Nat) : Nat := if A 0 j = 5 then pl A j + 1 else pl A j
/-- does going from j to j' begin a round of the repetition with order o -/
def inc (A : Nat → Nat → Int) (j j' o : Nat) : Int :=
  if A 0 j = 4 ∧ j' = j + 1 then (if A 5 j < 0 ∧ ordf A j = o then 1 else 0)
  else if A 0 j = 5 ∧ (j' : Int) = A 2 j + 1 then (if A 5 (A 2 j).toNat < 0 ∧ ordf A (A 2 j).toNat = o then 1 else 0) else 0
def rho (A : Nat → Nat → Int) : List Nat → Nat → Int
  | [], _ => 0
  | [_], _ => 0
  | a :: b :: p, o => inc A a b o + rho A (b :: p) o
def wT (c : Nat) : List (Nat × Nat) := [(c + 1, 1000), (c + 2, 1000), (c + 3, 1000)]
def EF (A : Nat → Nat → Int) (N c : Nat) (wt : Int) (L : Nat → List (List Nat)) (m m' : ZM) : Prop :=
  kp (wl (wT c)) m m' ∧ (∀ o : Nat, o < 4 → m'.1 (c + 3) o = m.1 (c + 3) o) ∧
  (∀ p : Nat, p < 120 → (∀ j : Nat, j ≤ N → sd A j → p ≠ sp A j) → m'.1 (c + 1) p = m.1 (c + 1) p) ∧
  ∀ j : Nat, j ≤ N → sd A j → m'.1 (c + 1) (sp A j) = mn (m.1 (c + 1) (sp A j) + wt * (L j).length) ∧
    ((L j = [] ∧ ∀ o : Nat, o < 4 → m'.1 (c + 2) (4 * sp A j + o) = m.1 (c + 2) (4 * sp A j + o)) ∨ ∃ p ∈ L j, ∀ o : Nat, o < 4 → m'.1 (c + 2) (4 * sp A j + o) = m.1 (c + 3) o + rho A p o)
theorem EF_cmp {A : Nat → Nat → Int} {N c : Nat} {wt : Int} {L1 L2 L : Nat → List (List Nat)} {m m1 m2 : ZM} (hw : wt = 1 ∨ wt = 2) (h1 : EF A N c wt L1 m m1) (h2 : EF A N c wt L2 m1 m2) (hl : ∀ j, (L j).length = (L1 j).length + (L2 j).length) (hi1 : ∀ j p, p ∈ L1 j → p ∈ L j) (hi2 : ∀ j p, p ∈ L2 j → p ∈ L j) : EF A N c wt L m m2 := by
  obtain ⟨a1, a2, a3, a4⟩ := h1
  obtain ⟨b1, b2, b3, b4⟩ := h2
  refine ⟨kp_tr a1 b1, fun o ho => by rw [b2 o ho, a2 o ho], fun p hp hs => by rw [b3 p hp hs, a3 p hp hs], fun j hj hs => ?_⟩
  obtain ⟨a5, a6⟩ := a4 j hj hs
  obtain ⟨b5, b6⟩ := b4 j hj hs
  have u1 := mul_w wt hw (L2 j).length
  constructor
  · rw [b5, a5, mn_mn _ _ u1, hl j]
    congr 1
    rcases hw with rfl | rfl <;> omega
  · rcases b6 with ⟨b6, b7⟩ | ⟨p, b6, b7⟩
    · rcases a6 with ⟨a6, a7⟩ | ⟨p, a6, a7⟩
      · refine Or.inl ⟨?_, fun o ho => by rw [b7 o ho, a7 o ho]⟩
        apply List.eq_nil_of_length_eq_zero
        rw [hl j, a6, b6]
        rfl
      · exact Or.inr ⟨p, hi1 j p a6, fun o ho => by rw [b7 o ho, a7 o ho]⟩
    · exact Or.inr ⟨p, hi2 j p b6, fun o ho => by rw [b7 o ho, a2 o ho]⟩
theorem EF_map {A : Nat → Nat → Int} {N c k : Nat} {wt : Int} {L : Nat → List (List Nat)} {m m1 : ZM} (h1 : EF A N c wt L m m1) (hr : ∀ j p, p ∈ L j → ∀ o : Nat, o < 4 → rho A (k :: p) o = rho A p o) : EF A N c wt (fun j => (L j).map (fun p => k :: p)) m m1 := by
  obtain ⟨a1, a2, a3, a4⟩ := h1
  refine ⟨a1, a2, a3, fun j hj hs => ?_⟩
  obtain ⟨a5, a6⟩ := a4 j hj hs
  refine ⟨by rw [List.length_map]; exact a5, ?_⟩
  rcases a6 with ⟨a6, a7⟩ | ⟨p, a6, a7⟩
  · exact Or.inl ⟨by show List.map _ (L j) = []; rw [a6]; rfl, a7⟩
  · exact Or.inr ⟨k :: p, List.mem_map.2 ⟨p, a6, rfl⟩, fun o ho => by rw [a7 o ho, hr j p a6 o ho]⟩
theorem EF_in {A : Nat → Nat → Int} {N c k ord : Nat} {wt : Int} {L : Nat → List (List Nat)} {m m1 : ZM} (hord : ord < 4) (h1 : EF A N c wt L (z_i m (c + 3) ord (m.1 (c + 3) ord + 1)) m1) (hr : ∀ j p, p ∈ L j → ∀ o : Nat, o < 4 → rho A (k :: p) o = (if o = ord then 1 else 0) + rho A p o) : EF A N c wt (fun j => (L j).map (fun p => k :: p)) m (z_i m1 (c + 3) ord (m1.1 (c + 3) ord - 1)) := by
  obtain ⟨a1, a2, a3, a4⟩ := h1
  have k1 : kp (wl (wT c)) m (z_i m (c + 3) ord (m.1 (c + 3) ord + 1)) := kp_ia (kp_refl _ m) (by simp [wT])
  refine ⟨kp_ia (kp_tr k1 a1) (by simp [wT]), fun o ho => ?_, fun p hp hs => ?_, fun j hj hs => ?_⟩
  · have := a2 o ho
    by_cases q : o = ord
    · subst q
      rw [z_eq] at this ⊢
      omega
    · rw [z_nk _ _ _ _ _ _ q] at this ⊢
      exact this
  · rw [z_nc _ _ _ _ _ _ (by omega), a3 p hp hs, z_nc _ _ _ _ _ _ (by omega)]
  · obtain ⟨a5, a6⟩ := a4 j hj hs
    rw [z_nc _ _ _ _ _ _ (by omega)] at a5
    refine ⟨by rw [List.length_map, z_nc _ _ _ _ _ _ (by omega)]; exact a5, ?_⟩
    rcases a6 with ⟨a6, a7⟩ | ⟨p, a6, a7⟩
    · refine Or.inl ⟨by show List.map _ (L j) = []; rw [a6]; rfl, fun o ho => ?_⟩
      rw [z_nc _ _ _ _ _ _ (by omega), a7 o ho, z_nc _ _ _ _ _ _ (by omega)]
    · refine Or.inr ⟨k :: p, List.mem_map.2 ⟨p, a6, rfl⟩, fun o ho => ?_⟩
      rw [z_nc _ _ _ _ _ _ (by omega), a7 o ho, hr j p a6 o ho]
      by_cases q : o = ord
      · subst q
        rw [z_eq, if_pos rfl]
        omega
      · rw [z_nk _ _ _ _ _ _ q, if_neg q]
        omega
section
variable {C : Nat → Int} {Y A : Nat → Nat → Int} {N i0 z : Nat} {n : Nat}
theorem sp_b (h : RX true C Y A N i0 z) (j : Nat) (hj : j ≤ N) : pl A j ≤ sp A j ∧ sp A j ≤ z ∧ (j < N → (sp A j : Int) < pl A j + lnf A j ∧ sp A j < z) := by
  have p1 := x_pl h j hj
  unfold sp
  by_cases q : A 0 j = 5
  · rw [if_pos q]
    have hjN : j < N := by
      by_cases c : j = N
      · rw [c, h.2.2.2.1] at q
        exact absurd q (by decide)
      · omega
    have p2 := p1.2.2.2 hjN
    have l5 : 2 ≤ lnf A j := by
      unfold lnf
      rw [if_neg (by omega), if_neg (by omega), if_pos q]
      split <;> omega
    omega
  · rw [if_neg q]
    refine ⟨by omega, p1.2.2.1, fun hjN => ?_⟩
    have p2 := p1.2.2.2 hjN
    have := lnf_pos A j
    omega
theorem sp_inj (h : RX true C Y A N i0 z) (j j' : Nat) (hj : j ≤ N) (hj' : j' ≤ N) (e : sp A j = sp A j') : j = j' := by
  have b1 := sp_b h j hj
  have b2 := sp_b h j' hj'
  rcases Nat.lt_trichotomy j j' with c | c | c
  · have := x_lt h j j' c hj'
    have := b1.2.2 (by omega)
    omega
  · exact c
  · have := x_lt h j' j c hj
    have := b2.2.2 (by omega)
    omega
/-- stand -/
theorem c195 (hn : 10 ≤ n) (c p : Nat) (hp : p < 120) (m : ZM) (wt : Int) (hw : wt = 1 ∨ wt = 2) (h3 : m.1 c 3 = wt) (h9 : 0 ≤ m.1 (c + 1) p ∧ m.1 (c + 1) p ≤ 2) : zF195 n c p m = some ((), z_i (z_i (z_i (z_i (z_i m (c + 1) p (mn (m.1 (c + 1) p + wt))) (c + 2) (4 * p) (m.1 (c + 3) 0)) (c + 2) (4 * p + 1) (m.1 (c + 3) 1)) (c + 2) (4 * p + 2) (m.1 (c + 3) 2)) (c + 2) (4 * p + 3) (m.1 (c + 3) 3)) := by
  have lp : ∀ (m1 : ZM), m1.1 (c + 3) = m.1 (c + 3) → zL195_41 n c n p 0 m1 = some ((), z_i (z_i (z_i (z_i m1 (c + 2) (4 * p) (m.1 (c + 3) 0)) (c + 2) (4 * p + 1) (m.1 (c + 3) 1)) (c + 2) (4 * p + 2) (m.1 (c + 3) 2)) (c + 2) (4 * p + 3) (m.1 (c + 3) 3)) := by
    intro m1 hm1
    have st : ∀ (f o : Nat) (m2 : ZM), o < 4 → m2.1 (c + 3) o = m.1 (c + 3) o → zL195_41 n c (f + 1) p o m2 = zL195_41 n c f p ((o + 1 : Nat) : Int) (z_i m2 (c + 2) (4 * p + o) (m.1 (c + 3) o)) := by
      intro f o m2 ho h2
      rw [zL195_41, if_neg (by omega), if_neg (by omega), if_pos (by omega), if_neg (by omega), zlet, Int.toNat_natCast, show ((p : Int) * 4 + o).toNat = 4 * p + o by omega, h2]
      unfold zJ195_62
      rw [if_pos (by omega), show ((o + 1 : Nat) : Int) = (o : Int) + 1 by omega]
    obtain ⟨n', rfl⟩ : ∃ n', n = n' + 1 + 1 + 1 + 1 + 1 := ⟨n - 5, by omega⟩
    have e0 := st (n' + 1 + 1 + 1 + 1) 0 m1 (by omega) (by rw [hm1])
    have e1 := st (n' + 1 + 1 + 1) 1 (z_i m1 (c + 2) (4 * p + 0) (m.1 (c + 3) 0)) (by omega) (by rw [z_nc _ _ _ _ _ _ (by omega), hm1])
    have e2 := st (n' + 1 + 1) 2 (z_i (z_i m1 (c + 2) (4 * p + 0) (m.1 (c + 3) 0)) (c + 2) (4 * p + 1) (m.1 (c + 3) 1)) (by omega) (by rw [z_nc _ _ _ _ _ _ (by omega), z_nc _ _ _ _ _ _ (by omega), hm1])
    have e3 := st (n' + 1) 3 (z_i (z_i (z_i m1 (c + 2) (4 * p + 0) (m.1 (c + 3) 0)) (c + 2) (4 * p + 1) (m.1 (c + 3) 1)) (c + 2) (4 * p + 2) (m.1 (c + 3) 2)) (by omega) (by rw [z_nc _ _ _ _ _ _ (by omega), z_nc _ _ _ _ _ _ (by omega), z_nc _ _ _ _ _ _ (by omega), hm1])
    have e4 : ∀ m2, zL195_41 (n' + 1 + 1 + 1 + 1 + 1) c (n' + 1) p ((3 + 1 : Nat) : Int) m2 = some ((), m2) := fun m2 => by
      rw [zL195_41, if_pos (by omega)]
    exact e0.trans (e1.trans (e2.trans (e3.trans (e4 _))))
  unfold zF195 zJ195_38 mn
  rw [if_neg (by omega), if_pos (by omega), if_neg (by omega), Int.toNat_natCast, h3, if_pos (by omega)]
  by_cases q : 2 ≤ m.1 (c + 1) p + wt
  · rw [if_pos q, if_neg (by omega), zlet, lp _ (by funext o; rw [z_nc _ _ _ _ _ _ (by omega)])]
    have : (if m.1 (c + 1) p + wt ≤ 2 then m.1 (c + 1) p + wt else 2) = 2 := by split <;> omega
    rw [this]
  · rw [if_neg q, if_neg (by omega), zlet, lp _ (by funext o; rw [z_nc _ _ _ _ _ _ (by omega)]), if_pos (show m.1 (c + 1) p + wt ≤ 2 by omega)]
/-- stand, as an effect -/
theorem EF_st (h : RX true C Y A N i0 z) (hn : 10 ≤ n) (c k : Nat) (hk : k ≤ N) (hs : sd A k) (m : ZM) (wt : Int) (hw : wt = 1 ∨ wt = 2) (h3 : m.1 c 3 = wt) (h9 : ∀ p : Nat, p < 120 → 0 ≤ m.1 (c + 1) p ∧ m.1 (c + 1) p ≤ 2) : ∃ m', zF195 n c (sp A k) m = some ((), m') ∧ EF A N c wt (fun j => if sd A k ∧ k = j then [[k]] else []) m m' := by
  have h120 := h.2.2.2.2.2.2.2.1
  have sb := sp_b h k hk
  refine ⟨_, c195 hn c (sp A k) (by omega) m wt hw h3 (h9 _ (by omega)), ?_, ?_, ?_, ?_⟩
  · exact kp_ia (kp_ia (kp_ia (kp_ia (kp_ia (kp_refl _ m) (by simp [wT])) (by simp [wT])) (by simp [wT])) (by simp [wT])) (by simp [wT])
  · intro o ho
    rw [z_nc _ _ _ _ _ _ (by omega), z_nc _ _ _ _ _ _ (by omega), z_nc _ _ _ _ _ _ (by omega), z_nc _ _ _ _ _ _ (by omega), z_nc _ _ _ _ _ _ (by omega)]
  · intro p hp hps
    have := hps k hk hs
    rw [z_nc _ _ _ _ _ _ (by omega), z_nc _ _ _ _ _ _ (by omega), z_nc _ _ _ _ _ _ (by omega), z_nc _ _ _ _ _ _ (by omega), z_nk _ _ _ _ _ _ this]
  · intro j hj hjs
    rw [z_nc _ _ _ _ _ _ (by omega), z_nc _ _ _ _ _ _ (by omega), z_nc _ _ _ _ _ _ (by omega), z_nc _ _ _ _ _ _ (by omega)]
    by_cases q : k = j
    · subst q
      dsimp only
      rw [if_pos (show sd A k ∧ k = k from ⟨hs, rfl⟩), z_eq]
      refine ⟨by congr 1; simp, Or.inr ⟨[k], List.mem_singleton.2 rfl, fun o ho => ?_⟩⟩
      have r0 : rho A [k] o = 0 := rfl
      rw [r0]
      obtain rfl | rfl | rfl | rfl : o = 0 ∨ o = 1 ∨ o = 2 ∨ o = 3 := by omega
      · rw [z_nk _ _ _ _ _ _ (by omega), z_nk _ _ _ _ _ _ (by omega), z_nk _ _ _ _ _ _ (by omega)]
        have := z_eq (z_i m (c + 1) (sp A k) (mn (m.1 (c + 1) (sp A k) + wt))) (c + 2) (4 * sp A k) (m.1 (c + 3) 0)
        rw [show 4 * sp A k + 0 = 4 * sp A k from rfl, this]; omega
      · rw [z_nk _ _ _ _ _ _ (by omega), z_nk _ _ _ _ _ _ (by omega), z_eq]; omega
      · rw [z_nk _ _ _ _ _ _ (by omega), z_eq]; omega
      · rw [z_eq]; omega
    · have hne : sp A j ≠ sp A k := fun c => q (sp_inj h j k hj hk c).symm
      dsimp only
      rw [if_neg (show ¬ (sd A k ∧ k = j) from fun c => q c.2), z_nk _ _ _ _ _ _ hne]
      have := h9 (sp A j) (by have := sp_b h j hj; omega)
      refine ⟨?_, Or.inl ⟨rfl, fun o ho => ?_⟩⟩
      · unfold mn
        rw [List.length_nil]
        rw [if_pos (by omega)]; omega
      · rw [z_nk _ _ _ _ _ _ (by omega), z_nk _ _ _ _ _ _ (by omega), z_nk _ _ _ _ _ _ (by omega), z_nk _ _ _ _ _ _ (by omega), z_nc _ _ _ _ _ _ (by omega)]
end
