/-! The end of a repetition: the row against the class's automaton. -/
theorem re_n (pat : Bool) (A : Nat → Nat → Int) (n b : Nat) (sp mk u p : Int) (hb : b < n) : r_end pat A n b sp mk u p 0 n = 5 ∧ r_end pat A n b sp mk u p 2 n = b ∧ r_end pat A n b sp mk u p 3 n = sp ∧ r_end pat A n b sp mk u p 4 n = mk ∧ r_end pat A n b sp mk u p 5 n = u ∧ r_end pat A n b sp mk u p 6 n = -1 ∧ r_end pat A n b sp mk u p 7 n = p := by
  have h : ¬ n = b := by omega
  cases pat <;> simp [r_end, r_set, r_add, h]
theorem re_b (pat : Bool) (A : Nat → Nat → Int) (n b : Nat) (sp mk u p : Int) (hb : b < n) : r_end pat A n b sp mk u p 2 b = n ∧ (pat = true → r_end pat A n b sp mk u p 3 b = sp ∧ r_end pat A n b sp mk u p 4 b = mk) := by
  have h : ¬ b = n := by omega
  cases pat <;> simp [r_end, r_set, r_add]
theorem re_AK (pat : Bool) (A : Nat → Nat → Int) (n b : Nat) (sp mk u p : Int) (hb : b < n) : AK A (r_end pat A n b sp mk u p) n b := by
  constructor
  · intro a e he hne
    have h : ¬ e = n := by omega
    cases pat <;> simp [r_end, r_set, r_add, h, hne]
  · intro a e he ⟨h2, h3, h4⟩
    have h : ¬ e = n := by omega
    cases pat <;> simp [r_end, r_set, r_add, h, h2, h3, h4]
section END
variable {pat : Bool} {C : Nat → Int} {i0 i d n : Nat} {S A Y St : Nat → Nat → Int} {u v q rp cl : Int} {a : Nat} {P : Nat → Int}
theorem XA_end {Y' : Nat → Nat → Int} (h : XA pat C i0 i n q A Y) (e : Nat) (he : e < n) (h4 : A 0 e = 4) (h2 : A 2 e = -1) (sp mk u' : Int) (len : Nat) (hlen : (len : Int) = if sp = 0 then 2 else 3) (hY : YK Y Y' i) (hu' : -1 ≤ u' ∧ u' < n)
    (hc : C i = 41) (y1 : Y' 2 i = A 7 e + 1) (y2 : Y' 2 ((A 7 e).toNat + 1) = i) (y4 : Y' 4 (A 7 e).toNat = i + (if sp = 0 then 1 else 2))
    (hm : (sp = 0 ∧ (C (i + 1) = 42 ∨ C (i + 1) = 43 ∨ C (i + 1) = 63) ∧ mk = r_mk (C (i + 1))) ∨ (sp = C (i + 1) ∧ 0 < sp ∧ sp ≠ 36 ∧ ¬ opn sp ∧ ¬ cls sp ∧ (C (i + 2) = 42 ∨ C (i + 2) = 43) ∧ mk = r_mk (C (i + 2))))
    (hcc : ∀ p : Nat, p < i + len → Y' 1 p = C p) (h36 : C (i + len - 1) ≠ 36) :
    XA pat C i0 (i + len) (n + 1) q (r_end pat A n e sp mk u' i) Y' := by
  obtain ⟨x1, x2, x3, x4, x5, x6⟩ := h
  obtain ⟨n0, n2, n3, n4, n5, n6, n7⟩ := re_n pat A n e sp mk u' i he
  obtain ⟨b2, b34⟩ := re_b pat A n e sp mk u' i he
  have hAK := re_AK pat A n e sp mk u' i he
  generalize hAA : r_end pat A n e sp mk u' i = A' at n0 n2 n3 n4 n5 n6 n7 b2 b34 hAK
  have ek := x2 e he
  have hin := PL_in x1 e he
  have l2 : lnf A e = 2 := by unfold lnf; rw [if_neg (by omega), if_pos (Or.inl h4)]
  have el : ∀ j : Nat, j < n → lnf A' j = lnf A j := by
    intro j hj
    by_cases z : j = e
    · subst z
      rw [l2]
      unfold lnf
      rw [hAK.2 0 j hj (by omega), if_neg (by omega), if_pos (Or.inl h4)]
    · unfold lnf
      rw [hAK.1 0 j hj z, hAK.1 3 j hj z]
  have ln : lnf A' n = len := by
    unfold lnf
    rw [n0, n3, if_neg (by decide), if_neg (by decide), if_pos rfl, hlen]
  have e7 : ∀ j : Nat, j < n → A' 7 j = A 7 j := fun j hj => hAK.2 7 j hj (by omega)
  refine ⟨⟨by omega, fun _ => ⟨?_, ?_⟩, ?_⟩, ?_, hcc, ?_, by omega, h36⟩
  · rw [e7 0 (by omega)]; exact (x1.2.1 (by omega)).1
  · rw [show n + 1 - 1 = n by omega, n7, ln]; omega
  · intro j hj
    by_cases z : j + 1 = n
    · rw [z, n7, e7 j (by omega), el j (by omega)]
      have := (x1.2.1 (by omega)).2
      rw [show n - 1 = j by omega] at this
      exact this
    · rw [e7 j (by omega), e7 (j + 1) (by omega), el j (by omega)]
      exact x1.2.2 j (by omega)
  · intro j hj
    by_cases z : j = n
    · subst z
      have e0e : A' 0 e = 4 := by rw [hAK.2 0 e he (by omega)]; exact h4
      unfold EK
      rw [n0, n2, n3, n4, n5, n6, n7, Int.toNat_natCast, Int.toNat_natCast, e7 e he, e0e, b2]
      refine ⟨by omega, hu'.1, hu'.2, by omega, by omega, by omega, fun w => by omega, fun w => by omega, fun w => by omega, fun w => by omega, fun _ => ⟨hc, by omega, by omega, rfl, rfl, y1, hm⟩⟩
    · by_cases z2 : j = e
      · subst z2
        have f0 : A' 0 j = 4 := by rw [hAK.2 0 j he (by omega)]; exact h4
        have f5 : A' 5 j = A 5 j := hAK.2 5 j he (by omega)
        have f6 : A' 6 j = A 6 j := hAK.2 6 j he (by omega)
        have f7 := e7 j he
        obtain ⟨k1, k2, k3, k4, k5, k6, k7, k8, k9, k10, k11⟩ := ek
        obtain ⟨a1, a2, a3, a4, a5, a6⟩ := k10 h4
        have einn : innf A' (A 5 j) (A 6 j) = innf A (A 5 j) (A 6 j) := innf_k hAK _ _ (by omega) (by omega)
        have eord : ordf A' j = ordf A j := ordf_k hAK j (by omega)
        have ey := hY (A 7 j).toNat (by omega)
        unfold EK
        rw [f0, f5, f6, f7, einn, eord, b2, Int.toNat_natCast, n0, n2, n3, n4, n7]
        refine ⟨k1, k2, k3, k4, k5, by omega, fun w => by omega, fun w => by omega, fun w => by omega, fun _ => ⟨a1, a2, by rw [ey.1]; exact a3, a4, fun w => by rw [ey.2.1]; exact a5 w, Or.inr ⟨by omega, by omega, rfl, rfl, y2, y4, fun w => b34 w⟩⟩, fun w => by omega⟩
      · exact EK_k x1 (by omega) (x2 j (by omega)) (by omega) (by omega) hY hAK (Or.inl ⟨h4, h2⟩) z2
  · rw [ordf, ordf_k hAK n (Nat.le_refl n), n0, if_neg (by decide), Int.add_zero]
    exact x4
/-- a repetition is closed; its mark, with or without a separator, is read -/
theorem sim_end (h : XR pat C i0 (i, d, S, u, v, n, q, A) (4, pat, rp, innf A u v, cl, d + 1, St, Y, a, P)) (hc : cls (C i)) (hd : 0 < d) (hm : C i = clo (S 0 (d - 1))) (hs : 0 ≤ S 1 (d - 1)) (sp mk : Int) (len : Nat)
    (hcase : (len = 2 ∧ sp = 0 ∧ (C (i + 1) = 42 ∨ C (i + 1) = 43 ∨ C (i + 1) = 63) ∧ mk = r_mk (C (i + 1))) ∨ (len = 3 ∧ sp = C (i + 1) ∧ 0 < sp ∧ sp ≠ 36 ∧ ¬ opn sp ∧ ¬ cls sp ∧ ¬ (C (i + 1) = 42 ∨ C (i + 1) = 43 ∨ C (i + 1) = 63) ∧ (C (i + 2) = 42 ∨ C (i + 2) = 43) ∧ mk = r_mk (C (i + 2)))) :
    ∃ t', (∀ f, crn C (f + len) i (4, pat, rp, innf A u v, cl, d + 1, St, Y, a, P) = crn C f (i + len) t') ∧ XR pat C i0 (i + len, d - 1, S, (if v < 0 then -1 else u), -1, n + 1, q, r_end pat A n (S 1 (d - 1)).toNat sp mk (if v < 0 then -1 else u) i) t' ∧ t'.2.2.2.2.2.2.2.2 = (a, P) ∧ (0 ≤ rp ∧ rp ≤ 4 → 0 ≤ t'.2.2.1 ∧ t'.2.2.1 ≤ 4) := by
  obtain ⟨x1, x2, x3, x4, x5, x6, x7, x8, x9, x10, xa, xs⟩ := h
  dsimp only at x3 x6 x7 x8 xa xs
  have hu : -1 ≤ u ∧ u < n := ⟨xs.2.2.2.2.2.2.1, xs.2.2.2.2.2.2.2.1⟩
  have h8 := x8 (d - 1) (by omega)
  rw [show d - 1 + 1 = d by omega] at h8
  obtain ⟨a1, a2, a3, a4, a5, a6, a7, a8⟩ := xs.2.2.1 (d - 1) (by omega)
  obtain ⟨g1, g2, g3, g4, g5, g6⟩ := a8 hs
  obtain ⟨t1, t2, t3, t4⟩ := XS_top xa xs hd hs
  have hc41 : C i = 41 := by rw [hm, g6]; rfl
  obtain ⟨e, hee⟩ : ∃ e : Nat, S 1 (d - 1) = e := ⟨(S 1 (d - 1)).toNat, by omega⟩
  have hte : (S 1 (d - 1)).toNat = e := by omega
  rw [hte] at g2 g3 g4 g5 t1 ⊢
  have hen : e < n := by omega
  have ek := xa.2.1 e hen
  have ek4 := ek.2.2.2.2.2.2.2.2.2.1 g2
  have hlt7 := XA_lt xa e hen
  have hge7 := ek.1
  have hon : (S 2 (d - 1)).toNat ≠ i := by omega
  have ho1 : (S 2 (d - 1)).toNat = (A 7 e).toNat + 1 := by omega
  have hat := jn_at (Y := Y) (inn := innf A u v) (C i) (S 2 (d - 1)) hon
  have hlt := fun j p h1 h2 => jn_lt (Y := Y) (i := i) (inn := innf A u v) (C i) (S 2 (d - 1)) j p h1 h2
  have hst := c_cls (i := i) (a := a) (pat := pat) (rp := rp) (inn := innf A u v) (cl := cl) (St := St) (Y := Y) (P := P) (C i) hc (show 1 ≤ d by omega) (by rw [h8.2, hm])
  rw [h8.1] at hst
  generalize c_jn Y i (C i) (innf A u v) (S 2 (d - 1)) = Y2 at hat hlt hst
  have hrpe : c_rpe Y2 i = A 7 e := by
    unfold c_rpe
    rw [hat.1, hat.2.1, if_pos]
    · omega
    · refine ⟨hc41, by omega, ?_⟩
      rw [hlt 1 _ (by omega) (Or.inl (by omega)), xa.2.2.1 _ (by omega), show (S 2 (d - 1) - 1).toNat = (A 7 e).toNat by omega]
      exact ek4.1
  rw [hrpe, if_neg (show ¬ A 7 e = -1 by omega), hlt 3 _ (by omega) (Or.inl (by omega)), ek4.2.2.1, t1, ek4.2.2.2.1] at hst
  generalize hui : (if v < 0 then -1 else u) = u' at hst t1 t3 t4 ⊢
  have hu' : -1 ≤ u' ∧ u' < n := by rw [← hui]; split <;> omega
  have huu : u' = u ∨ u' = -1 := by
    by_cases z : v < 0
    · right; rw [← hui, if_pos z]
    · left; rw [← hui, if_neg z]
  -- the arrays behind the mark
  have key : ∃ Y3 : Nat → Nat → Int, (∀ j p : Nat, p ≤ i → (j ≠ 4 ∨ p ≠ (A 7 e).toNat) → Y3 j p = Y2 j p) ∧ Y3 4 (A 7 e).toNat = i + (if sp = 0 then 1 else 2) ∧ (∀ p : Nat, i < p → p < i + len → Y3 1 p = C p) ∧ C (i + len - 1) ≠ 36 ∧ (∀ f, crn C (f + len) i (4, pat, rp, innf A u v, cl, d + 1, St, Y, a, P) = crn C f (i + len) (4, pat, rp, innf A u' (-1), A 7 e, d, St, Y3, a, P)) := by
    rcases hcase with ⟨l1, l2, l3, l4⟩ | ⟨l1, l2, l3, l4, l5, l6, l7, l8, l9⟩
    · subst l1
      refine ⟨r_set (c_app Y2 (i + 1) (C (i + 1)) (innf A u' (-1))) 4 (A 7 e).toNat (i + 1 : Nat), ?_, ?_, ?_, ?_, ?_⟩
      · intro j p hp hj
        unfold r_set
        rw [if_neg (fun z => by rcases hj with w | w; exact w z.1; exact w z.2), app_lt _ _ _ _ _ _ (by omega)]
      · rw [if_pos l2]; simp [r_set]
      · intro p hp1 hp2
        have : p = i + 1 := by omega
        subst this
        unfold r_set
        rw [if_neg (fun z => by omega)]
        exact (app_at _ _ _ _).1
      · rw [show i + 2 - 1 = i + 1 by omega]; omega
      · intro f
        rw [crn_go (f + 1) (by omega) hst, crn_go f (by omega) (by rw [c_8, if_pos l3])]
    · subst l1
      refine ⟨r_set (c_app (c_app Y2 (i + 1) (C (i + 1)) (innf A u' (-1))) (i + 2) (C (i + 2)) (innf A u' (-1))) 4 (A 7 e).toNat (i + 2 : Nat), ?_, ?_, ?_, ?_, ?_⟩
      · intro j p hp hj
        unfold r_set
        rw [if_neg (fun z => by rcases hj with w | w; exact w z.1; exact w z.2), app_lt _ _ _ _ _ _ (by omega), app_lt _ _ _ _ _ _ (by omega)]
      · rw [if_neg (by omega)]; simp [r_set]
      · intro p hp1 hp2
        unfold r_set
        rw [if_neg (fun z => by omega)]
        by_cases w : p = i + 2
        · subst w; exact (app_at _ _ _ _).1
        · have : p = i + 1 := by omega
          subst this
          rw [app_lt _ _ _ _ _ _ w]
          exact (app_at _ _ _ _).1
      · rw [show i + 3 - 1 = i + 2 by omega]; omega
      · intro f
        rw [crn_go (f + 2) (by omega) hst, crn_go (f + 1) (show 0 < C (i + 1) by omega) (by rw [c_8, if_neg l7, if_pos ⟨by rw [← l2]; exact l4, by rw [← l2]; exact l5, by rw [← l2]; exact l6⟩]), crn_go f (show 0 < C (i + 1 + 1) by rw [show i + 1 + 1 = i + 2 by omega]; omega) (by rw [c_9, if_pos (show C (i + 1 + 1) = 42 ∨ C (i + 1 + 1) = 43 from l8)])]
  obtain ⟨Y3, k1, k2, k3, k4, k5⟩ := key
  refine ⟨_, k5, ?_, rfl, fun z => z⟩
  have hyk : YK Y Y3 i := fun p hp => ⟨by rw [k1 3 p (by omega) (Or.inl (by omega))]; exact hlt 3 p (by omega) (Or.inl (by omega)), by rw [k1 5 p (by omega) (Or.inl (by omega))]; exact hlt 5 p (by omega) (Or.inl (by omega)), by rw [k1 1 p (by omega) (Or.inl (by omega))]; exact hlt 1 p (by omega) (Or.inl (by omega)), fun z => by rw [k1 2 p (by omega) (Or.inl (by omega))]; exact hlt 2 p (by omega) (Or.inr (fun w => z (by rw [w]; exact a3))), fun z => by rw [k1 4 p (by omega) (Or.inr (fun w => z (by rw [w]; exact g5)))]; exact hlt 4 p (by omega) (Or.inl (by omega))⟩
  have hl : (len : Int) = if sp = 0 then 2 else 3 := by
    rcases hcase with w | w
    · rw [if_pos w.2.1]; omega
    · rw [if_neg (by omega)]; omega
  have hAK := re_AK pat A n e sp mk u' i hen
  have nx := XA_end (Y' := Y3) xa e hen g2 g3 sp mk u' len hl hyk hu' hc41 (by rw [k1 2 i (by omega) (Or.inl (by omega)), hat.2.1]; omega) (by rw [k1 2 _ (by omega) (Or.inl (by omega)), ← ho1]; exact hat.2.2.2.2.2) k2 (by
      rcases hcase with w | w
      · exact Or.inl w.2
      · exact Or.inr ⟨w.2.1, w.2.2.1, w.2.2.2.1, w.2.2.2.2.1, w.2.2.2.2.2.1, w.2.2.2.2.2.2.2.1, w.2.2.2.2.2.2.2.2⟩) (by
      intro p hp
      by_cases w : i < p
      · exact k3 p w hp
      · rw [k1 1 p (by omega) (Or.inl (by omega))]
        by_cases w2 : p = i
        · subst w2; exact hat.1
        · rw [hlt 1 p w2 (Or.inl (by omega))]; exact xa.2.2.1 p (by omega)) k4
  refine ⟨rfl, rfl, x3, ?_, ?_, x6, x7, fun k hk => x8 k (by have : k < d - 1 := hk; omega), x9, x10, nx, ?_⟩
  · exact (innf_k hAK u' (-1) hu'.2 (by omega)).symm
  · show d = d - 1 + 1
    omega
  · refine XS_pop (A' := r_end pat A n e sp mk u' i) (Y' := Y3) (i' := i + len) (n' := n + 1) (u' := u') (v' := -1) xs hd (by omega) (by omega) (fun a e' he' ha => hAK.2 a e' he' ha) ?_ (fun p hp hne => by rw [k1 2 p (by omega) (Or.inl (by omega))]; exact hlt 2 p (by omega) (Or.inr hne)) (by rw [t3, if_neg (show ¬ (0 : Int) ≤ -1 by decide)]) (fun k hk hk0 => Or.inl ⟨(t4 k hk hk0).1, (t4 k hk hk0).2.1⟩) huu (Or.inr rfl) (fun z => by omega)
    intro k hk hk0
    replace hk0 : 0 ≤ S 1 k := hk0
    show r_end pat A n e sp mk u' i 2 (S 1 k).toNat = A 2 (S 1 k).toNat ∧ Y3 4 (A 7 (S 1 k).toNat).toNat = -1
    obtain ⟨b1, b2, b3, b4, b5, b6, b7, b8⟩ := xs.2.2.1 k (by omega)
    obtain ⟨c1, c2, c3, c4, c5, c6⟩ := b8 hk0
    have hne := (t4 k hk hk0).2.2
    have hlk := XA_lt xa (S 1 k).toNat (by omega)
    have hgk := (xa.2.1 (S 1 k).toNat (by omega)).1
    have hmono := xs.2.2.2.1 k (d - 1) hk (by omega)
    refine ⟨hAK.1 2 _ (by omega) (by omega), ?_⟩
    rw [k1 4 _ (by omega) (Or.inr (by omega)), hlt 4 _ (by omega) (Or.inl (by omega))]
    exact c5
end END
