/-! Faults and the end of a row: the row against the class's automaton. -/
section FLT
variable {pat : Bool} {C : Nat → Int} {i0 i d n : Nat} {S A Y St : Nat → Nat → Int} {u v q rp cl : Int} {a : Nat} {P : Nat → Int}
/-- the class comes to the same fault -/
def FB (C : Nat → Int) (i : Nat) (t : CS) (j : Nat) : Prop := ∃ k : Nat, j = i + k ∧ k ≤ 3 ∧ ∀ g, (crn C (g + k + 1) i t).1 = 1 ∧ (crn C (g + k + 1) i t).2.1 = j
theorem FB_0 {t : CS} (h : C i ≤ 0) (ht : t.1 ≠ 3) : FB C i t i := ⟨0, rfl, by omega, fun g => by rw [show g + 0 + 1 = g + 1 from rfl, crn_z g h ht]; exact ⟨rfl, rfl⟩⟩
theorem FB_n {t : CS} (h0 : 0 < C i) (h : cst (C i) i t = none) : FB C i t i := ⟨0, rfl, by omega, fun g => by rw [show g + 0 + 1 = g + 1 from rfl, crn_no g h0 h]; exact ⟨rfl, rfl⟩⟩
theorem FB_1 {t t1 : CS} {j : Nat} (h0 : 0 < C i) (h : cst (C i) i t = some t1) (hb : ∃ k : Nat, j = i + 1 + k ∧ k ≤ 2 ∧ ∀ g, (crn C (g + k + 1) (i + 1) t1).1 = 1 ∧ (crn C (g + k + 1) (i + 1) t1).2.1 = j) : FB C i t j := by
  obtain ⟨k, e1, e2, e3⟩ := hb
  refine ⟨k + 1, by omega, by omega, fun g => ?_⟩
  rw [show g + (k + 1) + 1 = (g + k + 1) + 1 by omega, crn_go _ h0 h]
  exact e3 g
/-- the next token is refused -/
theorem FB_e {t1 : CS} (ht : t1.1 ≠ 3) (h : 0 < C i → cst (C i) i t1 = none) : ∀ g, (crn C (g + 0 + 1) i t1).1 = 1 ∧ (crn C (g + 0 + 1) i t1).2.1 = i := by
  intro g
  rw [show g + 0 + 1 = g + 1 from rfl]
  by_cases z : C i ≤ 0
  · rw [crn_z g z ht]; exact ⟨rfl, rfl⟩
  · rw [crn_no g (by omega) (h (by omega))]; exact ⟨rfl, rfl⟩
theorem sim_8 (h : XR pat C i0 (i, d, S, u, v, n, q, A) (4, pat, rp, innf A u v, cl, d + 1, St, Y, a, P)) (hc : cls (C i)) (hd : 0 < d) (hm : C i = clo (S 0 (d - 1))) (hs : 0 ≤ S 1 (d - 1)) : ∃ inn' cl' Y2, cst (C i) i (4, pat, rp, innf A u v, cl, d + 1, St, Y, a, P) = some (8, pat, rp, inn', cl', d, St, Y2, a, P) := by
  obtain ⟨x1, x2, x3, x4, x5, x6, x7, x8, x9, x10, xa, xs⟩ := h
  dsimp only at x3 x6 x7 x8 xa xs
  have h8 := x8 (d - 1) (by omega)
  rw [show d - 1 + 1 = d by omega] at h8
  obtain ⟨a1, a2, a3, a4, a5, a6, a7, a8⟩ := xs.2.2.1 (d - 1) (by omega)
  obtain ⟨g1, g2, g3, g4, g5, g6⟩ := a8 hs
  have hc41 : C i = 41 := by rw [hm, g6]; rfl
  have hen : (S 1 (d - 1)).toNat < n := by omega
  have ek := xa.2.1 _ hen
  have ek4 := ek.2.2.2.2.2.2.2.2.2.1 g2
  have hge7 := ek.1
  have hlt7 := XA_lt xa _ hen
  have hat := jn_at (Y := Y) (inn := innf A u v) (i := i) (C i) (S 2 (d - 1)) (by omega)
  have hlt := fun j p h1 h2 => jn_lt (Y := Y) (i := i) (inn := innf A u v) (C i) (S 2 (d - 1)) j p h1 h2
  have hst := c_cls (i := i) (a := a) (pat := pat) (rp := rp) (inn := innf A u v) (cl := cl) (St := St) (Y := Y) (P := P) (C i) hc (show 1 ≤ d by omega) (by rw [h8.2, hm])
  rw [h8.1] at hst
  generalize c_jn Y i (C i) (innf A u v) (S 2 (d - 1)) = Y2 at hat hlt hst
  have hrpe : c_rpe Y2 i = A 7 (S 1 (d - 1)).toNat := by
    unfold c_rpe
    rw [hat.1, hat.2.1, if_pos]
    · omega
    · refine ⟨hc41, by omega, ?_⟩
      rw [hlt 1 _ (by omega) (Or.inl (by omega)), xa.2.2.1 _ (by omega), show (S 2 (d - 1) - 1).toNat = (A 7 (S 1 (d - 1)).toNat).toNat by omega]
      exact ek4.1
  rw [if_neg (by rw [hrpe]; omega)] at hst
  exact ⟨_, _, _, hst⟩
theorem sim_bad (hC : ∀ p, C p = 0 ∨ C p = -1 ∨ vt (C p)) (h : XR pat C i0 (i, d, S, u, v, n, q, A) (4, pat, rp, innf A u v, cl, d + 1, St, Y, a, P)) (hd9 : d ≤ 9) (hr : 0 ≤ rp ∧ rp ≤ 4) (s' : RS) (hb : rst pat C (i, d, S, u, v, n, q, A) = (1, s')) : FB C i (4, pat, rp, innf A u v, cl, d + 1, St, Y, a, P) s'.1 := by
  have hx := h
  obtain ⟨x1, x2, x3, x4, x5, x6, x7, x8, x9, x10, xa, xs⟩ := h
  dsimp only at x3 x6 x7 x8 xa xs
  unfold rst at hb
  dsimp only at hb
  by_cases c0 : C i ≤ 0
  · rw [if_pos c0] at hb
    cases hb
    exact FB_0 c0 (show (4 : Int) ≠ 3 by decide)
  rw [if_neg c0] at hb
  have p0 : 0 < C i := by omega
  by_cases c1 : cls (C i)
  · rw [if_pos c1] at hb
    by_cases c2 : d = 0
    · rw [if_pos c2] at hb
      by_cases c3 : C i = (if pat = true then 41 else 125)
      · rw [if_pos c3] at hb; cases hb
      · rw [if_neg c3] at hb
        cases hb
        subst c2
        exact FB_n p0 (c_clsn _ c1 (by rw [x7]; exact fun z => c3 z.symm))
    rw [if_neg c2] at hb
    have h8 := x8 (d - 1) (by omega)
    rw [show d - 1 + 1 = d by omega] at h8
    by_cases c3 : C i ≠ clo (S 0 (d - 1))
    · rw [if_pos c3] at hb
      cases hb
      exact FB_n p0 (c_clsn _ c1 (by rw [h8.2]; exact fun z => c3 z.symm))
    rw [if_neg c3] at hb
    by_cases c4 : S 1 (d - 1) < 0
    · rw [if_pos c4] at hb; cases hb
    rw [if_neg c4] at hb
    obtain ⟨inn', cl', Y2, h8'⟩ := sim_8 hx c1 (by omega) (Decidable.of_not_not c3) (by omega)
    by_cases c5 : C (i + 1) = 42 ∨ C (i + 1) = 43 ∨ C (i + 1) = 63
    · rw [if_pos c5] at hb; cases hb
    rw [if_neg c5] at hb
    by_cases c6 : 0 < C (i + 1) ∧ ¬ opn (C (i + 1)) ∧ ¬ cls (C (i + 1)) ∧ C (i + 1) ≠ 36
    · rw [if_pos c6] at hb
      by_cases c7 : C (i + 2) = 42 ∨ C (i + 2) = 43
      · rw [if_pos c7] at hb; cases hb
      rw [if_neg c7] at hb
      cases hb
      refine FB_1 p0 h8' ⟨1, rfl, by omega, fun g => ?_⟩
      rw [show g + 1 + 1 = (g + 1) + 1 by omega, crn_go (g + 1) c6.1 (by rw [c_8, if_neg c5, if_pos ⟨c6.2.2.2, c6.2.1, c6.2.2.1⟩])]
      exact FB_e (show (9 : Int) ≠ 3 by decide) (fun _ => by rw [c_9, if_neg (show ¬ (C (i + 1 + 1) = 42 ∨ C (i + 1 + 1) = 43) from c7)]) g
    · rw [if_neg c6] at hb
      cases hb
      refine FB_1 p0 h8' ⟨0, rfl, by omega, FB_e (show (8 : Int) ≠ 3 by decide) (fun z => ?_)⟩
      rw [c_8, if_neg c5, if_neg (fun w => c6 ⟨z, w.2.1, w.2.2, w.1⟩)]
  rw [if_neg c1] at hb
  by_cases c2 : C i = 36
  · rw [if_pos c2] at hb
    have hdol : cst (C i) i (4, pat, rp, innf A u v, cl, d + 1, St, Y, a, P) = some (5, pat, rp, innf A u v, cl, d + 1, St, c_app Y i 36 (innf A u v), a, P) := by rw [c2]; exact c_dol
    by_cases c3 : wd (C (i + 1))
    · rw [if_pos c3] at hb
      by_cases c4 : pat = true
      · subst c4
        rw [if_pos rfl] at hb
        by_cases c5 : C (i + 2) ≠ 58
        · rw [if_pos c5] at hb
          cases hb
          refine FB_1 p0 hdol ⟨1, rfl, by omega, fun g => ?_⟩
          rw [show g + 1 + 1 = (g + 1) + 1 by omega, crn_go (g + 1) (by omega) (c_5w _ c3), if_pos rfl]
          exact FB_e (show (6 : Int) ≠ 3 by decide) (fun _ => by rw [c_6, if_neg (show ¬ C (i + 1 + 1) = 58 from c5)]) g
        rw [if_neg c5] at hb
        by_cases c6 : knd (C (i + 3))
        · rw [if_pos c6] at hb; cases hb
        rw [if_neg c6] at hb
        cases hb
        have c5' : C (i + 2) = 58 := Decidable.of_not_not c5
        refine FB_1 p0 hdol ⟨2, rfl, by omega, fun g => ?_⟩
        rw [show g + 2 + 1 = (g + 2) + 1 by omega, crn_go (g + 2) (by omega) (c_5w _ c3), if_pos rfl, show g + 2 = (g + 1) + 1 by omega, crn_go (g + 1) (show 0 < C (i + 1 + 1) by rw [show i + 1 + 1 = i + 2 by omega]; omega) (by rw [c_6, if_pos (show C (i + 1 + 1) = 58 from c5')])]
        exact FB_e (show (7 : Int) ≠ 3 by decide) (fun _ => by rw [c_7, if_neg (show ¬ knd (C (i + 1 + 1 + 1)) from c6)]) g
      · rw [if_neg c4] at hb; cases hb
    rw [if_neg c3] at hb
    by_cases c4 : C (i + 1) ≠ 40 ∨ 0 ≤ v ∨ (pat = true ∧ 4 ≤ q) ∨ 9 ≤ d
    · rw [if_pos c4] at hb
      cases hb
      refine FB_1 p0 hdol ⟨0, rfl, by omega, FB_e (show (5 : Int) ≠ 3 by decide) (fun z => ?_)⟩
      rw [c_5n _ c3, show i + 1 - 1 = i by omega]
      have hyi : c_app (c_app Y i 36 (innf A u v)) (i + 1) (C (i + 1)) (innf A u v) 3 i = innf A u v := (app_lt _ _ _ _ 3 i (by omega)).trans (app_at Y i 36 (innf A u v)).2.2.1
      have hdep := dep_in xa xs (c_app (c_app Y i 36 (innf A u v)) (i + 1) (C (i + 1)) (innf A u v)) (fun p hp => by rw [app_lt _ _ _ _ _ _ (by omega), app_lt _ _ _ _ _ _ (by omega)]) hyi
      by_cases w : C (i + 1) = 40 ∧ c_dep (c_app (c_app Y i 36 (innf A u v)) (i + 1) (C (i + 1)) (innf A u v)) i ≤ 1 ∧ d + 1 < 10
      · rw [if_pos w]
        have hv0 : ¬ 0 ≤ v := by
          intro z2
          rw [hdep, if_pos z2] at w
          omega
        have hp4 : pat = true ∧ 4 ≤ q := by
          rcases c4 with z | z | z | z
          · exact absurd w.1 z
          · exact absurd z hv0
          · exact z
          · omega
        rw [if_pos hp4.1, if_neg (by have := x3 hp4.1; omega)]
      · rw [if_neg w]
    · rw [if_neg c4] at hb; cases hb
  rw [if_neg c2] at hb
  by_cases c3 : opn (C i)
  · rw [if_pos c3] at hb
    by_cases c4 : 9 ≤ d
    · rw [if_pos c4] at hb
      cases hb
      refine FB_n p0 ?_
      unfold cst
      dsimp only
      rw [if_neg (by decide), if_neg (by decide), if_neg (by decide), if_neg (by decide), if_pos rfl, if_neg c2, if_pos c3, if_neg (by omega)]
    · rw [if_neg c4] at hb; cases hb
  rw [if_neg c3] at hb
  cases hb
/-- a row that has been read -/
def XD (pat : Bool) (C : Nat → Int) (i0 : Nat) (s : RS) (t : CS) : Prop :=
  t.1 = (if pat = true then 2 else 3) ∧ t.2.1 = pat ∧ t.2.2.2.1 = -1 ∧ t.2.2.2.2.2.1 = 0 ∧ 1 ≤ s.1 ∧ 1 ≤ s.2.2.2.2.2.1 ∧ C (s.1 - 1) = lb pat ∧ i0 < s.1 - 1 ∧
  t.2.2.2.2.2.2.2.1 2 i0 = ((s.1 - 1 : Nat) : Int) ∧ t.2.2.2.2.2.2.2.1 2 (s.1 - 1) = i0 ∧ (∀ p : Nat, p < s.1 → t.2.2.2.2.2.2.2.1 1 p = C p) ∧
  PL s.2.2.2.2.2.2.2 (s.2.2.2.2.2.1 - 1) i0 ((s.1 - 1 : Nat) : Int) ∧ (∀ e : Nat, e < s.2.2.2.2.2.1 - 1 → EK pat C t.2.2.2.2.2.2.2.1 s.2.2.2.2.2.2.2 (s.2.2.2.2.2.1 - 1) e) ∧ s.2.2.2.2.2.2.2 0 (s.2.2.2.2.2.1 - 1) = 6 ∧ s.2.2.2.2.2.2.2 7 (s.2.2.2.2.2.1 - 1) = ((s.1 - 1 : Nat) : Int)
theorem sim_done (h : XR pat C i0 (i, 0, S, u, v, n, q, A) (4, pat, rp, innf A u v, cl, 0 + 1, St, Y, a, P)) (hc : cls (C i)) (hl : C i = lb pat) : ∃ t', cst (C i) i (4, pat, rp, innf A u v, cl, 0 + 1, St, Y, a, P) = some t' ∧ XD pat C i0 (i + 1, 0, S, u, v, n + 1, q, r_add A n 6 0 0 u v i) t' ∧ t'.2.2.2.2.2.2.2.2 = (a, P) ∧ t'.2.2.1 = rp := by
  obtain ⟨x1, x2, x3, x4, x5, x6, x7, x8, x9, x10, xa, xs⟩ := h
  dsimp only at x3 x6 x7 x8 xa xs
  have hi0 := xs.2.1
  have hcn := xs.2.2.2.2.1
  rw [show cntr S 0 = 0 from rfl] at hcn
  have hv : ¬ 0 ≤ v := fun z => by rw [if_pos z] at hcn; omega
  have hu : ¬ 0 ≤ u := fun z => by rw [if_neg hv, if_pos z] at hcn; omega
  have hst := c_cls0 (i := i) (a := a) (pat := pat) (rp := rp) (inn := innf A u v) (cl := cl) (St := St) (Y := Y) (P := P) (C i) hc (by rw [x7, hl])
  rw [x6] at hst
  have hat := jn_at (Y := Y) (inn := innf A u v) (i := i) (C i) (i0 : Int) (by rw [Int.toNat_natCast]; omega)
  have hlt := fun j p h1 h2 => jn_lt (Y := Y) (i := i) (inn := innf A u v) (C i) (i0 : Int) j p h1 h2
  rw [Int.toNat_natCast] at hat hlt
  generalize c_jn Y i (C i) (innf A u v) i0 = Y2 at hat hlt hst
  have hyk : YK Y Y2 i := fun p hp => ⟨hlt 3 p (by omega) (Or.inl (by omega)), hlt 5 p (by omega) (Or.inl (by omega)), hlt 1 p (by omega) (Or.inl (by omega)), fun z => hlt 2 p (by omega) (Or.inr (fun w => z (by rw [w]; exact xs.1))), fun _ => hlt 4 p (by omega) (Or.inl (by omega))⟩
  have hAK := AK_add A n 6 0 0 u v i n
  have hn : n + 1 - 1 = n := by omega
  have hi1 : i + 1 - 1 = i := by omega
  obtain ⟨r0', r1, r2, r3, r4, r5, r6, r7⟩ := ra A n 6 0 0 u v i
  refine ⟨_, hst, ⟨rfl, rfl, ?_, rfl, by show 1 ≤ i + 1; omega, by show 1 ≤ n + 1; omega, by show C (i + 1 - 1) = lb pat; rw [hi1]; exact hl, by show i0 < i + 1 - 1; omega, ?_, ?_, ?_, ?_, ?_, ?_, ?_⟩, rfl, rfl⟩
  · show innf A u v = -1
    unfold innf
    rw [if_neg hv, if_neg hu]
  · show Y2 2 i0 = ((i + 1 - 1 : Nat) : Int)
    rw [hi1]; exact hat.2.2.2.2.2
  · show Y2 2 (i + 1 - 1) = i0
    rw [hi1]; exact hat.2.1
  · intro p hp
    show Y2 1 p = C p
    have hp' : p < i + 1 := hp
    by_cases z : p = i
    · subst z; exact hat.1
    · rw [hlt 1 p z (Or.inl (by omega))]; exact xa.2.2.1 p (by omega)
  · show PL (r_add A n 6 0 0 u v i) (n + 1 - 1) i0 ((i + 1 - 1 : Nat) : Int)
    rw [hn, hi1]
    have ea : ∀ a e : Nat, e < n → r_add A n 6 0 0 u v i a e = A a e := fun a e he => by unfold r_add; rw [if_neg (by omega)]
    have el : ∀ e : Nat, e < n → lnf (r_add A n 6 0 0 u v i) e = lnf A e := fun e he => by unfold lnf; rw [ea 0 e he, ea 3 e he]
    refine ⟨xa.1.1, fun z => ?_, fun e he => ?_⟩
    · rw [ea 7 0 z, ea 7 (n - 1) (by omega), el (n - 1) (by omega)]; exact xa.1.2.1 z
    · rw [ea 7 e (by omega), ea 7 (e + 1) he, el e (by omega)]; exact xa.1.2.2 e he
  · intro e he
    show EK pat C Y2 (r_add A n 6 0 0 u v i) (n + 1 - 1) e
    have he' : e < n + 1 - 1 := he
    rw [hn] at he' ⊢
    exact EK_k xa.1 (by omega) (xa.2.1 e he') he' (Nat.le_refl n) hyk hAK (Or.inr (Nat.le_refl n)) (by omega)
  · show r_add A n 6 0 0 u v i 0 (n + 1 - 1) = 6
    rw [hn]; exact r0'
  · show r_add A n 6 0 0 u v i 7 (n + 1 - 1) = ((i + 1 - 1 : Nat) : Int)
    rw [hn, hi1]; exact r7
end FLT
