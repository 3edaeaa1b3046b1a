/-! Arms and definitions: the class's automaton against the pure reading. -/
def AT (C : Nat → Int) (i : Nat) (t : CS) : Prop := t.1 = 1 ∧ t.2.2.2.1 = -1 ∧ t.2.2.2.2.2.1 = 0 ∧ 1 ≤ i ∧ C (i - 1) ≠ 36 ∧ (∀ p : Nat, p < i → t.2.2.2.2.2.2.2.1 1 p = C p) ∧ t.2.2.2.2.2.2.2.2.1 < 3
theorem c_1 (c : Int) (i : Nat) (pat : Bool) (rp inn cl : Int) (S Y : Nat → Nat → Int) (a : Nat) (P : Nat → Int) (ha : a < 3) : cst c i (1, pat, rp, inn, cl, 0, S, Y, a, P) = if c = 40 then some (4, true, 0, inn, cl, 0 + 1, c_psh S 0 i c, c_app Y i c inn, a + 1, fun k => if k = a then (i : Int) else P k) else none := by
  unfold cst
  dsimp only
  rw [if_neg (by decide), if_pos rfl]
  by_cases z : c = 40
  · rw [if_pos z, if_pos ⟨z, by omega, ha⟩]
  · rw [if_neg z, if_neg (fun w => z w.1)]
theorem c_2 (c : Int) (i : Nat) (pat : Bool) (rp inn cl : Int) (S Y : Nat → Nat → Int) (a : Nat) (P : Nat → Int) : cst c i (2, pat, rp, inn, cl, 0, S, Y, a, P) = if c = 123 then some (4, false, rp, inn, cl, 0 + 1, c_psh S 0 i c, c_app Y i c inn, a, P) else none := by
  unfold cst
  dsimp only
  rw [if_neg (by decide), if_neg (by decide), if_pos rfl]
  by_cases z : c = 123
  · rw [if_pos z, if_pos ⟨z, by omega⟩]
  · rw [if_neg z, if_neg (fun w => z w.1)]
/-- the run ends in a fault at token j -/
def BDr (C : Nat → Int) (i : Nat) (t : CS) (j K : Nat) : Prop := ∀ g, (crn C (g + K) i t).1 = 1 ∧ (crn C (g + K) i t).2.1 = j
theorem BDr_tr {C : Nat → Int} {i i' j k K : Nat} {t t' : CS} (h : ∀ g, crn C (g + k) i t = crn C g i' t') (hb : BDr C i' t' j K) : BDr C i t j (K + k) := by
  intro g
  rw [show g + (K + k) = (g + K) + k by omega, h]
  exact hb g
theorem arm_c (C : Nat → Int) (hC : ∀ p, C p = 0 ∨ C p = -1 ∨ vt (C p)) (hz : ∀ p, 120 ≤ p → C p = 0) (i : Nat) (t : CS) (h : AT C i t) :
    ((armr C i).1 = 1 ∧ ∃ K, K ≤ 2000 ∧ BDr C i t (armr C i).2 K) ∨
    ((armr C i).1 = 2 ∧ ∃ (k kP : Nat) (tP t' : CS), kP ≤ k ∧ k ≤ 2000 ∧ (∀ g, crn C (g + k) i t = crn C g (armr C i).2 t') ∧ (∀ g, crn C (g + kP) i t = crn C g (armP C i).2.1 tP) ∧ XD true C i (armP C i).2 tP ∧ XD false C (armP C i).2.1 (armB C i).2 t' ∧ (armr C i).2 = (armB C i).2.1 ∧ t'.2.2.2.2.2.2.2.2 = (t.2.2.2.2.2.2.2.2.1 + 1, fun k => if k = t.2.2.2.2.2.2.2.2.1 then (i : Int) else t.2.2.2.2.2.2.2.2.2 k)) := by
  obtain ⟨ph, pat, rp, inn, cl, d, S, Y, a, P⟩ := t
  obtain ⟨h1, h2, h3, h4, h5, h6, h7⟩ := h
  dsimp only at h1 h2 h3 h6 h7
  subst h1 h2 h3
  have rb : ∀ (pt : Bool) (i0 : Nat) (t1 : CS), XG pt C i0 (r0 (i0 + 1)) t1 → 1 ≤ i0 → _ := fun pt i0 t1 hx _ => sim_row pt C hC hz i0 130 (r0 (i0 + 1)) t1 hx (RI_0 _) (by show 120 ≤ i0 + 1 + 130; omega)
  by_cases c1 : C i = 40
  · have hcs := c_1 (C i) i pat rp (-1) cl S Y a P h7
    rw [if_pos c1] at hcs
    have hg1 : ∀ g, crn C (g + 1) i (1, pat, rp, -1, cl, 0, S, Y, a, P) = crn C g (i + 1) (4, true, 0, -1, cl, 0 + 1, c_psh S 0 i (C i), c_app Y i (C i) (-1), a + 1, fun k => if k = a then (i : Int) else P k) := fun g => crn_go g (by omega) hcs
    have hx := XG_0 true C i 0 cl S Y (a + 1) (fun k => if k = a then (i : Int) else P k) h4 h5 (by rw [if_pos rfl]; exact c1) h6 (by omega) (fun _ => rfl)
    rcases rb true i _ hx h4 with ⟨w, K, k1, k2⟩ | ⟨w, kp, tP, e1, e2, e3, e4, e5⟩
    · left
      have er : armr C i = (1, (armP C i).2.1) := by
        unfold armr
        rw [if_neg (by simpa using c1), if_pos (show (armP C i).1 = 1 from w)]
      rw [er]
      exact ⟨rfl, K + 1, by omega, BDr_tr hg1 (fun g => k2 g)⟩
    · have hP2 : (armP C i).1 = 2 := w
      have e1' : (armP C i).2.1 = i + 1 + kp := e1
      have hgP : ∀ g, crn C (g + (kp + 1)) i (1, pat, rp, -1, cl, 0, S, Y, a, P) = crn C g (armP C i).2.1 tP := by
        intro g
        rw [show g + (kp + 1) = (g + kp) + 1 by omega, hg1]
        exact e2 g
      have hxd : XD true C i (armP C i).2 tP := e3
      obtain ⟨p1, p2, p3, p4, p5, p6, p7, p8, p9, p10, p11, p12⟩ := id hxd
      rw [if_pos rfl] at p1
      have hkp : kp ≤ 120 := by
        by_cases z : kp ≤ 120
        · exact z
        · exfalso
          have := hz ((armP C i).2.1 - 1) (by omega)
          rw [p7] at this
          exact absurd this (by decide)
      obtain ⟨ph', pt', rp', inn', cl', d', S', Y', a', P'⟩ := tP
      dsimp only at p1 p2 p3 p4 p11 e4 e5
      subst p1 p2 p3 p4
      have hcs2 := c_2 (C (armP C i).2.1) (armP C i).2.1 true rp' (-1) cl' S' Y' a' P'
      by_cases c2 : C (armP C i).2.1 = 123
      · rw [if_pos c2] at hcs2
        have hg2 : ∀ g, crn C (g + 1) (armP C i).2.1 (2, true, rp', -1, cl', 0, S', Y', a', P') = crn C g ((armP C i).2.1 + 1) (4, false, rp', -1, cl', 0 + 1, c_psh S' 0 (armP C i).2.1 (C (armP C i).2.1), c_app Y' (armP C i).2.1 (C (armP C i).2.1) (-1), a', P') := fun g => crn_go g (by omega) hcs2
        have hx2 := XG_0 false C (armP C i).2.1 rp' cl' S' Y' a' P' p5 (by rw [p7]; decide) (by rw [if_neg (by decide)]; exact c2) p11 e5 (fun z => by cases z)
        rcases rb false (armP C i).2.1 _ hx2 p5 with ⟨w2, K, k1, k2⟩ | ⟨w2, kb, tB, f1, f2, f3, f4, f5⟩
        · left
          have er : armr C i = (1, (armB C i).2.1) := by
            unfold armr
            rw [if_neg (by simpa using c1), if_neg (by omega), if_neg (by simpa using c2), if_pos (show (armB C i).1 = 1 from w2)]
          rw [er]
          exact ⟨rfl, K + 1 + (kp + 1), by omega, BDr_tr hgP (BDr_tr hg2 (fun g => k2 g))⟩
        · right
          have er : armr C i = (2, (armB C i).2.1) := by
            unfold armr
            rw [if_neg (by simpa using c1), if_neg (by omega), if_neg (by simpa using c2), if_neg (by have : (armB C i).1 = 2 := w2; omega)]
          rw [er]
          have f1' : (armB C i).2.1 = (armP C i).2.1 + 1 + kb := f1
          have hkb : kb ≤ 120 := by
            by_cases z : kb ≤ 120
            · exact z
            · exfalso
              have f37 : C ((armB C i).2.1 - 1) = lb false := f3.2.2.2.2.2.2.1
              have := hz ((armB C i).2.1 - 1) (by omega)
              rw [f37] at this
              exact absurd this (by decide)
          refine ⟨rfl, kb + 1 + (kp + 1), kp + 1, _, tB, by omega, by omega, fun g => ?_, hgP, hxd, f3, rfl, ?_⟩
          · rw [show g + (kb + 1 + (kp + 1)) = (g + kb + 1) + (kp + 1) by omega, hgP, hg2]
            exact f2 g
          · rw [f4]
            exact e4
      · left
        rw [if_neg c2] at hcs2
        have er : armr C i = (1, (armP C i).2.1) := by
          unfold armr
          rw [if_neg (by simpa using c1), if_neg (by omega), if_pos (by simpa using c2)]
        rw [er]
        refine ⟨rfl, 1 + (kp + 1), by omega, BDr_tr hgP ?_⟩
        exact FB_e (show (2 : Int) ≠ 3 by decide) (fun _ => hcs2)
  · left
    have hcs := c_1 (C i) i pat rp (-1) cl S Y a P h7
    rw [if_neg c1] at hcs
    have er : armr C i = (1, i) := by
      unfold armr
      rw [if_pos (by simpa using c1)]
    rw [er]
    exact ⟨rfl, 1, by omega, FB_e (show (1 : Int) ≠ 3 by decide) (fun _ => hcs)⟩
