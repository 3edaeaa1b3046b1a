/-! The methods over whole numbers; written by program. -/
/-- ArmExpander$Expander.exchangeRows -/
def zF146 (n : Nat) (M : ZM) : Option (Unit × ZM) :=
  match M.2.1 12 4 with | some p1 => (if isR p1 then (match M.2.1 12 5 with | some p4 => (if isR p4 then (zlet (z_r M 12 4 (some p4)) (fun M7 => zJ146_13 n p1 M7)) else (none)) | none => (none)) else (none)) | none => (none)
set_option maxRecDepth 100000 in
set_option maxHeartbeats 4000000 in
theorem zF146_r (n : Nat) {M_ : Mem} {M : ZM} (gM : rm M_ M) {r : Unit} {m' : ZM} (h : zF146 n M = some (r, m')) : sU (F146 n M_) m' := by
  unfold zF146 at h
  unfold F146
  rw [rm_rf gM 12 4]
  cases hq1 : M.2.1 12 4 with
  | none =>
    rw [hq1] at h
    dsimp only at h ⊢
    cases h
  | some p1 =>
    rw [hq1] at h
    dsimp only at h ⊢
    by_cases q2 : isR p1
    · rw [if_pos q2] at h
      rw [if_pos (Iff.rfl.mpr q2)]
      rw [rm_rf gM 12 5]
      cases hq3 : M.2.1 12 5 with
      | none =>
        rw [hq3] at h
        dsimp only at h ⊢
        cases h
      | some p4 =>
        rw [hq3] at h
        dsimp only at h ⊢
        by_cases q4 : isR p4
        · rw [if_pos q4] at h
          rw [if_pos (Iff.rfl.mpr q4)]
          have gM7 : rm (m_r M_ 12 4 (some p4)) (z_r M 12 4 (some p4)) := rm_r gM 12 4 (some p4)
          rw [mlet]
          rw [zlet] at h
          generalize z_r M 12 4 (some p4) = M7 at h gM7
          generalize m_r M_ 12 4 (some p4) = NM7 at gM7 ⊢
          exact zJ146_13_r n p1 gM7 h
        · rw [if_neg q4] at h
          rw [if_neg (fun z => q4 (Iff.rfl.mp z))]
          cases h
    · rw [if_neg q2] at h
      rw [if_neg (fun z => q2 (Iff.rfl.mp z))]
      cases h
/-- ArmExpander$Matcher.takings -/
def zF148 (n : Nat) (M : ZM) : Option (Option Nat × ZM) :=
  some (some 17, M)
set_option maxRecDepth 100000 in
set_option maxHeartbeats 4000000 in
theorem zF148_r (n : Nat) {M_ : Mem} {M : ZM} (gM : rm M_ M) {r : Option Nat} {m' : ZM} (h : zF148 n M = some (r, m')) : sO (F148 n M_) r m' := by
  unfold zF148 at h
  unfold F148
  obtain ⟨rfl, rfl⟩ := Prod.mk.inj (Option.some.inj h)
  exact ⟨_, rfl, gM⟩
def zJ150_67 (n : Nat) (s0 : Int) (M : ZM) : Option (Int × ZM) :=
  some (s0, M)
set_option maxRecDepth 100000 in
set_option maxHeartbeats 4000000 in
theorem zJ150_67_r (n : Nat) {S0_ : Int32} {s0 : Int} (hs0 : rp S0_ s0) {M_ : Mem} {M : ZM} (gM : rm M_ M) {r : Int} {m' : ZM} (h : zJ150_67 n s0 M = some (r, m')) : sI (J150_67 n S0_ M_) r m' := by
  unfold zJ150_67 at h
  unfold J150_67
  obtain ⟨rfl, rfl⟩ := Prod.mk.inj (Option.some.inj h)
  exact ⟨_, _, rfl, hs0, gM⟩
def zJ150_45 (n : Nat) (x1 : Int) (M : ZM) : Option (Int × ZM) :=
  if x1 = 0 then (zJ150_67 n (-2001) M) else (if x1 = 1 then (zJ150_67 n 0 M) else (zJ150_67 n (-2002) M))
set_option maxRecDepth 100000 in
set_option maxHeartbeats 4000000 in
theorem zJ150_45_r (n : Nat) {X1_ : Int32} {x1 : Int} (hx1 : rp X1_ x1) {M_ : Mem} {M : ZM} (gM : rm M_ M) {r : Int} {m' : ZM} (h : zJ150_45 n x1 M = some (r, m')) : sI (J150_45 n X1_ M_) r m' := by
  unfold zJ150_45 at h
  unfold J150_45
  by_cases q1 : x1 = 0
  · rw [if_pos q1] at h
    rw [if_pos ((rp_eq hx1 (show rp 0 0 from rfl)).mpr q1)]
    exact zJ150_67_r n (show rp (-2001) (-2001) from rfl) gM h
  · rw [if_neg q1] at h
    rw [if_neg (fun z => q1 ((rp_eq hx1 (show rp 0 0 from rfl)).mp z))]
    by_cases q2 : x1 = 1
    · rw [if_pos q2] at h
      rw [if_pos ((rp_eq hx1 (show rp 1 1 from rfl)).mpr q2)]
      exact zJ150_67_r n (show rp 0 0 from rfl) gM h
    · rw [if_neg q2] at h
      rw [if_neg (fun z => q2 ((rp_eq hx1 (show rp 1 1 from rfl)).mp z))]
      exact zJ150_67_r n (show rp (-2002) (-2002) from rfl) gM h
def zJ150_27 (n : Nat) (zrec2 : Int → ZM → Option (Int × ZM)) (x1 : Int) (M : ZM) : Option (Int × ZM) :=
  if rg (x1 + 1) then (zrec2 (x1 + 1) M) else none
set_option maxRecDepth 100000 in
set_option maxHeartbeats 4000000 in
theorem zJ150_27_r (n : Nat) (rec2 : Int32 → Mem → Option (Int32 × Mem)) (zrec2 : Int → ZM → Option (Int × ZM)) (hrec2 : ∀ {Y1 : Int32} {y1 : Int} (_ : rp Y1 y1) {M : Mem} {m : ZM} (_ : rm M m) {r : Int} {m' : ZM} (_ : zrec2 y1 m = some (r, m')), sI (rec2 Y1 M) r m') {X1_ : Int32} {x1 : Int} (hx1 : rp X1_ x1) {M_ : Mem} {M : ZM} (gM : rm M_ M) {r : Int} {m' : ZM} (h : zJ150_27 n zrec2 x1 M = some (r, m')) : sI (J150_27 n rec2 X1_ M_) r m' := by
  unfold zJ150_27 at h
  unfold J150_27
  by_cases w1 : rg (x1 + 1)
  · rw [if_pos w1] at h
    exact hrec2 (rp_add (rp_iz hx1) (rp_iz (show rp 1 1 from rfl)) w1) gM h
  · rw [if_neg w1] at h
    cases h
def zL150_2 (n : Nat) : Nat → Int → ZM → Option (Int × ZM)
  | 0, _, _ => none
  | k + 1, x1, M => if 4 ≤ x1 then (match M.2.1 16 1 with | some p2 => (if isT p2 then (match zF188 n p2 (M.1 16 5) M with | some (v5, M6) => (zJ150_45 n v5 M6) | none => none) else (none)) | none => (none)) else (match M.2.1 16 1 with | some p10 => (if isT p10 then (match zF189 n p10 (M.1 16 5) x1 M with | some (v13, M14) => (match zF180 n x1 v13 M14 with | some (v16, M17) => (zJ150_27 n (zL150_2 n k) x1 M17) | none => none) | none => none) else (none)) | none => (none))
set_option maxRecDepth 100000 in
set_option maxHeartbeats 4000000 in
theorem zL150_2_r (n : Nat) : ∀ (k : Nat) {X1_ : Int32} {x1 : Int} (hx1 : rp X1_ x1) {M_ : Mem} {M : ZM} (gM : rm M_ M) {r : Int} {m' : ZM} (_ : zL150_2 n k x1 M = some (r, m')), sI (L150_2 n k X1_ M_) r m' := by
  intro k
  induction k with
  | zero => intro X1_ x1 hx1 M_ M gM r m' h; cases h
  | succ k ih =>
    intro X1_ x1 hx1 M_ M gM r m' h
    rw [zL150_2] at h
    rw [L150_2]
    by_cases q1 : 4 ≤ x1
    · rw [if_pos q1] at h
      rw [if_pos ((rp_le (show rp 4 4 from rfl) hx1).mpr q1)]
      rw [rm_rf gM 16 1]
      cases hq2 : M.2.1 16 1 with
      | none =>
        rw [hq2] at h
        dsimp only at h ⊢
        cases h
      | some p2 =>
        rw [hq2] at h
        dsimp only at h ⊢
        by_cases q3 : isT p2
        · rw [if_pos q3] at h
          rw [if_pos (Iff.rfl.mpr q3)]
          cases hc4 : zF188 n p2 (M.1 16 5) M with
          | none => rw [hc4] at h; cases h
          | some w =>
            obtain ⟨v5, M6⟩ := w
            rw [hc4] at h
            dsimp only at h
            obtain ⟨V5, NM6, ehc4, hv5, gM6⟩ := zF188_r n p2 (rm_rd gM 16 5) gM hc4
            rw [ehc4]
            dsimp only
            exact zJ150_45_r n hv5 gM6 h
        · rw [if_neg q3] at h
          rw [if_neg (fun z => q3 (Iff.rfl.mp z))]
          cases h
    · rw [if_neg q1] at h
      rw [if_neg (fun z => q1 ((rp_le (show rp 4 4 from rfl) hx1).mp z))]
      rw [rm_rf gM 16 1]
      cases hq5 : M.2.1 16 1 with
      | none =>
        rw [hq5] at h
        dsimp only at h ⊢
        cases h
      | some p10 =>
        rw [hq5] at h
        dsimp only at h ⊢
        by_cases q6 : isT p10
        · rw [if_pos q6] at h
          rw [if_pos (Iff.rfl.mpr q6)]
          cases hc7 : zF189 n p10 (M.1 16 5) x1 M with
          | none => rw [hc7] at h; cases h
          | some w =>
            obtain ⟨v13, M14⟩ := w
            rw [hc7] at h
            dsimp only at h
            obtain ⟨V13, NM14, ehc7, hv13, gM14⟩ := zF189_r n p10 (rm_rd gM 16 5) hx1 gM hc7
            rw [ehc7]
            dsimp only
            cases hc8 : zF180 n x1 v13 M14 with
            | none => rw [hc8] at h; cases h
            | some w =>
              obtain ⟨v16, M17⟩ := w
              rw [hc8] at h
              dsimp only at h
              obtain ⟨NM17, ehc8, gM17⟩ := zF180_r n hx1 hv13 gM14 hc8
              rw [ehc8]
              dsimp only
              exact zJ150_27_r n _ _ ih hx1 gM17 h
        · rw [if_neg q6] at h
          rw [if_neg (fun z => q6 (Iff.rfl.mp z))]
          cases h
/-- ArmExpander$Matcher.conclude -/
def zF150 (n : Nat) (M : ZM) : Option (Int × ZM) :=
  zL150_2 n n 0 M
set_option maxRecDepth 100000 in
set_option maxHeartbeats 4000000 in
theorem zF150_r (n : Nat) {M_ : Mem} {M : ZM} (gM : rm M_ M) {r : Int} {m' : ZM} (h : zF150 n M = some (r, m')) : sI (F150 n M_) r m' := by
  unfold zF150 at h
  unfold F150
  exact zL150_2_r n n (show rp 0 0 from rfl) gM h
def zJ156_13 (n : Nat) (y1 : Nat) (M : ZM) : Option (Unit × ZM) :=
  zlet (z_r M 16 2 (some y1)) (fun M8 => some ((), M8))
set_option maxRecDepth 100000 in
set_option maxHeartbeats 4000000 in
theorem zJ156_13_r (n : Nat) (y1 : Nat) {M_ : Mem} {M : ZM} (gM : rm M_ M) {r : Unit} {m' : ZM} (h : zJ156_13 n y1 M = some (r, m')) : sU (J156_13 n y1 M_) m' := by
  unfold zJ156_13 at h
  unfold J156_13
  have gM8 : rm (m_r M_ 16 2 (some y1)) (z_r M 16 2 (some y1)) := rm_r gM 16 2 (some y1)
  rw [mlet]
  rw [zlet] at h
  generalize z_r M 16 2 (some y1) = M8 at h gM8
  generalize m_r M_ 16 2 (some y1) = NM8 at gM8 ⊢
  obtain ⟨_, rfl⟩ := Prod.mk.inj (Option.some.inj h)
  exact ⟨_, rfl, gM8⟩
/-- ArmExpander$Matcher.exchange -/
def zF156 (n : Nat) (M : ZM) : Option (Unit × ZM) :=
  match M.2.1 16 1 with | some p1 => (if isT p1 then (match M.2.1 16 2 with | some p4 => (if isT p4 then (zlet (z_r M 16 1 (some p4)) (fun M7 => zJ156_13 n p1 M7)) else (none)) | none => (none)) else (none)) | none => (none)
set_option maxRecDepth 100000 in
set_option maxHeartbeats 4000000 in
theorem zF156_r (n : Nat) {M_ : Mem} {M : ZM} (gM : rm M_ M) {r : Unit} {m' : ZM} (h : zF156 n M = some (r, m')) : sU (F156 n M_) m' := by
  unfold zF156 at h
  unfold F156
  rw [rm_rf gM 16 1]
  cases hq1 : M.2.1 16 1 with
  | none =>
    rw [hq1] at h
    dsimp only at h ⊢
    cases h
  | some p1 =>
    rw [hq1] at h
    dsimp only at h ⊢
    by_cases q2 : isT p1
    · rw [if_pos q2] at h
      rw [if_pos (Iff.rfl.mpr q2)]
      rw [rm_rf gM 16 2]
      cases hq3 : M.2.1 16 2 with
      | none =>
        rw [hq3] at h
        dsimp only at h ⊢
        cases h
      | some p4 =>
        rw [hq3] at h
        dsimp only at h ⊢
        by_cases q4 : isT p4
        · rw [if_pos q4] at h
          rw [if_pos (Iff.rfl.mpr q4)]
          have gM7 : rm (m_r M_ 16 1 (some p4)) (z_r M 16 1 (some p4)) := rm_r gM 16 1 (some p4)
          rw [mlet]
          rw [zlet] at h
          generalize z_r M 16 1 (some p4) = M7 at h gM7
          generalize m_r M_ 16 1 (some p4) = NM7 at gM7 ⊢
          exact zJ156_13_r n p1 gM7 h
        · rw [if_neg q4] at h
          rw [if_neg (fun z => q4 (Iff.rfl.mp z))]
          cases h
    · rw [if_neg q2] at h
      rw [if_neg (fun z => q2 (Iff.rfl.mp z))]
      cases h
/-- ArmExpander$Writer.prepare -/
def zF208 (n : Nat) (g1 : Nat) (g2 : Nat) (M : ZM) : Option (Unit × ZM) :=
  zlet (z_r M 31 4 (some 17)) (fun M1 => zlet (z_r M1 31 5 (some g1)) (fun M2 => zlet (z_r M2 31 6 (some g2)) (fun M3 => some ((), M3))))
set_option maxRecDepth 100000 in
set_option maxHeartbeats 4000000 in
theorem zF208_r (n : Nat) (g1 : Nat) (g2 : Nat) {M_ : Mem} {M : ZM} (gM : rm M_ M) {r : Unit} {m' : ZM} (h : zF208 n g1 g2 M = some (r, m')) : sU (F208 n g1 g2 M_) m' := by
  unfold zF208 at h
  unfold F208
  have gM1 : rm (m_r M_ 31 4 (some 17)) (z_r M 31 4 (some 17)) := rm_r gM 31 4 (some 17)
  rw [mlet]
  rw [zlet] at h
  generalize z_r M 31 4 (some 17) = M1 at h gM1
  generalize m_r M_ 31 4 (some 17) = NM1 at gM1 ⊢
  have gM2 : rm (m_r NM1 31 5 (some g1)) (z_r M1 31 5 (some g1)) := rm_r gM1 31 5 (some g1)
  rw [mlet]
  rw [zlet] at h
  generalize z_r M1 31 5 (some g1) = M2 at h gM2
  generalize m_r NM1 31 5 (some g1) = NM2 at gM2 ⊢
  have gM3 : rm (m_r NM2 31 6 (some g2)) (z_r M2 31 6 (some g2)) := rm_r gM2 31 6 (some g2)
  rw [mlet]
  rw [zlet] at h
  generalize z_r M2 31 6 (some g2) = M3 at h gM3
  generalize m_r NM2 31 6 (some g2) = NM3 at gM3 ⊢
  obtain ⟨_, rfl⟩ := Prod.mk.inj (Option.some.inj h)
  exact ⟨_, rfl, gM3⟩
def zJ212_118 (n : Nat) (zrec19 : Int → Int → Int → Int → ZM → Option (Int × ZM)) (x2 : Int) (x3 : Int) (x4 : Int) (x5 : Int) (M : ZM) : Option (Int × ZM) :=
  if rg (x5 + 1) then (zrec19 x2 x3 x4 (x5 + 1) M) else none
set_option maxRecDepth 100000 in
set_option maxHeartbeats 4000000 in
theorem zJ212_118_r (n : Nat) (rec19 : Int32 → Int32 → Int32 → Int32 → Mem → Option (Int32 × Mem)) (zrec19 : Int → Int → Int → Int → ZM → Option (Int × ZM)) (hrec19 : ∀ {Y1 : Int32} {y1 : Int} (_ : rp Y1 y1) {Y2 : Int32} {y2 : Int} (_ : rp Y2 y2) {Y3 : Int32} {y3 : Int} (_ : rp Y3 y3) {Y4 : Int32} {y4 : Int} (_ : rp Y4 y4) {M : Mem} {m : ZM} (_ : rm M m) {r : Int} {m' : ZM} (_ : zrec19 y1 y2 y3 y4 m = some (r, m')), sI (rec19 Y1 Y2 Y3 Y4 M) r m') {X2_ : Int32} {x2 : Int} (hx2 : rp X2_ x2) {X3_ : Int32} {x3 : Int} (hx3 : rp X3_ x3) {X4_ : Int32} {x4 : Int} (hx4 : rp X4_ x4) {X5_ : Int32} {x5 : Int} (hx5 : rp X5_ x5) {M_ : Mem} {M : ZM} (gM : rm M_ M) {r : Int} {m' : ZM} (h : zJ212_118 n zrec19 x2 x3 x4 x5 M = some (r, m')) : sI (J212_118 n rec19 X2_ X3_ X4_ X5_ M_) r m' := by
  unfold zJ212_118 at h
  unfold J212_118
  by_cases w1 : rg (x5 + 1)
  · rw [if_pos w1] at h
    exact hrec19 hx2 hx3 hx4 (rp_add (rp_iz hx5) (rp_iz (show rp 1 1 from rfl)) w1) gM h
  · rw [if_neg w1] at h
    cases h
def zJ212_115 (n : Nat) (zrec19 : Int → Int → Int → Int → ZM → Option (Int × ZM)) (x2 : Int) (x4 : Int) (x5 : Int) (x7 : Int) (M : ZM) : Option (Int × ZM) :=
  zJ212_118 n zrec19 x2 x7 x4 x5 M
set_option maxRecDepth 100000 in
set_option maxHeartbeats 4000000 in
theorem zJ212_115_r (n : Nat) (rec19 : Int32 → Int32 → Int32 → Int32 → Mem → Option (Int32 × Mem)) (zrec19 : Int → Int → Int → Int → ZM → Option (Int × ZM)) (hrec19 : ∀ {Y1 : Int32} {y1 : Int} (_ : rp Y1 y1) {Y2 : Int32} {y2 : Int} (_ : rp Y2 y2) {Y3 : Int32} {y3 : Int} (_ : rp Y3 y3) {Y4 : Int32} {y4 : Int} (_ : rp Y4 y4) {M : Mem} {m : ZM} (_ : rm M m) {r : Int} {m' : ZM} (_ : zrec19 y1 y2 y3 y4 m = some (r, m')), sI (rec19 Y1 Y2 Y3 Y4 M) r m') {X2_ : Int32} {x2 : Int} (hx2 : rp X2_ x2) {X4_ : Int32} {x4 : Int} (hx4 : rp X4_ x4) {X5_ : Int32} {x5 : Int} (hx5 : rp X5_ x5) {X7_ : Int32} {x7 : Int} (hx7 : rp X7_ x7) {M_ : Mem} {M : ZM} (gM : rm M_ M) {r : Int} {m' : ZM} (h : zJ212_115 n zrec19 x2 x4 x5 x7 M = some (r, m')) : sI (J212_115 n rec19 X2_ X4_ X5_ X7_ M_) r m' := by
  unfold zJ212_115 at h
  unfold J212_115
  exact zJ212_118_r n _ _ hrec19 hx2 hx7 hx4 hx5 gM h
def zJ212_100 (n : Nat) (zrec19 : Int → Int → Int → Int → ZM → Option (Int × ZM)) (x2 : Int) (x3 : Int) (x4 : Int) (x5 : Int) (s0 : Int) (M : ZM) : Option (Int × ZM) :=
  if x3 = (-1) then (zJ212_115 n zrec19 x2 x4 x5 s0 M) else (if x3 = s0 then (zJ212_115 n zrec19 x2 x4 x5 s0 M) else (some ((-1), M)))
set_option maxRecDepth 100000 in
set_option maxHeartbeats 4000000 in
theorem zJ212_100_r (n : Nat) (rec19 : Int32 → Int32 → Int32 → Int32 → Mem → Option (Int32 × Mem)) (zrec19 : Int → Int → Int → Int → ZM → Option (Int × ZM)) (hrec19 : ∀ {Y1 : Int32} {y1 : Int} (_ : rp Y1 y1) {Y2 : Int32} {y2 : Int} (_ : rp Y2 y2) {Y3 : Int32} {y3 : Int} (_ : rp Y3 y3) {Y4 : Int32} {y4 : Int} (_ : rp Y4 y4) {M : Mem} {m : ZM} (_ : rm M m) {r : Int} {m' : ZM} (_ : zrec19 y1 y2 y3 y4 m = some (r, m')), sI (rec19 Y1 Y2 Y3 Y4 M) r m') {X2_ : Int32} {x2 : Int} (hx2 : rp X2_ x2) {X3_ : Int32} {x3 : Int} (hx3 : rp X3_ x3) {X4_ : Int32} {x4 : Int} (hx4 : rp X4_ x4) {X5_ : Int32} {x5 : Int} (hx5 : rp X5_ x5) {S0_ : Int32} {s0 : Int} (hs0 : rp S0_ s0) {M_ : Mem} {M : ZM} (gM : rm M_ M) {r : Int} {m' : ZM} (h : zJ212_100 n zrec19 x2 x3 x4 x5 s0 M = some (r, m')) : sI (J212_100 n rec19 X2_ X3_ X4_ X5_ S0_ M_) r m' := by
  unfold zJ212_100 at h
  unfold J212_100
  by_cases q1 : x3 = (-1)
  · rw [if_pos q1] at h
    rw [if_pos ((rp_eq hx3 (show rp (-1) (-1) from rfl)).mpr q1)]
    exact zJ212_115_r n _ _ hrec19 hx2 hx4 hx5 hs0 gM h
  · rw [if_neg q1] at h
    rw [if_neg (fun z => q1 ((rp_eq hx3 (show rp (-1) (-1) from rfl)).mp z))]
    by_cases q2 : x3 = s0
    · rw [if_pos q2] at h
      rw [if_pos ((rp_eq hx3 hs0).mpr q2)]
      exact zJ212_115_r n _ _ hrec19 hx2 hx4 hx5 hs0 gM h
    · rw [if_neg q2] at h
      rw [if_neg (fun z => q2 ((rp_eq hx3 hs0).mp z))]
      obtain ⟨rfl, rfl⟩ := Prod.mk.inj (Option.some.inj h)
      exact ⟨_, _, rfl, (show rp (-1) (-1) from rfl), gM⟩
def zJ212_62 (n : Nat) (zrec19 : Int → Int → Int → Int → ZM → Option (Int × ZM)) (x2 : Int) (x3 : Int) (x4 : Int) (x5 : Int) (x6 : Int) (M : ZM) : Option (Int × ZM) :=
  if x2 = 0 then (match M.2.1 31 4 with | some p25 => (if p25 = 17 then (match M.2.1 31 1 with | some p28 => (if isD p28 then (match zF124 n p28 x6 M with | some (v31, M32) => (match zF181 n v31 M32 with | some (v34, M35) => (zJ212_100 n zrec19 x2 x3 x4 x5 v34 M35) | none => none) | none => none) else (none)) | none => (none)) else (none)) | none => (none)) else (match M.2.1 31 4 with | some p39 => (if p39 = 17 then (match zF182 n x6 (M.1 32 0) M with | some (v42, M43) => (zJ212_100 n zrec19 x2 x3 x4 x5 v42 M43) | none => none) else (none)) | none => (none))
set_option maxRecDepth 100000 in
set_option maxHeartbeats 4000000 in
theorem zJ212_62_r (n : Nat) (rec19 : Int32 → Int32 → Int32 → Int32 → Mem → Option (Int32 × Mem)) (zrec19 : Int → Int → Int → Int → ZM → Option (Int × ZM)) (hrec19 : ∀ {Y1 : Int32} {y1 : Int} (_ : rp Y1 y1) {Y2 : Int32} {y2 : Int} (_ : rp Y2 y2) {Y3 : Int32} {y3 : Int} (_ : rp Y3 y3) {Y4 : Int32} {y4 : Int} (_ : rp Y4 y4) {M : Mem} {m : ZM} (_ : rm M m) {r : Int} {m' : ZM} (_ : zrec19 y1 y2 y3 y4 m = some (r, m')), sI (rec19 Y1 Y2 Y3 Y4 M) r m') {X2_ : Int32} {x2 : Int} (hx2 : rp X2_ x2) {X3_ : Int32} {x3 : Int} (hx3 : rp X3_ x3) {X4_ : Int32} {x4 : Int} (hx4 : rp X4_ x4) {X5_ : Int32} {x5 : Int} (hx5 : rp X5_ x5) {X6_ : Int32} {x6 : Int} (hx6 : rp X6_ x6) {M_ : Mem} {M : ZM} (gM : rm M_ M) {r : Int} {m' : ZM} (h : zJ212_62 n zrec19 x2 x3 x4 x5 x6 M = some (r, m')) : sI (J212_62 n rec19 X2_ X3_ X4_ X5_ X6_ M_) r m' := by
  unfold zJ212_62 at h
  unfold J212_62
  by_cases q1 : x2 = 0
  · rw [if_pos q1] at h
    rw [if_pos ((rp_eq hx2 (show rp 0 0 from rfl)).mpr q1)]
    rw [rm_rf gM 31 4]
    cases hq2 : M.2.1 31 4 with
    | none =>
      rw [hq2] at h
      dsimp only at h ⊢
      cases h
    | some p25 =>
      rw [hq2] at h
      dsimp only at h ⊢
      by_cases q3 : p25 = 17
      · rw [if_pos q3] at h
        rw [if_pos (Iff.rfl.mpr q3)]
        rw [rm_rf gM 31 1]
        cases hq4 : M.2.1 31 1 with
        | none =>
          rw [hq4] at h
          dsimp only at h ⊢
          cases h
        | some p28 =>
          rw [hq4] at h
          dsimp only at h ⊢
          by_cases q5 : isD p28
          · rw [if_pos q5] at h
            rw [if_pos (Iff.rfl.mpr q5)]
            cases hc6 : zF124 n p28 x6 M with
            | none => rw [hc6] at h; cases h
            | some w =>
              obtain ⟨v31, M32⟩ := w
              rw [hc6] at h
              dsimp only at h
              obtain ⟨V31, NM32, ehc6, hv31, gM32⟩ := zF124_r n p28 hx6 gM hc6
              rw [ehc6]
              dsimp only
              cases hc7 : zF181 n v31 M32 with
              | none => rw [hc7] at h; cases h
              | some w =>
                obtain ⟨v34, M35⟩ := w
                rw [hc7] at h
                dsimp only at h
                obtain ⟨V34, NM35, ehc7, hv34, gM35⟩ := zF181_r n hv31 gM32 hc7
                rw [ehc7]
                dsimp only
                exact zJ212_100_r n _ _ hrec19 hx2 hx3 hx4 hx5 hv34 gM35 h
          · rw [if_neg q5] at h
            rw [if_neg (fun z => q5 (Iff.rfl.mp z))]
            cases h
      · rw [if_neg q3] at h
        rw [if_neg (fun z => q3 (Iff.rfl.mp z))]
        cases h
  · rw [if_neg q1] at h
    rw [if_neg (fun z => q1 ((rp_eq hx2 (show rp 0 0 from rfl)).mp z))]
    rw [rm_rf gM 31 4]
    cases hq8 : M.2.1 31 4 with
    | none =>
      rw [hq8] at h
      dsimp only at h ⊢
      cases h
    | some p39 =>
      rw [hq8] at h
      dsimp only at h ⊢
      by_cases q9 : p39 = 17
      · rw [if_pos q9] at h
        rw [if_pos (Iff.rfl.mpr q9)]
        cases hc10 : zF182 n x6 (M.1 32 0) M with
        | none => rw [hc10] at h; cases h
        | some w =>
          obtain ⟨v42, M43⟩ := w
          rw [hc10] at h
          dsimp only at h
          obtain ⟨V42, NM43, ehc10, hv42, gM43⟩ := zF182_r n hx6 (rm_rd gM 32 0) gM hc10
          rw [ehc10]
          dsimp only
          exact zJ212_100_r n _ _ hrec19 hx2 hx3 hx4 hx5 hv42 gM43 h
      · rw [if_neg q9] at h
        rw [if_neg (fun z => q9 (Iff.rfl.mp z))]
        cases h
def zJ212_38 (n : Nat) (zrec19 : Int → Int → Int → Int → ZM → Option (Int × ZM)) (x2 : Int) (x3 : Int) (x4 : Int) (x5 : Int) (M : ZM) : Option (Int × ZM) :=
  match M.2.1 31 1 with | some p15 => (if isD p15 then (if rg (x5 + 1) then (match zF109 n p15 (x5 + 1) M with | some (v18, M19) => (match zF125 n p15 (M.1 31 2) v18 M19 with | some (v21, M22) => (zJ212_62 n zrec19 x2 x3 x4 x5 v21 M22) | none => none) | none => none) else none) else (none)) | none => (none)
set_option maxRecDepth 100000 in
set_option maxHeartbeats 4000000 in
theorem zJ212_38_r (n : Nat) (rec19 : Int32 → Int32 → Int32 → Int32 → Mem → Option (Int32 × Mem)) (zrec19 : Int → Int → Int → Int → ZM → Option (Int × ZM)) (hrec19 : ∀ {Y1 : Int32} {y1 : Int} (_ : rp Y1 y1) {Y2 : Int32} {y2 : Int} (_ : rp Y2 y2) {Y3 : Int32} {y3 : Int} (_ : rp Y3 y3) {Y4 : Int32} {y4 : Int} (_ : rp Y4 y4) {M : Mem} {m : ZM} (_ : rm M m) {r : Int} {m' : ZM} (_ : zrec19 y1 y2 y3 y4 m = some (r, m')), sI (rec19 Y1 Y2 Y3 Y4 M) r m') {X2_ : Int32} {x2 : Int} (hx2 : rp X2_ x2) {X3_ : Int32} {x3 : Int} (hx3 : rp X3_ x3) {X4_ : Int32} {x4 : Int} (hx4 : rp X4_ x4) {X5_ : Int32} {x5 : Int} (hx5 : rp X5_ x5) {M_ : Mem} {M : ZM} (gM : rm M_ M) {r : Int} {m' : ZM} (h : zJ212_38 n zrec19 x2 x3 x4 x5 M = some (r, m')) : sI (J212_38 n rec19 X2_ X3_ X4_ X5_ M_) r m' := by
  unfold zJ212_38 at h
  unfold J212_38
  rw [rm_rf gM 31 1]
  cases hq1 : M.2.1 31 1 with
  | none =>
    rw [hq1] at h
    dsimp only at h ⊢
    cases h
  | some p15 =>
    rw [hq1] at h
    dsimp only at h ⊢
    by_cases q2 : isD p15
    · rw [if_pos q2] at h
      rw [if_pos (Iff.rfl.mpr q2)]
      by_cases w3 : rg (x5 + 1)
      · rw [if_pos w3] at h
        cases hc4 : zF109 n p15 (x5 + 1) M with
        | none => rw [hc4] at h; cases h
        | some w =>
          obtain ⟨v18, M19⟩ := w
          rw [hc4] at h
          dsimp only at h
          obtain ⟨V18, NM19, ehc4, hv18, gM19⟩ := zF109_r n p15 (rp_add (rp_iz hx5) (rp_iz (show rp 1 1 from rfl)) w3) gM hc4
          rw [ehc4]
          dsimp only
          cases hc5 : zF125 n p15 (M.1 31 2) v18 M19 with
          | none => rw [hc5] at h; cases h
          | some w =>
            obtain ⟨v21, M22⟩ := w
            rw [hc5] at h
            dsimp only at h
            obtain ⟨V21, NM22, ehc5, hv21, gM22⟩ := zF125_r n p15 (rm_rd gM 31 2) hv18 gM19 hc5
            rw [ehc5]
            dsimp only
            exact zJ212_62_r n _ _ hrec19 hx2 hx3 hx4 hx5 hv21 gM22 h
      · rw [if_neg w3] at h
        cases h
    · rw [if_neg q2] at h
      rw [if_neg (fun z => q2 (Iff.rfl.mp z))]
      cases h
def zL212_19 (n : Nat) : Nat → Int → Int → Int → Int → ZM → Option (Int × ZM)
  | 0, _, _, _, _, _ => none
  | k + 1, x2, x3, x4, x5, M => if x4 ≤ x5 then (some (x3, M)) else (match M.2.1 31 1 with | some p8 => (if isD p8 then (match zF115 n p8 x5 M with | some (v11, M12) => (if v11 = 0 then (zJ212_118 n (zL212_19 n k) x2 x3 x4 x5 M12) else (zJ212_38 n (zL212_19 n k) x2 x3 x4 x5 M12)) | none => none) else (none)) | none => (none))
set_option maxRecDepth 100000 in
set_option maxHeartbeats 4000000 in
theorem zL212_19_r (n : Nat) : ∀ (k : Nat) {X2_ : Int32} {x2 : Int} (hx2 : rp X2_ x2) {X3_ : Int32} {x3 : Int} (hx3 : rp X3_ x3) {X4_ : Int32} {x4 : Int} (hx4 : rp X4_ x4) {X5_ : Int32} {x5 : Int} (hx5 : rp X5_ x5) {M_ : Mem} {M : ZM} (gM : rm M_ M) {r : Int} {m' : ZM} (_ : zL212_19 n k x2 x3 x4 x5 M = some (r, m')), sI (L212_19 n k X2_ X3_ X4_ X5_ M_) r m' := by
  intro k
  induction k with
  | zero => intro X2_ x2 hx2 X3_ x3 hx3 X4_ x4 hx4 X5_ x5 hx5 M_ M gM r m' h; cases h
  | succ k ih =>
    intro X2_ x2 hx2 X3_ x3 hx3 X4_ x4 hx4 X5_ x5 hx5 M_ M gM r m' h
    rw [zL212_19] at h
    rw [L212_19]
    by_cases q1 : x4 ≤ x5
    · rw [if_pos q1] at h
      rw [if_pos ((rp_le hx4 hx5).mpr q1)]
      obtain ⟨rfl, rfl⟩ := Prod.mk.inj (Option.some.inj h)
      exact ⟨_, _, rfl, hx3, gM⟩
    · rw [if_neg q1] at h
      rw [if_neg (fun z => q1 ((rp_le hx4 hx5).mp z))]
      rw [rm_rf gM 31 1]
      cases hq2 : M.2.1 31 1 with
      | none =>
        rw [hq2] at h
        dsimp only at h ⊢
        cases h
      | some p8 =>
        rw [hq2] at h
        dsimp only at h ⊢
        by_cases q3 : isD p8
        · rw [if_pos q3] at h
          rw [if_pos (Iff.rfl.mpr q3)]
          cases hc4 : zF115 n p8 x5 M with
          | none => rw [hc4] at h; cases h
          | some w =>
            obtain ⟨v11, M12⟩ := w
            rw [hc4] at h
            dsimp only at h
            obtain ⟨V11, NM12, ehc4, hv11, gM12⟩ := zF115_r n p8 hx5 gM hc4
            rw [ehc4]
            dsimp only
            by_cases q5 : v11 = 0
            · rw [if_pos q5] at h
              rw [if_pos ((rp_eq hv11 (show rp 0 0 from rfl)).mpr q5)]
              exact zJ212_118_r n _ _ ih hx2 hx3 hx4 hx5 gM12 h
            · rw [if_neg q5] at h
              rw [if_neg (fun z => q5 ((rp_eq hv11 (show rp 0 0 from rfl)).mp z))]
              exact zJ212_38_r n _ _ ih hx2 hx3 hx4 hx5 gM12 h
        · rw [if_neg q3] at h
          rw [if_neg (fun z => q3 (Iff.rfl.mp z))]
          cases h
/-- ArmExpander$Writer.roundsOf -/
def zF212 (n : Nat) (a0 : Int) (a1 : Int) (M : ZM) : Option (Int × ZM) :=
  match M.2.1 31 1 with | some p1 => (if isD p1 then (if rg (a0 + 1) then (match zF110 n p1 (a0 + 1) M with | some (v4, M5) => (if rg (a0 + 2) then (zL212_19 n n a1 (-1) v4 (a0 + 2) M5) else none) | none => none) else none) else (none)) | none => (none)
set_option maxRecDepth 100000 in
set_option maxHeartbeats 4000000 in
theorem zF212_r (n : Nat) {A0_ : Int32} {a0 : Int} (ha0 : rp A0_ a0) {A1_ : Int32} {a1 : Int} (ha1 : rp A1_ a1) {M_ : Mem} {M : ZM} (gM : rm M_ M) {r : Int} {m' : ZM} (h : zF212 n a0 a1 M = some (r, m')) : sI (F212 n A0_ A1_ M_) r m' := by
  unfold zF212 at h
  unfold F212
  rw [rm_rf gM 31 1]
  cases hq1 : M.2.1 31 1 with
  | none =>
    rw [hq1] at h
    dsimp only at h ⊢
    cases h
  | some p1 =>
    rw [hq1] at h
    dsimp only at h ⊢
    by_cases q2 : isD p1
    · rw [if_pos q2] at h
      rw [if_pos (Iff.rfl.mpr q2)]
      by_cases w3 : rg (a0 + 1)
      · rw [if_pos w3] at h
        cases hc4 : zF110 n p1 (a0 + 1) M with
        | none => rw [hc4] at h; cases h
        | some w =>
          obtain ⟨v4, M5⟩ := w
          rw [hc4] at h
          dsimp only at h
          obtain ⟨V4, NM5, ehc4, hv4, gM5⟩ := zF110_r n p1 (rp_add (rp_iz ha0) (rp_iz (show rp 1 1 from rfl)) w3) gM hc4
          rw [ehc4]
          dsimp only
          by_cases w5 : rg (a0 + 2)
          · rw [if_pos w5] at h
            exact zL212_19_r n n ha1 (show rp (-1) (-1) from rfl) hv4 (rp_add (rp_iz ha0) (rp_iz (show rp 2 2 from rfl)) w5) gM5 h
          · rw [if_neg w5] at h
            cases h
      · rw [if_neg w3] at h
        cases h
    · rw [if_neg q2] at h
      rw [if_neg (fun z => q2 (Iff.rfl.mp z))]
      cases h
def zJ213_121 (n : Nat) (M : ZM) : Option (Unit × ZM) :=
  some ((), M)
set_option maxRecDepth 100000 in
set_option maxHeartbeats 4000000 in
theorem zJ213_121_r (n : Nat) {M_ : Mem} {M : ZM} (gM : rm M_ M) {r : Unit} {m' : ZM} (h : zJ213_121 n M = some (r, m')) : sU (J213_121 n M_) m' := by
  unfold zJ213_121 at h
  unfold J213_121
  obtain ⟨_, rfl⟩ := Prod.mk.inj (Option.some.inj h)
  exact ⟨_, rfl, gM⟩
def zJ213_103 (n : Nat) (x5 : Int) (M : ZM) : Option (Unit × ZM) :=
  if x5 = 0 then (zJ213_121 n M) else (match M.2.1 31 6 with | some p38 => (if isR p38 then (match zF168 n p38 41 (M.1 31 3) M with | some (v41, M42) => (zJ213_121 n M42) | none => none) else (none)) | none => (none))
set_option maxRecDepth 100000 in
set_option maxHeartbeats 4000000 in
theorem zJ213_103_r (n : Nat) {X5_ : Int32} {x5 : Int} (hx5 : rp X5_ x5) {M_ : Mem} {M : ZM} (gM : rm M_ M) {r : Unit} {m' : ZM} (h : zJ213_103 n x5 M = some (r, m')) : sU (J213_103 n X5_ M_) m' := by
  unfold zJ213_103 at h
  unfold J213_103
  by_cases q1 : x5 = 0
  · rw [if_pos q1] at h
    rw [if_pos ((rp_eq hx5 (show rp 0 0 from rfl)).mpr q1)]
    exact zJ213_121_r n gM h
  · rw [if_neg q1] at h
    rw [if_neg (fun z => q1 ((rp_eq hx5 (show rp 0 0 from rfl)).mp z))]
    rw [rm_rf gM 31 6]
    cases hq2 : M.2.1 31 6 with
    | none =>
      rw [hq2] at h
      dsimp only at h ⊢
      cases h
    | some p38 =>
      rw [hq2] at h
      dsimp only at h ⊢
      by_cases q3 : isR p38
      · rw [if_pos q3] at h
        rw [if_pos (Iff.rfl.mpr q3)]
        cases hc4 : zF168 n p38 41 (M.1 31 3) M with
        | none => rw [hc4] at h; cases h
        | some w =>
          obtain ⟨v41, M42⟩ := w
          rw [hc4] at h
          dsimp only at h
          obtain ⟨NM42, ehc4, gM42⟩ := zF168_r n p38 (show rp 41 41 from rfl) (rm_rd gM 31 3) gM hc4
          rw [ehc4]
          dsimp only
          exact zJ213_121_r n gM42 h
      · rw [if_neg q3] at h
        rw [if_neg (fun z => q3 (Iff.rfl.mp z))]
        cases h
def zJ213_89 (n : Nat) (x3 : Int) (x4 : Int) (x5 : Int) (M : ZM) : Option (Unit × ZM) :=
  match M.2.1 31 6 with | some p28 => (if isR p28 then (match M.2.1 31 5 with | some p31 => (if isR p31 then (match zF169 n p28 p31 x3 x4 M with | some (v34, M35) => (zJ213_103 n x5 M35) | none => none) else (none)) | none => (none)) else (none)) | none => (none)
set_option maxRecDepth 100000 in
set_option maxHeartbeats 4000000 in
theorem zJ213_89_r (n : Nat) {X3_ : Int32} {x3 : Int} (hx3 : rp X3_ x3) {X4_ : Int32} {x4 : Int} (hx4 : rp X4_ x4) {X5_ : Int32} {x5 : Int} (hx5 : rp X5_ x5) {M_ : Mem} {M : ZM} (gM : rm M_ M) {r : Unit} {m' : ZM} (h : zJ213_89 n x3 x4 x5 M = some (r, m')) : sU (J213_89 n X3_ X4_ X5_ M_) m' := by
  unfold zJ213_89 at h
  unfold J213_89
  rw [rm_rf gM 31 6]
  cases hq1 : M.2.1 31 6 with
  | none =>
    rw [hq1] at h
    dsimp only at h ⊢
    cases h
  | some p28 =>
    rw [hq1] at h
    dsimp only at h ⊢
    by_cases q2 : isR p28
    · rw [if_pos q2] at h
      rw [if_pos (Iff.rfl.mpr q2)]
      rw [rm_rf gM 31 5]
      cases hq3 : M.2.1 31 5 with
      | none =>
        rw [hq3] at h
        dsimp only at h ⊢
        cases h
      | some p31 =>
        rw [hq3] at h
        dsimp only at h ⊢
        by_cases q4 : isR p31
        · rw [if_pos q4] at h
          rw [if_pos (Iff.rfl.mpr q4)]
          cases hc5 : zF169 n p28 p31 x3 x4 M with
          | none => rw [hc5] at h; cases h
          | some w =>
            obtain ⟨v34, M35⟩ := w
            rw [hc5] at h
            dsimp only at h
            obtain ⟨NM35, ehc5, gM35⟩ := zF169_r n p28 p31 hx3 hx4 gM hc5
            rw [ehc5]
            dsimp only
            exact zJ213_103_r n hx5 gM35 h
        · rw [if_neg q4] at h
          rw [if_neg (fun z => q4 (Iff.rfl.mp z))]
          cases h
    · rw [if_neg q2] at h
      rw [if_neg (fun z => q2 (Iff.rfl.mp z))]
      cases h
def zJ213_69 (n : Nat) (x3 : Int) (x4 : Int) (s0 : Int) (M : ZM) : Option (Unit × ZM) :=
  if s0 = 0 then (zJ213_89 n x3 x4 s0 M) else (match M.2.1 31 6 with | some p44 => (if isR p44 then (match zF168 n p44 40 (M.1 31 3) M with | some (v47, M48) => (zJ213_89 n x3 x4 s0 M48) | none => none) else (none)) | none => (none))
set_option maxRecDepth 100000 in
set_option maxHeartbeats 4000000 in
theorem zJ213_69_r (n : Nat) {X3_ : Int32} {x3 : Int} (hx3 : rp X3_ x3) {X4_ : Int32} {x4 : Int} (hx4 : rp X4_ x4) {S0_ : Int32} {s0 : Int} (hs0 : rp S0_ s0) {M_ : Mem} {M : ZM} (gM : rm M_ M) {r : Unit} {m' : ZM} (h : zJ213_69 n x3 x4 s0 M = some (r, m')) : sU (J213_69 n X3_ X4_ S0_ M_) m' := by
  unfold zJ213_69 at h
  unfold J213_69
  by_cases q1 : s0 = 0
  · rw [if_pos q1] at h
    rw [if_pos ((rp_eq hs0 (show rp 0 0 from rfl)).mpr q1)]
    exact zJ213_89_r n hx3 hx4 hs0 gM h
  · rw [if_neg q1] at h
    rw [if_neg (fun z => q1 ((rp_eq hs0 (show rp 0 0 from rfl)).mp z))]
    rw [rm_rf gM 31 6]
    cases hq2 : M.2.1 31 6 with
    | none =>
      rw [hq2] at h
      dsimp only at h ⊢
      cases h
    | some p44 =>
      rw [hq2] at h
      dsimp only at h ⊢
      by_cases q3 : isR p44
      · rw [if_pos q3] at h
        rw [if_pos (Iff.rfl.mpr q3)]
        cases hc4 : zF168 n p44 40 (M.1 31 3) M with
        | none => rw [hc4] at h; cases h
        | some w =>
          obtain ⟨v47, M48⟩ := w
          rw [hc4] at h
          dsimp only at h
          obtain ⟨NM48, ehc4, gM48⟩ := zF168_r n p44 (show rp 40 40 from rfl) (rm_rd gM 31 3) gM hc4
          rw [ehc4]
          dsimp only
          exact zJ213_89_r n hx3 hx4 hs0 gM48 h
      · rw [if_neg q3] at h
        rw [if_neg (fun z => q3 (Iff.rfl.mp z))]
        cases h
def zJ213_68 (n : Nat) (x3 : Int) (x4 : Int) (M : ZM) : Option (Unit × ZM) :=
  zJ213_69 n x3 x4 0 M
set_option maxRecDepth 100000 in
set_option maxHeartbeats 4000000 in
theorem zJ213_68_r (n : Nat) {X3_ : Int32} {x3 : Int} (hx3 : rp X3_ x3) {X4_ : Int32} {x4 : Int} (hx4 : rp X4_ x4) {M_ : Mem} {M : ZM} (gM : rm M_ M) {r : Unit} {m' : ZM} (h : zJ213_68 n x3 x4 M = some (r, m')) : sU (J213_68 n X3_ X4_ M_) m' := by
  unfold zJ213_68 at h
  unfold J213_68
  exact zJ213_69_r n hx3 hx4 (show rp 0 0 from rfl) gM h
def zJ213_56 (n : Nat) (x3 : Int) (x4 : Int) (M : ZM) : Option (Unit × ZM) :=
  if rg (x4 - x3) then (if (x4 - x3) ≤ 1 then (zJ213_68 n x3 x4 M) else (zJ213_69 n x3 x4 1 M)) else none
set_option maxRecDepth 100000 in
set_option maxHeartbeats 4000000 in
theorem zJ213_56_r (n : Nat) {X3_ : Int32} {x3 : Int} (hx3 : rp X3_ x3) {X4_ : Int32} {x4 : Int} (hx4 : rp X4_ x4) {M_ : Mem} {M : ZM} (gM : rm M_ M) {r : Unit} {m' : ZM} (h : zJ213_56 n x3 x4 M = some (r, m')) : sU (J213_56 n X3_ X4_ M_) m' := by
  unfold zJ213_56 at h
  unfold J213_56
  by_cases w1 : rg (x4 - x3)
  · rw [if_pos w1] at h
    by_cases q2 : (x4 - x3) ≤ 1
    · rw [if_pos q2] at h
      rw [if_pos ((rp_le (rp_sub (rp_iz hx4) (rp_iz hx3) w1) (show rp 1 1 from rfl)).mpr q2)]
      exact zJ213_68_r n hx3 hx4 gM h
    · rw [if_neg q2] at h
      rw [if_neg (fun z => q2 ((rp_le (rp_sub (rp_iz hx4) (rp_iz hx3) w1) (show rp 1 1 from rfl)).mp z))]
      exact zJ213_69_r n hx3 hx4 (show rp 1 1 from rfl) gM h
  · rw [if_neg w1] at h
    cases h
def zJ213_40 (n : Nat) (x1 : Int) (x3 : Int) (x4 : Int) (M : ZM) : Option (Unit × ZM) :=
  match M.2.1 31 1 with | some p19 => (if isD p19 then (if rg (x1 + 3) then (match zF109 n p19 (x1 + 3) M with | some (v22, M23) => (if v22 = 1159 then (zJ213_56 n x3 x4 M23) else (zJ213_68 n x3 x4 M23)) | none => none) else none) else (none)) | none => (none)
set_option maxRecDepth 100000 in
set_option maxHeartbeats 4000000 in
theorem zJ213_40_r (n : Nat) {X1_ : Int32} {x1 : Int} (hx1 : rp X1_ x1) {X3_ : Int32} {x3 : Int} (hx3 : rp X3_ x3) {X4_ : Int32} {x4 : Int} (hx4 : rp X4_ x4) {M_ : Mem} {M : ZM} (gM : rm M_ M) {r : Unit} {m' : ZM} (h : zJ213_40 n x1 x3 x4 M = some (r, m')) : sU (J213_40 n X1_ X3_ X4_ M_) m' := by
  unfold zJ213_40 at h
  unfold J213_40
  rw [rm_rf gM 31 1]
  cases hq1 : M.2.1 31 1 with
  | none =>
    rw [hq1] at h
    dsimp only at h ⊢
    cases h
  | some p19 =>
    rw [hq1] at h
    dsimp only at h ⊢
    by_cases q2 : isD p19
    · rw [if_pos q2] at h
      rw [if_pos (Iff.rfl.mpr q2)]
      by_cases w3 : rg (x1 + 3)
      · rw [if_pos w3] at h
        cases hc4 : zF109 n p19 (x1 + 3) M with
        | none => rw [hc4] at h; cases h
        | some w =>
          obtain ⟨v22, M23⟩ := w
          rw [hc4] at h
          dsimp only at h
          obtain ⟨V22, NM23, ehc4, hv22, gM23⟩ := zF109_r n p19 (rp_add (rp_iz hx1) (rp_iz (show rp 3 3 from rfl)) w3) gM hc4
          rw [ehc4]
          dsimp only
          by_cases q5 : v22 = 1159
          · rw [if_pos q5] at h
            rw [if_pos ((rp_eq hv22 (show rp 1159 1159 from rfl)).mpr q5)]
            exact zJ213_56_r n hx3 hx4 gM23 h
          · rw [if_neg q5] at h
            rw [if_neg (fun z => q5 ((rp_eq hv22 (show rp 1159 1159 from rfl)).mp z))]
            exact zJ213_68_r n hx3 hx4 gM23 h
      · rw [if_neg w3] at h
        cases h
    · rw [if_neg q2] at h
      rw [if_neg (fun z => q2 (Iff.rfl.mp z))]
      cases h
def zJ213_21 (n : Nat) (x1 : Int) (x2 : Int) (M : ZM) : Option (Unit × ZM) :=
  match M.2.1 31 4 with | some p7 => (if p7 = 17 then (match zF184 n x2 M with | some (v10, M11) => (match M11.2.1 31 4 with | some p13 => (if p13 = 17 then (match zF185 n x2 M11 with | some (v16, M17) => (zJ213_40 n x1 v10 v16 M17) | none => none) else (none)) | none => (none)) | none => none) else (none)) | none => (none)
set_option maxRecDepth 100000 in
set_option maxHeartbeats 4000000 in
theorem zJ213_21_r (n : Nat) {X1_ : Int32} {x1 : Int} (hx1 : rp X1_ x1) {X2_ : Int32} {x2 : Int} (hx2 : rp X2_ x2) {M_ : Mem} {M : ZM} (gM : rm M_ M) {r : Unit} {m' : ZM} (h : zJ213_21 n x1 x2 M = some (r, m')) : sU (J213_21 n X1_ X2_ M_) m' := by
  unfold zJ213_21 at h
  unfold J213_21
  rw [rm_rf gM 31 4]
  cases hq1 : M.2.1 31 4 with
  | none =>
    rw [hq1] at h
    dsimp only at h ⊢
    cases h
  | some p7 =>
    rw [hq1] at h
    dsimp only at h ⊢
    by_cases q2 : p7 = 17
    · rw [if_pos q2] at h
      rw [if_pos (Iff.rfl.mpr q2)]
      cases hc3 : zF184 n x2 M with
      | none => rw [hc3] at h; cases h
      | some w =>
        obtain ⟨v10, M11⟩ := w
        rw [hc3] at h
        dsimp only at h
        obtain ⟨V10, NM11, ehc3, hv10, gM11⟩ := zF184_r n hx2 gM hc3
        rw [ehc3]
        dsimp only
        rw [rm_rf gM11 31 4]
        cases hq4 : M11.2.1 31 4 with
        | none =>
          rw [hq4] at h
          dsimp only at h ⊢
          cases h
        | some p13 =>
          rw [hq4] at h
          dsimp only at h ⊢
          by_cases q5 : p13 = 17
          · rw [if_pos q5] at h
            rw [if_pos (Iff.rfl.mpr q5)]
            cases hc6 : zF185 n x2 M11 with
            | none => rw [hc6] at h; cases h
            | some w =>
              obtain ⟨v16, M17⟩ := w
              rw [hc6] at h
              dsimp only at h
              obtain ⟨V16, NM17, ehc6, hv16, gM17⟩ := zF185_r n hx2 gM11 hc6
              rw [ehc6]
              dsimp only
              exact zJ213_40_r n hx1 hv10 hv16 gM17 h
          · rw [if_neg q5] at h
            rw [if_neg (fun z => q5 (Iff.rfl.mp z))]
            cases h
    · rw [if_neg q2] at h
      rw [if_neg (fun z => q2 (Iff.rfl.mp z))]
      cases h
/-- ArmExpander$Writer.writeUse -/
def zF213 (n : Nat) (a0 : Int) (M : ZM) : Option (Unit × ZM) :=
  match M.2.1 31 4 with | some p1 => (if p1 = 17 then (match zF183 n a0 (M.1 32 0) (M.1 32 1) M with | some (v4, M5) => (zJ213_21 n a0 v4 M5) | none => none) else (none)) | none => (none)
set_option maxRecDepth 100000 in
set_option maxHeartbeats 4000000 in
theorem zF213_r (n : Nat) {A0_ : Int32} {a0 : Int} (ha0 : rp A0_ a0) {M_ : Mem} {M : ZM} (gM : rm M_ M) {r : Unit} {m' : ZM} (h : zF213 n a0 M = some (r, m')) : sU (F213 n A0_ M_) m' := by
  unfold zF213 at h
  unfold F213
  rw [rm_rf gM 31 4]
  cases hq1 : M.2.1 31 4 with
  | none =>
    rw [hq1] at h
    dsimp only at h ⊢
    cases h
  | some p1 =>
    rw [hq1] at h
    dsimp only at h ⊢
    by_cases q2 : p1 = 17
    · rw [if_pos q2] at h
      rw [if_pos (Iff.rfl.mpr q2)]
      cases hc3 : zF183 n a0 (M.1 32 0) (M.1 32 1) M with
      | none => rw [hc3] at h; cases h
      | some w =>
        obtain ⟨v4, M5⟩ := w
        rw [hc3] at h
        dsimp only at h
        obtain ⟨V4, NM5, ehc3, hv4, gM5⟩ := zF183_r n ha0 (rm_rd gM 32 0) (rm_rd gM 32 1) gM hc3
        rw [ehc3]
        dsimp only
        exact zJ213_21_r n ha0 hv4 gM5 h
    · rw [if_neg q2] at h
      rw [if_neg (fun z => q2 (Iff.rfl.mp z))]
      cases h
/-- ArmExpander.token -/
def zF6 (n : Nat) (a0 : Int) (M : ZM) : Option (Int × ZM) :=
  match zF136 n M with | some (v1, M2) => (match v1 with | some p4 => (if isR p4 then (match zF170 n p4 a0 M2 with | some (v7, M8) => (some (v7, M8)) | none => none) else (none)) | none => (none)) | none => none
set_option maxRecDepth 100000 in
set_option maxHeartbeats 4000000 in
theorem zF6_r (n : Nat) {A0_ : Int32} {a0 : Int} (ha0 : rp A0_ a0) {M_ : Mem} {M : ZM} (gM : rm M_ M) {r : Int} {m' : ZM} (h : zF6 n a0 M = some (r, m')) : sI (F6 n A0_ M_) r m' := by
  unfold zF6 at h
  unfold F6
  cases hc1 : zF136 n M with
  | none => rw [hc1] at h; cases h
  | some w =>
    obtain ⟨v1, M2⟩ := w
    rw [hc1] at h
    dsimp only at h
    obtain ⟨NM2, ehc1, gM2⟩ := zF136_r n gM hc1
    rw [ehc1]
    dsimp only
    cases hq2 : v1 with
    | none =>
      rw [hq2] at h
      dsimp only at h ⊢
      cases h
    | some p4 =>
      rw [hq2] at h
      dsimp only at h ⊢
      by_cases q3 : isR p4
      · rw [if_pos q3] at h
        rw [if_pos (Iff.rfl.mpr q3)]
        cases hc4 : zF170 n p4 a0 M2 with
        | none => rw [hc4] at h; cases h
        | some w =>
          obtain ⟨v7, M8⟩ := w
          rw [hc4] at h
          dsimp only at h
          obtain ⟨V7, NM8, ehc4, hv7, gM8⟩ := zF170_r n p4 ha0 gM2 hc4
          rw [ehc4]
          dsimp only
          obtain ⟨rfl, rfl⟩ := Prod.mk.inj (Option.some.inj h)
          exact ⟨_, _, rfl, hv7, gM8⟩
      · rw [if_neg q3] at h
        rw [if_neg (fun z => q3 (Iff.rfl.mp z))]
        cases h
/-- ArmExpander.mark -/
def zF7 (n : Nat) (a0 : Int) (M : ZM) : Option (Int × ZM) :=
  match zF136 n M with | some (v1, M2) => (match v1 with | some p4 => (if isR p4 then (match zF171 n p4 a0 M2 with | some (v7, M8) => (some (v7, M8)) | none => none) else (none)) | none => (none)) | none => none
set_option maxRecDepth 100000 in
set_option maxHeartbeats 4000000 in
theorem zF7_r (n : Nat) {A0_ : Int32} {a0 : Int} (ha0 : rp A0_ a0) {M_ : Mem} {M : ZM} (gM : rm M_ M) {r : Int} {m' : ZM} (h : zF7 n a0 M = some (r, m')) : sI (F7 n A0_ M_) r m' := by
  unfold zF7 at h
  unfold F7
  cases hc1 : zF136 n M with
  | none => rw [hc1] at h; cases h
  | some w =>
    obtain ⟨v1, M2⟩ := w
    rw [hc1] at h
    dsimp only at h
    obtain ⟨NM2, ehc1, gM2⟩ := zF136_r n gM hc1
    rw [ehc1]
    dsimp only
    cases hq2 : v1 with
    | none =>
      rw [hq2] at h
      dsimp only at h ⊢
      cases h
    | some p4 =>
      rw [hq2] at h
      dsimp only at h ⊢
      by_cases q3 : isR p4
      · rw [if_pos q3] at h
        rw [if_pos (Iff.rfl.mpr q3)]
        cases hc4 : zF171 n p4 a0 M2 with
        | none => rw [hc4] at h; cases h
        | some w =>
          obtain ⟨v7, M8⟩ := w
          rw [hc4] at h
          dsimp only at h
          obtain ⟨V7, NM8, ehc4, hv7, gM8⟩ := zF171_r n p4 ha0 gM2 hc4
          rw [ehc4]
          dsimp only
          obtain ⟨rfl, rfl⟩ := Prod.mk.inj (Option.some.inj h)
          exact ⟨_, _, rfl, hv7, gM8⟩
      · rw [if_neg q3] at h
        rw [if_neg (fun z => q3 (Iff.rfl.mp z))]
        cases h
/-- ArmExpander.means -/
def zF8 (n : Nat) (a0 : Int) (M : ZM) : Option (Int × ZM) :=
  match zF136 n M with | some (v1, M2) => (match v1 with | some p4 => (if isR p4 then (match zF174 n p4 a0 M2 with | some (v7, M8) => (some (v7, M8)) | none => none) else (none)) | none => (none)) | none => none
set_option maxRecDepth 100000 in
set_option maxHeartbeats 4000000 in
theorem zF8_r (n : Nat) {A0_ : Int32} {a0 : Int} (ha0 : rp A0_ a0) {M_ : Mem} {M : ZM} (gM : rm M_ M) {r : Int} {m' : ZM} (h : zF8 n a0 M = some (r, m')) : sI (F8 n A0_ M_) r m' := by
  unfold zF8 at h
  unfold F8
  cases hc1 : zF136 n M with
  | none => rw [hc1] at h; cases h
  | some w =>
    obtain ⟨v1, M2⟩ := w
    rw [hc1] at h
    dsimp only at h
    obtain ⟨NM2, ehc1, gM2⟩ := zF136_r n gM hc1
    rw [ehc1]
    dsimp only
    cases hq2 : v1 with
    | none =>
      rw [hq2] at h
      dsimp only at h ⊢
      cases h
    | some p4 =>
      rw [hq2] at h
      dsimp only at h ⊢
      by_cases q3 : isR p4
      · rw [if_pos q3] at h
        rw [if_pos (Iff.rfl.mpr q3)]
        cases hc4 : zF174 n p4 a0 M2 with
        | none => rw [hc4] at h; cases h
        | some w =>
          obtain ⟨v7, M8⟩ := w
          rw [hc4] at h
          dsimp only at h
          obtain ⟨V7, NM8, ehc4, hv7, gM8⟩ := zF174_r n p4 ha0 gM2 hc4
          rw [ehc4]
          dsimp only
          obtain ⟨rfl, rfl⟩ := Prod.mk.inj (Option.some.inj h)
          exact ⟨_, _, rfl, hv7, gM8⟩
      · rw [if_neg q3] at h
        rw [if_neg (fun z => q3 (Iff.rfl.mp z))]
        cases h
def zJ131_53 (n : Nat) (s0 : Int) (M : ZM) : Option (Int × ZM) :=
  if s0 = 0 ∨ s0 = 1 then (some (s0, M)) else (none)
set_option maxRecDepth 100000 in
set_option maxHeartbeats 4000000 in
theorem zJ131_53_r (n : Nat) {S0_ : Int32} {s0 : Int} (hs0 : rp S0_ s0) {M_ : Mem} {M : ZM} (gM : rm M_ M) {r : Int} {m' : ZM} (h : zJ131_53 n s0 M = some (r, m')) : sI (J131_53 n S0_ M_) r m' := by
  unfold zJ131_53 at h
  unfold J131_53
  by_cases q1 : s0 = 0 ∨ s0 = 1
  · rw [if_pos q1] at h
    rw [if_pos ((or_congr (rp_eq hs0 (show rp 0 0 from rfl)) (rp_eq hs0 (show rp 1 1 from rfl))).mpr q1)]
    obtain ⟨rfl, rfl⟩ := Prod.mk.inj (Option.some.inj h)
    exact ⟨_, _, rfl, hs0, gM⟩
  · rw [if_neg q1] at h
    rw [if_neg (fun z => q1 ((or_congr (rp_eq hs0 (show rp 0 0 from rfl)) (rp_eq hs0 (show rp 1 1 from rfl))).mp z))]
    cases h
def zJ131_48 (n : Nat) (M : ZM) : Option (Int × ZM) :=
  zJ131_53 n 1 M
set_option maxRecDepth 100000 in
set_option maxHeartbeats 4000000 in
theorem zJ131_48_r (n : Nat) {M_ : Mem} {M : ZM} (gM : rm M_ M) {r : Int} {m' : ZM} (h : zJ131_48 n M = some (r, m')) : sI (J131_48 n M_) r m' := by
  unfold zJ131_48 at h
  unfold J131_48
  exact zJ131_53_r n (show rp 1 1 from rfl) gM h
def zJ131_40 (n : Nat) (x1 : Int) (M : ZM) : Option (Int × ZM) :=
  match zF132 n x1 M with | some (v15, M16) => (if v15 = 0 then (zJ131_53 n 0 M16) else (zJ131_48 n M16)) | none => none
set_option maxRecDepth 100000 in
set_option maxHeartbeats 4000000 in
theorem zJ131_40_r (n : Nat) {X1_ : Int32} {x1 : Int} (hx1 : rp X1_ x1) {M_ : Mem} {M : ZM} (gM : rm M_ M) {r : Int} {m' : ZM} (h : zJ131_40 n x1 M = some (r, m')) : sI (J131_40 n X1_ M_) r m' := by
  unfold zJ131_40 at h
  unfold J131_40
  cases hc1 : zF132 n x1 M with
  | none => rw [hc1] at h; cases h
  | some w =>
    obtain ⟨v15, M16⟩ := w
    rw [hc1] at h
    dsimp only at h
    obtain ⟨V15, NM16, ehc1, hv15, gM16⟩ := zF132_r n hx1 gM hc1
    rw [ehc1]
    dsimp only
    by_cases q2 : v15 = 0
    · rw [if_pos q2] at h
      rw [if_pos ((rp_eq hv15 (show rp 0 0 from rfl)).mpr q2)]
      exact zJ131_53_r n (show rp 0 0 from rfl) gM16 h
    · rw [if_neg q2] at h
      rw [if_neg (fun z => q2 ((rp_eq hv15 (show rp 0 0 from rfl)).mp z))]
      exact zJ131_48_r n gM16 h
/-- ArmExpander$DefinitionReader.acceptsPart -/
def zF131 (n : Nat) (a0 : Int) (M : ZM) : Option (Int × ZM) :=
  if a0 = 36 then (match zF129 n 1 5 M with | some (v2, M3) => (if v2 = 0 ∨ v2 = 1 then (some (v2, M3)) else (none)) | none => none) else (match zF13 n a0 M with | some (v6, M7) => (if v6 = 0 then (match zF14 n a0 M7 with | some (v10, M11) => (if v10 = 0 then (zJ131_48 n M11) else (zJ131_40 n a0 M11)) | none => none) else (match zF162 n 4 (M7.1 3 3) a0 M7 with | some (v19, M20) => (if v19 = 0 ∨ v19 = 1 then (some (v19, M20)) else (none)) | none => none)) | none => none)
set_option maxRecDepth 100000 in
set_option maxHeartbeats 4000000 in
theorem zF131_r (n : Nat) {A0_ : Int32} {a0 : Int} (ha0 : rp A0_ a0) {M_ : Mem} {M : ZM} (gM : rm M_ M) {r : Int} {m' : ZM} (h : zF131 n a0 M = some (r, m')) : sI (F131 n A0_ M_) r m' := by
  unfold zF131 at h
  unfold F131
  by_cases q1 : a0 = 36
  · rw [if_pos q1] at h
    rw [if_pos ((rp_eq ha0 (show rp 36 36 from rfl)).mpr q1)]
    cases hc2 : zF129 n 1 5 M with
    | none => rw [hc2] at h; cases h
    | some w =>
      obtain ⟨v2, M3⟩ := w
      rw [hc2] at h
      dsimp only at h
      obtain ⟨V2, NM3, ehc2, hv2, gM3⟩ := zF129_r n (show rp 1 1 from rfl) (show rp 5 5 from rfl) gM hc2
      rw [ehc2]
      dsimp only
      by_cases q3 : v2 = 0 ∨ v2 = 1
      · rw [if_pos q3] at h
        rw [if_pos ((or_congr (rp_eq hv2 (show rp 0 0 from rfl)) (rp_eq hv2 (show rp 1 1 from rfl))).mpr q3)]
        obtain ⟨rfl, rfl⟩ := Prod.mk.inj (Option.some.inj h)
        exact ⟨_, _, rfl, hv2, gM3⟩
      · rw [if_neg q3] at h
        rw [if_neg (fun z => q3 ((or_congr (rp_eq hv2 (show rp 0 0 from rfl)) (rp_eq hv2 (show rp 1 1 from rfl))).mp z))]
        cases h
  · rw [if_neg q1] at h
    rw [if_neg (fun z => q1 ((rp_eq ha0 (show rp 36 36 from rfl)).mp z))]
    cases hc4 : zF13 n a0 M with
    | none => rw [hc4] at h; cases h
    | some w =>
      obtain ⟨v6, M7⟩ := w
      rw [hc4] at h
      dsimp only at h
      obtain ⟨V6, NM7, ehc4, hv6, gM7⟩ := zF13_r n ha0 gM hc4
      rw [ehc4]
      dsimp only
      by_cases q5 : v6 = 0
      · rw [if_pos q5] at h
        rw [if_pos ((rp_eq hv6 (show rp 0 0 from rfl)).mpr q5)]
        cases hc6 : zF14 n a0 M7 with
        | none => rw [hc6] at h; cases h
        | some w =>
          obtain ⟨v10, M11⟩ := w
          rw [hc6] at h
          dsimp only at h
          obtain ⟨V10, NM11, ehc6, hv10, gM11⟩ := zF14_r n ha0 gM7 hc6
          rw [ehc6]
          dsimp only
          by_cases q7 : v10 = 0
          · rw [if_pos q7] at h
            rw [if_pos ((rp_eq hv10 (show rp 0 0 from rfl)).mpr q7)]
            exact zJ131_48_r n gM11 h
          · rw [if_neg q7] at h
            rw [if_neg (fun z => q7 ((rp_eq hv10 (show rp 0 0 from rfl)).mp z))]
            exact zJ131_40_r n ha0 gM11 h
      · rw [if_neg q5] at h
        rw [if_neg (fun z => q5 ((rp_eq hv6 (show rp 0 0 from rfl)).mp z))]
        cases hc8 : zF162 n 4 (M7.1 3 3) a0 M7 with
        | none => rw [hc8] at h; cases h
        | some w =>
          obtain ⟨v19, M20⟩ := w
          rw [hc8] at h
          dsimp only at h
          obtain ⟨V19, NM20, ehc8, hv19, gM20⟩ := zF162_r n 4 (rm_rd gM7 3 3) ha0 gM7 hc8
          rw [ehc8]
          dsimp only
          by_cases q9 : v19 = 0 ∨ v19 = 1
          · rw [if_pos q9] at h
            rw [if_pos ((or_congr (rp_eq hv19 (show rp 0 0 from rfl)) (rp_eq hv19 (show rp 1 1 from rfl))).mpr q9)]
            obtain ⟨rfl, rfl⟩ := Prod.mk.inj (Option.some.inj h)
            exact ⟨_, _, rfl, hv19, gM20⟩
          · rw [if_neg q9] at h
            rw [if_neg (fun z => q9 ((or_congr (rp_eq hv19 (show rp 0 0 from rfl)) (rp_eq hv19 (show rp 1 1 from rfl))).mp z))]
            cases h
def zJ128_76 (n : Nat) (x1 : Int) (M : ZM) : Option (Int × ZM) :=
  match zF11 n x1 M with | some (v13, M14) => (match zF129 n v13 1 M14 with | some (v16, M17) => (if v16 = 0 ∨ v16 = 1 then (some (v16, M17)) else (none)) | none => none) | none => none
set_option maxRecDepth 100000 in
set_option maxHeartbeats 4000000 in
theorem zJ128_76_r (n : Nat) {X1_ : Int32} {x1 : Int} (hx1 : rp X1_ x1) {M_ : Mem} {M : ZM} (gM : rm M_ M) {r : Int} {m' : ZM} (h : zJ128_76 n x1 M = some (r, m')) : sI (J128_76 n X1_ M_) r m' := by
  unfold zJ128_76 at h
  unfold J128_76
  cases hc1 : zF11 n x1 M with
  | none => rw [hc1] at h; cases h
  | some w =>
    obtain ⟨v13, M14⟩ := w
    rw [hc1] at h
    dsimp only at h
    obtain ⟨V13, NM14, ehc1, hv13, gM14⟩ := zF11_r n hx1 gM hc1
    rw [ehc1]
    dsimp only
    cases hc2 : zF129 n v13 1 M14 with
    | none => rw [hc2] at h; cases h
    | some w =>
      obtain ⟨v16, M17⟩ := w
      rw [hc2] at h
      dsimp only at h
      obtain ⟨V16, NM17, ehc2, hv16, gM17⟩ := zF129_r n hv13 (show rp 1 1 from rfl) gM14 hc2
      rw [ehc2]
      dsimp only
      by_cases q3 : v16 = 0 ∨ v16 = 1
      · rw [if_pos q3] at h
        rw [if_pos ((or_congr (rp_eq hv16 (show rp 0 0 from rfl)) (rp_eq hv16 (show rp 1 1 from rfl))).mpr q3)]
        obtain ⟨rfl, rfl⟩ := Prod.mk.inj (Option.some.inj h)
        exact ⟨_, _, rfl, hv16, gM17⟩
      · rw [if_neg q3] at h
        rw [if_neg (fun z => q3 ((or_congr (rp_eq hv16 (show rp 0 0 from rfl)) (rp_eq hv16 (show rp 1 1 from rfl))).mp z))]
        cases h
def zJ128_86 (n : Nat) (x1 : Int) (M : ZM) : Option (Int × ZM) :=
  match zF130 n x1 M with | some (v20, M21) => (if v20 = 0 ∨ v20 = 1 then (some (v20, M21)) else (none)) | none => none
set_option maxRecDepth 100000 in
set_option maxHeartbeats 4000000 in
theorem zJ128_86_r (n : Nat) {X1_ : Int32} {x1 : Int} (hx1 : rp X1_ x1) {M_ : Mem} {M : ZM} (gM : rm M_ M) {r : Int} {m' : ZM} (h : zJ128_86 n x1 M = some (r, m')) : sI (J128_86 n X1_ M_) r m' := by
  unfold zJ128_86 at h
  unfold J128_86
  cases hc1 : zF130 n x1 M with
  | none => rw [hc1] at h; cases h
  | some w =>
    obtain ⟨v20, M21⟩ := w
    rw [hc1] at h
    dsimp only at h
    obtain ⟨V20, NM21, ehc1, hv20, gM21⟩ := zF130_r n hx1 gM hc1
    rw [ehc1]
    dsimp only
    by_cases q2 : v20 = 0 ∨ v20 = 1
    · rw [if_pos q2] at h
      rw [if_pos ((or_congr (rp_eq hv20 (show rp 0 0 from rfl)) (rp_eq hv20 (show rp 1 1 from rfl))).mpr q2)]
      obtain ⟨rfl, rfl⟩ := Prod.mk.inj (Option.some.inj h)
      exact ⟨_, _, rfl, hv20, gM21⟩
    · rw [if_neg q2] at h
      rw [if_neg (fun z => q2 ((or_congr (rp_eq hv20 (show rp 0 0 from rfl)) (rp_eq hv20 (show rp 1 1 from rfl))).mp z))]
      cases h
def zJ128_124 (n : Nat) (s0 : Int) (M : ZM) : Option (Int × ZM) :=
  match zF129 n s0 4 M with | some (v30, M31) => (if v30 = 0 ∨ v30 = 1 then (some (v30, M31)) else (none)) | none => none
set_option maxRecDepth 100000 in
set_option maxHeartbeats 4000000 in
theorem zJ128_124_r (n : Nat) {S0_ : Int32} {s0 : Int} (hs0 : rp S0_ s0) {M_ : Mem} {M : ZM} (gM : rm M_ M) {r : Int} {m' : ZM} (h : zJ128_124 n s0 M = some (r, m')) : sI (J128_124 n S0_ M_) r m' := by
  unfold zJ128_124 at h
  unfold J128_124
  cases hc1 : zF129 n s0 4 M with
  | none => rw [hc1] at h; cases h
  | some w =>
    obtain ⟨v30, M31⟩ := w
    rw [hc1] at h
    dsimp only at h
    obtain ⟨V30, NM31, ehc1, hv30, gM31⟩ := zF129_r n hs0 (show rp 4 4 from rfl) gM hc1
    rw [ehc1]
    dsimp only
    by_cases q2 : v30 = 0 ∨ v30 = 1
    · rw [if_pos q2] at h
      rw [if_pos ((or_congr (rp_eq hv30 (show rp 0 0 from rfl)) (rp_eq hv30 (show rp 1 1 from rfl))).mpr q2)]
      obtain ⟨rfl, rfl⟩ := Prod.mk.inj (Option.some.inj h)
      exact ⟨_, _, rfl, hv30, gM31⟩
    · rw [if_neg q2] at h
      rw [if_neg (fun z => q2 ((or_congr (rp_eq hv30 (show rp 0 0 from rfl)) (rp_eq hv30 (show rp 1 1 from rfl))).mp z))]
      cases h
def zJ128_123 (n : Nat) (M : ZM) : Option (Int × ZM) :=
  zJ128_124 n 0 M
set_option maxRecDepth 100000 in
set_option maxHeartbeats 4000000 in
theorem zJ128_123_r (n : Nat) {M_ : Mem} {M : ZM} (gM : rm M_ M) {r : Int} {m' : ZM} (h : zJ128_123 n M = some (r, m')) : sI (J128_123 n M_) r m' := by
  unfold zJ128_123 at h
  unfold J128_123
  exact zJ128_124_r n (show rp 0 0 from rfl) gM h
def zJ128_92 (n : Nat) (x1 : Int) (M : ZM) : Option (Int × ZM) :=
  zlet (z_i M 3 4 0) (fun M24 => if x1 = 123 then (match zF162 n 4 (M24.1 3 3) x1 M24 with | some (v26, M27) => (if v26 = 0 then (zJ128_123 n M27) else (zJ128_124 n 1 M27)) | none => none) else (zJ128_123 n M24))
set_option maxRecDepth 100000 in
set_option maxHeartbeats 4000000 in
theorem zJ128_92_r (n : Nat) {X1_ : Int32} {x1 : Int} (hx1 : rp X1_ x1) {M_ : Mem} {M : ZM} (gM : rm M_ M) {r : Int} {m' : ZM} (h : zJ128_92 n x1 M = some (r, m')) : sI (J128_92 n X1_ M_) r m' := by
  unfold zJ128_92 at h
  unfold J128_92
  have gM24 : rm (m_i M_ 3 4 (0 : Int32)) (z_i M 3 4 0) := rm_i gM 3 4 (show rp 0 0 from rfl)
  rw [mlet]
  rw [zlet] at h
  generalize z_i M 3 4 0 = M24 at h gM24
  generalize m_i M_ 3 4 (0 : Int32) = NM24 at gM24 ⊢
  by_cases q1 : x1 = 123
  · rw [if_pos q1] at h
    rw [if_pos ((rp_eq hx1 (show rp 123 123 from rfl)).mpr q1)]
    cases hc2 : zF162 n 4 (M24.1 3 3) x1 M24 with
    | none => rw [hc2] at h; cases h
    | some w =>
      obtain ⟨v26, M27⟩ := w
      rw [hc2] at h
      dsimp only at h
      obtain ⟨V26, NM27, ehc2, hv26, gM27⟩ := zF162_r n 4 (rm_rd gM24 3 3) hx1 gM24 hc2
      rw [ehc2]
      dsimp only
      by_cases q3 : v26 = 0
      · rw [if_pos q3] at h
        rw [if_pos ((rp_eq hv26 (show rp 0 0 from rfl)).mpr q3)]
        exact zJ128_123_r n gM27 h
      · rw [if_neg q3] at h
        rw [if_neg (fun z => q3 ((rp_eq hv26 (show rp 0 0 from rfl)).mp z))]
        exact zJ128_124_r n (show rp 1 1 from rfl) gM27 h
  · rw [if_neg q1] at h
    rw [if_neg (fun z => q1 ((rp_eq hx1 (show rp 123 123 from rfl)).mp z))]
    exact zJ128_123_r n gM24 h
def zJ128_152 (n : Nat) (s0 : Int) (M : ZM) : Option (Int × ZM) :=
  match zF129 n s0 1 M with | some (v42, M43) => (if v42 = 0 ∨ v42 = 1 then (some (v42, M43)) else (none)) | none => none
set_option maxRecDepth 100000 in
set_option maxHeartbeats 4000000 in
theorem zJ128_152_r (n : Nat) {S0_ : Int32} {s0 : Int} (hs0 : rp S0_ s0) {M_ : Mem} {M : ZM} (gM : rm M_ M) {r : Int} {m' : ZM} (h : zJ128_152 n s0 M = some (r, m')) : sI (J128_152 n S0_ M_) r m' := by
  unfold zJ128_152 at h
  unfold J128_152
  cases hc1 : zF129 n s0 1 M with
  | none => rw [hc1] at h; cases h
  | some w =>
    obtain ⟨v42, M43⟩ := w
    rw [hc1] at h
    dsimp only at h
    obtain ⟨V42, NM43, ehc1, hv42, gM43⟩ := zF129_r n hs0 (show rp 1 1 from rfl) gM hc1
    rw [ehc1]
    dsimp only
    by_cases q2 : v42 = 0 ∨ v42 = 1
    · rw [if_pos q2] at h
      rw [if_pos ((or_congr (rp_eq hv42 (show rp 0 0 from rfl)) (rp_eq hv42 (show rp 1 1 from rfl))).mpr q2)]
      obtain ⟨rfl, rfl⟩ := Prod.mk.inj (Option.some.inj h)
      exact ⟨_, _, rfl, hv42, gM43⟩
    · rw [if_neg q2] at h
      rw [if_neg (fun z => q2 ((or_congr (rp_eq hv42 (show rp 0 0 from rfl)) (rp_eq hv42 (show rp 1 1 from rfl))).mp z))]
      cases h
def zJ128_151 (n : Nat) (M : ZM) : Option (Int × ZM) :=
  zJ128_152 n 0 M
set_option maxRecDepth 100000 in
set_option maxHeartbeats 4000000 in
theorem zJ128_151_r (n : Nat) {M_ : Mem} {M : ZM} (gM : rm M_ M) {r : Int} {m' : ZM} (h : zJ128_151 n M = some (r, m')) : sI (J128_151 n M_) r m' := by
  unfold zJ128_151 at h
  unfold J128_151
  exact zJ128_152_r n (show rp 0 0 from rfl) gM h
def zJ128_129 (n : Nat) (x1 : Int) (M : ZM) : Option (Int × ZM) :=
  if x1 = 59 then (match M.2.1 3 1 with | some p35 => (if isD p35 then (match zF108 n p35 M with | some (v38, M39) => (if 3 ≤ v38 then (zJ128_151 n M39) else (zJ128_152 n 1 M39)) | none => none) else (none)) | none => (none)) else (zJ128_151 n M)
set_option maxRecDepth 100000 in
set_option maxHeartbeats 4000000 in
theorem zJ128_129_r (n : Nat) {X1_ : Int32} {x1 : Int} (hx1 : rp X1_ x1) {M_ : Mem} {M : ZM} (gM : rm M_ M) {r : Int} {m' : ZM} (h : zJ128_129 n x1 M = some (r, m')) : sI (J128_129 n X1_ M_) r m' := by
  unfold zJ128_129 at h
  unfold J128_129
  by_cases q1 : x1 = 59
  · rw [if_pos q1] at h
    rw [if_pos ((rp_eq hx1 (show rp 59 59 from rfl)).mpr q1)]
    rw [rm_rf gM 3 1]
    cases hq2 : M.2.1 3 1 with
    | none =>
      rw [hq2] at h
      dsimp only at h ⊢
      cases h
    | some p35 =>
      rw [hq2] at h
      dsimp only at h ⊢
      by_cases q3 : isD p35
      · rw [if_pos q3] at h
        rw [if_pos (Iff.rfl.mpr q3)]
        cases hc4 : zF108 n p35 M with
        | none => rw [hc4] at h; cases h
        | some w =>
          obtain ⟨v38, M39⟩ := w
          rw [hc4] at h
          dsimp only at h
          obtain ⟨V38, NM39, ehc4, hv38, gM39⟩ := zF108_r n p35 gM hc4
          rw [ehc4]
          dsimp only
          by_cases q5 : 3 ≤ v38
          · rw [if_pos q5] at h
            rw [if_pos ((rp_le (show rp 3 3 from rfl) hv38).mpr q5)]
            exact zJ128_151_r n gM39 h
          · rw [if_neg q5] at h
            rw [if_neg (fun z => q5 ((rp_le (show rp 3 3 from rfl) hv38).mp z))]
            exact zJ128_152_r n (show rp 1 1 from rfl) gM39 h
      · rw [if_neg q3] at h
        rw [if_neg (fun z => q3 (Iff.rfl.mp z))]
        cases h
  · rw [if_neg q1] at h
    rw [if_neg (fun z => q1 ((rp_eq hx1 (show rp 59 59 from rfl)).mp z))]
    exact zJ128_151_r n gM h
def zJ128_235 (n : Nat) (x1 : Int) (M : ZM) : Option (Int × ZM) :=
  match zF131 n x1 M with | some (v46, M47) => (if v46 = 0 ∨ v46 = 1 then (some (v46, M47)) else (none)) | none => none
set_option maxRecDepth 100000 in
set_option maxHeartbeats 4000000 in
theorem zJ128_235_r (n : Nat) {X1_ : Int32} {x1 : Int} (hx1 : rp X1_ x1) {M_ : Mem} {M : ZM} (gM : rm M_ M) {r : Int} {m' : ZM} (h : zJ128_235 n x1 M = some (r, m')) : sI (J128_235 n X1_ M_) r m' := by
  unfold zJ128_235 at h
  unfold J128_235
  cases hc1 : zF131 n x1 M with
  | none => rw [hc1] at h; cases h
  | some w =>
    obtain ⟨v46, M47⟩ := w
    rw [hc1] at h
    dsimp only at h
    obtain ⟨V46, NM47, ehc1, hv46, gM47⟩ := zF131_r n hx1 gM hc1
    rw [ehc1]
    dsimp only
    by_cases q2 : v46 = 0 ∨ v46 = 1
    · rw [if_pos q2] at h
      rw [if_pos ((or_congr (rp_eq hv46 (show rp 0 0 from rfl)) (rp_eq hv46 (show rp 1 1 from rfl))).mpr q2)]
      obtain ⟨rfl, rfl⟩ := Prod.mk.inj (Option.some.inj h)
      exact ⟨_, _, rfl, hv46, gM47⟩
    · rw [if_neg q2] at h
      rw [if_neg (fun z => q2 ((or_congr (rp_eq hv46 (show rp 0 0 from rfl)) (rp_eq hv46 (show rp 1 1 from rfl))).mp z))]
      cases h
def zJ128_157 (n : Nat) (x1 : Int) (M : ZM) : Option (Int × ZM) :=
  match zF133 n x1 M with | some (v50, M51) => (if v50 = 0 ∨ v50 = 1 then (some (v50, M51)) else (none)) | none => none
set_option maxRecDepth 100000 in
set_option maxHeartbeats 4000000 in
theorem zJ128_157_r (n : Nat) {X1_ : Int32} {x1 : Int} (hx1 : rp X1_ x1) {M_ : Mem} {M : ZM} (gM : rm M_ M) {r : Int} {m' : ZM} (h : zJ128_157 n x1 M = some (r, m')) : sI (J128_157 n X1_ M_) r m' := by
  unfold zJ128_157 at h
  unfold J128_157
  cases hc1 : zF133 n x1 M with
  | none => rw [hc1] at h; cases h
  | some w =>
    obtain ⟨v50, M51⟩ := w
    rw [hc1] at h
    dsimp only at h
    obtain ⟨V50, NM51, ehc1, hv50, gM51⟩ := zF133_r n hx1 gM hc1
    rw [ehc1]
    dsimp only
    by_cases q2 : v50 = 0 ∨ v50 = 1
    · rw [if_pos q2] at h
      rw [if_pos ((or_congr (rp_eq hv50 (show rp 0 0 from rfl)) (rp_eq hv50 (show rp 1 1 from rfl))).mpr q2)]
      obtain ⟨rfl, rfl⟩ := Prod.mk.inj (Option.some.inj h)
      exact ⟨_, _, rfl, hv50, gM51⟩
    · rw [if_neg q2] at h
      rw [if_neg (fun z => q2 ((or_congr (rp_eq hv50 (show rp 0 0 from rfl)) (rp_eq hv50 (show rp 1 1 from rfl))).mp z))]
      cases h
def zJ128_175 (n : Nat) (s0 : Int) (M : ZM) : Option (Int × ZM) :=
  match zF129 n s0 7 M with | some (v55, M56) => (if v55 = 0 ∨ v55 = 1 then (some (v55, M56)) else (none)) | none => none
set_option maxRecDepth 100000 in
set_option maxHeartbeats 4000000 in
theorem zJ128_175_r (n : Nat) {S0_ : Int32} {s0 : Int} (hs0 : rp S0_ s0) {M_ : Mem} {M : ZM} (gM : rm M_ M) {r : Int} {m' : ZM} (h : zJ128_175 n s0 M = some (r, m')) : sI (J128_175 n S0_ M_) r m' := by
  unfold zJ128_175 at h
  unfold J128_175
  cases hc1 : zF129 n s0 7 M with
  | none => rw [hc1] at h; cases h
  | some w =>
    obtain ⟨v55, M56⟩ := w
    rw [hc1] at h
    dsimp only at h
    obtain ⟨V55, NM56, ehc1, hv55, gM56⟩ := zF129_r n hs0 (show rp 7 7 from rfl) gM hc1
    rw [ehc1]
    dsimp only
    by_cases q2 : v55 = 0 ∨ v55 = 1
    · rw [if_pos q2] at h
      rw [if_pos ((or_congr (rp_eq hv55 (show rp 0 0 from rfl)) (rp_eq hv55 (show rp 1 1 from rfl))).mpr q2)]
      obtain ⟨rfl, rfl⟩ := Prod.mk.inj (Option.some.inj h)
      exact ⟨_, _, rfl, hv55, gM56⟩
    · rw [if_neg q2] at h
      rw [if_neg (fun z => q2 ((or_congr (rp_eq hv55 (show rp 0 0 from rfl)) (rp_eq hv55 (show rp 1 1 from rfl))).mp z))]
      cases h
def zJ128_163 (n : Nat) (x1 : Int) (M : ZM) : Option (Int × ZM) :=
  if x1 = 58 then (zJ128_175 n 1 M) else (zJ128_175 n 0 M)
set_option maxRecDepth 100000 in
set_option maxHeartbeats 4000000 in
theorem zJ128_163_r (n : Nat) {X1_ : Int32} {x1 : Int} (hx1 : rp X1_ x1) {M_ : Mem} {M : ZM} (gM : rm M_ M) {r : Int} {m' : ZM} (h : zJ128_163 n x1 M = some (r, m')) : sI (J128_163 n X1_ M_) r m' := by
  unfold zJ128_163 at h
  unfold J128_163
  by_cases q1 : x1 = 58
  · rw [if_pos q1] at h
    rw [if_pos ((rp_eq hx1 (show rp 58 58 from rfl)).mpr q1)]
    exact zJ128_175_r n (show rp 1 1 from rfl) gM h
  · rw [if_neg q1] at h
    rw [if_neg (fun z => q1 ((rp_eq hx1 (show rp 58 58 from rfl)).mp z))]
    exact zJ128_175_r n (show rp 0 0 from rfl) gM h
def zJ128_181 (n : Nat) (x1 : Int) (M : ZM) : Option (Int × ZM) :=
  match zF16 n x1 M with | some (v59, M60) => (match zF129 n v59 4 M60 with | some (v62, M63) => (if v62 = 0 ∨ v62 = 1 then (some (v62, M63)) else (none)) | none => none) | none => none
set_option maxRecDepth 100000 in
set_option maxHeartbeats 4000000 in
theorem zJ128_181_r (n : Nat) {X1_ : Int32} {x1 : Int} (hx1 : rp X1_ x1) {M_ : Mem} {M : ZM} (gM : rm M_ M) {r : Int} {m' : ZM} (h : zJ128_181 n x1 M = some (r, m')) : sI (J128_181 n X1_ M_) r m' := by
  unfold zJ128_181 at h
  unfold J128_181
  cases hc1 : zF16 n x1 M with
  | none => rw [hc1] at h; cases h
  | some w =>
    obtain ⟨v59, M60⟩ := w
    rw [hc1] at h
    dsimp only at h
    obtain ⟨V59, NM60, ehc1, hv59, gM60⟩ := zF16_r n hx1 gM hc1
    rw [ehc1]
    dsimp only
    cases hc2 : zF129 n v59 4 M60 with
    | none => rw [hc2] at h; cases h
    | some w =>
      obtain ⟨v62, M63⟩ := w
      rw [hc2] at h
      dsimp only at h
      obtain ⟨V62, NM63, ehc2, hv62, gM63⟩ := zF129_r n hv59 (show rp 4 4 from rfl) gM60 hc2
      rw [ehc2]
      dsimp only
      by_cases q3 : v62 = 0 ∨ v62 = 1
      · rw [if_pos q3] at h
        rw [if_pos ((or_congr (rp_eq hv62 (show rp 0 0 from rfl)) (rp_eq hv62 (show rp 1 1 from rfl))).mpr q3)]
        obtain ⟨rfl, rfl⟩ := Prod.mk.inj (Option.some.inj h)
        exact ⟨_, _, rfl, hv62, gM63⟩
      · rw [if_neg q3] at h
        rw [if_neg (fun z => q3 ((or_congr (rp_eq hv62 (show rp 0 0 from rfl)) (rp_eq hv62 (show rp 1 1 from rfl))).mp z))]
        cases h
def zJ128_191 (n : Nat) (x1 : Int) (M : ZM) : Option (Int × ZM) :=
  match zF134 n x1 M with | some (v66, M67) => (if v66 = 0 ∨ v66 = 1 then (some (v66, M67)) else (none)) | none => none
set_option maxRecDepth 100000 in
set_option maxHeartbeats 4000000 in
theorem zJ128_191_r (n : Nat) {X1_ : Int32} {x1 : Int} (hx1 : rp X1_ x1) {M_ : Mem} {M : ZM} (gM : rm M_ M) {r : Int} {m' : ZM} (h : zJ128_191 n x1 M = some (r, m')) : sI (J128_191 n X1_ M_) r m' := by
  unfold zJ128_191 at h
  unfold J128_191
  cases hc1 : zF134 n x1 M with
  | none => rw [hc1] at h; cases h
  | some w =>
    obtain ⟨v66, M67⟩ := w
    rw [hc1] at h
    dsimp only at h
    obtain ⟨V66, NM67, ehc1, hv66, gM67⟩ := zF134_r n hx1 gM hc1
    rw [ehc1]
    dsimp only
    by_cases q2 : v66 = 0 ∨ v66 = 1
    · rw [if_pos q2] at h
      rw [if_pos ((or_congr (rp_eq hv66 (show rp 0 0 from rfl)) (rp_eq hv66 (show rp 1 1 from rfl))).mpr q2)]
      obtain ⟨rfl, rfl⟩ := Prod.mk.inj (Option.some.inj h)
      exact ⟨_, _, rfl, hv66, gM67⟩
    · rw [if_neg q2] at h
      rw [if_neg (fun z => q2 ((or_congr (rp_eq hv66 (show rp 0 0 from rfl)) (rp_eq hv66 (show rp 1 1 from rfl))).mp z))]
      cases h
def zJ128_230 (n : Nat) (s0 : Int) (M : ZM) : Option (Int × ZM) :=
  match zF129 n s0 4 M with | some (v77, M78) => (if v77 = 0 ∨ v77 = 1 then (some (v77, M78)) else (none)) | none => none
set_option maxRecDepth 100000 in
set_option maxHeartbeats 4000000 in
theorem zJ128_230_r (n : Nat) {S0_ : Int32} {s0 : Int} (hs0 : rp S0_ s0) {M_ : Mem} {M : ZM} (gM : rm M_ M) {r : Int} {m' : ZM} (h : zJ128_230 n s0 M = some (r, m')) : sI (J128_230 n S0_ M_) r m' := by
  unfold zJ128_230 at h
  unfold J128_230
  cases hc1 : zF129 n s0 4 M with
  | none => rw [hc1] at h; cases h
  | some w =>
    obtain ⟨v77, M78⟩ := w
    rw [hc1] at h
    dsimp only at h
    obtain ⟨V77, NM78, ehc1, hv77, gM78⟩ := zF129_r n hs0 (show rp 4 4 from rfl) gM hc1
    rw [ehc1]
    dsimp only
    by_cases q2 : v77 = 0 ∨ v77 = 1
    · rw [if_pos q2] at h
      rw [if_pos ((or_congr (rp_eq hv77 (show rp 0 0 from rfl)) (rp_eq hv77 (show rp 1 1 from rfl))).mpr q2)]
      obtain ⟨rfl, rfl⟩ := Prod.mk.inj (Option.some.inj h)
      exact ⟨_, _, rfl, hv77, gM78⟩
    · rw [if_neg q2] at h
      rw [if_neg (fun z => q2 ((or_congr (rp_eq hv77 (show rp 0 0 from rfl)) (rp_eq hv77 (show rp 1 1 from rfl))).mp z))]
      cases h
def zJ128_225 (n : Nat) (M : ZM) : Option (Int × ZM) :=
  zJ128_230 n 1 M
set_option maxRecDepth 100000 in
set_option maxHeartbeats 4000000 in
theorem zJ128_225_r (n : Nat) {M_ : Mem} {M : ZM} (gM : rm M_ M) {r : Int} {m' : ZM} (h : zJ128_225 n M = some (r, m')) : sI (J128_225 n M_) r m' := by
  unfold zJ128_225 at h
  unfold J128_225
  exact zJ128_230_r n (show rp 1 1 from rfl) gM h
def zJ128_212 (n : Nat) (x1 : Int) (M : ZM) : Option (Int × ZM) :=
  if x1 = 42 then (zJ128_225 n M) else (if x1 = 43 then (zJ128_225 n M) else (zJ128_230 n 0 M))
set_option maxRecDepth 100000 in
set_option maxHeartbeats 4000000 in
theorem zJ128_212_r (n : Nat) {X1_ : Int32} {x1 : Int} (hx1 : rp X1_ x1) {M_ : Mem} {M : ZM} (gM : rm M_ M) {r : Int} {m' : ZM} (h : zJ128_212 n x1 M = some (r, m')) : sI (J128_212 n X1_ M_) r m' := by
  unfold zJ128_212 at h
  unfold J128_212
  by_cases q1 : x1 = 42
  · rw [if_pos q1] at h
    rw [if_pos ((rp_eq hx1 (show rp 42 42 from rfl)).mpr q1)]
    exact zJ128_225_r n gM h
  · rw [if_neg q1] at h
    rw [if_neg (fun z => q1 ((rp_eq hx1 (show rp 42 42 from rfl)).mp z))]
    by_cases q2 : x1 = 43
    · rw [if_pos q2] at h
      rw [if_pos ((rp_eq hx1 (show rp 43 43 from rfl)).mpr q2)]
      exact zJ128_225_r n gM h
    · rw [if_neg q2] at h
      rw [if_neg (fun z => q2 ((rp_eq hx1 (show rp 43 43 from rfl)).mp z))]
      exact zJ128_230_r n (show rp 0 0 from rfl) gM h
def zJ128_197 (n : Nat) (x1 : Int) (M : ZM) : Option (Int × ZM) :=
  match M.2.1 3 1 with | some p70 => (if isD p70 then (match zF105 n p70 (M.1 3 7) (M.1 3 3) M with | some (v73, M74) => (zJ128_212 n x1 M74) | none => none) else (none)) | none => (none)
set_option maxRecDepth 100000 in
set_option maxHeartbeats 4000000 in
theorem zJ128_197_r (n : Nat) {X1_ : Int32} {x1 : Int} (hx1 : rp X1_ x1) {M_ : Mem} {M : ZM} (gM : rm M_ M) {r : Int} {m' : ZM} (h : zJ128_197 n x1 M = some (r, m')) : sI (J128_197 n X1_ M_) r m' := by
  unfold zJ128_197 at h
  unfold J128_197
  rw [rm_rf gM 3 1]
  cases hq1 : M.2.1 3 1 with
  | none =>
    rw [hq1] at h
    dsimp only at h ⊢
    cases h
  | some p70 =>
    rw [hq1] at h
    dsimp only at h ⊢
    by_cases q2 : isD p70
    · rw [if_pos q2] at h
      rw [if_pos (Iff.rfl.mpr q2)]
      cases hc3 : zF105 n p70 (M.1 3 7) (M.1 3 3) M with
      | none => rw [hc3] at h; cases h
      | some w =>
        obtain ⟨v73, M74⟩ := w
        rw [hc3] at h
        dsimp only at h
        obtain ⟨NM74, ehc3, gM74⟩ := zF105_r n p70 (rm_rd gM 3 7) (rm_rd gM 3 3) gM hc3
        rw [ehc3]
        dsimp only
        exact zJ128_212_r n hx1 gM74 h
    · rw [if_neg q2] at h
      rw [if_neg (fun z => q2 (Iff.rfl.mp z))]
      cases h
def zJ128_17 (n : Nat) (x1 : Int) (M : ZM) : Option (Int × ZM) :=
  if (M.1 3 2) < 0 ∨ 9 < (M.1 3 2) then (match zF131 n x1 M with | some (v9, M10) => (if v9 = 0 ∨ v9 = 1 then (some (v9, M10)) else (none)) | none => none) else (if (M.1 3 2) = 0 then (zJ128_76 n x1 M) else (if (M.1 3 2) = 1 then (zJ128_86 n x1 M) else (if (M.1 3 2) = 2 then (zJ128_92 n x1 M) else (if (M.1 3 2) = 3 then (zJ128_129 n x1 M) else (if (M.1 3 2) = 4 then (zJ128_235 n x1 M) else (if (M.1 3 2) = 5 then (zJ128_157 n x1 M) else (if (M.1 3 2) = 6 then (zJ128_163 n x1 M) else (if (M.1 3 2) = 7 then (zJ128_181 n x1 M) else (if (M.1 3 2) = 8 then (zJ128_191 n x1 M) else (if (M.1 3 2) = 9 then (zJ128_197 n x1 M) else (none)))))))))))
set_option maxRecDepth 100000 in
set_option maxHeartbeats 4000000 in
theorem zJ128_17_r (n : Nat) {X1_ : Int32} {x1 : Int} (hx1 : rp X1_ x1) {M_ : Mem} {M : ZM} (gM : rm M_ M) {r : Int} {m' : ZM} (h : zJ128_17 n x1 M = some (r, m')) : sI (J128_17 n X1_ M_) r m' := by
  unfold zJ128_17 at h
  unfold J128_17
  by_cases q1 : (M.1 3 2) < 0 ∨ 9 < (M.1 3 2)
  · rw [if_pos q1] at h
    rw [if_pos ((rp_ts (rm_rd gM 3 2)).mpr q1)]
    cases hc2 : zF131 n x1 M with
    | none => rw [hc2] at h; cases h
    | some w =>
      obtain ⟨v9, M10⟩ := w
      rw [hc2] at h
      dsimp only at h
      obtain ⟨V9, NM10, ehc2, hv9, gM10⟩ := zF131_r n hx1 gM hc2
      rw [ehc2]
      dsimp only
      by_cases q3 : v9 = 0 ∨ v9 = 1
      · rw [if_pos q3] at h
        rw [if_pos ((or_congr (rp_eq hv9 (show rp 0 0 from rfl)) (rp_eq hv9 (show rp 1 1 from rfl))).mpr q3)]
        obtain ⟨rfl, rfl⟩ := Prod.mk.inj (Option.some.inj h)
        exact ⟨_, _, rfl, hv9, gM10⟩
      · rw [if_neg q3] at h
        rw [if_neg (fun z => q3 ((or_congr (rp_eq hv9 (show rp 0 0 from rfl)) (rp_eq hv9 (show rp 1 1 from rfl))).mp z))]
        cases h
  · rw [if_neg q1] at h
    rw [if_neg (fun z => q1 ((rp_ts (rm_rd gM 3 2)).mp z))]
    by_cases q4 : (M.1 3 2) = 0
    · rw [if_pos q4] at h
      rw [if_pos ((rp_eq (rm_rd gM 3 2) (show rp 0 0 from rfl)).mpr q4)]
      exact zJ128_76_r n hx1 gM h
    · rw [if_neg q4] at h
      rw [if_neg (fun z => q4 ((rp_eq (rm_rd gM 3 2) (show rp 0 0 from rfl)).mp z))]
      by_cases q5 : (M.1 3 2) = 1
      · rw [if_pos q5] at h
        rw [if_pos ((rp_eq (rm_rd gM 3 2) (show rp 1 1 from rfl)).mpr q5)]
        exact zJ128_86_r n hx1 gM h
      · rw [if_neg q5] at h
        rw [if_neg (fun z => q5 ((rp_eq (rm_rd gM 3 2) (show rp 1 1 from rfl)).mp z))]
        by_cases q6 : (M.1 3 2) = 2
        · rw [if_pos q6] at h
          rw [if_pos ((rp_eq (rm_rd gM 3 2) (show rp 2 2 from rfl)).mpr q6)]
          exact zJ128_92_r n hx1 gM h
        · rw [if_neg q6] at h
          rw [if_neg (fun z => q6 ((rp_eq (rm_rd gM 3 2) (show rp 2 2 from rfl)).mp z))]
          by_cases q7 : (M.1 3 2) = 3
          · rw [if_pos q7] at h
            rw [if_pos ((rp_eq (rm_rd gM 3 2) (show rp 3 3 from rfl)).mpr q7)]
            exact zJ128_129_r n hx1 gM h
          · rw [if_neg q7] at h
            rw [if_neg (fun z => q7 ((rp_eq (rm_rd gM 3 2) (show rp 3 3 from rfl)).mp z))]
            by_cases q8 : (M.1 3 2) = 4
            · rw [if_pos q8] at h
              rw [if_pos ((rp_eq (rm_rd gM 3 2) (show rp 4 4 from rfl)).mpr q8)]
              exact zJ128_235_r n hx1 gM h
            · rw [if_neg q8] at h
              rw [if_neg (fun z => q8 ((rp_eq (rm_rd gM 3 2) (show rp 4 4 from rfl)).mp z))]
              by_cases q9 : (M.1 3 2) = 5
              · rw [if_pos q9] at h
                rw [if_pos ((rp_eq (rm_rd gM 3 2) (show rp 5 5 from rfl)).mpr q9)]
                exact zJ128_157_r n hx1 gM h
              · rw [if_neg q9] at h
                rw [if_neg (fun z => q9 ((rp_eq (rm_rd gM 3 2) (show rp 5 5 from rfl)).mp z))]
                by_cases q10 : (M.1 3 2) = 6
                · rw [if_pos q10] at h
                  rw [if_pos ((rp_eq (rm_rd gM 3 2) (show rp 6 6 from rfl)).mpr q10)]
                  exact zJ128_163_r n hx1 gM h
                · rw [if_neg q10] at h
                  rw [if_neg (fun z => q10 ((rp_eq (rm_rd gM 3 2) (show rp 6 6 from rfl)).mp z))]
                  by_cases q11 : (M.1 3 2) = 7
                  · rw [if_pos q11] at h
                    rw [if_pos ((rp_eq (rm_rd gM 3 2) (show rp 7 7 from rfl)).mpr q11)]
                    exact zJ128_181_r n hx1 gM h
                  · rw [if_neg q11] at h
                    rw [if_neg (fun z => q11 ((rp_eq (rm_rd gM 3 2) (show rp 7 7 from rfl)).mp z))]
                    by_cases q12 : (M.1 3 2) = 8
                    · rw [if_pos q12] at h
                      rw [if_pos ((rp_eq (rm_rd gM 3 2) (show rp 8 8 from rfl)).mpr q12)]
                      exact zJ128_191_r n hx1 gM h
                    · rw [if_neg q12] at h
                      rw [if_neg (fun z => q12 ((rp_eq (rm_rd gM 3 2) (show rp 8 8 from rfl)).mp z))]
                      by_cases q13 : (M.1 3 2) = 9
                      · rw [if_pos q13] at h
                        rw [if_pos ((rp_eq (rm_rd gM 3 2) (show rp 9 9 from rfl)).mpr q13)]
                        exact zJ128_197_r n hx1 gM h
                      · rw [if_neg q13] at h
                        rw [if_neg (fun z => q13 ((rp_eq (rm_rd gM 3 2) (show rp 9 9 from rfl)).mp z))]
                        cases h
/-- ArmExpander$DefinitionReader.accepts -/
def zF128 (n : Nat) (a0 : Int) (a1 : Int) (M : ZM) : Option (Int × ZM) :=
  zlet (z_i M 3 3 a1) (fun M1 => match M1.2.1 3 1 with | some p2 => (if isD p2 then (match zF102 n p2 a0 (M1.1 3 6) M1 with | some (v5, M6) => (zJ128_17 n a0 M6) | none => none) else (none)) | none => (none))
set_option maxRecDepth 100000 in
set_option maxHeartbeats 4000000 in
theorem zF128_r (n : Nat) {A0_ : Int32} {a0 : Int} (ha0 : rp A0_ a0) {A1_ : Int32} {a1 : Int} (ha1 : rp A1_ a1) {M_ : Mem} {M : ZM} (gM : rm M_ M) {r : Int} {m' : ZM} (h : zF128 n a0 a1 M = some (r, m')) : sI (F128 n A0_ A1_ M_) r m' := by
  unfold zF128 at h
  unfold F128
  have gM1 : rm (m_i M_ 3 3 A1_) (z_i M 3 3 a1) := rm_i gM 3 3 ha1
  rw [mlet]
  rw [zlet] at h
  generalize z_i M 3 3 a1 = M1 at h gM1
  generalize m_i M_ 3 3 A1_ = NM1 at gM1 ⊢
  rw [rm_rf gM1 3 1]
  cases hq1 : M1.2.1 3 1 with
  | none =>
    rw [hq1] at h
    dsimp only at h ⊢
    cases h
  | some p2 =>
    rw [hq1] at h
    dsimp only at h ⊢
    by_cases q2 : isD p2
    · rw [if_pos q2] at h
      rw [if_pos (Iff.rfl.mpr q2)]
      cases hc3 : zF102 n p2 a0 (M1.1 3 6) M1 with
      | none => rw [hc3] at h; cases h
      | some w =>
        obtain ⟨v5, M6⟩ := w
        rw [hc3] at h
        dsimp only at h
        obtain ⟨NM6, ehc3, gM6⟩ := zF102_r n p2 ha0 (rm_rd gM1 3 6) gM1 hc3
        rw [ehc3]
        dsimp only
        exact zJ128_17_r n ha0 gM6 h
    · rw [if_neg q2] at h
      rw [if_neg (fun z => q2 (Iff.rfl.mp z))]
      cases h
/-- ArmExpander$Threads.clear -/
def zF187 (n : Nat) (b : Nat) (g0 : Nat) (M : ZM) : Option (Unit × ZM) :=
  zlet (z_r M b 4 (some g0)) (fun M1 => zlet (z_f M1 (b + 1) 0 120) (fun M2 => some ((), M2)))
set_option maxRecDepth 100000 in
set_option maxHeartbeats 4000000 in
theorem zF187_r (n : Nat) (b : Nat) (g0 : Nat) {M_ : Mem} {M : ZM} (gM : rm M_ M) {r : Unit} {m' : ZM} (h : zF187 n b g0 M = some (r, m')) : sU (F187 n b g0 M_) m' := by
  unfold zF187 at h
  unfold F187
  have gM1 : rm (m_r M_ b 4 (some g0)) (z_r M b 4 (some g0)) := rm_r gM b 4 (some g0)
  rw [mlet]
  rw [zlet] at h
  generalize z_r M b 4 (some g0) = M1 at h gM1
  generalize m_r M_ b 4 (some g0) = NM1 at gM1 ⊢
  have gM2 : rm (m_fill (b + 1) (0 : Int32) 120 0 NM1) (z_f M1 (b + 1) 0 120) := rm_f gM1 (b + 1) (show rp 0 0 from rfl) 120
  rw [mlet]
  rw [zlet] at h
  generalize z_f M1 (b + 1) 0 120 = M2 at h gM2
  generalize m_fill (b + 1) (0 : Int32) 120 0 NM1 = NM2 at gM2 ⊢
  obtain ⟨_, rfl⟩ := Prod.mk.inj (Option.some.inj h)
  exact ⟨_, rfl, gM2⟩
/-- ArmExpander$Threads.setOut -/
def zF190 (n : Nat) (b : Nat) (M : ZM) : Option (Unit × ZM) :=
  zlet (z_f M (b + 3) 0 4) (fun M1 => zlet (z_i M1 b 3 1) (fun M2 => some ((), M2)))
set_option maxRecDepth 100000 in
set_option maxHeartbeats 4000000 in
theorem zF190_r (n : Nat) (b : Nat) {M_ : Mem} {M : ZM} (gM : rm M_ M) {r : Unit} {m' : ZM} (h : zF190 n b M = some (r, m')) : sU (F190 n b M_) m' := by
  unfold zF190 at h
  unfold F190
  have gM1 : rm (m_fill (b + 3) (0 : Int32) 4 0 M_) (z_f M (b + 3) 0 4) := rm_f gM (b + 3) (show rp 0 0 from rfl) 4
  rw [mlet]
  rw [zlet] at h
  generalize z_f M (b + 3) 0 4 = M1 at h gM1
  generalize m_fill (b + 3) (0 : Int32) 4 0 M_ = NM1 at gM1 ⊢
  have gM2 : rm (m_i NM1 b 3 (1 : Int32)) (z_i M1 b 3 1) := rm_i gM1 b 3 (show rp 1 1 from rfl)
  rw [mlet]
  rw [zlet] at h
  generalize z_i M1 b 3 1 = M2 at h gM2
  generalize m_i NM1 b 3 (1 : Int32) = NM2 at gM2 ⊢
  obtain ⟨_, rfl⟩ := Prod.mk.inj (Option.some.inj h)
  exact ⟨_, rfl, gM2⟩
def zJ5_25 (n : Nat) (s0 : Int) (M : ZM) : Option (Int × ZM) :=
  some (s0, M)
set_option maxRecDepth 100000 in
set_option maxHeartbeats 4000000 in
theorem zJ5_25_r (n : Nat) {S0_ : Int32} {s0 : Int} (hs0 : rp S0_ s0) {M_ : Mem} {M : ZM} (gM : rm M_ M) {r : Int} {m' : ZM} (h : zJ5_25 n s0 M = some (r, m')) : sI (J5_25 n S0_ M_) r m' := by
  unfold zJ5_25 at h
  unfold J5_25
  obtain ⟨rfl, rfl⟩ := Prod.mk.inj (Option.some.inj h)
  exact ⟨_, _, rfl, hs0, gM⟩
def zJ5_24 (n : Nat) (M : ZM) : Option (Int × ZM) :=
  zJ5_25 n (-1) M
set_option maxRecDepth 100000 in
set_option maxHeartbeats 4000000 in
theorem zJ5_24_r (n : Nat) {M_ : Mem} {M : ZM} (gM : rm M_ M) {r : Int} {m' : ZM} (h : zJ5_24 n M = some (r, m')) : sI (J5_24 n M_) r m' := by
  unfold zJ5_24 at h
  unfold J5_24
  exact zJ5_25_r n (show rp (-1) (-1) from rfl) gM h
/-- ArmExpander.arms -/
def zF5 (n : Nat) (a0 : Int) (M : ZM) : Option (Int × ZM) :=
  if a0 < 0 then (zJ5_24 n M) else (if (M.1 0 5) ≤ a0 then (zJ5_24 n M) else (if a0 < 0 ∨ 6 ≤ a0 then (none) else (match m_pl (Int.toNat a0) with | some p4 => (if isD p4 then (match zF108 n p4 M with | some (v7, M8) => (zJ5_25 n v7 M8) | none => none) else (none)) | none => (none))))
set_option maxRecDepth 100000 in
set_option maxHeartbeats 4000000 in
theorem zF5_r (n : Nat) {A0_ : Int32} {a0 : Int} (ha0 : rp A0_ a0) {M_ : Mem} {M : ZM} (gM : rm M_ M) {r : Int} {m' : ZM} (h : zF5 n a0 M = some (r, m')) : sI (F5 n A0_ M_) r m' := by
  unfold zF5 at h
  unfold F5
  by_cases q1 : a0 < 0
  · rw [if_pos q1] at h
    rw [if_pos ((rp_lt ha0 (show rp 0 0 from rfl)).mpr q1)]
    exact zJ5_24_r n gM h
  · rw [if_neg q1] at h
    rw [if_neg (fun z => q1 ((rp_lt ha0 (show rp 0 0 from rfl)).mp z))]
    by_cases q2 : (M.1 0 5) ≤ a0
    · rw [if_pos q2] at h
      rw [if_pos ((rp_le (rm_rd gM 0 5) ha0).mpr q2)]
      exact zJ5_24_r n gM h
    · rw [if_neg q2] at h
      rw [if_neg (fun z => q2 ((rp_le (rm_rd gM 0 5) ha0).mp z))]
      by_cases q3 : a0 < 0 ∨ 6 ≤ a0
      · rw [if_pos q3] at h
        rw [if_pos ((rp_ob ha0 6).mpr q3)]
        cases h
      · rw [if_neg q3] at h
        rw [if_neg (fun z => q3 ((rp_ob ha0 6).mp z))]
        rw [rm_pl ha0]
        cases hq4 : m_pl (Int.toNat a0) with
        | none =>
          rw [hq4] at h
          dsimp only at h ⊢
          cases h
        | some p4 =>
          rw [hq4] at h
          dsimp only at h ⊢
          by_cases q5 : isD p4
          · rw [if_pos q5] at h
            rw [if_pos (Iff.rfl.mpr q5)]
            cases hc6 : zF108 n p4 M with
            | none => rw [hc6] at h; cases h
            | some w =>
              obtain ⟨v7, M8⟩ := w
              rw [hc6] at h
              dsimp only at h
              obtain ⟨V7, NM8, ehc6, hv7, gM8⟩ := zF108_r n p4 gM hc6
              rw [ehc6]
              dsimp only
              exact zJ5_25_r n hv7 gM8 h
          · rw [if_neg q5] at h
            rw [if_neg (fun z => q5 (Iff.rfl.mp z))]
            cases h
def zJ152_84 (n : Nat) (s0 : Int) (M : ZM) : Option (Int × ZM) :=
  if s0 = 0 ∨ s0 = 1 then (some (s0, M)) else (none)
set_option maxRecDepth 100000 in
set_option maxHeartbeats 4000000 in
theorem zJ152_84_r (n : Nat) {S0_ : Int32} {s0 : Int} (hs0 : rp S0_ s0) {M_ : Mem} {M : ZM} (gM : rm M_ M) {r : Int} {m' : ZM} (h : zJ152_84 n s0 M = some (r, m')) : sI (J152_84 n S0_ M_) r m' := by
  unfold zJ152_84 at h
  unfold J152_84
  by_cases q1 : s0 = 0 ∨ s0 = 1
  · rw [if_pos q1] at h
    rw [if_pos ((or_congr (rp_eq hs0 (show rp 0 0 from rfl)) (rp_eq hs0 (show rp 1 1 from rfl))).mpr q1)]
    obtain ⟨rfl, rfl⟩ := Prod.mk.inj (Option.some.inj h)
    exact ⟨_, _, rfl, hs0, gM⟩
  · rw [if_neg q1] at h
    rw [if_neg (fun z => q1 ((or_congr (rp_eq hs0 (show rp 0 0 from rfl)) (rp_eq hs0 (show rp 1 1 from rfl))).mp z))]
    cases h
def zJ152_79 (n : Nat) (M : ZM) : Option (Int × ZM) :=
  zJ152_84 n 1 M
set_option maxRecDepth 100000 in
set_option maxHeartbeats 4000000 in
theorem zJ152_79_r (n : Nat) {M_ : Mem} {M : ZM} (gM : rm M_ M) {r : Int} {m' : ZM} (h : zJ152_79 n M = some (r, m')) : sI (J152_79 n M_) r m' := by
  unfold zJ152_79 at h
  unfold J152_79
  exact zJ152_84_r n (show rp 1 1 from rfl) gM h
def zJ152_73 (n : Nat) (x1 : Int) (M : ZM) : Option (Int × ZM) :=
  if x1 = 40 then (zJ152_79 n M) else (zJ152_84 n 0 M)
set_option maxRecDepth 100000 in
set_option maxHeartbeats 4000000 in
theorem zJ152_73_r (n : Nat) {X1_ : Int32} {x1 : Int} (hx1 : rp X1_ x1) {M_ : Mem} {M : ZM} (gM : rm M_ M) {r : Int} {m' : ZM} (h : zJ152_73 n x1 M = some (r, m')) : sI (J152_73 n X1_ M_) r m' := by
  unfold zJ152_73 at h
  unfold J152_73
  by_cases q1 : x1 = 40
  · rw [if_pos q1] at h
    rw [if_pos ((rp_eq hx1 (show rp 40 40 from rfl)).mpr q1)]
    exact zJ152_79_r n gM h
  · rw [if_neg q1] at h
    rw [if_neg (fun z => q1 ((rp_eq hx1 (show rp 40 40 from rfl)).mp z))]
    exact zJ152_84_r n (show rp 0 0 from rfl) gM h
def zJ152_58 (n : Nat) (s0 : Int) (M : ZM) : Option (Int × ZM) :=
  if s0 = 0 ∨ s0 = 1 then (some (s0, M)) else (none)
set_option maxRecDepth 100000 in
set_option maxHeartbeats 4000000 in
theorem zJ152_58_r (n : Nat) {S0_ : Int32} {s0 : Int} (hs0 : rp S0_ s0) {M_ : Mem} {M : ZM} (gM : rm M_ M) {r : Int} {m' : ZM} (h : zJ152_58 n s0 M = some (r, m')) : sI (J152_58 n S0_ M_) r m' := by
  unfold zJ152_58 at h
  unfold J152_58
  by_cases q1 : s0 = 0 ∨ s0 = 1
  · rw [if_pos q1] at h
    rw [if_pos ((or_congr (rp_eq hs0 (show rp 0 0 from rfl)) (rp_eq hs0 (show rp 1 1 from rfl))).mpr q1)]
    obtain ⟨rfl, rfl⟩ := Prod.mk.inj (Option.some.inj h)
    exact ⟨_, _, rfl, hs0, gM⟩
  · rw [if_neg q1] at h
    rw [if_neg (fun z => q1 ((or_congr (rp_eq hs0 (show rp 0 0 from rfl)) (rp_eq hs0 (show rp 1 1 from rfl))).mp z))]
    cases h
/-- ArmExpander$Matcher.canBegin -/
def zF152 (n : Nat) (a0 : Int) (a1 : Int) (M : ZM) : Option (Int × ZM) :=
  if a0 = 1247 then (match zF11 n a1 M with | some (v11, M12) => (if v11 = 0 ∨ v11 = 1 then (some (v11, M12)) else (none)) | none => none) else (if a0 = 1560 then (match zF14 n a1 M with | some (v15, M16) => (if v15 = 0 then (zJ152_58 n 1 M16) else (zJ152_58 n 0 M16)) | none => none) else (if a0 = 11786 then (match zF12 n a1 M with | some (v20, M21) => (if v20 = 0 ∨ v20 = 1 then (some (v20, M21)) else (none)) | none => none) else (match zF11 n a1 M with | some (v1, M2) => (if v1 = 0 then (match zF12 n a1 M2 with | some (v5, M6) => (if v5 = 0 then (zJ152_73 n a1 M6) else (zJ152_79 n M6)) | none => none) else (zJ152_79 n M2)) | none => none)))
set_option maxRecDepth 100000 in
set_option maxHeartbeats 4000000 in
theorem zF152_r (n : Nat) {A0_ : Int32} {a0 : Int} (ha0 : rp A0_ a0) {A1_ : Int32} {a1 : Int} (ha1 : rp A1_ a1) {M_ : Mem} {M : ZM} (gM : rm M_ M) {r : Int} {m' : ZM} (h : zF152 n a0 a1 M = some (r, m')) : sI (F152 n A0_ A1_ M_) r m' := by
  unfold zF152 at h
  unfold F152
  by_cases q1 : a0 = 1247
  · rw [if_pos q1] at h
    rw [if_pos ((rp_eq ha0 (show rp 1247 1247 from rfl)).mpr q1)]
    cases hc2 : zF11 n a1 M with
    | none => rw [hc2] at h; cases h
    | some w =>
      obtain ⟨v11, M12⟩ := w
      rw [hc2] at h
      dsimp only at h
      obtain ⟨V11, NM12, ehc2, hv11, gM12⟩ := zF11_r n ha1 gM hc2
      rw [ehc2]
      dsimp only
      by_cases q3 : v11 = 0 ∨ v11 = 1
      · rw [if_pos q3] at h
        rw [if_pos ((or_congr (rp_eq hv11 (show rp 0 0 from rfl)) (rp_eq hv11 (show rp 1 1 from rfl))).mpr q3)]
        obtain ⟨rfl, rfl⟩ := Prod.mk.inj (Option.some.inj h)
        exact ⟨_, _, rfl, hv11, gM12⟩
      · rw [if_neg q3] at h
        rw [if_neg (fun z => q3 ((or_congr (rp_eq hv11 (show rp 0 0 from rfl)) (rp_eq hv11 (show rp 1 1 from rfl))).mp z))]
        cases h
  · rw [if_neg q1] at h
    rw [if_neg (fun z => q1 ((rp_eq ha0 (show rp 1247 1247 from rfl)).mp z))]
    by_cases q4 : a0 = 1560
    · rw [if_pos q4] at h
      rw [if_pos ((rp_eq ha0 (show rp 1560 1560 from rfl)).mpr q4)]
      cases hc5 : zF14 n a1 M with
      | none => rw [hc5] at h; cases h
      | some w =>
        obtain ⟨v15, M16⟩ := w
        rw [hc5] at h
        dsimp only at h
        obtain ⟨V15, NM16, ehc5, hv15, gM16⟩ := zF14_r n ha1 gM hc5
        rw [ehc5]
        dsimp only
        by_cases q6 : v15 = 0
        · rw [if_pos q6] at h
          rw [if_pos ((rp_eq hv15 (show rp 0 0 from rfl)).mpr q6)]
          exact zJ152_58_r n (show rp 1 1 from rfl) gM16 h
        · rw [if_neg q6] at h
          rw [if_neg (fun z => q6 ((rp_eq hv15 (show rp 0 0 from rfl)).mp z))]
          exact zJ152_58_r n (show rp 0 0 from rfl) gM16 h
    · rw [if_neg q4] at h
      rw [if_neg (fun z => q4 ((rp_eq ha0 (show rp 1560 1560 from rfl)).mp z))]
      by_cases q7 : a0 = 11786
      · rw [if_pos q7] at h
        rw [if_pos ((rp_eq ha0 (show rp 11786 11786 from rfl)).mpr q7)]
        cases hc8 : zF12 n a1 M with
        | none => rw [hc8] at h; cases h
        | some w =>
          obtain ⟨v20, M21⟩ := w
          rw [hc8] at h
          dsimp only at h
          obtain ⟨V20, NM21, ehc8, hv20, gM21⟩ := zF12_r n ha1 gM hc8
          rw [ehc8]
          dsimp only
          by_cases q9 : v20 = 0 ∨ v20 = 1
          · rw [if_pos q9] at h
            rw [if_pos ((or_congr (rp_eq hv20 (show rp 0 0 from rfl)) (rp_eq hv20 (show rp 1 1 from rfl))).mpr q9)]
            obtain ⟨rfl, rfl⟩ := Prod.mk.inj (Option.some.inj h)
            exact ⟨_, _, rfl, hv20, gM21⟩
          · rw [if_neg q9] at h
            rw [if_neg (fun z => q9 ((or_congr (rp_eq hv20 (show rp 0 0 from rfl)) (rp_eq hv20 (show rp 1 1 from rfl))).mp z))]
            cases h
      · rw [if_neg q7] at h
        rw [if_neg (fun z => q7 ((rp_eq ha0 (show rp 11786 11786 from rfl)).mp z))]
        cases hc10 : zF11 n a1 M with
        | none => rw [hc10] at h; cases h
        | some w =>
          obtain ⟨v1, M2⟩ := w
          rw [hc10] at h
          dsimp only at h
          obtain ⟨V1, NM2, ehc10, hv1, gM2⟩ := zF11_r n ha1 gM hc10
          rw [ehc10]
          dsimp only
          by_cases q11 : v1 = 0
          · rw [if_pos q11] at h
            rw [if_pos ((rp_eq hv1 (show rp 0 0 from rfl)).mpr q11)]
            cases hc12 : zF12 n a1 M2 with
            | none => rw [hc12] at h; cases h
            | some w =>
              obtain ⟨v5, M6⟩ := w
              rw [hc12] at h
              dsimp only at h
              obtain ⟨V5, NM6, ehc12, hv5, gM6⟩ := zF12_r n ha1 gM2 hc12
              rw [ehc12]
              dsimp only
              by_cases q13 : v5 = 0
              · rw [if_pos q13] at h
                rw [if_pos ((rp_eq hv5 (show rp 0 0 from rfl)).mpr q13)]
                exact zJ152_73_r n ha1 gM6 h
              · rw [if_neg q13] at h
                rw [if_neg (fun z => q13 ((rp_eq hv5 (show rp 0 0 from rfl)).mp z))]
                exact zJ152_79_r n gM6 h
          · rw [if_neg q11] at h
            rw [if_neg (fun z => q11 ((rp_eq hv1 (show rp 0 0 from rfl)).mp z))]
            exact zJ152_79_r n gM2 h
def zJ151_137 (n : Nat) (s0 : Int) (M : ZM) : Option (Int × ZM) :=
  some (s0, M)
set_option maxRecDepth 100000 in
set_option maxHeartbeats 4000000 in
theorem zJ151_137_r (n : Nat) {S0_ : Int32} {s0 : Int} (hs0 : rp S0_ s0) {M_ : Mem} {M : ZM} (gM : rm M_ M) {r : Int} {m' : ZM} (h : zJ151_137 n s0 M = some (r, m')) : sI (J151_137 n S0_ M_) r m' := by
  unfold zJ151_137 at h
  unfold J151_137
  obtain ⟨rfl, rfl⟩ := Prod.mk.inj (Option.some.inj h)
  exact ⟨_, _, rfl, hs0, gM⟩
def zJ151_129 (n : Nat) (M : ZM) : Option (Int × ZM) :=
  zJ151_137 n (-2002) M
set_option maxRecDepth 100000 in
set_option maxHeartbeats 4000000 in
theorem zJ151_129_r (n : Nat) {M_ : Mem} {M : ZM} (gM : rm M_ M) {r : Int} {m' : ZM} (h : zJ151_129 n M = some (r, m')) : sI (J151_129 n M_) r m' := by
  unfold zJ151_129 at h
  unfold J151_129
  exact zJ151_137_r n (show rp (-2002) (-2002) from rfl) gM h
def zJ151_135 (n : Nat) (x4 : Int) (M : ZM) : Option (Int × ZM) :=
  zJ151_137 n x4 M
set_option maxRecDepth 100000 in
set_option maxHeartbeats 4000000 in
theorem zJ151_135_r (n : Nat) {X4_ : Int32} {x4 : Int} (hx4 : rp X4_ x4) {M_ : Mem} {M : ZM} (gM : rm M_ M) {r : Int} {m' : ZM} (h : zJ151_135 n x4 M = some (r, m')) : sI (J151_135 n X4_ M_) r m' := by
  unfold zJ151_135 at h
  unfold J151_135
  exact zJ151_137_r n hx4 gM h
def zJ151_109 (n : Nat) (zrec13 : Int → Int → Int → Int → Int → ZM → Option (Int × ZM)) (x1 : Int) (x2 : Int) (x3 : Int) (x4 : Int) (x5 : Int) (M : ZM) : Option (Int × ZM) :=
  if rg (x5 + 1) then (zrec13 x1 x2 x3 x4 (x5 + 1) M) else none
set_option maxRecDepth 100000 in
set_option maxHeartbeats 4000000 in
theorem zJ151_109_r (n : Nat) (rec13 : Int32 → Int32 → Int32 → Int32 → Int32 → Mem → Option (Int32 × Mem)) (zrec13 : Int → Int → Int → Int → Int → ZM → Option (Int × ZM)) (hrec13 : ∀ {Y1 : Int32} {y1 : Int} (_ : rp Y1 y1) {Y2 : Int32} {y2 : Int} (_ : rp Y2 y2) {Y3 : Int32} {y3 : Int} (_ : rp Y3 y3) {Y4 : Int32} {y4 : Int} (_ : rp Y4 y4) {Y5 : Int32} {y5 : Int} (_ : rp Y5 y5) {M : Mem} {m : ZM} (_ : rm M m) {r : Int} {m' : ZM} (_ : zrec13 y1 y2 y3 y4 y5 m = some (r, m')), sI (rec13 Y1 Y2 Y3 Y4 Y5 M) r m') {X1_ : Int32} {x1 : Int} (hx1 : rp X1_ x1) {X2_ : Int32} {x2 : Int} (hx2 : rp X2_ x2) {X3_ : Int32} {x3 : Int} (hx3 : rp X3_ x3) {X4_ : Int32} {x4 : Int} (hx4 : rp X4_ x4) {X5_ : Int32} {x5 : Int} (hx5 : rp X5_ x5) {M_ : Mem} {M : ZM} (gM : rm M_ M) {r : Int} {m' : ZM} (h : zJ151_109 n zrec13 x1 x2 x3 x4 x5 M = some (r, m')) : sI (J151_109 n rec13 X1_ X2_ X3_ X4_ X5_ M_) r m' := by
  unfold zJ151_109 at h
  unfold J151_109
  by_cases w1 : rg (x5 + 1)
  · rw [if_pos w1] at h
    exact hrec13 hx1 hx2 hx3 hx4 (rp_add (rp_iz hx5) (rp_iz (show rp 1 1 from rfl)) w1) gM h
  · rw [if_neg w1] at h
    cases h
def zJ151_100 (n : Nat) (zrec13 : Int → Int → Int → Int → Int → ZM → Option (Int × ZM)) (x1 : Int) (x2 : Int) (x3 : Int) (x5 : Int) (x6 : Int) (M : ZM) : Option (Int × ZM) :=
  if rg (x2 + x6) then (zJ151_109 n zrec13 x1 (x2 + x6) x3 x5 x5 M) else none
set_option maxRecDepth 100000 in
set_option maxHeartbeats 4000000 in
theorem zJ151_100_r (n : Nat) (rec13 : Int32 → Int32 → Int32 → Int32 → Int32 → Mem → Option (Int32 × Mem)) (zrec13 : Int → Int → Int → Int → Int → ZM → Option (Int × ZM)) (hrec13 : ∀ {Y1 : Int32} {y1 : Int} (_ : rp Y1 y1) {Y2 : Int32} {y2 : Int} (_ : rp Y2 y2) {Y3 : Int32} {y3 : Int} (_ : rp Y3 y3) {Y4 : Int32} {y4 : Int} (_ : rp Y4 y4) {Y5 : Int32} {y5 : Int} (_ : rp Y5 y5) {M : Mem} {m : ZM} (_ : rm M m) {r : Int} {m' : ZM} (_ : zrec13 y1 y2 y3 y4 y5 m = some (r, m')), sI (rec13 Y1 Y2 Y3 Y4 Y5 M) r m') {X1_ : Int32} {x1 : Int} (hx1 : rp X1_ x1) {X2_ : Int32} {x2 : Int} (hx2 : rp X2_ x2) {X3_ : Int32} {x3 : Int} (hx3 : rp X3_ x3) {X5_ : Int32} {x5 : Int} (hx5 : rp X5_ x5) {X6_ : Int32} {x6 : Int} (hx6 : rp X6_ x6) {M_ : Mem} {M : ZM} (gM : rm M_ M) {r : Int} {m' : ZM} (h : zJ151_100 n zrec13 x1 x2 x3 x5 x6 M = some (r, m')) : sI (J151_100 n rec13 X1_ X2_ X3_ X5_ X6_ M_) r m' := by
  unfold zJ151_100 at h
  unfold J151_100
  by_cases w1 : rg (x2 + x6)
  · rw [if_pos w1] at h
    exact zJ151_109_r n _ _ hrec13 hx1 (rp_add (rp_iz hx2) (rp_iz hx6) w1) hx3 hx5 hx5 gM h
  · rw [if_neg w1] at h
    cases h
def zJ151_82 (n : Nat) (zrec13 : Int → Int → Int → Int → Int → ZM → Option (Int × ZM)) (x1 : Int) (x2 : Int) (x3 : Int) (x4 : Int) (x5 : Int) (x6 : Int) (M : ZM) : Option (Int × ZM) :=
  match M.2.1 16 3 with | some p20 => (if isD p20 then (if rg (x5 + 3) then (match zF109 n p20 (x5 + 3) M with | some (v23, M24) => (match zF152 n v23 x1 M24 with | some (v26, M27) => (if v26 = 0 then (zJ151_109 n zrec13 x1 x2 x3 x4 x5 M27) else (zJ151_100 n zrec13 x1 x2 x3 x5 x6 M27)) | none => none) | none => none) else none) else (none)) | none => (none)
set_option maxRecDepth 100000 in
set_option maxHeartbeats 4000000 in
theorem zJ151_82_r (n : Nat) (rec13 : Int32 → Int32 → Int32 → Int32 → Int32 → Mem → Option (Int32 × Mem)) (zrec13 : Int → Int → Int → Int → Int → ZM → Option (Int × ZM)) (hrec13 : ∀ {Y1 : Int32} {y1 : Int} (_ : rp Y1 y1) {Y2 : Int32} {y2 : Int} (_ : rp Y2 y2) {Y3 : Int32} {y3 : Int} (_ : rp Y3 y3) {Y4 : Int32} {y4 : Int} (_ : rp Y4 y4) {Y5 : Int32} {y5 : Int} (_ : rp Y5 y5) {M : Mem} {m : ZM} (_ : rm M m) {r : Int} {m' : ZM} (_ : zrec13 y1 y2 y3 y4 y5 m = some (r, m')), sI (rec13 Y1 Y2 Y3 Y4 Y5 M) r m') {X1_ : Int32} {x1 : Int} (hx1 : rp X1_ x1) {X2_ : Int32} {x2 : Int} (hx2 : rp X2_ x2) {X3_ : Int32} {x3 : Int} (hx3 : rp X3_ x3) {X4_ : Int32} {x4 : Int} (hx4 : rp X4_ x4) {X5_ : Int32} {x5 : Int} (hx5 : rp X5_ x5) {X6_ : Int32} {x6 : Int} (hx6 : rp X6_ x6) {M_ : Mem} {M : ZM} (gM : rm M_ M) {r : Int} {m' : ZM} (h : zJ151_82 n zrec13 x1 x2 x3 x4 x5 x6 M = some (r, m')) : sI (J151_82 n rec13 X1_ X2_ X3_ X4_ X5_ X6_ M_) r m' := by
  unfold zJ151_82 at h
  unfold J151_82
  rw [rm_rf gM 16 3]
  cases hq1 : M.2.1 16 3 with
  | none =>
    rw [hq1] at h
    dsimp only at h ⊢
    cases h
  | some p20 =>
    rw [hq1] at h
    dsimp only at h ⊢
    by_cases q2 : isD p20
    · rw [if_pos q2] at h
      rw [if_pos (Iff.rfl.mpr q2)]
      by_cases w3 : rg (x5 + 3)
      · rw [if_pos w3] at h
        cases hc4 : zF109 n p20 (x5 + 3) M with
        | none => rw [hc4] at h; cases h
        | some w =>
          obtain ⟨v23, M24⟩ := w
          rw [hc4] at h
          dsimp only at h
          obtain ⟨V23, NM24, ehc4, hv23, gM24⟩ := zF109_r n p20 (rp_add (rp_iz hx5) (rp_iz (show rp 3 3 from rfl)) w3) gM hc4
          rw [ehc4]
          dsimp only
          cases hc5 : zF152 n v23 x1 M24 with
          | none => rw [hc5] at h; cases h
          | some w =>
            obtain ⟨v26, M27⟩ := w
            rw [hc5] at h
            dsimp only at h
            obtain ⟨V26, NM27, ehc5, hv26, gM27⟩ := zF152_r n hv23 hx1 gM24 hc5
            rw [ehc5]
            dsimp only
            by_cases q6 : v26 = 0
            · rw [if_pos q6] at h
              rw [if_pos ((rp_eq hv26 (show rp 0 0 from rfl)).mpr q6)]
              exact zJ151_109_r n _ _ hrec13 hx1 hx2 hx3 hx4 hx5 gM27 h
            · rw [if_neg q6] at h
              rw [if_neg (fun z => q6 ((rp_eq hv26 (show rp 0 0 from rfl)).mp z))]
              exact zJ151_100_r n _ _ hrec13 hx1 hx2 hx3 hx5 hx6 gM27 h
      · rw [if_neg w3] at h
        cases h
    · rw [if_neg q2] at h
      rw [if_neg (fun z => q2 (Iff.rfl.mp z))]
      cases h
def zJ151_65 (n : Nat) (zrec13 : Int → Int → Int → Int → Int → ZM → Option (Int × ZM)) (x1 : Int) (x2 : Int) (x3 : Int) (x4 : Int) (x5 : Int) (x6 : Int) (M : ZM) : Option (Int × ZM) :=
  if x6 ≤ 0 then (zJ151_109 n zrec13 x1 x2 x3 x4 x5 M) else (match M.2.1 16 3 with | some p13 => (if isD p13 then (match zF115 n p13 x5 M with | some (v16, M17) => (if v16 = 0 then (zJ151_109 n zrec13 x1 x2 x3 x4 x5 M17) else (zJ151_82 n zrec13 x1 x2 x3 x4 x5 x6 M17)) | none => none) else (none)) | none => (none))
set_option maxRecDepth 100000 in
set_option maxHeartbeats 4000000 in
theorem zJ151_65_r (n : Nat) (rec13 : Int32 → Int32 → Int32 → Int32 → Int32 → Mem → Option (Int32 × Mem)) (zrec13 : Int → Int → Int → Int → Int → ZM → Option (Int × ZM)) (hrec13 : ∀ {Y1 : Int32} {y1 : Int} (_ : rp Y1 y1) {Y2 : Int32} {y2 : Int} (_ : rp Y2 y2) {Y3 : Int32} {y3 : Int} (_ : rp Y3 y3) {Y4 : Int32} {y4 : Int} (_ : rp Y4 y4) {Y5 : Int32} {y5 : Int} (_ : rp Y5 y5) {M : Mem} {m : ZM} (_ : rm M m) {r : Int} {m' : ZM} (_ : zrec13 y1 y2 y3 y4 y5 m = some (r, m')), sI (rec13 Y1 Y2 Y3 Y4 Y5 M) r m') {X1_ : Int32} {x1 : Int} (hx1 : rp X1_ x1) {X2_ : Int32} {x2 : Int} (hx2 : rp X2_ x2) {X3_ : Int32} {x3 : Int} (hx3 : rp X3_ x3) {X4_ : Int32} {x4 : Int} (hx4 : rp X4_ x4) {X5_ : Int32} {x5 : Int} (hx5 : rp X5_ x5) {X6_ : Int32} {x6 : Int} (hx6 : rp X6_ x6) {M_ : Mem} {M : ZM} (gM : rm M_ M) {r : Int} {m' : ZM} (h : zJ151_65 n zrec13 x1 x2 x3 x4 x5 x6 M = some (r, m')) : sI (J151_65 n rec13 X1_ X2_ X3_ X4_ X5_ X6_ M_) r m' := by
  unfold zJ151_65 at h
  unfold J151_65
  by_cases q1 : x6 ≤ 0
  · rw [if_pos q1] at h
    rw [if_pos ((rp_le hx6 (show rp 0 0 from rfl)).mpr q1)]
    exact zJ151_109_r n _ _ hrec13 hx1 hx2 hx3 hx4 hx5 gM h
  · rw [if_neg q1] at h
    rw [if_neg (fun z => q1 ((rp_le hx6 (show rp 0 0 from rfl)).mp z))]
    rw [rm_rf gM 16 3]
    cases hq2 : M.2.1 16 3 with
    | none =>
      rw [hq2] at h
      dsimp only at h ⊢
      cases h
    | some p13 =>
      rw [hq2] at h
      dsimp only at h ⊢
      by_cases q3 : isD p13
      · rw [if_pos q3] at h
        rw [if_pos (Iff.rfl.mpr q3)]
        cases hc4 : zF115 n p13 x5 M with
        | none => rw [hc4] at h; cases h
        | some w =>
          obtain ⟨v16, M17⟩ := w
          rw [hc4] at h
          dsimp only at h
          obtain ⟨V16, NM17, ehc4, hv16, gM17⟩ := zF115_r n p13 hx5 gM hc4
          rw [ehc4]
          dsimp only
          by_cases q5 : v16 = 0
          · rw [if_pos q5] at h
            rw [if_pos ((rp_eq hv16 (show rp 0 0 from rfl)).mpr q5)]
            exact zJ151_109_r n _ _ hrec13 hx1 hx2 hx3 hx4 hx5 gM17 h
          · rw [if_neg q5] at h
            rw [if_neg (fun z => q5 ((rp_eq hv16 (show rp 0 0 from rfl)).mp z))]
            exact zJ151_82_r n _ _ hrec13 hx1 hx2 hx3 hx4 hx5 hx6 gM17 h
      · rw [if_neg q3] at h
        rw [if_neg (fun z => q3 (Iff.rfl.mp z))]
        cases h
def zJ151_51 (n : Nat) (zrec13 : Int → Int → Int → Int → Int → ZM → Option (Int × ZM)) (x1 : Int) (x2 : Int) (x3 : Int) (x4 : Int) (x5 : Int) (x6 : Int) (M : ZM) : Option (Int × ZM) :=
  if x1 = 36 then (zJ151_65 n zrec13 x1 x2 x3 x4 x5 x6 M) else (if rg (x3 + x6) then (zJ151_109 n zrec13 x1 x2 (x3 + x6) x4 x5 M) else none)
set_option maxRecDepth 100000 in
set_option maxHeartbeats 4000000 in
theorem zJ151_51_r (n : Nat) (rec13 : Int32 → Int32 → Int32 → Int32 → Int32 → Mem → Option (Int32 × Mem)) (zrec13 : Int → Int → Int → Int → Int → ZM → Option (Int × ZM)) (hrec13 : ∀ {Y1 : Int32} {y1 : Int} (_ : rp Y1 y1) {Y2 : Int32} {y2 : Int} (_ : rp Y2 y2) {Y3 : Int32} {y3 : Int} (_ : rp Y3 y3) {Y4 : Int32} {y4 : Int} (_ : rp Y4 y4) {Y5 : Int32} {y5 : Int} (_ : rp Y5 y5) {M : Mem} {m : ZM} (_ : rm M m) {r : Int} {m' : ZM} (_ : zrec13 y1 y2 y3 y4 y5 m = some (r, m')), sI (rec13 Y1 Y2 Y3 Y4 Y5 M) r m') {X1_ : Int32} {x1 : Int} (hx1 : rp X1_ x1) {X2_ : Int32} {x2 : Int} (hx2 : rp X2_ x2) {X3_ : Int32} {x3 : Int} (hx3 : rp X3_ x3) {X4_ : Int32} {x4 : Int} (hx4 : rp X4_ x4) {X5_ : Int32} {x5 : Int} (hx5 : rp X5_ x5) {X6_ : Int32} {x6 : Int} (hx6 : rp X6_ x6) {M_ : Mem} {M : ZM} (gM : rm M_ M) {r : Int} {m' : ZM} (h : zJ151_51 n zrec13 x1 x2 x3 x4 x5 x6 M = some (r, m')) : sI (J151_51 n rec13 X1_ X2_ X3_ X4_ X5_ X6_ M_) r m' := by
  unfold zJ151_51 at h
  unfold J151_51
  by_cases q1 : x1 = 36
  · rw [if_pos q1] at h
    rw [if_pos ((rp_eq hx1 (show rp 36 36 from rfl)).mpr q1)]
    exact zJ151_65_r n _ _ hrec13 hx1 hx2 hx3 hx4 hx5 hx6 gM h
  · rw [if_neg q1] at h
    rw [if_neg (fun z => q1 ((rp_eq hx1 (show rp 36 36 from rfl)).mp z))]
    by_cases w2 : rg (x3 + x6)
    · rw [if_pos w2] at h
      exact zJ151_109_r n _ _ hrec13 hx1 hx2 (rp_add (rp_iz hx3) (rp_iz hx6) w2) hx4 hx5 gM h
    · rw [if_neg w2] at h
      cases h
def zJ151_33 (n : Nat) (zrec13 : Int → Int → Int → Int → Int → ZM → Option (Int × ZM)) (x1 : Int) (x2 : Int) (x3 : Int) (x4 : Int) (x5 : Int) (x6 : Int) (M : ZM) : Option (Int × ZM) :=
  if x6 ≤ 0 then (zJ151_65 n zrec13 x1 x2 x3 x4 x5 x6 M) else (match M.2.1 16 3 with | some p30 => (if isD p30 then (match zF109 n p30 x5 M with | some (v33, M34) => (if v33 = x1 then (zJ151_51 n zrec13 x1 x2 x3 x4 x5 x6 M34) else (zJ151_65 n zrec13 x1 x2 x3 x4 x5 x6 M34)) | none => none) else (none)) | none => (none))
set_option maxRecDepth 100000 in
set_option maxHeartbeats 4000000 in
theorem zJ151_33_r (n : Nat) (rec13 : Int32 → Int32 → Int32 → Int32 → Int32 → Mem → Option (Int32 × Mem)) (zrec13 : Int → Int → Int → Int → Int → ZM → Option (Int × ZM)) (hrec13 : ∀ {Y1 : Int32} {y1 : Int} (_ : rp Y1 y1) {Y2 : Int32} {y2 : Int} (_ : rp Y2 y2) {Y3 : Int32} {y3 : Int} (_ : rp Y3 y3) {Y4 : Int32} {y4 : Int} (_ : rp Y4 y4) {Y5 : Int32} {y5 : Int} (_ : rp Y5 y5) {M : Mem} {m : ZM} (_ : rm M m) {r : Int} {m' : ZM} (_ : zrec13 y1 y2 y3 y4 y5 m = some (r, m')), sI (rec13 Y1 Y2 Y3 Y4 Y5 M) r m') {X1_ : Int32} {x1 : Int} (hx1 : rp X1_ x1) {X2_ : Int32} {x2 : Int} (hx2 : rp X2_ x2) {X3_ : Int32} {x3 : Int} (hx3 : rp X3_ x3) {X4_ : Int32} {x4 : Int} (hx4 : rp X4_ x4) {X5_ : Int32} {x5 : Int} (hx5 : rp X5_ x5) {X6_ : Int32} {x6 : Int} (hx6 : rp X6_ x6) {M_ : Mem} {M : ZM} (gM : rm M_ M) {r : Int} {m' : ZM} (h : zJ151_33 n zrec13 x1 x2 x3 x4 x5 x6 M = some (r, m')) : sI (J151_33 n rec13 X1_ X2_ X3_ X4_ X5_ X6_ M_) r m' := by
  unfold zJ151_33 at h
  unfold J151_33
  by_cases q1 : x6 ≤ 0
  · rw [if_pos q1] at h
    rw [if_pos ((rp_le hx6 (show rp 0 0 from rfl)).mpr q1)]
    exact zJ151_65_r n _ _ hrec13 hx1 hx2 hx3 hx4 hx5 hx6 gM h
  · rw [if_neg q1] at h
    rw [if_neg (fun z => q1 ((rp_le hx6 (show rp 0 0 from rfl)).mp z))]
    rw [rm_rf gM 16 3]
    cases hq2 : M.2.1 16 3 with
    | none =>
      rw [hq2] at h
      dsimp only at h ⊢
      cases h
    | some p30 =>
      rw [hq2] at h
      dsimp only at h ⊢
      by_cases q3 : isD p30
      · rw [if_pos q3] at h
        rw [if_pos (Iff.rfl.mpr q3)]
        cases hc4 : zF109 n p30 x5 M with
        | none => rw [hc4] at h; cases h
        | some w =>
          obtain ⟨v33, M34⟩ := w
          rw [hc4] at h
          dsimp only at h
          obtain ⟨V33, NM34, ehc4, hv33, gM34⟩ := zF109_r n p30 hx5 gM hc4
          rw [ehc4]
          dsimp only
          by_cases q5 : v33 = x1
          · rw [if_pos q5] at h
            rw [if_pos ((rp_eq hv33 hx1).mpr q5)]
            exact zJ151_51_r n _ _ hrec13 hx1 hx2 hx3 hx4 hx5 hx6 gM34 h
          · rw [if_neg q5] at h
            rw [if_neg (fun z => q5 ((rp_eq hv33 hx1).mp z))]
            exact zJ151_65_r n _ _ hrec13 hx1 hx2 hx3 hx4 hx5 hx6 gM34 h
      · rw [if_neg q3] at h
        rw [if_neg (fun z => q3 (Iff.rfl.mp z))]
        cases h
def zL151_13 (n : Nat) : Nat → Int → Int → Int → Int → Int → ZM → Option (Int × ZM)
  | 0, _, _, _, _, _, _ => none
  | k + 1, x1, x2, x3, x4, x5, M => if (M.1 16 5) ≤ x5 then (if 1 < x2 then (zJ151_129 n M) else (if x2 = 1 then (if x3 ≤ 0 then (zJ151_135 n x4 M) else (zJ151_129 n M)) else (zJ151_135 n x4 M))) else (match M.2.1 16 1 with | some p5 => (if isT p5 then (match zF188 n p5 x5 M with | some (v8, M9) => (zJ151_33 n (zL151_13 n k) x1 x2 x3 x4 x5 v8 M9) | none => none) else (none)) | none => (none))
set_option maxRecDepth 100000 in
set_option maxHeartbeats 4000000 in
theorem zL151_13_r (n : Nat) : ∀ (k : Nat) {X1_ : Int32} {x1 : Int} (hx1 : rp X1_ x1) {X2_ : Int32} {x2 : Int} (hx2 : rp X2_ x2) {X3_ : Int32} {x3 : Int} (hx3 : rp X3_ x3) {X4_ : Int32} {x4 : Int} (hx4 : rp X4_ x4) {X5_ : Int32} {x5 : Int} (hx5 : rp X5_ x5) {M_ : Mem} {M : ZM} (gM : rm M_ M) {r : Int} {m' : ZM} (_ : zL151_13 n k x1 x2 x3 x4 x5 M = some (r, m')), sI (L151_13 n k X1_ X2_ X3_ X4_ X5_ M_) r m' := by
  intro k
  induction k with
  | zero => intro X1_ x1 hx1 X2_ x2 hx2 X3_ x3 hx3 X4_ x4 hx4 X5_ x5 hx5 M_ M gM r m' h; cases h
  | succ k ih =>
    intro X1_ x1 hx1 X2_ x2 hx2 X3_ x3 hx3 X4_ x4 hx4 X5_ x5 hx5 M_ M gM r m' h
    rw [zL151_13] at h
    rw [L151_13]
    by_cases q1 : (M.1 16 5) ≤ x5
    · rw [if_pos q1] at h
      rw [if_pos ((rp_le (rm_rd gM 16 5) hx5).mpr q1)]
      by_cases q2 : 1 < x2
      · rw [if_pos q2] at h
        rw [if_pos ((rp_lt (show rp 1 1 from rfl) hx2).mpr q2)]
        exact zJ151_129_r n gM h
      · rw [if_neg q2] at h
        rw [if_neg (fun z => q2 ((rp_lt (show rp 1 1 from rfl) hx2).mp z))]
        by_cases q3 : x2 = 1
        · rw [if_pos q3] at h
          rw [if_pos ((rp_eq hx2 (show rp 1 1 from rfl)).mpr q3)]
          by_cases q4 : x3 ≤ 0
          · rw [if_pos q4] at h
            rw [if_pos ((rp_le hx3 (show rp 0 0 from rfl)).mpr q4)]
            exact zJ151_135_r n hx4 gM h
          · rw [if_neg q4] at h
            rw [if_neg (fun z => q4 ((rp_le hx3 (show rp 0 0 from rfl)).mp z))]
            exact zJ151_129_r n gM h
        · rw [if_neg q3] at h
          rw [if_neg (fun z => q3 ((rp_eq hx2 (show rp 1 1 from rfl)).mp z))]
          exact zJ151_135_r n hx4 gM h
    · rw [if_neg q1] at h
      rw [if_neg (fun z => q1 ((rp_le (rm_rd gM 16 5) hx5).mp z))]
      rw [rm_rf gM 16 1]
      cases hq5 : M.2.1 16 1 with
      | none =>
        rw [hq5] at h
        dsimp only at h ⊢
        cases h
      | some p5 =>
        rw [hq5] at h
        dsimp only at h ⊢
        by_cases q6 : isT p5
        · rw [if_pos q6] at h
          rw [if_pos (Iff.rfl.mpr q6)]
          cases hc7 : zF188 n p5 x5 M with
          | none => rw [hc7] at h; cases h
          | some w =>
            obtain ⟨v8, M9⟩ := w
            rw [hc7] at h
            dsimp only at h
            obtain ⟨V8, NM9, ehc7, hv8, gM9⟩ := zF188_r n p5 hx5 gM hc7
            rw [ehc7]
            dsimp only
            exact zJ151_33_r n _ _ ih hx1 hx2 hx3 hx4 hx5 hv8 gM9 h
        · rw [if_neg q6] at h
          rw [if_neg (fun z => q6 (Iff.rfl.mp z))]
          cases h
/-- ArmExpander$Matcher.findFitting -/
def zF151 (n : Nat) (a0 : Int) (M : ZM) : Option (Int × ZM) :=
  zL151_13 n n a0 0 0 (-1) (M.1 16 4) M
set_option maxRecDepth 100000 in
set_option maxHeartbeats 4000000 in
theorem zF151_r (n : Nat) {A0_ : Int32} {a0 : Int} (ha0 : rp A0_ a0) {M_ : Mem} {M : ZM} (gM : rm M_ M) {r : Int} {m' : ZM} (h : zF151 n a0 M = some (r, m')) : sI (F151 n A0_ M_) r m' := by
  unfold zF151 at h
  unfold F151
  exact zL151_13_r n n ha0 (show rp 0 0 from rfl) (show rp 0 0 from rfl) (show rp (-1) (-1) from rfl) (rm_rd gM 16 4) gM h
def zJ143_23 (n : Nat) (x3 : Int) (M : ZM) : Option (Option Nat × ZM) :=
  if x3 < 0 ∨ 6 ≤ x3 then (none) else (match m_pl (Int.toNat x3) with | some p11 => (if isD p11 then (some (some p11, M)) else (none)) | none => (none))
set_option maxRecDepth 100000 in
set_option maxHeartbeats 4000000 in
theorem zJ143_23_r (n : Nat) {X3_ : Int32} {x3 : Int} (hx3 : rp X3_ x3) {M_ : Mem} {M : ZM} (gM : rm M_ M) {r : Option Nat} {m' : ZM} (h : zJ143_23 n x3 M = some (r, m')) : sO (J143_23 n X3_ M_) r m' := by
  unfold zJ143_23 at h
  unfold J143_23
  by_cases q1 : x3 < 0 ∨ 6 ≤ x3
  · rw [if_pos q1] at h
    rw [if_pos ((rp_ob hx3 6).mpr q1)]
    cases h
  · rw [if_neg q1] at h
    rw [if_neg (fun z => q1 ((rp_ob hx3 6).mp z))]
    rw [rm_pl hx3]
    cases hq2 : m_pl (Int.toNat x3) with
    | none =>
      rw [hq2] at h
      dsimp only at h ⊢
      cases h
    | some p11 =>
      rw [hq2] at h
      dsimp only at h ⊢
      by_cases q3 : isD p11
      · rw [if_pos q3] at h
        rw [if_pos (Iff.rfl.mpr q3)]
        obtain ⟨rfl, rfl⟩ := Prod.mk.inj (Option.some.inj h)
        exact ⟨_, rfl, gM⟩
      · rw [if_neg q3] at h
        rw [if_neg (fun z => q3 (Iff.rfl.mp z))]
        cases h
def zJ143_27 (n : Nat) (zrec9 : Int → Int → ZM → Option (Option Nat × ZM)) (x2 : Int) (x3 : Int) (M : ZM) : Option (Option Nat × ZM) :=
  if rg (x3 + (-1)) then (zrec9 x2 (x3 + (-1)) M) else none
set_option maxRecDepth 100000 in
set_option maxHeartbeats 4000000 in
theorem zJ143_27_r (n : Nat) (rec9 : Int32 → Int32 → Mem → Option (Option Nat × Mem)) (zrec9 : Int → Int → ZM → Option (Option Nat × ZM)) (hrec9 : ∀ {Y1 : Int32} {y1 : Int} (_ : rp Y1 y1) {Y2 : Int32} {y2 : Int} (_ : rp Y2 y2) {M : Mem} {m : ZM} (_ : rm M m) {r : Option Nat} {m' : ZM} (_ : zrec9 y1 y2 m = some (r, m')), sO (rec9 Y1 Y2 M) r m') {X2_ : Int32} {x2 : Int} (hx2 : rp X2_ x2) {X3_ : Int32} {x3 : Int} (hx3 : rp X3_ x3) {M_ : Mem} {M : ZM} (gM : rm M_ M) {r : Option Nat} {m' : ZM} (h : zJ143_27 n zrec9 x2 x3 M = some (r, m')) : sO (J143_27 n rec9 X2_ X3_ M_) r m' := by
  unfold zJ143_27 at h
  unfold J143_27
  by_cases w1 : rg (x3 + (-1))
  · rw [if_pos w1] at h
    exact hrec9 hx2 (rp_add (rp_iz hx3) (rp_iz (show rp (-1) (-1) from rfl)) w1) gM h
  · rw [if_neg w1] at h
    cases h
def zL143_9 (n : Nat) : Nat → Int → Int → ZM → Option (Option Nat × ZM)
  | 0, _, _, _ => none
  | k + 1, x2, x3, M => if x3 < 0 then (some (none, M)) else (if x3 < 0 ∨ 6 ≤ x3 then (none) else (match m_pl (Int.toNat x3) with | some p3 => (if isD p3 then (match zF107 n p3 M with | some (v6, M7) => (if v6 = x2 then (zJ143_23 n x3 M7) else (zJ143_27 n (zL143_9 n k) x2 x3 M7)) | none => none) else (none)) | none => (none)))
set_option maxRecDepth 100000 in
set_option maxHeartbeats 4000000 in
theorem zL143_9_r (n : Nat) : ∀ (k : Nat) {X2_ : Int32} {x2 : Int} (hx2 : rp X2_ x2) {X3_ : Int32} {x3 : Int} (hx3 : rp X3_ x3) {M_ : Mem} {M : ZM} (gM : rm M_ M) {r : Option Nat} {m' : ZM} (_ : zL143_9 n k x2 x3 M = some (r, m')), sO (L143_9 n k X2_ X3_ M_) r m' := by
  intro k
  induction k with
  | zero => intro X2_ x2 hx2 X3_ x3 hx3 M_ M gM r m' h; cases h
  | succ k ih =>
    intro X2_ x2 hx2 X3_ x3 hx3 M_ M gM r m' h
    rw [zL143_9] at h
    rw [L143_9]
    by_cases q1 : x3 < 0
    · rw [if_pos q1] at h
      rw [if_pos ((rp_lt hx3 (show rp 0 0 from rfl)).mpr q1)]
      obtain ⟨rfl, rfl⟩ := Prod.mk.inj (Option.some.inj h)
      exact ⟨_, rfl, gM⟩
    · rw [if_neg q1] at h
      rw [if_neg (fun z => q1 ((rp_lt hx3 (show rp 0 0 from rfl)).mp z))]
      by_cases q2 : x3 < 0 ∨ 6 ≤ x3
      · rw [if_pos q2] at h
        rw [if_pos ((rp_ob hx3 6).mpr q2)]
        cases h
      · rw [if_neg q2] at h
        rw [if_neg (fun z => q2 ((rp_ob hx3 6).mp z))]
        rw [rm_pl hx3]
        cases hq3 : m_pl (Int.toNat x3) with
        | none =>
          rw [hq3] at h
          dsimp only at h ⊢
          cases h
        | some p3 =>
          rw [hq3] at h
          dsimp only at h ⊢
          by_cases q4 : isD p3
          · rw [if_pos q4] at h
            rw [if_pos (Iff.rfl.mpr q4)]
            cases hc5 : zF107 n p3 M with
            | none => rw [hc5] at h; cases h
            | some w =>
              obtain ⟨v6, M7⟩ := w
              rw [hc5] at h
              dsimp only at h
              obtain ⟨V6, NM7, ehc5, hv6, gM7⟩ := zF107_r n p3 gM hc5
              rw [ehc5]
              dsimp only
              by_cases q6 : v6 = x2
              · rw [if_pos q6] at h
                rw [if_pos ((rp_eq hv6 hx2).mpr q6)]
                exact zJ143_23_r n hx3 gM7 h
              · rw [if_neg q6] at h
                rw [if_neg (fun z => q6 ((rp_eq hv6 hx2).mp z))]
                exact zJ143_27_r n _ _ ih hx2 hx3 gM7 h
          · rw [if_neg q4] at h
            rw [if_neg (fun z => q4 (Iff.rfl.mp z))]
            cases h
/-- ArmExpander$Expander.latest -/
def zF143 (n : Nat) (a1 : Int) (a2 : Int) (M : ZM) : Option (Option Nat × ZM) :=
  if rg ((if 6 < a1 then 6 else a1) - 1) then (zL143_9 n n a2 ((if 6 < a1 then 6 else a1) - 1) M) else none
set_option maxRecDepth 100000 in
set_option maxHeartbeats 4000000 in
theorem zF143_r (n : Nat) {A1_ : Int32} {a1 : Int} (ha1 : rp A1_ a1) {A2_ : Int32} {a2 : Int} (ha2 : rp A2_ a2) {M_ : Mem} {M : ZM} (gM : rm M_ M) {r : Option Nat} {m' : ZM} (h : zF143 n a1 a2 M = some (r, m')) : sO (F143 n A1_ A2_ M_) r m' := by
  unfold zF143 at h
  unfold F143
  by_cases w1 : rg ((if 6 < a1 then 6 else a1) - 1)
  · rw [if_pos w1] at h
    exact zL143_9_r n n ha2 (rp_sub (rp_iz (rp_ite (rp_lt (show rp 6 6 from rfl) ha1) (show rp 6 6 from rfl) ha1)) (rp_iz (show rp 1 1 from rfl)) w1) gM h
  · rw [if_neg w1] at h
    cases h
def zJ201_118 (n : Nat) (s0 : Int) (M : ZM) : Option (Int × ZM) :=
  some (s0, M)
set_option maxRecDepth 100000 in
set_option maxHeartbeats 4000000 in
theorem zJ201_118_r (n : Nat) {S0_ : Int32} {s0 : Int} (hs0 : rp S0_ s0) {M_ : Mem} {M : ZM} (gM : rm M_ M) {r : Int} {m' : ZM} (h : zJ201_118 n s0 M = some (r, m')) : sI (J201_118 n S0_ M_) r m' := by
  unfold zJ201_118 at h
  unfold J201_118
  obtain ⟨rfl, rfl⟩ := Prod.mk.inj (Option.some.inj h)
  exact ⟨_, _, rfl, hs0, gM⟩
def zJ201_117 (n : Nat) (M : ZM) : Option (Int × ZM) :=
  zJ201_118 n (-1) M
set_option maxRecDepth 100000 in
set_option maxHeartbeats 4000000 in
theorem zJ201_117_r (n : Nat) {M_ : Mem} {M : ZM} (gM : rm M_ M) {r : Int} {m' : ZM} (h : zJ201_117 n M = some (r, m')) : sI (J201_117 n M_) r m' := by
  unfold zJ201_117 at h
  unfold J201_117
  exact zJ201_118_r n (show rp (-1) (-1) from rfl) gM h
def zJ201_113 (n : Nat) (x1 : Int) (M : ZM) : Option (Int × ZM) :=
  zJ201_118 n x1 M
set_option maxRecDepth 100000 in
set_option maxHeartbeats 4000000 in
theorem zJ201_113_r (n : Nat) {X1_ : Int32} {x1 : Int} (hx1 : rp X1_ x1) {M_ : Mem} {M : ZM} (gM : rm M_ M) {r : Int} {m' : ZM} (h : zJ201_113 n x1 M = some (r, m')) : sI (J201_113 n X1_ M_) r m' := by
  unfold zJ201_113 at h
  unfold J201_113
  exact zJ201_118_r n hx1 gM h
def zJ201_91 (n : Nat) (x1 : Int) (M : ZM) : Option (Int × ZM) :=
  match zF206 n x1 M with | some (v10, M11) => (if v10 = 0 then (if (((ixv (((((iz x1) : Int32).toUInt32 % 65536)).toInt32)) : Int32).toInt) < 0 then (zJ201_117 n M11) else (zJ201_113 n x1 M11)) else (match zF203 n M11 with | some (v15, M16) => (some (v15, M16)) | none => none)) | none => none
set_option maxRecDepth 100000 in
set_option maxHeartbeats 4000000 in
theorem zJ201_91_r (n : Nat) {X1_ : Int32} {x1 : Int} (hx1 : rp X1_ x1) {M_ : Mem} {M : ZM} (gM : rm M_ M) {r : Int} {m' : ZM} (h : zJ201_91 n x1 M = some (r, m')) : sI (J201_91 n X1_ M_) r m' := by
  unfold zJ201_91 at h
  unfold J201_91
  cases hc1 : zF206 n x1 M with
  | none => rw [hc1] at h; cases h
  | some w =>
    obtain ⟨v10, M11⟩ := w
    rw [hc1] at h
    dsimp only at h
    obtain ⟨V10, NM11, ehc1, hv10, gM11⟩ := zF206_r n hx1 gM hc1
    rw [ehc1]
    dsimp only
    by_cases q2 : v10 = 0
    · rw [if_pos q2] at h
      rw [if_pos ((rp_eq hv10 (show rp 0 0 from rfl)).mpr q2)]
      by_cases q3 : (((ixv (((((iz x1) : Int32).toUInt32 % 65536)).toInt32)) : Int32).toInt) < 0
      · rw [if_pos q3] at h
        rw [if_pos ((rp_lt (show rp (ixv ((((X1_).toUInt32 % 65536)).toInt32)) (((ixv (((((iz x1) : Int32).toUInt32 % 65536)).toInt32)) : Int32).toInt) from congrArg Int32.toInt (by rw [rp_iz hx1])) (show rp 0 0 from rfl)).mpr q3)]
        exact zJ201_117_r n gM11 h
      · rw [if_neg q3] at h
        rw [if_neg (fun z => q3 ((rp_lt (show rp (ixv ((((X1_).toUInt32 % 65536)).toInt32)) (((ixv (((((iz x1) : Int32).toUInt32 % 65536)).toInt32)) : Int32).toInt) from congrArg Int32.toInt (by rw [rp_iz hx1])) (show rp 0 0 from rfl)).mp z))]
        exact zJ201_113_r n hx1 gM11 h
    · rw [if_neg q2] at h
      rw [if_neg (fun z => q2 ((rp_eq hv10 (show rp 0 0 from rfl)).mp z))]
      cases hc4 : zF203 n M11 with
      | none => rw [hc4] at h; cases h
      | some w =>
        obtain ⟨v15, M16⟩ := w
        rw [hc4] at h
        dsimp only at h
        obtain ⟨V15, NM16, ehc4, hv15, gM16⟩ := zF203_r n gM11 hc4
        rw [ehc4]
        dsimp only
        obtain ⟨rfl, rfl⟩ := Prod.mk.inj (Option.some.inj h)
        exact ⟨_, _, rfl, hv15, gM16⟩
def zJ201_86 (n : Nat) (M : ZM) : Option (Int × ZM) :=
  match zF202 n M with | some (v18, M19) => (some (v18, M19)) | none => none
set_option maxRecDepth 100000 in
set_option maxHeartbeats 4000000 in
theorem zJ201_86_r (n : Nat) {M_ : Mem} {M : ZM} (gM : rm M_ M) {r : Int} {m' : ZM} (h : zJ201_86 n M = some (r, m')) : sI (J201_86 n M_) r m' := by
  unfold zJ201_86 at h
  unfold J201_86
  cases hc1 : zF202 n M with
  | none => rw [hc1] at h; cases h
  | some w =>
    obtain ⟨v18, M19⟩ := w
    rw [hc1] at h
    dsimp only at h
    obtain ⟨V18, NM19, ehc1, hv18, gM19⟩ := zF202_r n gM hc1
    rw [ehc1]
    dsimp only
    obtain ⟨rfl, rfl⟩ := Prod.mk.inj (Option.some.inj h)
    exact ⟨_, _, rfl, hv18, gM19⟩
def zJ201_69 (n : Nat) (x1 : Int) (M : ZM) : Option (Int × ZM) :=
  if rg ((M.1 1 2) + 1) then (zlet (z_i M 1 2 ((M.1 1 2) + 1)) (fun M5 => match zF205 n x1 M5 with | some (v6, M7) => (if v6 = 0 then (zJ201_91 n x1 M7) else (zJ201_86 n M7)) | none => none)) else none
set_option maxRecDepth 100000 in
set_option maxHeartbeats 4000000 in
theorem zJ201_69_r (n : Nat) {X1_ : Int32} {x1 : Int} (hx1 : rp X1_ x1) {M_ : Mem} {M : ZM} (gM : rm M_ M) {r : Int} {m' : ZM} (h : zJ201_69 n x1 M = some (r, m')) : sI (J201_69 n X1_ M_) r m' := by
  unfold zJ201_69 at h
  unfold J201_69
  by_cases w1 : rg ((M.1 1 2) + 1)
  · rw [if_pos w1] at h
    have gM5 : rm (m_i M_ 1 2 ((M_.1 1 2) + (1 : Int32))) (z_i M 1 2 ((M.1 1 2) + 1)) := rm_i gM 1 2 (rp_add (rp_iz (rm_rd gM 1 2)) (rp_iz (show rp 1 1 from rfl)) w1)
    rw [mlet]
    rw [zlet] at h
    generalize z_i M 1 2 ((M.1 1 2) + 1) = M5 at h gM5
    generalize m_i M_ 1 2 ((M_.1 1 2) + (1 : Int32)) = NM5 at gM5 ⊢
    cases hc2 : zF205 n x1 M5 with
    | none => rw [hc2] at h; cases h
    | some w =>
      obtain ⟨v6, M7⟩ := w
      rw [hc2] at h
      dsimp only at h
      obtain ⟨V6, NM7, ehc2, hv6, gM7⟩ := zF205_r n hx1 gM5 hc2
      rw [ehc2]
      dsimp only
      by_cases q3 : v6 = 0
      · rw [if_pos q3] at h
        rw [if_pos ((rp_eq hv6 (show rp 0 0 from rfl)).mpr q3)]
        exact zJ201_91_r n hx1 gM7 h
      · rw [if_neg q3] at h
        rw [if_neg (fun z => q3 ((rp_eq hv6 (show rp 0 0 from rfl)).mp z))]
        exact zJ201_86_r n gM7 h
  · rw [if_neg w1] at h
    cases h
def zJ201_38 (n : Nat) (M : ZM) : Option (Int × ZM) :=
  zlet (z_i M 1 3 (M.1 1 2)) (fun M2 => if (M2.1 1 2) < (M2.1 1 1) then (if (M2.1 1 2) < 0 ∨ 120 ≤ (M2.1 1 2) then (none) else (zJ201_69 n (M2.1 2 (Int.toNat (M2.1 1 2))) M2)) else (some (0, M2)))
set_option maxRecDepth 100000 in
set_option maxHeartbeats 4000000 in
theorem zJ201_38_r (n : Nat) {M_ : Mem} {M : ZM} (gM : rm M_ M) {r : Int} {m' : ZM} (h : zJ201_38 n M = some (r, m')) : sI (J201_38 n M_) r m' := by
  unfold zJ201_38 at h
  unfold J201_38
  have gM2 : rm (m_i M_ 1 3 (M_.1 1 2)) (z_i M 1 3 (M.1 1 2)) := rm_i gM 1 3 (rm_rd gM 1 2)
  rw [mlet]
  rw [zlet] at h
  generalize z_i M 1 3 (M.1 1 2) = M2 at h gM2
  generalize m_i M_ 1 3 (M_.1 1 2) = NM2 at gM2 ⊢
  by_cases q1 : (M2.1 1 2) < (M2.1 1 1)
  · rw [if_pos q1] at h
    rw [if_pos ((rp_lt (rm_rd gM2 1 2) (rm_rd gM2 1 1)).mpr q1)]
    by_cases q2 : (M2.1 1 2) < 0 ∨ 120 ≤ (M2.1 1 2)
    · rw [if_pos q2] at h
      rw [if_pos ((rp_ob (rm_rd gM2 1 2) 120).mpr q2)]
      cases h
    · rw [if_neg q2] at h
      rw [if_neg (fun z => q2 ((rp_ob (rm_rd gM2 1 2) 120).mp z))]
      exact zJ201_69_r n (rm_rdx gM2 2 (rm_rd gM2 1 2)) gM2 h
  · rw [if_neg q1] at h
    rw [if_neg (fun z => q1 ((rp_lt (rm_rd gM2 1 2) (rm_rd gM2 1 1)).mp z))]
    obtain ⟨rfl, rfl⟩ := Prod.mk.inj (Option.some.inj h)
    exact ⟨_, _, rfl, (show rp 0 0 from rfl), gM2⟩
def zJ201_25 (n : Nat) (zrec0 : ZM → Option (Int × ZM)) (M : ZM) : Option (Int × ZM) :=
  if rg ((M.1 1 2) + 1) then (zlet (z_i M 1 2 ((M.1 1 2) + 1)) (fun M23 => zrec0 M23)) else none
set_option maxRecDepth 100000 in
set_option maxHeartbeats 4000000 in
theorem zJ201_25_r (n : Nat) (rec0 : Mem → Option (Int32 × Mem)) (zrec0 : ZM → Option (Int × ZM)) (hrec0 : ∀ {M : Mem} {m : ZM} (_ : rm M m) {r : Int} {m' : ZM} (_ : zrec0 m = some (r, m')), sI (rec0 M) r m') {M_ : Mem} {M : ZM} (gM : rm M_ M) {r : Int} {m' : ZM} (h : zJ201_25 n zrec0 M = some (r, m')) : sI (J201_25 n rec0 M_) r m' := by
  unfold zJ201_25 at h
  unfold J201_25
  by_cases w1 : rg ((M.1 1 2) + 1)
  · rw [if_pos w1] at h
    have gM23 : rm (m_i M_ 1 2 ((M_.1 1 2) + (1 : Int32))) (z_i M 1 2 ((M.1 1 2) + 1)) := rm_i gM 1 2 (rp_add (rp_iz (rm_rd gM 1 2)) (rp_iz (show rp 1 1 from rfl)) w1)
    rw [mlet]
    rw [zlet] at h
    generalize z_i M 1 2 ((M.1 1 2) + 1) = M23 at h gM23
    generalize m_i M_ 1 2 ((M_.1 1 2) + (1 : Int32)) = NM23 at gM23 ⊢
    exact hrec0 gM23 h
  · rw [if_neg w1] at h
    cases h
def zL201_0 (n : Nat) : Nat → ZM → Option (Int × ZM)
  | 0, _ => none
  | k + 1, M => if (M.1 1 1) ≤ (M.1 1 2) then (zJ201_38 n M) else (if (M.1 1 2) < 0 ∨ 120 ≤ (M.1 1 2) then (none) else (if (M.1 2 (Int.toNat (M.1 1 2))) = 32 then (zJ201_25 n (zL201_0 n k) M) else (zJ201_38 n M)))
set_option maxRecDepth 100000 in
set_option maxHeartbeats 4000000 in
theorem zL201_0_r (n : Nat) : ∀ (k : Nat) {M_ : Mem} {M : ZM} (gM : rm M_ M) {r : Int} {m' : ZM} (_ : zL201_0 n k M = some (r, m')), sI (L201_0 n k M_) r m' := by
  intro k
  induction k with
  | zero => intro M_ M gM r m' h; cases h
  | succ k ih =>
    intro M_ M gM r m' h
    rw [zL201_0] at h
    rw [L201_0]
    by_cases q1 : (M.1 1 1) ≤ (M.1 1 2)
    · rw [if_pos q1] at h
      rw [if_pos ((rp_le (rm_rd gM 1 1) (rm_rd gM 1 2)).mpr q1)]
      exact zJ201_38_r n gM h
    · rw [if_neg q1] at h
      rw [if_neg (fun z => q1 ((rp_le (rm_rd gM 1 1) (rm_rd gM 1 2)).mp z))]
      by_cases q2 : (M.1 1 2) < 0 ∨ 120 ≤ (M.1 1 2)
      · rw [if_pos q2] at h
        rw [if_pos ((rp_ob (rm_rd gM 1 2) 120).mpr q2)]
        cases h
      · rw [if_neg q2] at h
        rw [if_neg (fun z => q2 ((rp_ob (rm_rd gM 1 2) 120).mp z))]
        by_cases q3 : (M.1 2 (Int.toNat (M.1 1 2))) = 32
        · rw [if_pos q3] at h
          rw [if_pos ((rp_eq (rm_rdx gM 2 (rm_rd gM 1 2)) (show rp 32 32 from rfl)).mpr q3)]
          exact zJ201_25_r n _ _ ih gM h
        · rw [if_neg q3] at h
          rw [if_neg (fun z => q3 ((rp_eq (rm_rdx gM 2 (rm_rd gM 1 2)) (show rp 32 32 from rfl)).mp z))]
          exact zJ201_38_r n gM h
/-- ArmExpander$TypedText.read -/
def zF201 (n : Nat) (M : ZM) : Option (Int × ZM) :=
  zL201_0 n n M
set_option maxRecDepth 100000 in
set_option maxHeartbeats 4000000 in
theorem zF201_r (n : Nat) {M_ : Mem} {M : ZM} (gM : rm M_ M) {r : Int} {m' : ZM} (h : zF201 n M = some (r, m')) : sI (F201 n M_) r m' := by
  unfold zF201 at h
  unfold F201
  exact zL201_0_r n n gM h
def zJ127_94 (n : Nat) (g1 : Nat) (s0 : Int) (M : ZM) : Option (Int × ZM) :=
  some (s0, M)
set_option maxRecDepth 100000 in
set_option maxHeartbeats 4000000 in
theorem zJ127_94_r (n : Nat) (g1 : Nat) {S0_ : Int32} {s0 : Int} (hs0 : rp S0_ s0) {M_ : Mem} {M : ZM} (gM : rm M_ M) {r : Int} {m' : ZM} (h : zJ127_94 n g1 s0 M = some (r, m')) : sI (J127_94 n g1 S0_ M_) r m' := by
  unfold zJ127_94 at h
  unfold J127_94
  obtain ⟨rfl, rfl⟩ := Prod.mk.inj (Option.some.inj h)
  exact ⟨_, _, rfl, hs0, gM⟩
def zJ127_78 (n : Nat) (g1 : Nat) (M : ZM) : Option (Int × ZM) :=
  if (M.1 3 2) = 3 then (zJ127_94 n g1 (-1) M) else (match zF199 n M with | some (v15, M16) => (zJ127_94 n g1 v15 M16) | none => none)
set_option maxRecDepth 100000 in
set_option maxHeartbeats 4000000 in
theorem zJ127_78_r (n : Nat) (g1 : Nat) {M_ : Mem} {M : ZM} (gM : rm M_ M) {r : Int} {m' : ZM} (h : zJ127_78 n g1 M = some (r, m')) : sI (J127_78 n g1 M_) r m' := by
  unfold zJ127_78 at h
  unfold J127_78
  by_cases q1 : (M.1 3 2) = 3
  · rw [if_pos q1] at h
    rw [if_pos ((rp_eq (rm_rd gM 3 2) (show rp 3 3 from rfl)).mpr q1)]
    exact zJ127_94_r n g1 (show rp (-1) (-1) from rfl) gM h
  · rw [if_neg q1] at h
    rw [if_neg (fun z => q1 ((rp_eq (rm_rd gM 3 2) (show rp 3 3 from rfl)).mp z))]
    cases hc2 : zF199 n M with
    | none => rw [hc2] at h; cases h
    | some w =>
      obtain ⟨v15, M16⟩ := w
      rw [hc2] at h
      dsimp only at h
      obtain ⟨V15, NM16, ehc2, hv15, gM16⟩ := zF199_r n gM hc2
      rw [ehc2]
      dsimp only
      exact zJ127_94_r n g1 hv15 gM16 h
def zJ127_67 (n : Nat) (g1 : Nat) (M : ZM) : Option (Int × ZM) :=
  match zF200 n M with | some (v23, M24) => (some (v23, M24)) | none => none
set_option maxRecDepth 100000 in
set_option maxHeartbeats 4000000 in
theorem zJ127_67_r (n : Nat) (g1 : Nat) {M_ : Mem} {M : ZM} (gM : rm M_ M) {r : Int} {m' : ZM} (h : zJ127_67 n g1 M = some (r, m')) : sI (J127_67 n g1 M_) r m' := by
  unfold zJ127_67 at h
  unfold J127_67
  cases hc1 : zF200 n M with
  | none => rw [hc1] at h; cases h
  | some w =>
    obtain ⟨v23, M24⟩ := w
    rw [hc1] at h
    dsimp only at h
    obtain ⟨V23, NM24, ehc1, hv23, gM24⟩ := zF200_r n gM hc1
    rw [ehc1]
    dsimp only
    obtain ⟨rfl, rfl⟩ := Prod.mk.inj (Option.some.inj h)
    exact ⟨_, _, rfl, hv23, gM24⟩
def zJ127_57 (n : Nat) (g1 : Nat) (zrec31 : Int → ZM → Option (Int × ZM)) (x3 : Int) (x4 : Int) (M : ZM) : Option (Int × ZM) :=
  match zF128 n x4 x3 M with | some (v26, M27) => (if v26 = 0 then (zJ127_67 n g1 M27) else (if rg (x3 + 1) then (zrec31 (x3 + 1) M27) else none)) | none => none
set_option maxRecDepth 100000 in
set_option maxHeartbeats 4000000 in
theorem zJ127_57_r (n : Nat) (g1 : Nat) (rec31 : Int32 → Mem → Option (Int32 × Mem)) (zrec31 : Int → ZM → Option (Int × ZM)) (hrec31 : ∀ {Y1 : Int32} {y1 : Int} (_ : rp Y1 y1) {M : Mem} {m : ZM} (_ : rm M m) {r : Int} {m' : ZM} (_ : zrec31 y1 m = some (r, m')), sI (rec31 Y1 M) r m') {X3_ : Int32} {x3 : Int} (hx3 : rp X3_ x3) {X4_ : Int32} {x4 : Int} (hx4 : rp X4_ x4) {M_ : Mem} {M : ZM} (gM : rm M_ M) {r : Int} {m' : ZM} (h : zJ127_57 n g1 zrec31 x3 x4 M = some (r, m')) : sI (J127_57 n g1 rec31 X3_ X4_ M_) r m' := by
  unfold zJ127_57 at h
  unfold J127_57
  cases hc1 : zF128 n x4 x3 M with
  | none => rw [hc1] at h; cases h
  | some w =>
    obtain ⟨v26, M27⟩ := w
    rw [hc1] at h
    dsimp only at h
    obtain ⟨V26, NM27, ehc1, hv26, gM27⟩ := zF128_r n hx4 hx3 gM hc1
    rw [ehc1]
    dsimp only
    by_cases q2 : v26 = 0
    · rw [if_pos q2] at h
      rw [if_pos ((rp_eq hv26 (show rp 0 0 from rfl)).mpr q2)]
      exact zJ127_67_r n g1 gM27 h
    · rw [if_neg q2] at h
      rw [if_neg (fun z => q2 ((rp_eq hv26 (show rp 0 0 from rfl)).mp z))]
      by_cases w3 : rg (x3 + 1)
      · rw [if_pos w3] at h
        exact hrec31 (rp_add (rp_iz hx3) (rp_iz (show rp 1 1 from rfl)) w3) gM27 h
      · rw [if_neg w3] at h
        cases h
def zL127_31 (n : Nat) (g1 : Nat) : Nat → Int → ZM → Option (Int × ZM)
  | 0, _, _ => none
  | k + 1, x3, M => if 120 ≤ x3 then (zJ127_78 n g1 M) else (match zF201 n M with | some (v18, M19) => (if v18 = 0 then (zJ127_78 n g1 M19) else (if v18 = (-1) then (zJ127_67 n g1 M19) else (zJ127_57 n g1 (zL127_31 n g1 k) x3 v18 M19))) | none => none)
set_option maxRecDepth 100000 in
set_option maxHeartbeats 4000000 in
theorem zL127_31_r (n : Nat) (g1 : Nat) : ∀ (k : Nat) {X3_ : Int32} {x3 : Int} (hx3 : rp X3_ x3) {M_ : Mem} {M : ZM} (gM : rm M_ M) {r : Int} {m' : ZM} (_ : zL127_31 n g1 k x3 M = some (r, m')), sI (L127_31 n g1 k X3_ M_) r m' := by
  intro k
  induction k with
  | zero => intro X3_ x3 hx3 M_ M gM r m' h; cases h
  | succ k ih =>
    intro X3_ x3 hx3 M_ M gM r m' h
    rw [zL127_31] at h
    rw [L127_31]
    by_cases q1 : 120 ≤ x3
    · rw [if_pos q1] at h
      rw [if_pos ((rp_le (show rp 120 120 from rfl) hx3).mpr q1)]
      exact zJ127_78_r n g1 gM h
    · rw [if_neg q1] at h
      rw [if_neg (fun z => q1 ((rp_le (show rp 120 120 from rfl) hx3).mp z))]
      cases hc2 : zF201 n M with
      | none => rw [hc2] at h; cases h
      | some w =>
        obtain ⟨v18, M19⟩ := w
        rw [hc2] at h
        dsimp only at h
        obtain ⟨V18, NM19, ehc2, hv18, gM19⟩ := zF201_r n gM hc2
        rw [ehc2]
        dsimp only
        by_cases q3 : v18 = 0
        · rw [if_pos q3] at h
          rw [if_pos ((rp_eq hv18 (show rp 0 0 from rfl)).mpr q3)]
          exact zJ127_78_r n g1 gM19 h
        · rw [if_neg q3] at h
          rw [if_neg (fun z => q3 ((rp_eq hv18 (show rp 0 0 from rfl)).mp z))]
          by_cases q4 : v18 = (-1)
          · rw [if_pos q4] at h
            rw [if_pos ((rp_eq hv18 (show rp (-1) (-1) from rfl)).mpr q4)]
            exact zJ127_67_r n g1 gM19 h
          · rw [if_neg q4] at h
            rw [if_neg (fun z => q4 ((rp_eq hv18 (show rp (-1) (-1) from rfl)).mp z))]
            exact zJ127_57_r n g1 _ _ ih hx3 hv18 gM19 h
def zJ127_29 (n : Nat) (g1 : Nat) (M : ZM) : Option (Int × ZM) :=
  zL127_31 n g1 n 0 M
set_option maxRecDepth 100000 in
set_option maxHeartbeats 4000000 in
theorem zJ127_29_r (n : Nat) (g1 : Nat) {M_ : Mem} {M : ZM} (gM : rm M_ M) {r : Int} {m' : ZM} (h : zJ127_29 n g1 M = some (r, m')) : sI (J127_29 n g1 M_) r m' := by
  unfold zJ127_29 at h
  unfold J127_29
  exact zL127_31_r n g1 n (show rp 0 0 from rfl) gM h
def zJ127_12 (n : Nat) (g1 : Nat) (M : ZM) : Option (Int × ZM) :=
  match zF160 n 4 M with | some (v8, M9) => (zlet (z_i M9 3 2 0) (fun M11 => zlet (z_i M11 3 6 (-1)) (fun M12 => zJ127_29 n g1 M12))) | none => none
set_option maxRecDepth 100000 in
set_option maxHeartbeats 4000000 in
theorem zJ127_12_r (n : Nat) (g1 : Nat) {M_ : Mem} {M : ZM} (gM : rm M_ M) {r : Int} {m' : ZM} (h : zJ127_12 n g1 M = some (r, m')) : sI (J127_12 n g1 M_) r m' := by
  unfold zJ127_12 at h
  unfold J127_12
  cases hc1 : zF160 n 4 M with
  | none => rw [hc1] at h; cases h
  | some w =>
    obtain ⟨v8, M9⟩ := w
    rw [hc1] at h
    dsimp only at h
    obtain ⟨NM9, ehc1, gM9⟩ := zF160_r n 4 gM hc1
    rw [ehc1]
    dsimp only
    have gM11 : rm (m_i NM9 3 2 (0 : Int32)) (z_i M9 3 2 0) := rm_i gM9 3 2 (show rp 0 0 from rfl)
    rw [mlet]
    rw [zlet] at h
    generalize z_i M9 3 2 0 = M11 at h gM11
    generalize m_i NM9 3 2 (0 : Int32) = NM11 at gM11 ⊢
    have gM12 : rm (m_i NM11 3 6 (-1 : Int32)) (z_i M11 3 6 (-1)) := rm_i gM11 3 6 (show rp (-1) (-1) from rfl)
    rw [mlet]
    rw [zlet] at h
    generalize z_i M11 3 6 (-1) = M12 at h gM12
    generalize m_i NM11 3 6 (-1 : Int32) = NM12 at gM12 ⊢
    exact zJ127_29_r n g1 gM12 h
/-- ArmExpander$DefinitionReader.read -/
def zF127 (n : Nat) (g1 : Nat) (M : ZM) : Option (Int × ZM) :=
  zlet (z_r M 3 1 (some g1)) (fun M1 => match M1.2.1 3 1 with | some p2 => (if isD p2 then (match zF101 n p2 M1 with | some (v5, M6) => (zJ127_12 n g1 M6) | none => none) else (none)) | none => (none))
set_option maxRecDepth 100000 in
set_option maxHeartbeats 4000000 in
theorem zF127_r (n : Nat) (g1 : Nat) {M_ : Mem} {M : ZM} (gM : rm M_ M) {r : Int} {m' : ZM} (h : zF127 n g1 M = some (r, m')) : sI (F127 n g1 M_) r m' := by
  unfold zF127 at h
  unfold F127
  have gM1 : rm (m_r M_ 3 1 (some g1)) (z_r M 3 1 (some g1)) := rm_r gM 3 1 (some g1)
  rw [mlet]
  rw [zlet] at h
  generalize z_r M 3 1 (some g1) = M1 at h gM1
  generalize m_r M_ 3 1 (some g1) = NM1 at gM1 ⊢
  rw [rm_rf gM1 3 1]
  cases hq1 : M1.2.1 3 1 with
  | none =>
    rw [hq1] at h
    dsimp only at h ⊢
    cases h
  | some p2 =>
    rw [hq1] at h
    dsimp only at h ⊢
    by_cases q2 : isD p2
    · rw [if_pos q2] at h
      rw [if_pos (Iff.rfl.mpr q2)]
      cases hc3 : zF101 n p2 M1 with
      | none => rw [hc3] at h; cases h
      | some w =>
        obtain ⟨v5, M6⟩ := w
        rw [hc3] at h
        dsimp only at h
        obtain ⟨NM6, ehc3, gM6⟩ := zF101_r n p2 gM1 hc3
        rw [ehc3]
        dsimp only
        exact zJ127_12_r n g1 gM6 h
    · rw [if_neg q2] at h
      rw [if_neg (fun z => q2 (Iff.rfl.mp z))]
      cases h
def zJ140_72 (n : Nat) (s0 : Int) (M : ZM) : Option (Int × ZM) :=
  some (s0, M)
set_option maxRecDepth 100000 in
set_option maxHeartbeats 4000000 in
theorem zJ140_72_r (n : Nat) {S0_ : Int32} {s0 : Int} (hs0 : rp S0_ s0) {M_ : Mem} {M : ZM} (gM : rm M_ M) {r : Int} {m' : ZM} (h : zJ140_72 n s0 M = some (r, m')) : sI (J140_72 n S0_ M_) r m' := by
  unfold zJ140_72 at h
  unfold J140_72
  obtain ⟨rfl, rfl⟩ := Prod.mk.inj (Option.some.inj h)
  exact ⟨_, _, rfl, hs0, gM⟩
def zJ140_54 (n : Nat) (M : ZM) : Option (Int × ZM) :=
  match zF161 n 13 M with | some (v2, M3) => (if v2 = 0 then (match zF199 n M3 with | some (v6, M7) => (zJ140_72 n v6 M7) | none => none) else (zJ140_72 n (-1) M3)) | none => none
set_option maxRecDepth 100000 in
set_option maxHeartbeats 4000000 in
theorem zJ140_54_r (n : Nat) {M_ : Mem} {M : ZM} (gM : rm M_ M) {r : Int} {m' : ZM} (h : zJ140_54 n M = some (r, m')) : sI (J140_54 n M_) r m' := by
  unfold zJ140_54 at h
  unfold J140_54
  cases hc1 : zF161 n 13 M with
  | none => rw [hc1] at h; cases h
  | some w =>
    obtain ⟨v2, M3⟩ := w
    rw [hc1] at h
    dsimp only at h
    obtain ⟨V2, NM3, ehc1, hv2, gM3⟩ := zF161_r n 13 gM hc1
    rw [ehc1]
    dsimp only
    by_cases q2 : v2 = 0
    · rw [if_pos q2] at h
      rw [if_pos ((rp_eq hv2 (show rp 0 0 from rfl)).mpr q2)]
      cases hc3 : zF199 n M3 with
      | none => rw [hc3] at h; cases h
      | some w =>
        obtain ⟨v6, M7⟩ := w
        rw [hc3] at h
        dsimp only at h
        obtain ⟨V6, NM7, ehc3, hv6, gM7⟩ := zF199_r n gM3 hc3
        rw [ehc3]
        dsimp only
        exact zJ140_72_r n hv6 gM7 h
    · rw [if_neg q2] at h
      rw [if_neg (fun z => q2 ((rp_eq hv2 (show rp 0 0 from rfl)).mp z))]
      exact zJ140_72_r n (show rp (-1) (-1) from rfl) gM3 h
def zJ140_34 (n : Nat) (M : ZM) : Option (Int × ZM) :=
  match zF200 n M with | some (v14, M15) => (some (v14, M15)) | none => none
set_option maxRecDepth 100000 in
set_option maxHeartbeats 4000000 in
theorem zJ140_34_r (n : Nat) {M_ : Mem} {M : ZM} (gM : rm M_ M) {r : Int} {m' : ZM} (h : zJ140_34 n M = some (r, m')) : sI (J140_34 n M_) r m' := by
  unfold zJ140_34 at h
  unfold J140_34
  cases hc1 : zF200 n M with
  | none => rw [hc1] at h; cases h
  | some w =>
    obtain ⟨v14, M15⟩ := w
    rw [hc1] at h
    dsimp only at h
    obtain ⟨V14, NM15, ehc1, hv14, gM15⟩ := zF200_r n gM hc1
    rw [ehc1]
    dsimp only
    obtain ⟨rfl, rfl⟩ := Prod.mk.inj (Option.some.inj h)
    exact ⟨_, _, rfl, hv14, gM15⟩
def zJ140_48 (n : Nat) (zrec2 : Int → ZM → Option (Int × ZM)) (x2 : Int) (M : ZM) : Option (Int × ZM) :=
  if rg (x2 + 1) then (zrec2 (x2 + 1) M) else none
set_option maxRecDepth 100000 in
set_option maxHeartbeats 4000000 in
theorem zJ140_48_r (n : Nat) (rec2 : Int32 → Mem → Option (Int32 × Mem)) (zrec2 : Int → ZM → Option (Int × ZM)) (hrec2 : ∀ {Y1 : Int32} {y1 : Int} (_ : rp Y1 y1) {M : Mem} {m : ZM} (_ : rm M m) {r : Int} {m' : ZM} (_ : zrec2 y1 m = some (r, m')), sI (rec2 Y1 M) r m') {X2_ : Int32} {x2 : Int} (hx2 : rp X2_ x2) {M_ : Mem} {M : ZM} (gM : rm M_ M) {r : Int} {m' : ZM} (h : zJ140_48 n zrec2 x2 M = some (r, m')) : sI (J140_48 n rec2 X2_ M_) r m' := by
  unfold zJ140_48 at h
  unfold J140_48
  by_cases w1 : rg (x2 + 1)
  · rw [if_pos w1] at h
    exact hrec2 (rp_add (rp_iz hx2) (rp_iz (show rp 1 1 from rfl)) w1) gM h
  · rw [if_neg w1] at h
    cases h
def zJ140_25 (n : Nat) (zrec2 : Int → ZM → Option (Int × ZM)) (x2 : Int) (x3 : Int) (M : ZM) : Option (Int × ZM) :=
  match zF141 n x3 x2 M with | some (v17, M18) => (if v17 = 0 then (zJ140_34 n M18) else (match M18.2.1 12 4 with | some p21 => (if isR p21 then (match zF168 n p21 x3 0 M18 with | some (v24, M25) => (zJ140_48 n zrec2 x2 M25) | none => none) else (none)) | none => (none))) | none => none
set_option maxRecDepth 100000 in
set_option maxHeartbeats 4000000 in
theorem zJ140_25_r (n : Nat) (rec2 : Int32 → Mem → Option (Int32 × Mem)) (zrec2 : Int → ZM → Option (Int × ZM)) (hrec2 : ∀ {Y1 : Int32} {y1 : Int} (_ : rp Y1 y1) {M : Mem} {m : ZM} (_ : rm M m) {r : Int} {m' : ZM} (_ : zrec2 y1 m = some (r, m')), sI (rec2 Y1 M) r m') {X2_ : Int32} {x2 : Int} (hx2 : rp X2_ x2) {X3_ : Int32} {x3 : Int} (hx3 : rp X3_ x3) {M_ : Mem} {M : ZM} (gM : rm M_ M) {r : Int} {m' : ZM} (h : zJ140_25 n zrec2 x2 x3 M = some (r, m')) : sI (J140_25 n rec2 X2_ X3_ M_) r m' := by
  unfold zJ140_25 at h
  unfold J140_25
  cases hc1 : zF141 n x3 x2 M with
  | none => rw [hc1] at h; cases h
  | some w =>
    obtain ⟨v17, M18⟩ := w
    rw [hc1] at h
    dsimp only at h
    obtain ⟨V17, NM18, ehc1, hv17, gM18⟩ := zF141_r n hx3 hx2 gM hc1
    rw [ehc1]
    dsimp only
    by_cases q2 : v17 = 0
    · rw [if_pos q2] at h
      rw [if_pos ((rp_eq hv17 (show rp 0 0 from rfl)).mpr q2)]
      exact zJ140_34_r n gM18 h
    · rw [if_neg q2] at h
      rw [if_neg (fun z => q2 ((rp_eq hv17 (show rp 0 0 from rfl)).mp z))]
      rw [rm_rf gM18 12 4]
      cases hq3 : M18.2.1 12 4 with
      | none =>
        rw [hq3] at h
        dsimp only at h ⊢
        cases h
      | some p21 =>
        rw [hq3] at h
        dsimp only at h ⊢
        by_cases q4 : isR p21
        · rw [if_pos q4] at h
          rw [if_pos (Iff.rfl.mpr q4)]
          cases hc5 : zF168 n p21 x3 0 M18 with
          | none => rw [hc5] at h; cases h
          | some w =>
            obtain ⟨v24, M25⟩ := w
            rw [hc5] at h
            dsimp only at h
            obtain ⟨NM25, ehc5, gM25⟩ := zF168_r n p21 hx3 (show rp 0 0 from rfl) gM18 hc5
            rw [ehc5]
            dsimp only
            exact zJ140_48_r n _ _ hrec2 hx2 gM25 h
        · rw [if_neg q4] at h
          rw [if_neg (fun z => q4 (Iff.rfl.mp z))]
          cases h
def zL140_2 (n : Nat) : Nat → Int → ZM → Option (Int × ZM)
  | 0, _, _ => none
  | k + 1, x2, M => if 120 ≤ x2 then (zJ140_54 n M) else (match zF201 n M with | some (v9, M10) => (if v9 = 0 then (zJ140_54 n M10) else (if v9 = (-1) then (zJ140_34 n M10) else (zJ140_25 n (zL140_2 n k) x2 v9 M10))) | none => none)
set_option maxRecDepth 100000 in
set_option maxHeartbeats 4000000 in
theorem zL140_2_r (n : Nat) : ∀ (k : Nat) {X2_ : Int32} {x2 : Int} (hx2 : rp X2_ x2) {M_ : Mem} {M : ZM} (gM : rm M_ M) {r : Int} {m' : ZM} (_ : zL140_2 n k x2 M = some (r, m')), sI (L140_2 n k X2_ M_) r m' := by
  intro k
  induction k with
  | zero => intro X2_ x2 hx2 M_ M gM r m' h; cases h
  | succ k ih =>
    intro X2_ x2 hx2 M_ M gM r m' h
    rw [zL140_2] at h
    rw [L140_2]
    by_cases q1 : 120 ≤ x2
    · rw [if_pos q1] at h
      rw [if_pos ((rp_le (show rp 120 120 from rfl) hx2).mpr q1)]
      exact zJ140_54_r n gM h
    · rw [if_neg q1] at h
      rw [if_neg (fun z => q1 ((rp_le (show rp 120 120 from rfl) hx2).mp z))]
      cases hc2 : zF201 n M with
      | none => rw [hc2] at h; cases h
      | some w =>
        obtain ⟨v9, M10⟩ := w
        rw [hc2] at h
        dsimp only at h
        obtain ⟨V9, NM10, ehc2, hv9, gM10⟩ := zF201_r n gM hc2
        rw [ehc2]
        dsimp only
        by_cases q3 : v9 = 0
        · rw [if_pos q3] at h
          rw [if_pos ((rp_eq hv9 (show rp 0 0 from rfl)).mpr q3)]
          exact zJ140_54_r n gM10 h
        · rw [if_neg q3] at h
          rw [if_neg (fun z => q3 ((rp_eq hv9 (show rp 0 0 from rfl)).mp z))]
          by_cases q4 : v9 = (-1)
          · rw [if_pos q4] at h
            rw [if_pos ((rp_eq hv9 (show rp (-1) (-1) from rfl)).mpr q4)]
            exact zJ140_34_r n gM10 h
          · rw [if_neg q4] at h
            rw [if_neg (fun z => q4 ((rp_eq hv9 (show rp (-1) (-1) from rfl)).mp z))]
            exact zJ140_25_r n _ _ ih hx2 hv9 gM10 h
/-- ArmExpander$Expander.readTokens -/
def zF140 (n : Nat) (M : ZM) : Option (Int × ZM) :=
  zL140_2 n n 0 M
set_option maxRecDepth 100000 in
set_option maxHeartbeats 4000000 in
theorem zF140_r (n : Nat) {M_ : Mem} {M : ZM} (gM : rm M_ M) {r : Int} {m' : ZM} (h : zF140 n M = some (r, m')) : sI (F140 n M_) r m' := by
  unfold zF140 at h
  unfold F140
  exact zL140_2_r n n (show rp 0 0 from rfl) gM h
def zJ139_37 (n : Nat) (x2 : Int) (M : ZM) : Option (Int × ZM) :=
  some (x2, M)
set_option maxRecDepth 100000 in
set_option maxHeartbeats 4000000 in
theorem zJ139_37_r (n : Nat) {X2_ : Int32} {x2 : Int} (hx2 : rp X2_ x2) {M_ : Mem} {M : ZM} (gM : rm M_ M) {r : Int} {m' : ZM} (h : zJ139_37 n x2 M = some (r, m')) : sI (J139_37 n X2_ M_) r m' := by
  unfold zJ139_37 at h
  unfold J139_37
  obtain ⟨rfl, rfl⟩ := Prod.mk.inj (Option.some.inj h)
  exact ⟨_, _, rfl, hx2, gM⟩
def zJ139_30 (n : Nat) (x2 : Int) (M : ZM) : Option (Int × ZM) :=
  match M.2.1 12 4 with | some p15 => (if isR p15 then (match zF165 n p15 M with | some (v18, M19) => (zJ139_37 n x2 M19) | none => none) else (none)) | none => (none)
set_option maxRecDepth 100000 in
set_option maxHeartbeats 4000000 in
theorem zJ139_30_r (n : Nat) {X2_ : Int32} {x2 : Int} (hx2 : rp X2_ x2) {M_ : Mem} {M : ZM} (gM : rm M_ M) {r : Int} {m' : ZM} (h : zJ139_30 n x2 M = some (r, m')) : sI (J139_30 n X2_ M_) r m' := by
  unfold zJ139_30 at h
  unfold J139_30
  rw [rm_rf gM 12 4]
  cases hq1 : M.2.1 12 4 with
  | none =>
    rw [hq1] at h
    dsimp only at h ⊢
    cases h
  | some p15 =>
    rw [hq1] at h
    dsimp only at h ⊢
    by_cases q2 : isR p15
    · rw [if_pos q2] at h
      rw [if_pos (Iff.rfl.mpr q2)]
      cases hc3 : zF165 n p15 M with
      | none => rw [hc3] at h; cases h
      | some w =>
        obtain ⟨v18, M19⟩ := w
        rw [hc3] at h
        dsimp only at h
        obtain ⟨NM19, ehc3, gM19⟩ := zF165_r n p15 gM hc3
        rw [ehc3]
        dsimp only
        exact zJ139_37_r n hx2 gM19 h
    · rw [if_neg q2] at h
      rw [if_neg (fun z => q2 (Iff.rfl.mp z))]
      cases h
def zJ139_14 (n : Nat) (M : ZM) : Option (Int × ZM) :=
  zlet (z_i M 12 6 0) (fun M10 => match zF140 n M10 with | some (v11, M12) => (if v11 = (-1) then (zJ139_37 n v11 M12) else (zJ139_30 n v11 M12)) | none => none)
set_option maxRecDepth 100000 in
set_option maxHeartbeats 4000000 in
theorem zJ139_14_r (n : Nat) {M_ : Mem} {M : ZM} (gM : rm M_ M) {r : Int} {m' : ZM} (h : zJ139_14 n M = some (r, m')) : sI (J139_14 n M_) r m' := by
  unfold zJ139_14 at h
  unfold J139_14
  have gM10 : rm (m_i M_ 12 6 (0 : Int32)) (z_i M 12 6 0) := rm_i gM 12 6 (show rp 0 0 from rfl)
  rw [mlet]
  rw [zlet] at h
  generalize z_i M 12 6 0 = M10 at h gM10
  generalize m_i M_ 12 6 (0 : Int32) = NM10 at gM10 ⊢
  cases hc1 : zF140 n M10 with
  | none => rw [hc1] at h; cases h
  | some w =>
    obtain ⟨v11, M12⟩ := w
    rw [hc1] at h
    dsimp only at h
    obtain ⟨V11, NM12, ehc1, hv11, gM12⟩ := zF140_r n gM10 hc1
    rw [ehc1]
    dsimp only
    by_cases q2 : v11 = (-1)
    · rw [if_pos q2] at h
      rw [if_pos ((rp_eq hv11 (show rp (-1) (-1) from rfl)).mpr q2)]
      exact zJ139_37_r n hv11 gM12 h
    · rw [if_neg q2] at h
      rw [if_neg (fun z => q2 ((rp_eq hv11 (show rp (-1) (-1) from rfl)).mp z))]
      exact zJ139_30_r n hv11 gM12 h
/-- ArmExpander$Expander.read -/
def zF139 (n : Nat) (M : ZM) : Option (Int × ZM) :=
  match M.2.1 12 4 with | some p1 => (if isR p1 then (match zF165 n p1 M with | some (v4, M5) => (match zF160 n 13 M5 with | some (v7, M8) => (zJ139_14 n M8) | none => none) | none => none) else (none)) | none => (none)
set_option maxRecDepth 100000 in
set_option maxHeartbeats 4000000 in
theorem zF139_r (n : Nat) {M_ : Mem} {M : ZM} (gM : rm M_ M) {r : Int} {m' : ZM} (h : zF139 n M = some (r, m')) : sI (F139 n M_) r m' := by
  unfold zF139 at h
  unfold F139
  rw [rm_rf gM 12 4]
  cases hq1 : M.2.1 12 4 with
  | none =>
    rw [hq1] at h
    dsimp only at h ⊢
    cases h
  | some p1 =>
    rw [hq1] at h
    dsimp only at h ⊢
    by_cases q2 : isR p1
    · rw [if_pos q2] at h
      rw [if_pos (Iff.rfl.mpr q2)]
      cases hc3 : zF165 n p1 M with
      | none => rw [hc3] at h; cases h
      | some w =>
        obtain ⟨v4, M5⟩ := w
        rw [hc3] at h
        dsimp only at h
        obtain ⟨NM5, ehc3, gM5⟩ := zF165_r n p1 gM hc3
        rw [ehc3]
        dsimp only
        cases hc4 : zF160 n 13 M5 with
        | none => rw [hc4] at h; cases h
        | some w =>
          obtain ⟨v7, M8⟩ := w
          rw [hc4] at h
          dsimp only at h
          obtain ⟨NM8, ehc4, gM8⟩ := zF160_r n 13 gM5 hc4
          rw [ehc4]
          dsimp only
          exact zJ139_14_r n gM8 h
    · rw [if_neg q2] at h
      rw [if_neg (fun z => q2 (Iff.rfl.mp z))]
      cases h
def zJ194_211 (n : Nat) (zgg : Nat → Int → Int → ZM → Option (Unit × ZM)) (b : Nat) (M : ZM) : Option (Unit × ZM) :=
  some ((), M)
set_option maxRecDepth 100000 in
set_option maxHeartbeats 4000000 in
theorem zJ194_211_r (n : Nat) (gg : Nat → Int32 → Int32 → Mem → Option (Unit × Mem)) (zgg : Nat → Int → Int → ZM → Option (Unit × ZM)) (hgg : ∀ (c1 : Nat) {Y2 : Int32} {y2 : Int} (_ : rp Y2 y2) {Y3 : Int32} {y3 : Int} (_ : rp Y3 y3) {M : Mem} {m : ZM} (_ : rm M m) {r : Unit} {m' : ZM} (_ : zgg c1 y2 y3 m = some (r, m')), sU (gg c1 Y2 Y3 M) m') (b : Nat) {M_ : Mem} {M : ZM} (gM : rm M_ M) {r : Unit} {m' : ZM} (h : zJ194_211 n zgg b M = some (r, m')) : sU (J194_211 n gg b M_) m' := by
  unfold zJ194_211 at h
  unfold J194_211
  obtain ⟨_, rfl⟩ := Prod.mk.inj (Option.some.inj h)
  exact ⟨_, rfl, gM⟩
def zJ194_184 (n : Nat) (zgg : Nat → Int → Int → ZM → Option (Unit × ZM)) (b : Nat) (x2 : Int) (x5 : Int) (x7 : Int) (x8 : Int) (M : ZM) : Option (Unit × ZM) :=
  if rg (x5 + 2) ∧ rg (x2 + 1) then (match zgg b (x5 + 2) (x2 + 1) M with | some (v54, M55) => (if x8 = 0 then (zJ194_211 n zgg b M55) else (if x7 < 0 ∨ 4 ≤ x7 then (none) else (if rg ((M55.1 (b + 3) (Int.toNat x7)) - 1) then (zlet (z_i M55 (b + 3) (Int.toNat x7) ((M55.1 (b + 3) (Int.toNat x7)) - 1)) (fun M60 => zJ194_211 n zgg b M60)) else none))) | none => none) else none
set_option maxRecDepth 100000 in
set_option maxHeartbeats 4000000 in
theorem zJ194_184_r (n : Nat) (gg : Nat → Int32 → Int32 → Mem → Option (Unit × Mem)) (zgg : Nat → Int → Int → ZM → Option (Unit × ZM)) (hgg : ∀ (c1 : Nat) {Y2 : Int32} {y2 : Int} (_ : rp Y2 y2) {Y3 : Int32} {y3 : Int} (_ : rp Y3 y3) {M : Mem} {m : ZM} (_ : rm M m) {r : Unit} {m' : ZM} (_ : zgg c1 y2 y3 m = some (r, m')), sU (gg c1 Y2 Y3 M) m') (b : Nat) {X2_ : Int32} {x2 : Int} (hx2 : rp X2_ x2) {X5_ : Int32} {x5 : Int} (hx5 : rp X5_ x5) {X7_ : Int32} {x7 : Int} (hx7 : rp X7_ x7) {X8_ : Int32} {x8 : Int} (hx8 : rp X8_ x8) {M_ : Mem} {M : ZM} (gM : rm M_ M) {r : Unit} {m' : ZM} (h : zJ194_184 n zgg b x2 x5 x7 x8 M = some (r, m')) : sU (J194_184 n gg b X2_ X5_ X7_ X8_ M_) m' := by
  unfold zJ194_184 at h
  unfold J194_184
  by_cases w1 : rg (x5 + 2) ∧ rg (x2 + 1)
  · rw [if_pos w1] at h
    cases hc2 : zgg b (x5 + 2) (x2 + 1) M with
    | none => rw [hc2] at h; cases h
    | some w =>
      obtain ⟨v54, M55⟩ := w
      rw [hc2] at h
      dsimp only at h
      obtain ⟨NM55, ehc2, gM55⟩ := hgg b (rp_add (rp_iz hx5) (rp_iz (show rp 2 2 from rfl)) w1.1) (rp_add (rp_iz hx2) (rp_iz (show rp 1 1 from rfl)) w1.2) gM hc2
      rw [ehc2]
      dsimp only
      by_cases q3 : x8 = 0
      · rw [if_pos q3] at h
        rw [if_pos ((rp_eq hx8 (show rp 0 0 from rfl)).mpr q3)]
        exact zJ194_211_r n _ _ hgg b gM55 h
      · rw [if_neg q3] at h
        rw [if_neg (fun z => q3 ((rp_eq hx8 (show rp 0 0 from rfl)).mp z))]
        by_cases q4 : x7 < 0 ∨ 4 ≤ x7
        · rw [if_pos q4] at h
          rw [if_pos ((rp_ob hx7 4).mpr q4)]
          cases h
        · rw [if_neg q4] at h
          rw [if_neg (fun z => q4 ((rp_ob hx7 4).mp z))]
          rw [if_neg (fun z => q4 ((rp_ob hx7 4).mp z))]
          by_cases w5 : rg ((M55.1 (b + 3) (Int.toNat x7)) - 1)
          · rw [if_pos w5] at h
            have gM60 : rm (m_i NM55 (b + 3) (X7_).toNatClampNeg ((NM55.1 (b + 3) (X7_).toNatClampNeg) - (1 : Int32))) (z_i M55 (b + 3) (Int.toNat x7) ((M55.1 (b + 3) (Int.toNat x7)) - 1)) := rm_ix gM55 (b + 3) hx7 (rp_sub (rp_iz (rm_rdx gM55 (b + 3) hx7)) (rp_iz (show rp 1 1 from rfl)) w5)
            rw [mlet]
            rw [zlet] at h
            generalize z_i M55 (b + 3) (Int.toNat x7) ((M55.1 (b + 3) (Int.toNat x7)) - 1) = M60 at h gM60
            generalize m_i NM55 (b + 3) (X7_).toNatClampNeg ((NM55.1 (b + 3) (X7_).toNatClampNeg) - (1 : Int32)) = NM60 at gM60 ⊢
            exact zJ194_211_r n _ _ hgg b gM60 h
          · rw [if_neg w5] at h
            cases h
  · rw [if_neg w1] at h
    cases h
