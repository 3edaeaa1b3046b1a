/-! The methods over whole numbers; written by program. -/
def zJ158_73 (n : Nat) (zgg : Int → Int → ZM → Option (Int × ZM)) (x4 : Int) (M : ZM) : Option (Int × ZM) :=
  if rg (x4 + 1) then (zJ158_81 n zgg (x4 + 1) M) else none
set_option maxRecDepth 100000 in
set_option maxHeartbeats 4000000 in
theorem zJ158_73_r (n : Nat) (gg : Int32 → Int32 → Mem → Option (Int32 × Mem)) (zgg : Int → Int → ZM → Option (Int × ZM)) (hgg : ∀ {Y1 : Int32} {y1 : Int} (_ : rp Y1 y1) {Y2 : Int32} {y2 : Int} (_ : rp Y2 y2) {M : Mem} {m : ZM} (_ : rm M m) {r : Int} {m' : ZM} (_ : zgg y1 y2 m = some (r, m')), sI (gg Y1 Y2 M) r m') {X4_ : Int32} {x4 : Int} (hx4 : rp X4_ x4) {M_ : Mem} {M : ZM} (gM : rm M_ M) {r : Int} {m' : ZM} (h : zJ158_73 n zgg x4 M = some (r, m')) : sI (J158_73 n gg X4_ M_) r m' := by
  unfold zJ158_73 at h
  unfold J158_73
  by_cases w1 : rg (x4 + 1)
  · rw [if_pos w1] at h
    exact zJ158_81_r n _ _ hgg (rp_add (rp_iz hx4) (rp_iz (show rp 1 1 from rfl)) w1) gM h
  · rw [if_neg w1] at h
    cases h
def zJ158_41 (n : Nat) (zgg : Int → Int → ZM → Option (Int × ZM)) (x1 : Int) (x2 : Int) (M : ZM) : Option (Int × ZM) :=
  if rg (x1 + 1) ∧ rg (x2 + 1) then (match zgg (x1 + 1) (x2 + 1) M with | some (v17, M18) => (if v17 = (-1) then (zJ158_80 n zgg M18) else (match M18.2.1 16 6 with | some p21 => (if isR p21 then (match zF170 n p21 v17 M18 with | some (v24, M25) => (if v24 = 41 then (zJ158_73 n zgg v17 M25) else (zJ158_80 n zgg M25)) | none => none) else (none)) | none => (none))) | none => none) else none
set_option maxRecDepth 100000 in
set_option maxHeartbeats 4000000 in
theorem zJ158_41_r (n : Nat) (gg : Int32 → Int32 → Mem → Option (Int32 × Mem)) (zgg : Int → Int → ZM → Option (Int × ZM)) (hgg : ∀ {Y1 : Int32} {y1 : Int} (_ : rp Y1 y1) {Y2 : Int32} {y2 : Int} (_ : rp Y2 y2) {M : Mem} {m : ZM} (_ : rm M m) {r : Int} {m' : ZM} (_ : zgg y1 y2 m = some (r, m')), sI (gg Y1 Y2 M) r m') {X1_ : Int32} {x1 : Int} (hx1 : rp X1_ x1) {X2_ : Int32} {x2 : Int} (hx2 : rp X2_ x2) {M_ : Mem} {M : ZM} (gM : rm M_ M) {r : Int} {m' : ZM} (h : zJ158_41 n zgg x1 x2 M = some (r, m')) : sI (J158_41 n gg X1_ X2_ M_) r m' := by
  unfold zJ158_41 at h
  unfold J158_41
  by_cases w1 : rg (x1 + 1) ∧ rg (x2 + 1)
  · rw [if_pos w1] at h
    cases hc2 : zgg (x1 + 1) (x2 + 1) M with
    | none => rw [hc2] at h; cases h
    | some w =>
      obtain ⟨v17, M18⟩ := w
      rw [hc2] at h
      dsimp only at h
      obtain ⟨V17, NM18, ehc2, hv17, gM18⟩ := hgg (rp_add (rp_iz hx1) (rp_iz (show rp 1 1 from rfl)) w1.1) (rp_add (rp_iz hx2) (rp_iz (show rp 1 1 from rfl)) w1.2) gM hc2
      rw [ehc2]
      dsimp only
      by_cases q3 : v17 = (-1)
      · rw [if_pos q3] at h
        rw [if_pos ((rp_eq hv17 (show rp (-1) (-1) from rfl)).mpr q3)]
        exact zJ158_80_r n _ _ hgg gM18 h
      · rw [if_neg q3] at h
        rw [if_neg (fun z => q3 ((rp_eq hv17 (show rp (-1) (-1) from rfl)).mp z))]
        rw [rm_rf gM18 16 6]
        cases hq4 : M18.2.1 16 6 with
        | none =>
          rw [hq4] at h
          dsimp only at h ⊢
          cases h
        | some p21 =>
          rw [hq4] at h
          dsimp only at h ⊢
          by_cases q5 : isR p21
          · rw [if_pos q5] at h
            rw [if_pos (Iff.rfl.mpr q5)]
            cases hc6 : zF170 n p21 v17 M18 with
            | none => rw [hc6] at h; cases h
            | some w =>
              obtain ⟨v24, M25⟩ := w
              rw [hc6] at h
              dsimp only at h
              obtain ⟨V24, NM25, ehc6, hv24, gM25⟩ := zF170_r n p21 hv17 gM18 hc6
              rw [ehc6]
              dsimp only
              by_cases q7 : v24 = 41
              · rw [if_pos q7] at h
                rw [if_pos ((rp_eq hv24 (show rp 41 41 from rfl)).mpr q7)]
                exact zJ158_73_r n _ _ hgg hv17 gM25 h
              · rw [if_neg q7] at h
                rw [if_neg (fun z => q7 ((rp_eq hv24 (show rp 41 41 from rfl)).mp z))]
                exact zJ158_80_r n _ _ hgg gM25 h
          · rw [if_neg q5] at h
            rw [if_neg (fun z => q5 (Iff.rfl.mp z))]
            cases h
  · rw [if_neg w1] at h
    cases h
def zJ158_39 (n : Nat) (zgg : Int → Int → ZM → Option (Int × ZM)) (M : ZM) : Option (Int × ZM) :=
  some ((-1), M)
set_option maxRecDepth 100000 in
set_option maxHeartbeats 4000000 in
theorem zJ158_39_r (n : Nat) (gg : Int32 → Int32 → Mem → Option (Int32 × Mem)) (zgg : Int → Int → ZM → Option (Int × ZM)) (hgg : ∀ {Y1 : Int32} {y1 : Int} (_ : rp Y1 y1) {Y2 : Int32} {y2 : Int} (_ : rp Y2 y2) {M : Mem} {m : ZM} (_ : rm M m) {r : Int} {m' : ZM} (_ : zgg y1 y2 m = some (r, m')), sI (gg Y1 Y2 M) r m') {M_ : Mem} {M : ZM} (gM : rm M_ M) {r : Int} {m' : ZM} (h : zJ158_39 n zgg M = some (r, m')) : sI (J158_39 n gg M_) r m' := by
  unfold zJ158_39 at h
  unfold J158_39
  obtain ⟨rfl, rfl⟩ := Prod.mk.inj (Option.some.inj h)
  exact ⟨_, _, rfl, (show rp (-1) (-1) from rfl), gM⟩
def zJ158_23 (n : Nat) (zgg : Int → Int → ZM → Option (Int × ZM)) (x1 : Int) (M : ZM) : Option (Int × ZM) :=
  if rg (x1 + 1) then (some ((x1 + 1), M)) else none
set_option maxRecDepth 100000 in
set_option maxHeartbeats 4000000 in
theorem zJ158_23_r (n : Nat) (gg : Int32 → Int32 → Mem → Option (Int32 × Mem)) (zgg : Int → Int → ZM → Option (Int × ZM)) (hgg : ∀ {Y1 : Int32} {y1 : Int} (_ : rp Y1 y1) {Y2 : Int32} {y2 : Int} (_ : rp Y2 y2) {M : Mem} {m : ZM} (_ : rm M m) {r : Int} {m' : ZM} (_ : zgg y1 y2 m = some (r, m')), sI (gg Y1 Y2 M) r m') {X1_ : Int32} {x1 : Int} (hx1 : rp X1_ x1) {M_ : Mem} {M : ZM} (gM : rm M_ M) {r : Int} {m' : ZM} (h : zJ158_23 n zgg x1 M = some (r, m')) : sI (J158_23 n gg X1_ M_) r m' := by
  unfold zJ158_23 at h
  unfold J158_23
  by_cases w1 : rg (x1 + 1)
  · rw [if_pos w1] at h
    obtain ⟨rfl, rfl⟩ := Prod.mk.inj (Option.some.inj h)
    exact ⟨_, _, rfl, (rp_add (rp_iz hx1) (rp_iz (show rp 1 1 from rfl)) w1), gM⟩
  · rw [if_neg w1] at h
    cases h
def zJ158_16 (n : Nat) (zgg : Int → Int → ZM → Option (Int × ZM)) (x1 : Int) (x2 : Int) (x3 : Int) (M : ZM) : Option (Int × ZM) :=
  match zF12 n x3 M with | some (v11, M12) => (if v11 = 0 then (if x3 = 40 then (if x2 < 6 then (zJ158_41 n zgg x1 x2 M12) else (zJ158_39 n zgg M12)) else (zJ158_39 n zgg M12)) else (zJ158_23 n zgg x1 M12)) | none => none
set_option maxRecDepth 100000 in
set_option maxHeartbeats 4000000 in
theorem zJ158_16_r (n : Nat) (gg : Int32 → Int32 → Mem → Option (Int32 × Mem)) (zgg : Int → Int → ZM → Option (Int × ZM)) (hgg : ∀ {Y1 : Int32} {y1 : Int} (_ : rp Y1 y1) {Y2 : Int32} {y2 : Int} (_ : rp Y2 y2) {M : Mem} {m : ZM} (_ : rm M m) {r : Int} {m' : ZM} (_ : zgg y1 y2 m = some (r, m')), sI (gg Y1 Y2 M) r m') {X1_ : Int32} {x1 : Int} (hx1 : rp X1_ x1) {X2_ : Int32} {x2 : Int} (hx2 : rp X2_ x2) {X3_ : Int32} {x3 : Int} (hx3 : rp X3_ x3) {M_ : Mem} {M : ZM} (gM : rm M_ M) {r : Int} {m' : ZM} (h : zJ158_16 n zgg x1 x2 x3 M = some (r, m')) : sI (J158_16 n gg X1_ X2_ X3_ M_) r m' := by
  unfold zJ158_16 at h
  unfold J158_16
  cases hc1 : zF12 n x3 M with
  | none => rw [hc1] at h; cases h
  | some w =>
    obtain ⟨v11, M12⟩ := w
    rw [hc1] at h
    dsimp only at h
    obtain ⟨V11, NM12, ehc1, hv11, gM12⟩ := zF12_r n hx3 gM hc1
    rw [ehc1]
    dsimp only
    by_cases q2 : v11 = 0
    · rw [if_pos q2] at h
      rw [if_pos ((rp_eq hv11 (show rp 0 0 from rfl)).mpr q2)]
      by_cases q3 : x3 = 40
      · rw [if_pos q3] at h
        rw [if_pos ((rp_eq hx3 (show rp 40 40 from rfl)).mpr q3)]
        by_cases q4 : x2 < 6
        · rw [if_pos q4] at h
          rw [if_pos ((rp_lt hx2 (show rp 6 6 from rfl)).mpr q4)]
          exact zJ158_41_r n _ _ hgg hx1 hx2 gM12 h
        · rw [if_neg q4] at h
          rw [if_neg (fun z => q4 ((rp_lt hx2 (show rp 6 6 from rfl)).mp z))]
          exact zJ158_39_r n _ _ hgg gM12 h
      · rw [if_neg q3] at h
        rw [if_neg (fun z => q3 ((rp_eq hx3 (show rp 40 40 from rfl)).mp z))]
        exact zJ158_39_r n _ _ hgg gM12 h
    · rw [if_neg q2] at h
      rw [if_neg (fun z => q2 ((rp_eq hv11 (show rp 0 0 from rfl)).mp z))]
      exact zJ158_23_r n _ _ hgg hx1 gM12 h
/-- ArmExpander$Matcher.endOfOperand -/
def zG158 (n : Nat) (zgg : Int → Int → ZM → Option (Int × ZM)) (a0 : Int) (a1 : Int) (M : ZM) : Option (Int × ZM) :=
  match M.2.1 16 6 with | some p1 => (if isR p1 then (match zF170 n p1 a0 M with | some (v4, M5) => (match zF11 n v4 M5 with | some (v7, M8) => (if v7 = 0 then (zJ158_16 n zgg a0 a1 v4 M8) else (zJ158_23 n zgg a0 M8)) | none => none) | none => none) else (none)) | none => (none)
set_option maxRecDepth 100000 in
set_option maxHeartbeats 4000000 in
theorem zG158_r (n : Nat) (gg : Int32 → Int32 → Mem → Option (Int32 × Mem)) (zgg : Int → Int → ZM → Option (Int × ZM)) (hgg : ∀ {Y1 : Int32} {y1 : Int} (_ : rp Y1 y1) {Y2 : Int32} {y2 : Int} (_ : rp Y2 y2) {M : Mem} {m : ZM} (_ : rm M m) {r : Int} {m' : ZM} (_ : zgg y1 y2 m = some (r, m')), sI (gg Y1 Y2 M) r m') {A0_ : Int32} {a0 : Int} (ha0 : rp A0_ a0) {A1_ : Int32} {a1 : Int} (ha1 : rp A1_ a1) {M_ : Mem} {M : ZM} (gM : rm M_ M) {r : Int} {m' : ZM} (h : zG158 n zgg a0 a1 M = some (r, m')) : sI (G158 n gg A0_ A1_ M_) r m' := by
  unfold zG158 at h
  unfold G158
  rw [rm_rf gM 16 6]
  cases hq1 : M.2.1 16 6 with
  | none =>
    rw [hq1] at h
    dsimp only at h ⊢
    cases h
  | some p1 =>
    rw [hq1] at h
    dsimp only at h ⊢
    by_cases q2 : isR p1
    · rw [if_pos q2] at h
      rw [if_pos (Iff.rfl.mpr q2)]
      cases hc3 : zF170 n p1 a0 M with
      | none => rw [hc3] at h; cases h
      | some w =>
        obtain ⟨v4, M5⟩ := w
        rw [hc3] at h
        dsimp only at h
        obtain ⟨V4, NM5, ehc3, hv4, gM5⟩ := zF170_r n p1 ha0 gM hc3
        rw [ehc3]
        dsimp only
        cases hc4 : zF11 n v4 M5 with
        | none => rw [hc4] at h; cases h
        | some w =>
          obtain ⟨v7, M8⟩ := w
          rw [hc4] at h
          dsimp only at h
          obtain ⟨V7, NM8, ehc4, hv7, gM8⟩ := zF11_r n hv4 gM5 hc4
          rw [ehc4]
          dsimp only
          by_cases q5 : v7 = 0
          · rw [if_pos q5] at h
            rw [if_pos ((rp_eq hv7 (show rp 0 0 from rfl)).mpr q5)]
            exact zJ158_16_r n _ _ hgg ha0 ha1 hv4 gM8 h
          · rw [if_neg q5] at h
            rw [if_neg (fun z => q5 ((rp_eq hv7 (show rp 0 0 from rfl)).mp z))]
            exact zJ158_23_r n _ _ hgg ha0 gM8 h
    · rw [if_neg q2] at h
      rw [if_neg (fun z => q2 (Iff.rfl.mp z))]
      cases h
def zJ157_74 (n : Nat) (zgg : Int → Int → ZM → Option (Int × ZM)) (x3 : Int) (M : ZM) : Option (Int × ZM) :=
  some (x3, M)
set_option maxRecDepth 100000 in
set_option maxHeartbeats 4000000 in
theorem zJ157_74_r (n : Nat) (gg : Int32 → Int32 → Mem → Option (Int32 × Mem)) (zgg : Int → Int → ZM → Option (Int × ZM)) (hgg : ∀ {Y1 : Int32} {y1 : Int} (_ : rp Y1 y1) {Y2 : Int32} {y2 : Int} (_ : rp Y2 y2) {M : Mem} {m : ZM} (_ : rm M m) {r : Int} {m' : ZM} (_ : zgg y1 y2 m = some (r, m')), sI (gg Y1 Y2 M) r m') {X3_ : Int32} {x3 : Int} (hx3 : rp X3_ x3) {M_ : Mem} {M : ZM} (gM : rm M_ M) {r : Int} {m' : ZM} (h : zJ157_74 n zgg x3 M = some (r, m')) : sI (J157_74 n gg X3_ M_) r m' := by
  unfold zJ157_74 at h
  unfold J157_74
  obtain ⟨rfl, rfl⟩ := Prod.mk.inj (Option.some.inj h)
  exact ⟨_, _, rfl, hx3, gM⟩
def zJ157_66 (n : Nat) (zgg : Int → Int → ZM → Option (Int × ZM)) (zrec13 : Int → Int → Int → Int → ZM → Option (Int × ZM)) (x2 : Int) (x3 : Int) (x5 : Int) (s0 : Int) (M : ZM) : Option (Int × ZM) :=
  if rg (x5 + 1) then (zrec13 x2 x3 s0 (x5 + 1) M) else none
set_option maxRecDepth 100000 in
set_option maxHeartbeats 4000000 in
theorem zJ157_66_r (n : Nat) (gg : Int32 → Int32 → Mem → Option (Int32 × Mem)) (zgg : Int → Int → ZM → Option (Int × ZM)) (hgg : ∀ {Y1 : Int32} {y1 : Int} (_ : rp Y1 y1) {Y2 : Int32} {y2 : Int} (_ : rp Y2 y2) {M : Mem} {m : ZM} (_ : rm M m) {r : Int} {m' : ZM} (_ : zgg y1 y2 m = some (r, m')), sI (gg Y1 Y2 M) r m') (rec13 : Int32 → Int32 → Int32 → Int32 → Mem → Option (Int32 × Mem)) (zrec13 : Int → Int → Int → Int → ZM → Option (Int × ZM)) (hrec13 : ∀ {Y1 : Int32} {y1 : Int} (_ : rp Y1 y1) {Y2 : Int32} {y2 : Int} (_ : rp Y2 y2) {Y3 : Int32} {y3 : Int} (_ : rp Y3 y3) {Y4 : Int32} {y4 : Int} (_ : rp Y4 y4) {M : Mem} {m : ZM} (_ : rm M m) {r : Int} {m' : ZM} (_ : zrec13 y1 y2 y3 y4 m = some (r, m')), sI (rec13 Y1 Y2 Y3 Y4 M) r m') {X2_ : Int32} {x2 : Int} (hx2 : rp X2_ x2) {X3_ : Int32} {x3 : Int} (hx3 : rp X3_ x3) {X5_ : Int32} {x5 : Int} (hx5 : rp X5_ x5) {S0_ : Int32} {s0 : Int} (hs0 : rp S0_ s0) {M_ : Mem} {M : ZM} (gM : rm M_ M) {r : Int} {m' : ZM} (h : zJ157_66 n zgg zrec13 x2 x3 x5 s0 M = some (r, m')) : sI (J157_66 n gg rec13 X2_ X3_ X5_ S0_ M_) r m' := by
  unfold zJ157_66 at h
  unfold J157_66
  by_cases w1 : rg (x5 + 1)
  · rw [if_pos w1] at h
    exact hrec13 hx2 hx3 hs0 (rp_add (rp_iz hx5) (rp_iz (show rp 1 1 from rfl)) w1) gM h
  · rw [if_neg w1] at h
    cases h
def zJ157_54 (n : Nat) (zgg : Int → Int → ZM → Option (Int × ZM)) (zrec13 : Int → Int → Int → Int → ZM → Option (Int × ZM)) (x2 : Int) (x3 : Int) (x5 : Int) (M : ZM) : Option (Int × ZM) :=
  if rg (x3 + 1) then (match zG158 n zgg (x3 + 1) x2 M with | some (v13, M14) => (zJ157_66 n zgg zrec13 x2 x3 x5 v13 M14) | none => none) else none
set_option maxRecDepth 100000 in
set_option maxHeartbeats 4000000 in
theorem zJ157_54_r (n : Nat) (gg : Int32 → Int32 → Mem → Option (Int32 × Mem)) (zgg : Int → Int → ZM → Option (Int × ZM)) (hgg : ∀ {Y1 : Int32} {y1 : Int} (_ : rp Y1 y1) {Y2 : Int32} {y2 : Int} (_ : rp Y2 y2) {M : Mem} {m : ZM} (_ : rm M m) {r : Int} {m' : ZM} (_ : zgg y1 y2 m = some (r, m')), sI (gg Y1 Y2 M) r m') (rec13 : Int32 → Int32 → Int32 → Int32 → Mem → Option (Int32 × Mem)) (zrec13 : Int → Int → Int → Int → ZM → Option (Int × ZM)) (hrec13 : ∀ {Y1 : Int32} {y1 : Int} (_ : rp Y1 y1) {Y2 : Int32} {y2 : Int} (_ : rp Y2 y2) {Y3 : Int32} {y3 : Int} (_ : rp Y3 y3) {Y4 : Int32} {y4 : Int} (_ : rp Y4 y4) {M : Mem} {m : ZM} (_ : rm M m) {r : Int} {m' : ZM} (_ : zrec13 y1 y2 y3 y4 m = some (r, m')), sI (rec13 Y1 Y2 Y3 Y4 M) r m') {X2_ : Int32} {x2 : Int} (hx2 : rp X2_ x2) {X3_ : Int32} {x3 : Int} (hx3 : rp X3_ x3) {X5_ : Int32} {x5 : Int} (hx5 : rp X5_ x5) {M_ : Mem} {M : ZM} (gM : rm M_ M) {r : Int} {m' : ZM} (h : zJ157_54 n zgg zrec13 x2 x3 x5 M = some (r, m')) : sI (J157_54 n gg rec13 X2_ X3_ X5_ M_) r m' := by
  unfold zJ157_54 at h
  unfold J157_54
  by_cases w1 : rg (x3 + 1)
  · rw [if_pos w1] at h
    cases hc2 : zG158 n zgg (x3 + 1) x2 M with
    | none => rw [hc2] at h; cases h
    | some w =>
      obtain ⟨v13, M14⟩ := w
      rw [hc2] at h
      dsimp only at h
      obtain ⟨V13, NM14, ehc2, hv13, gM14⟩ := zG158_r n _ _ hgg (rp_add (rp_iz hx3) (rp_iz (show rp 1 1 from rfl)) w1) hx2 gM hc2
      rw [ehc2]
      dsimp only
      exact zJ157_66_r n _ _ hgg _ _ hrec13 hx2 hx3 hx5 hv13 gM14 h
  · rw [if_neg w1] at h
    cases h
def zJ157_40 (n : Nat) (zgg : Int → Int → ZM → Option (Int × ZM)) (zrec13 : Int → Int → Int → Int → ZM → Option (Int × ZM)) (x2 : Int) (x3 : Int) (x5 : Int) (x6 : Int) (M : ZM) : Option (Int × ZM) :=
  if x6 = 43 then (zJ157_54 n zgg zrec13 x2 x3 x5 M) else (if x6 = 42 then (zJ157_54 n zgg zrec13 x2 x3 x5 M) else (zJ157_66 n zgg zrec13 x2 x3 x5 (-1) M))
set_option maxRecDepth 100000 in
set_option maxHeartbeats 4000000 in
theorem zJ157_40_r (n : Nat) (gg : Int32 → Int32 → Mem → Option (Int32 × Mem)) (zgg : Int → Int → ZM → Option (Int × ZM)) (hgg : ∀ {Y1 : Int32} {y1 : Int} (_ : rp Y1 y1) {Y2 : Int32} {y2 : Int} (_ : rp Y2 y2) {M : Mem} {m : ZM} (_ : rm M m) {r : Int} {m' : ZM} (_ : zgg y1 y2 m = some (r, m')), sI (gg Y1 Y2 M) r m') (rec13 : Int32 → Int32 → Int32 → Int32 → Mem → Option (Int32 × Mem)) (zrec13 : Int → Int → Int → Int → ZM → Option (Int × ZM)) (hrec13 : ∀ {Y1 : Int32} {y1 : Int} (_ : rp Y1 y1) {Y2 : Int32} {y2 : Int} (_ : rp Y2 y2) {Y3 : Int32} {y3 : Int} (_ : rp Y3 y3) {Y4 : Int32} {y4 : Int} (_ : rp Y4 y4) {M : Mem} {m : ZM} (_ : rm M m) {r : Int} {m' : ZM} (_ : zrec13 y1 y2 y3 y4 m = some (r, m')), sI (rec13 Y1 Y2 Y3 Y4 M) r m') {X2_ : Int32} {x2 : Int} (hx2 : rp X2_ x2) {X3_ : Int32} {x3 : Int} (hx3 : rp X3_ x3) {X5_ : Int32} {x5 : Int} (hx5 : rp X5_ x5) {X6_ : Int32} {x6 : Int} (hx6 : rp X6_ x6) {M_ : Mem} {M : ZM} (gM : rm M_ M) {r : Int} {m' : ZM} (h : zJ157_40 n zgg zrec13 x2 x3 x5 x6 M = some (r, m')) : sI (J157_40 n gg rec13 X2_ X3_ X5_ X6_ M_) r m' := by
  unfold zJ157_40 at h
  unfold J157_40
  by_cases q1 : x6 = 43
  · rw [if_pos q1] at h
    rw [if_pos ((rp_eq hx6 (show rp 43 43 from rfl)).mpr q1)]
    exact zJ157_54_r n _ _ hgg _ _ hrec13 hx2 hx3 hx5 gM h
  · rw [if_neg q1] at h
    rw [if_neg (fun z => q1 ((rp_eq hx6 (show rp 43 43 from rfl)).mp z))]
    by_cases q2 : x6 = 42
    · rw [if_pos q2] at h
      rw [if_pos ((rp_eq hx6 (show rp 42 42 from rfl)).mpr q2)]
      exact zJ157_54_r n _ _ hgg _ _ hrec13 hx2 hx3 hx5 gM h
    · rw [if_neg q2] at h
      rw [if_neg (fun z => q2 ((rp_eq hx6 (show rp 42 42 from rfl)).mp z))]
      exact zJ157_66_r n _ _ hgg _ _ hrec13 hx2 hx3 hx5 (show rp (-1) (-1) from rfl) gM h
def zL157_13 (n : Nat) (zgg : Int → Int → ZM → Option (Int × ZM)) : Nat → Int → Int → Int → Int → ZM → Option (Int × ZM)
  | 0, _, _, _, _, _ => none
  | k + 1, x2, x3, x4, x5, M => if 150 ≤ x5 then (zJ157_74 n zgg x3 M) else (if x4 = (-1) then (zJ157_74 n zgg x3 M) else (match M.2.1 16 6 with | some p6 => (if isR p6 then (match zF170 n p6 x4 M with | some (v9, M10) => (zJ157_40 n zgg (zL157_13 n zgg k) x2 x4 x5 v9 M10) | none => none) else (none)) | none => (none)))
set_option maxRecDepth 100000 in
set_option maxHeartbeats 4000000 in
theorem zL157_13_r (n : Nat) (gg : Int32 → Int32 → Mem → Option (Int32 × Mem)) (zgg : Int → Int → ZM → Option (Int × ZM)) (hgg : ∀ {Y1 : Int32} {y1 : Int} (_ : rp Y1 y1) {Y2 : Int32} {y2 : Int} (_ : rp Y2 y2) {M : Mem} {m : ZM} (_ : rm M m) {r : Int} {m' : ZM} (_ : zgg y1 y2 m = some (r, m')), sI (gg Y1 Y2 M) r m') : ∀ (k : Nat) {X2_ : Int32} {x2 : Int} (hx2 : rp X2_ x2) {X3_ : Int32} {x3 : Int} (hx3 : rp X3_ x3) {X4_ : Int32} {x4 : Int} (hx4 : rp X4_ x4) {X5_ : Int32} {x5 : Int} (hx5 : rp X5_ x5) {M_ : Mem} {M : ZM} (gM : rm M_ M) {r : Int} {m' : ZM} (_ : zL157_13 n zgg k x2 x3 x4 x5 M = some (r, m')), sI (L157_13 n gg k X2_ X3_ X4_ X5_ M_) r m' := by
  intro k
  induction k with
  | zero => intro X2_ x2 hx2 X3_ x3 hx3 X4_ x4 hx4 X5_ x5 hx5 M_ M gM r m' h; cases h
  | succ k ih =>
    intro X2_ x2 hx2 X3_ x3 hx3 X4_ x4 hx4 X5_ x5 hx5 M_ M gM r m' h
    rw [zL157_13] at h
    rw [L157_13]
    by_cases q1 : 150 ≤ x5
    · rw [if_pos q1] at h
      rw [if_pos ((rp_le (show rp 150 150 from rfl) hx5).mpr q1)]
      exact zJ157_74_r n _ _ hgg hx3 gM h
    · rw [if_neg q1] at h
      rw [if_neg (fun z => q1 ((rp_le (show rp 150 150 from rfl) hx5).mp z))]
      by_cases q2 : x4 = (-1)
      · rw [if_pos q2] at h
        rw [if_pos ((rp_eq hx4 (show rp (-1) (-1) from rfl)).mpr q2)]
        exact zJ157_74_r n _ _ hgg hx3 gM h
      · rw [if_neg q2] at h
        rw [if_neg (fun z => q2 ((rp_eq hx4 (show rp (-1) (-1) from rfl)).mp z))]
        rw [rm_rf gM 16 6]
        cases hq3 : M.2.1 16 6 with
        | none =>
          rw [hq3] at h
          dsimp only at h ⊢
          cases h
        | some p6 =>
          rw [hq3] at h
          dsimp only at h ⊢
          by_cases q4 : isR p6
          · rw [if_pos q4] at h
            rw [if_pos (Iff.rfl.mpr q4)]
            cases hc5 : zF170 n p6 x4 M with
            | none => rw [hc5] at h; cases h
            | some w =>
              obtain ⟨v9, M10⟩ := w
              rw [hc5] at h
              dsimp only at h
              obtain ⟨V9, NM10, ehc5, hv9, gM10⟩ := zF170_r n p6 hx4 gM hc5
              rw [ehc5]
              dsimp only
              exact zJ157_40_r n _ _ hgg _ _ ih hx2 hx4 hx5 hv9 gM10 h
          · rw [if_neg q4] at h
            rw [if_neg (fun z => q4 (Iff.rfl.mp z))]
            cases h
/-- ArmExpander$Matcher.endOfExpression -/
def zG157 (n : Nat) (zgg : Int → Int → ZM → Option (Int × ZM)) (a0 : Int) (a1 : Int) (M : ZM) : Option (Int × ZM) :=
  match zG158 n zgg a0 a1 M with | some (v1, M2) => (zL157_13 n zgg n a1 v1 v1 0 M2) | none => none
set_option maxRecDepth 100000 in
set_option maxHeartbeats 4000000 in
theorem zG157_r (n : Nat) (gg : Int32 → Int32 → Mem → Option (Int32 × Mem)) (zgg : Int → Int → ZM → Option (Int × ZM)) (hgg : ∀ {Y1 : Int32} {y1 : Int} (_ : rp Y1 y1) {Y2 : Int32} {y2 : Int} (_ : rp Y2 y2) {M : Mem} {m : ZM} (_ : rm M m) {r : Int} {m' : ZM} (_ : zgg y1 y2 m = some (r, m')), sI (gg Y1 Y2 M) r m') {A0_ : Int32} {a0 : Int} (ha0 : rp A0_ a0) {A1_ : Int32} {a1 : Int} (ha1 : rp A1_ a1) {M_ : Mem} {M : ZM} (gM : rm M_ M) {r : Int} {m' : ZM} (h : zG157 n zgg a0 a1 M = some (r, m')) : sI (G157 n gg A0_ A1_ M_) r m' := by
  unfold zG157 at h
  unfold G157
  cases hc1 : zG158 n zgg a0 a1 M with
  | none => rw [hc1] at h; cases h
  | some w =>
    obtain ⟨v1, M2⟩ := w
    rw [hc1] at h
    dsimp only at h
    obtain ⟨V1, NM2, ehc1, hv1, gM2⟩ := zG158_r n _ _ hgg ha0 ha1 gM hc1
    rw [ehc1]
    dsimp only
    exact zL157_13_r n _ _ hgg n ha1 hv1 hv1 (show rp 0 0 from rfl) gM2 h
def zK157 (n : Nat) : Nat → Int → Int → ZM → Option (Int × ZM)
  | 0, _, _, _ => none
  | k + 1, a0, a1, M => zG157 n (zK157 n k) a0 a1 M
set_option maxRecDepth 100000 in
set_option maxHeartbeats 4000000 in
theorem zK157_r (n : Nat) : ∀ (k : Nat) {A0_ : Int32} {a0 : Int} (ha0 : rp A0_ a0) {A1_ : Int32} {a1 : Int} (ha1 : rp A1_ a1) {M_ : Mem} {M : ZM} (gM : rm M_ M) {r : Int} {m' : ZM} (_ : zK157 n k a0 a1 M = some (r, m')), sI (K157 n k A0_ A1_ M_) r m' := by
  intro k
  induction k with
  | zero => intro A0_ a0 ha0 A1_ a1 ha1 M_ M gM r m' h; cases h
  | succ k ih =>
    intro A0_ a0 ha0 A1_ a1 ha1 M_ M gM r m' h
    rw [zK157] at h
    rw [K157]
    exact zG157_r n _ _ ih ha0 ha1 gM h
/-- ArmExpander$Matcher.endOfExpression -/
def zF157 (n : Nat) (a0 : Int) (a1 : Int) (M : ZM) : Option (Int × ZM) :=
  zK157 n 8 a0 a1 M
set_option maxRecDepth 100000 in
set_option maxHeartbeats 4000000 in
theorem zF157_r (n : Nat) {A0_ : Int32} {a0 : Int} (ha0 : rp A0_ a0) {A1_ : Int32} {a1 : Int} (ha1 : rp A1_ a1) {M_ : Mem} {M : ZM} (gM : rm M_ M) {r : Int} {m' : ZM} (h : zF157 n a0 a1 M = some (r, m')) : sI (F157 n A0_ A1_ M_) r m' := by
  unfold zF157 at h
  unfold F157
  exact zK157_r n 8 ha0 ha1 gM h
def zJ153_51 (n : Nat) (s0 : Int) (M : ZM) : Option (Int × ZM) :=
  some (s0, M)
set_option maxRecDepth 100000 in
set_option maxHeartbeats 4000000 in
theorem zJ153_51_r (n : Nat) {S0_ : Int32} {s0 : Int} (hs0 : rp S0_ s0) {M_ : Mem} {M : ZM} (gM : rm M_ M) {r : Int} {m' : ZM} (h : zJ153_51 n s0 M = some (r, m')) : sI (J153_51 n S0_ M_) r m' := by
  unfold zJ153_51 at h
  unfold J153_51
  obtain ⟨rfl, rfl⟩ := Prod.mk.inj (Option.some.inj h)
  exact ⟨_, _, rfl, hs0, gM⟩
def zJ153_48 (n : Nat) (x2 : Int) (M : ZM) : Option (Int × ZM) :=
  if rg (x2 + 1) then (zJ153_51 n (x2 + 1) M) else none
set_option maxRecDepth 100000 in
set_option maxHeartbeats 4000000 in
theorem zJ153_48_r (n : Nat) {X2_ : Int32} {x2 : Int} (hx2 : rp X2_ x2) {M_ : Mem} {M : ZM} (gM : rm M_ M) {r : Int} {m' : ZM} (h : zJ153_48 n x2 M = some (r, m')) : sI (J153_48 n X2_ M_) r m' := by
  unfold zJ153_48 at h
  unfold J153_48
  by_cases w1 : rg (x2 + 1)
  · rw [if_pos w1] at h
    exact zJ153_51_r n (rp_add (rp_iz hx2) (rp_iz (show rp 1 1 from rfl)) w1) gM h
  · rw [if_neg w1] at h
    cases h
def zJ153_35 (n : Nat) (x2 : Int) (M : ZM) : Option (Int × ZM) :=
  match M.2.1 16 6 with | some p16 => (if isR p16 then (match zF172 n p16 x2 M with | some (v19, M20) => (if rg (v19 + 1) then (zJ153_51 n (v19 + 1) M20) else none) | none => none) else (none)) | none => (none)
set_option maxRecDepth 100000 in
set_option maxHeartbeats 4000000 in
theorem zJ153_35_r (n : Nat) {X2_ : Int32} {x2 : Int} (hx2 : rp X2_ x2) {M_ : Mem} {M : ZM} (gM : rm M_ M) {r : Int} {m' : ZM} (h : zJ153_35 n x2 M = some (r, m')) : sI (J153_35 n X2_ M_) r m' := by
  unfold zJ153_35 at h
  unfold J153_35
  rw [rm_rf gM 16 6]
  cases hq1 : M.2.1 16 6 with
  | none =>
    rw [hq1] at h
    dsimp only at h ⊢
    cases h
  | some p16 =>
    rw [hq1] at h
    dsimp only at h ⊢
    by_cases q2 : isR p16
    · rw [if_pos q2] at h
      rw [if_pos (Iff.rfl.mpr q2)]
      cases hc3 : zF172 n p16 x2 M with
      | none => rw [hc3] at h; cases h
      | some w =>
        obtain ⟨v19, M20⟩ := w
        rw [hc3] at h
        dsimp only at h
        obtain ⟨V19, NM20, ehc3, hv19, gM20⟩ := zF172_r n p16 hx2 gM hc3
        rw [ehc3]
        dsimp only
        by_cases w4 : rg (v19 + 1)
        · rw [if_pos w4] at h
          exact zJ153_51_r n (rp_add (rp_iz hv19) (rp_iz (show rp 1 1 from rfl)) w4) gM20 h
        · rw [if_neg w4] at h
          cases h
    · rw [if_neg q2] at h
      rw [if_neg (fun z => q2 (Iff.rfl.mp z))]
      cases h
/-- ArmExpander$Matcher.endOfTaken -/
def zF153 (n : Nat) (a0 : Int) (a1 : Int) (M : ZM) : Option (Int × ZM) :=
  if a0 = 1159 then (match zF157 n a1 0 M with | some (v2, M3) => (some (v2, M3)) | none => none) else (if a0 = 1560 then (match M.2.1 16 6 with | some p6 => (if isR p6 then (match zF170 n p6 a1 M with | some (v9, M10) => (match zF13 n v9 M10 with | some (v12, M13) => (if v12 = 0 then (zJ153_48 n a1 M13) else (zJ153_35 n a1 M13)) | none => none) | none => none) else (none)) | none => (none)) else (zJ153_48 n a1 M))
set_option maxRecDepth 100000 in
set_option maxHeartbeats 4000000 in
theorem zF153_r (n : Nat) {A0_ : Int32} {a0 : Int} (ha0 : rp A0_ a0) {A1_ : Int32} {a1 : Int} (ha1 : rp A1_ a1) {M_ : Mem} {M : ZM} (gM : rm M_ M) {r : Int} {m' : ZM} (h : zF153 n a0 a1 M = some (r, m')) : sI (F153 n A0_ A1_ M_) r m' := by
  unfold zF153 at h
  unfold F153
  by_cases q1 : a0 = 1159
  · rw [if_pos q1] at h
    rw [if_pos ((rp_eq ha0 (show rp 1159 1159 from rfl)).mpr q1)]
    cases hc2 : zF157 n a1 0 M with
    | none => rw [hc2] at h; cases h
    | some w =>
      obtain ⟨v2, M3⟩ := w
      rw [hc2] at h
      dsimp only at h
      obtain ⟨V2, NM3, ehc2, hv2, gM3⟩ := zF157_r n ha1 (show rp 0 0 from rfl) gM hc2
      rw [ehc2]
      dsimp only
      obtain ⟨rfl, rfl⟩ := Prod.mk.inj (Option.some.inj h)
      exact ⟨_, _, rfl, hv2, gM3⟩
  · rw [if_neg q1] at h
    rw [if_neg (fun z => q1 ((rp_eq ha0 (show rp 1159 1159 from rfl)).mp z))]
    by_cases q3 : a0 = 1560
    · rw [if_pos q3] at h
      rw [if_pos ((rp_eq ha0 (show rp 1560 1560 from rfl)).mpr q3)]
      rw [rm_rf gM 16 6]
      cases hq4 : M.2.1 16 6 with
      | none =>
        rw [hq4] at h
        dsimp only at h ⊢
        cases h
      | some p6 =>
        rw [hq4] at h
        dsimp only at h ⊢
        by_cases q5 : isR p6
        · rw [if_pos q5] at h
          rw [if_pos (Iff.rfl.mpr q5)]
          cases hc6 : zF170 n p6 a1 M with
          | none => rw [hc6] at h; cases h
          | some w =>
            obtain ⟨v9, M10⟩ := w
            rw [hc6] at h
            dsimp only at h
            obtain ⟨V9, NM10, ehc6, hv9, gM10⟩ := zF170_r n p6 ha1 gM hc6
            rw [ehc6]
            dsimp only
            cases hc7 : zF13 n v9 M10 with
            | none => rw [hc7] at h; cases h
            | some w =>
              obtain ⟨v12, M13⟩ := w
              rw [hc7] at h
              dsimp only at h
              obtain ⟨V12, NM13, ehc7, hv12, gM13⟩ := zF13_r n hv9 gM10 hc7
              rw [ehc7]
              dsimp only
              by_cases q8 : v12 = 0
              · rw [if_pos q8] at h
                rw [if_pos ((rp_eq hv12 (show rp 0 0 from rfl)).mpr q8)]
                exact zJ153_48_r n ha1 gM13 h
              · rw [if_neg q8] at h
                rw [if_neg (fun z => q8 ((rp_eq hv12 (show rp 0 0 from rfl)).mp z))]
                exact zJ153_35_r n ha1 gM13 h
        · rw [if_neg q5] at h
          rw [if_neg (fun z => q5 (Iff.rfl.mp z))]
          cases h
    · rw [if_neg q3] at h
      rw [if_neg (fun z => q3 ((rp_eq ha0 (show rp 1560 1560 from rfl)).mp z))]
      exact zJ153_48_r n ha1 gM h
def zJ149_194 (n : Nat) (g0 : Nat) (g2 : Nat) (M : ZM) : Option (Int × ZM) :=
  match zF150 n M with | some (v33, M34) => (some (v33, M34)) | none => none
set_option maxRecDepth 100000 in
set_option maxHeartbeats 4000000 in
theorem zJ149_194_r (n : Nat) (g0 : Nat) (g2 : Nat) {M_ : Mem} {M : ZM} (gM : rm M_ M) {r : Int} {m' : ZM} (h : zJ149_194 n g0 g2 M = some (r, m')) : sI (J149_194 n g0 g2 M_) r m' := by
  unfold zJ149_194 at h
  unfold J149_194
  cases hc1 : zF150 n M with
  | none => rw [hc1] at h; cases h
  | some w =>
    obtain ⟨v33, M34⟩ := w
    rw [hc1] at h
    dsimp only at h
    obtain ⟨V33, NM34, ehc1, hv33, gM34⟩ := zF150_r n gM hc1
    rw [ehc1]
    dsimp only
    obtain ⟨rfl, rfl⟩ := Prod.mk.inj (Option.some.inj h)
    exact ⟨_, _, rfl, hv33, gM34⟩
def zJ149_184 (n : Nat) (g0 : Nat) (g2 : Nat) (zrec68 : Int → Int → Int → ZM → Option (Int × ZM)) (x5 : Int) (x7 : Int) (x9 : Int) (M : ZM) : Option (Int × ZM) :=
  if rg (x7 + 1) then (zrec68 x5 x9 (x7 + 1) M) else none
set_option maxRecDepth 100000 in
set_option maxHeartbeats 4000000 in
theorem zJ149_184_r (n : Nat) (g0 : Nat) (g2 : Nat) (rec68 : Int32 → Int32 → Int32 → Mem → Option (Int32 × Mem)) (zrec68 : Int → Int → Int → ZM → Option (Int × ZM)) (hrec68 : ∀ {Y1 : Int32} {y1 : Int} (_ : rp Y1 y1) {Y2 : Int32} {y2 : Int} (_ : rp Y2 y2) {Y3 : Int32} {y3 : Int} (_ : rp Y3 y3) {M : Mem} {m : ZM} (_ : rm M m) {r : Int} {m' : ZM} (_ : zrec68 y1 y2 y3 m = some (r, m')), sI (rec68 Y1 Y2 Y3 M) r m') {X5_ : Int32} {x5 : Int} (hx5 : rp X5_ x5) {X7_ : Int32} {x7 : Int} (hx7 : rp X7_ x7) {X9_ : Int32} {x9 : Int} (hx9 : rp X9_ x9) {M_ : Mem} {M : ZM} (gM : rm M_ M) {r : Int} {m' : ZM} (h : zJ149_184 n g0 g2 zrec68 x5 x7 x9 M = some (r, m')) : sI (J149_184 n g0 g2 rec68 X5_ X7_ X9_ M_) r m' := by
  unfold zJ149_184 at h
  unfold J149_184
  by_cases w1 : rg (x7 + 1)
  · rw [if_pos w1] at h
    exact hrec68 hx5 hx9 (rp_add (rp_iz hx7) (rp_iz (show rp 1 1 from rfl)) w1) gM h
  · rw [if_neg w1] at h
    cases h
def zJ149_140 (n : Nat) (g0 : Nat) (g2 : Nat) (zrec68 : Int → Int → Int → ZM → Option (Int × ZM)) (x5 : Int) (x6 : Int) (x7 : Int) (x8 : Int) (s0 : Int) (M : ZM) : Option (Int × ZM) :=
  if s0 = (-1) then (some ((-2001), M)) else (if x8 = (-1) then (match M.2.1 16 6 with | some p50 => (if isR p50 then (match zF170 n p50 x6 M with | some (v53, M54) => (match zF155 n v53 M54 with | some (v56, M57) => (zJ149_184 n g0 g2 zrec68 x5 x7 s0 M57) | none => none) | none => none) else (none)) | none => (none)) else (match zF154 n x8 x6 s0 M with | some (v59, M60) => (zJ149_184 n g0 g2 zrec68 x5 x7 s0 M60) | none => none))
set_option maxRecDepth 100000 in
set_option maxHeartbeats 4000000 in
theorem zJ149_140_r (n : Nat) (g0 : Nat) (g2 : Nat) (rec68 : Int32 → Int32 → Int32 → Mem → Option (Int32 × Mem)) (zrec68 : Int → Int → Int → ZM → Option (Int × ZM)) (hrec68 : ∀ {Y1 : Int32} {y1 : Int} (_ : rp Y1 y1) {Y2 : Int32} {y2 : Int} (_ : rp Y2 y2) {Y3 : Int32} {y3 : Int} (_ : rp Y3 y3) {M : Mem} {m : ZM} (_ : rm M m) {r : Int} {m' : ZM} (_ : zrec68 y1 y2 y3 m = some (r, m')), sI (rec68 Y1 Y2 Y3 M) r m') {X5_ : Int32} {x5 : Int} (hx5 : rp X5_ x5) {X6_ : Int32} {x6 : Int} (hx6 : rp X6_ x6) {X7_ : Int32} {x7 : Int} (hx7 : rp X7_ x7) {X8_ : Int32} {x8 : Int} (hx8 : rp X8_ x8) {S0_ : Int32} {s0 : Int} (hs0 : rp S0_ s0) {M_ : Mem} {M : ZM} (gM : rm M_ M) {r : Int} {m' : ZM} (h : zJ149_140 n g0 g2 zrec68 x5 x6 x7 x8 s0 M = some (r, m')) : sI (J149_140 n g0 g2 rec68 X5_ X6_ X7_ X8_ S0_ M_) r m' := by
  unfold zJ149_140 at h
  unfold J149_140
  by_cases q1 : s0 = (-1)
  · rw [if_pos q1] at h
    rw [if_pos ((rp_eq hs0 (show rp (-1) (-1) from rfl)).mpr q1)]
    obtain ⟨rfl, rfl⟩ := Prod.mk.inj (Option.some.inj h)
    exact ⟨_, _, rfl, (show rp (-2001) (-2001) from rfl), gM⟩
  · rw [if_neg q1] at h
    rw [if_neg (fun z => q1 ((rp_eq hs0 (show rp (-1) (-1) from rfl)).mp z))]
    by_cases q2 : x8 = (-1)
    · rw [if_pos q2] at h
      rw [if_pos ((rp_eq hx8 (show rp (-1) (-1) from rfl)).mpr q2)]
      rw [rm_rf gM 16 6]
      cases hq3 : M.2.1 16 6 with
      | none =>
        rw [hq3] at h
        dsimp only at h ⊢
        cases h
      | some p50 =>
        rw [hq3] at h
        dsimp only at h ⊢
        by_cases q4 : isR p50
        · rw [if_pos q4] at h
          rw [if_pos (Iff.rfl.mpr q4)]
          cases hc5 : zF170 n p50 x6 M with
          | none => rw [hc5] at h; cases h
          | some w =>
            obtain ⟨v53, M54⟩ := w
            rw [hc5] at h
            dsimp only at h
            obtain ⟨V53, NM54, ehc5, hv53, gM54⟩ := zF170_r n p50 hx6 gM hc5
            rw [ehc5]
            dsimp only
            cases hc6 : zF155 n v53 M54 with
            | none => rw [hc6] at h; cases h
            | some w =>
              obtain ⟨v56, M57⟩ := w
              rw [hc6] at h
              dsimp only at h
              obtain ⟨NM57, ehc6, gM57⟩ := zF155_r n hv53 gM54 hc6
              rw [ehc6]
              dsimp only
              exact zJ149_184_r n g0 g2 _ _ hrec68 hx5 hx7 hs0 gM57 h
        · rw [if_neg q4] at h
          rw [if_neg (fun z => q4 (Iff.rfl.mp z))]
          cases h
    · rw [if_neg q2] at h
      rw [if_neg (fun z => q2 ((rp_eq hx8 (show rp (-1) (-1) from rfl)).mp z))]
      cases hc7 : zF154 n x8 x6 s0 M with
      | none => rw [hc7] at h; cases h
      | some w =>
        obtain ⟨v59, M60⟩ := w
        rw [hc7] at h
        dsimp only at h
        obtain ⟨NM60, ehc7, gM60⟩ := zF154_r n hx8 hx6 hs0 gM hc7
        rw [ehc7]
        dsimp only
        exact zJ149_184_r n g0 g2 _ _ hrec68 hx5 hx7 hs0 gM60 h
def zJ149_98 (n : Nat) (g0 : Nat) (g2 : Nat) (zrec68 : Int → Int → Int → ZM → Option (Int × ZM)) (x5 : Int) (x6 : Int) (x7 : Int) (x8 : Int) (M : ZM) : Option (Int × ZM) :=
  if x8 = (-2002) then (some ((-2002), M)) else (if x8 = (-1) then (if rg (x6 + 1) then (zJ149_140 n g0 g2 zrec68 x5 x6 x7 x8 (x6 + 1) M) else none) else (match M.2.1 16 3 with | some p62 => (if isD p62 then (if rg (x8 + 3) then (match zF109 n p62 (x8 + 3) M with | some (v65, M66) => (match zF153 n v65 x6 M66 with | some (v68, M69) => (zJ149_140 n g0 g2 zrec68 x5 x6 x7 x8 v68 M69) | none => none) | none => none) else none) else (none)) | none => (none)))
set_option maxRecDepth 100000 in
set_option maxHeartbeats 4000000 in
theorem zJ149_98_r (n : Nat) (g0 : Nat) (g2 : Nat) (rec68 : Int32 → Int32 → Int32 → Mem → Option (Int32 × Mem)) (zrec68 : Int → Int → Int → ZM → Option (Int × ZM)) (hrec68 : ∀ {Y1 : Int32} {y1 : Int} (_ : rp Y1 y1) {Y2 : Int32} {y2 : Int} (_ : rp Y2 y2) {Y3 : Int32} {y3 : Int} (_ : rp Y3 y3) {M : Mem} {m : ZM} (_ : rm M m) {r : Int} {m' : ZM} (_ : zrec68 y1 y2 y3 m = some (r, m')), sI (rec68 Y1 Y2 Y3 M) r m') {X5_ : Int32} {x5 : Int} (hx5 : rp X5_ x5) {X6_ : Int32} {x6 : Int} (hx6 : rp X6_ x6) {X7_ : Int32} {x7 : Int} (hx7 : rp X7_ x7) {X8_ : Int32} {x8 : Int} (hx8 : rp X8_ x8) {M_ : Mem} {M : ZM} (gM : rm M_ M) {r : Int} {m' : ZM} (h : zJ149_98 n g0 g2 zrec68 x5 x6 x7 x8 M = some (r, m')) : sI (J149_98 n g0 g2 rec68 X5_ X6_ X7_ X8_ M_) r m' := by
  unfold zJ149_98 at h
  unfold J149_98
  by_cases q1 : x8 = (-2002)
  · rw [if_pos q1] at h
    rw [if_pos ((rp_eq hx8 (show rp (-2002) (-2002) from rfl)).mpr q1)]
    obtain ⟨rfl, rfl⟩ := Prod.mk.inj (Option.some.inj h)
    exact ⟨_, _, rfl, (show rp (-2002) (-2002) from rfl), gM⟩
  · rw [if_neg q1] at h
    rw [if_neg (fun z => q1 ((rp_eq hx8 (show rp (-2002) (-2002) from rfl)).mp z))]
    by_cases q2 : x8 = (-1)
    · rw [if_pos q2] at h
      rw [if_pos ((rp_eq hx8 (show rp (-1) (-1) from rfl)).mpr q2)]
      by_cases w3 : rg (x6 + 1)
      · rw [if_pos w3] at h
        exact zJ149_140_r n g0 g2 _ _ hrec68 hx5 hx6 hx7 hx8 (rp_add (rp_iz hx6) (rp_iz (show rp 1 1 from rfl)) w3) gM h
      · rw [if_neg w3] at h
        cases h
    · rw [if_neg q2] at h
      rw [if_neg (fun z => q2 ((rp_eq hx8 (show rp (-1) (-1) from rfl)).mp z))]
      rw [rm_rf gM 16 3]
      cases hq4 : M.2.1 16 3 with
      | none =>
        rw [hq4] at h
        dsimp only at h ⊢
        cases h
      | some p62 =>
        rw [hq4] at h
        dsimp only at h ⊢
        by_cases q5 : isD p62
        · rw [if_pos q5] at h
          rw [if_pos (Iff.rfl.mpr q5)]
          by_cases w6 : rg (x8 + 3)
          · rw [if_pos w6] at h
            cases hc7 : zF109 n p62 (x8 + 3) M with
            | none => rw [hc7] at h; cases h
            | some w =>
              obtain ⟨v65, M66⟩ := w
              rw [hc7] at h
              dsimp only at h
              obtain ⟨V65, NM66, ehc7, hv65, gM66⟩ := zF109_r n p62 (rp_add (rp_iz hx8) (rp_iz (show rp 3 3 from rfl)) w6) gM hc7
              rw [ehc7]
              dsimp only
              cases hc8 : zF153 n v65 x6 M66 with
              | none => rw [hc8] at h; cases h
              | some w =>
                obtain ⟨v68, M69⟩ := w
                rw [hc8] at h
                dsimp only at h
                obtain ⟨V68, NM69, ehc8, hv68, gM69⟩ := zF153_r n hv65 hx6 gM66 hc8
                rw [ehc8]
                dsimp only
                exact zJ149_140_r n g0 g2 _ _ hrec68 hx5 hx6 hx7 hx8 hv68 gM69 h
          · rw [if_neg w6] at h
            cases h
        · rw [if_neg q5] at h
          rw [if_neg (fun z => q5 (Iff.rfl.mp z))]
          cases h
def zL149_68 (n : Nat) (g0 : Nat) (g2 : Nat) : Nat → Int → Int → Int → ZM → Option (Int × ZM)
  | 0, _, _, _, _ => none
  | k + 1, x5, x6, x7, M => if 150 ≤ x7 then (zJ149_194 n g0 g2 M) else (if x5 ≤ x6 then (zJ149_194 n g0 g2 M) else (match M.2.1 16 6 with | some p37 => (if isR p37 then (match zF170 n p37 x6 M with | some (v40, M41) => (match zF151 n v40 M41 with | some (v43, M44) => (zJ149_98 n g0 g2 (zL149_68 n g0 g2 k) x5 x6 x7 v43 M44) | none => none) | none => none) else (none)) | none => (none)))
set_option maxRecDepth 100000 in
set_option maxHeartbeats 4000000 in
theorem zL149_68_r (n : Nat) (g0 : Nat) (g2 : Nat) : ∀ (k : Nat) {X5_ : Int32} {x5 : Int} (hx5 : rp X5_ x5) {X6_ : Int32} {x6 : Int} (hx6 : rp X6_ x6) {X7_ : Int32} {x7 : Int} (hx7 : rp X7_ x7) {M_ : Mem} {M : ZM} (gM : rm M_ M) {r : Int} {m' : ZM} (_ : zL149_68 n g0 g2 k x5 x6 x7 M = some (r, m')), sI (L149_68 n g0 g2 k X5_ X6_ X7_ M_) r m' := by
  intro k
  induction k with
  | zero => intro X5_ x5 hx5 X6_ x6 hx6 X7_ x7 hx7 M_ M gM r m' h; cases h
  | succ k ih =>
    intro X5_ x5 hx5 X6_ x6 hx6 X7_ x7 hx7 M_ M gM r m' h
    rw [zL149_68] at h
    rw [L149_68]
    by_cases q1 : 150 ≤ x7
    · rw [if_pos q1] at h
      rw [if_pos ((rp_le (show rp 150 150 from rfl) hx7).mpr q1)]
      exact zJ149_194_r n g0 g2 gM h
    · rw [if_neg q1] at h
      rw [if_neg (fun z => q1 ((rp_le (show rp 150 150 from rfl) hx7).mp z))]
      by_cases q2 : x5 ≤ x6
      · rw [if_pos q2] at h
        rw [if_pos ((rp_le hx5 hx6).mpr q2)]
        exact zJ149_194_r n g0 g2 gM h
      · rw [if_neg q2] at h
        rw [if_neg (fun z => q2 ((rp_le hx5 hx6).mp z))]
        rw [rm_rf gM 16 6]
        cases hq3 : M.2.1 16 6 with
        | none =>
          rw [hq3] at h
          dsimp only at h ⊢
          cases h
        | some p37 =>
          rw [hq3] at h
          dsimp only at h ⊢
          by_cases q4 : isR p37
          · rw [if_pos q4] at h
            rw [if_pos (Iff.rfl.mpr q4)]
            cases hc5 : zF170 n p37 x6 M with
            | none => rw [hc5] at h; cases h
            | some w =>
              obtain ⟨v40, M41⟩ := w
              rw [hc5] at h
              dsimp only at h
              obtain ⟨V40, NM41, ehc5, hv40, gM41⟩ := zF170_r n p37 hx6 gM hc5
              rw [ehc5]
              dsimp only
              cases hc6 : zF151 n v40 M41 with
              | none => rw [hc6] at h; cases h
              | some w =>
                obtain ⟨v43, M44⟩ := w
                rw [hc6] at h
                dsimp only at h
                obtain ⟨V43, NM44, ehc6, hv43, gM44⟩ := zF151_r n hv40 gM41 hc6
                rw [ehc6]
                dsimp only
                exact zJ149_98_r n g0 g2 _ _ ih hx5 hx6 hx7 hv43 gM44 h
          · rw [if_neg q4] at h
            rw [if_neg (fun z => q4 (Iff.rfl.mp z))]
            cases h
def zJ149_61 (n : Nat) (g0 : Nat) (g2 : Nat) (x4 : Int) (x5 : Int) (M : ZM) : Option (Int × ZM) :=
  zL149_68 n g0 g2 n x5 x4 0 M
set_option maxRecDepth 100000 in
set_option maxHeartbeats 4000000 in
theorem zJ149_61_r (n : Nat) (g0 : Nat) (g2 : Nat) {X4_ : Int32} {x4 : Int} (hx4 : rp X4_ x4) {X5_ : Int32} {x5 : Int} (hx5 : rp X5_ x5) {M_ : Mem} {M : ZM} (gM : rm M_ M) {r : Int} {m' : ZM} (h : zJ149_61 n g0 g2 x4 x5 M = some (r, m')) : sI (J149_61 n g0 g2 X4_ X5_ M_) r m' := by
  unfold zJ149_61 at h
  unfold J149_61
  exact zL149_68_r n g0 g2 n hx5 hx4 (show rp 0 0 from rfl) gM h
def zJ149_43 (n : Nat) (g0 : Nat) (g2 : Nat) (x4 : Int) (x5 : Int) (M : ZM) : Option (Int × ZM) :=
  match M.2.1 16 1 with | some p20 => (if isT p20 then (match zF190 n p20 M with | some (v23, M24) => (match M24.2.1 16 1 with | some p26 => (if isT p26 then (match zF192 n p26 (M24.1 16 4) M24 with | some (v29, M30) => (zJ149_61 n g0 g2 x4 x5 M30) | none => none) else (none)) | none => (none)) | none => none) else (none)) | none => (none)
set_option maxRecDepth 100000 in
set_option maxHeartbeats 4000000 in
theorem zJ149_43_r (n : Nat) (g0 : Nat) (g2 : Nat) {X4_ : Int32} {x4 : Int} (hx4 : rp X4_ x4) {X5_ : Int32} {x5 : Int} (hx5 : rp X5_ x5) {M_ : Mem} {M : ZM} (gM : rm M_ M) {r : Int} {m' : ZM} (h : zJ149_43 n g0 g2 x4 x5 M = some (r, m')) : sI (J149_43 n g0 g2 X4_ X5_ M_) r m' := by
  unfold zJ149_43 at h
  unfold J149_43
  rw [rm_rf gM 16 1]
  cases hq1 : M.2.1 16 1 with
  | none =>
    rw [hq1] at h
    dsimp only at h ⊢
    cases h
  | some p20 =>
    rw [hq1] at h
    dsimp only at h ⊢
    by_cases q2 : isT p20
    · rw [if_pos q2] at h
      rw [if_pos (Iff.rfl.mpr q2)]
      cases hc3 : zF190 n p20 M with
      | none => rw [hc3] at h; cases h
      | some w =>
        obtain ⟨v23, M24⟩ := w
        rw [hc3] at h
        dsimp only at h
        obtain ⟨NM24, ehc3, gM24⟩ := zF190_r n p20 gM hc3
        rw [ehc3]
        dsimp only
        rw [rm_rf gM24 16 1]
        cases hq4 : M24.2.1 16 1 with
        | none =>
          rw [hq4] at h
          dsimp only at h ⊢
          cases h
        | some p26 =>
          rw [hq4] at h
          dsimp only at h ⊢
          by_cases q5 : isT p26
          · rw [if_pos q5] at h
            rw [if_pos (Iff.rfl.mpr q5)]
            cases hc6 : zF192 n p26 (M24.1 16 4) M24 with
            | none => rw [hc6] at h; cases h
            | some w =>
              obtain ⟨v29, M30⟩ := w
              rw [hc6] at h
              dsimp only at h
              obtain ⟨NM30, ehc6, gM30⟩ := zF192_r n p26 (rm_rd gM24 16 4) gM24 hc6
              rw [ehc6]
              dsimp only
              exact zJ149_61_r n g0 g2 hx4 hx5 gM30 h
          · rw [if_neg q5] at h
            rw [if_neg (fun z => q5 (Iff.rfl.mp z))]
            cases h
    · rw [if_neg q2] at h
      rw [if_neg (fun z => q2 (Iff.rfl.mp z))]
      cases h
def zJ149_28 (n : Nat) (g0 : Nat) (g2 : Nat) (x4 : Int) (x5 : Int) (M : ZM) : Option (Int × ZM) :=
  match zF178 n M with | some (v11, M12) => (match M12.2.1 16 1 with | some p14 => (if isT p14 then (match zF187 n p14 g0 M12 with | some (v17, M18) => (zJ149_43 n g0 g2 x4 x5 M18) | none => none) else (none)) | none => (none)) | none => none
set_option maxRecDepth 100000 in
set_option maxHeartbeats 4000000 in
theorem zJ149_28_r (n : Nat) (g0 : Nat) (g2 : Nat) {X4_ : Int32} {x4 : Int} (hx4 : rp X4_ x4) {X5_ : Int32} {x5 : Int} (hx5 : rp X5_ x5) {M_ : Mem} {M : ZM} (gM : rm M_ M) {r : Int} {m' : ZM} (h : zJ149_28 n g0 g2 x4 x5 M = some (r, m')) : sI (J149_28 n g0 g2 X4_ X5_ M_) r m' := by
  unfold zJ149_28 at h
  unfold J149_28
  cases hc1 : zF178 n M with
  | none => rw [hc1] at h; cases h
  | some w =>
    obtain ⟨v11, M12⟩ := w
    rw [hc1] at h
    dsimp only at h
    obtain ⟨NM12, ehc1, gM12⟩ := zF178_r n gM hc1
    rw [ehc1]
    dsimp only
    rw [rm_rf gM12 16 1]
    cases hq2 : M12.2.1 16 1 with
    | none =>
      rw [hq2] at h
      dsimp only at h ⊢
      cases h
    | some p14 =>
      rw [hq2] at h
      dsimp only at h ⊢
      by_cases q3 : isT p14
      · rw [if_pos q3] at h
        rw [if_pos (Iff.rfl.mpr q3)]
        cases hc4 : zF187 n p14 g0 M12 with
        | none => rw [hc4] at h; cases h
        | some w =>
          obtain ⟨v17, M18⟩ := w
          rw [hc4] at h
          dsimp only at h
          obtain ⟨NM18, ehc4, gM18⟩ := zF187_r n p14 g0 gM12 hc4
          rw [ehc4]
          dsimp only
          exact zJ149_43_r n g0 g2 hx4 hx5 gM18 h
      · rw [if_neg q3] at h
        rw [if_neg (fun z => q3 (Iff.rfl.mp z))]
        cases h
def zJ149_14 (n : Nat) (g0 : Nat) (g2 : Nat) (x2 : Int) (x4 : Int) (x5 : Int) (M : ZM) : Option (Int × ZM) :=
  match zF112 n g0 x2 M with | some (v6, M7) => (zlet (z_i M7 16 5 v6) (fun M9 => zlet (z_r M9 16 6 (some g2)) (fun M10 => zJ149_28 n g0 g2 x4 x5 M10))) | none => none
set_option maxRecDepth 100000 in
set_option maxHeartbeats 4000000 in
theorem zJ149_14_r (n : Nat) (g0 : Nat) (g2 : Nat) {X2_ : Int32} {x2 : Int} (hx2 : rp X2_ x2) {X4_ : Int32} {x4 : Int} (hx4 : rp X4_ x4) {X5_ : Int32} {x5 : Int} (hx5 : rp X5_ x5) {M_ : Mem} {M : ZM} (gM : rm M_ M) {r : Int} {m' : ZM} (h : zJ149_14 n g0 g2 x2 x4 x5 M = some (r, m')) : sI (J149_14 n g0 g2 X2_ X4_ X5_ M_) r m' := by
  unfold zJ149_14 at h
  unfold J149_14
  cases hc1 : zF112 n g0 x2 M with
  | none => rw [hc1] at h; cases h
  | some w =>
    obtain ⟨v6, M7⟩ := w
    rw [hc1] at h
    dsimp only at h
    obtain ⟨V6, NM7, ehc1, hv6, gM7⟩ := zF112_r n g0 hx2 gM hc1
    rw [ehc1]
    dsimp only
    have gM9 : rm (m_i NM7 16 5 V6) (z_i M7 16 5 v6) := rm_i gM7 16 5 hv6
    rw [mlet]
    rw [zlet] at h
    generalize z_i M7 16 5 v6 = M9 at h gM9
    generalize m_i NM7 16 5 V6 = NM9 at gM9 ⊢
    have gM10 : rm (m_r NM9 16 6 (some g2)) (z_r M9 16 6 (some g2)) := rm_r gM9 16 6 (some g2)
    rw [mlet]
    rw [zlet] at h
    generalize z_r M9 16 6 (some g2) = M10 at h gM10
    generalize m_r NM9 16 6 (some g2) = NM10 at gM10 ⊢
    exact zJ149_28_r n g0 g2 hx4 hx5 gM10 h
/-- ArmExpander$Matcher.match -/
def zF149 (n : Nat) (g0 : Nat) (a1 : Int) (g2 : Nat) (a3 : Int) (a4 : Int) (M : ZM) : Option (Int × ZM) :=
  zlet (z_r M 16 3 (some g0)) (fun M1 => match zF111 n g0 a1 M1 with | some (v2, M3) => (zlet (z_i M3 16 4 v2) (fun M5 => zJ149_14 n g0 g2 a1 a3 a4 M5)) | none => none)
set_option maxRecDepth 100000 in
set_option maxHeartbeats 4000000 in
theorem zF149_r (n : Nat) (g0 : Nat) (g2 : Nat) {A1_ : Int32} {a1 : Int} (ha1 : rp A1_ a1) {A3_ : Int32} {a3 : Int} (ha3 : rp A3_ a3) {A4_ : Int32} {a4 : Int} (ha4 : rp A4_ a4) {M_ : Mem} {M : ZM} (gM : rm M_ M) {r : Int} {m' : ZM} (h : zF149 n g0 a1 g2 a3 a4 M = some (r, m')) : sI (F149 n g0 A1_ g2 A3_ A4_ M_) r m' := by
  unfold zF149 at h
  unfold F149
  have gM1 : rm (m_r M_ 16 3 (some g0)) (z_r M 16 3 (some g0)) := rm_r gM 16 3 (some g0)
  rw [mlet]
  rw [zlet] at h
  generalize z_r M 16 3 (some g0) = M1 at h gM1
  generalize m_r M_ 16 3 (some g0) = NM1 at gM1 ⊢
  cases hc1 : zF111 n g0 a1 M1 with
  | none => rw [hc1] at h; cases h
  | some w =>
    obtain ⟨v2, M3⟩ := w
    rw [hc1] at h
    dsimp only at h
    obtain ⟨V2, NM3, ehc1, hv2, gM3⟩ := zF111_r n g0 ha1 gM1 hc1
    rw [ehc1]
    dsimp only
    have gM5 : rm (m_i NM3 16 4 V2) (z_i M3 16 4 v2) := rm_i gM3 16 4 hv2
    rw [mlet]
    rw [zlet] at h
    generalize z_i M3 16 4 v2 = M5 at h gM5
    generalize m_i NM3 16 4 V2 = NM5 at gM5 ⊢
    exact zJ149_14_r n g0 g2 ha1 ha3 ha4 gM5 h
def zJ145_50 (n : Nat) (g0 : Nat) (s0 : Int) (M : ZM) : Option (Int × ZM) :=
  some (s0, M)
set_option maxRecDepth 100000 in
set_option maxHeartbeats 4000000 in
theorem zJ145_50_r (n : Nat) (g0 : Nat) {S0_ : Int32} {s0 : Int} (hs0 : rp S0_ s0) {M_ : Mem} {M : ZM} (gM : rm M_ M) {r : Int} {m' : ZM} (h : zJ145_50 n g0 s0 M = some (r, m')) : sI (J145_50 n g0 S0_ M_) r m' := by
  unfold zJ145_50 at h
  unfold J145_50
  obtain ⟨rfl, rfl⟩ := Prod.mk.inj (Option.some.inj h)
  exact ⟨_, _, rfl, hs0, gM⟩
def zJ145_30 (n : Nat) (g0 : Nat) (zrec3 : Int → Int → Int → ZM → Option (Int × ZM)) (x2 : Int) (x3 : Int) (x4 : Int) (x5 : Int) (M : ZM) : Option (Int × ZM) :=
  if x5 = (-2001) then (if rg (x4 + 1) then (zrec3 x2 x3 (x4 + 1) M) else none) else (if x5 = 0 then (zJ145_50 n g0 x4 M) else (zJ145_50 n g0 x5 M))
set_option maxRecDepth 100000 in
set_option maxHeartbeats 4000000 in
theorem zJ145_30_r (n : Nat) (g0 : Nat) (rec3 : Int32 → Int32 → Int32 → Mem → Option (Int32 × Mem)) (zrec3 : Int → Int → Int → ZM → Option (Int × ZM)) (hrec3 : ∀ {Y1 : Int32} {y1 : Int} (_ : rp Y1 y1) {Y2 : Int32} {y2 : Int} (_ : rp Y2 y2) {Y3 : Int32} {y3 : Int} (_ : rp Y3 y3) {M : Mem} {m : ZM} (_ : rm M m) {r : Int} {m' : ZM} (_ : zrec3 y1 y2 y3 m = some (r, m')), sI (rec3 Y1 Y2 Y3 M) r m') {X2_ : Int32} {x2 : Int} (hx2 : rp X2_ x2) {X3_ : Int32} {x3 : Int} (hx3 : rp X3_ x3) {X4_ : Int32} {x4 : Int} (hx4 : rp X4_ x4) {X5_ : Int32} {x5 : Int} (hx5 : rp X5_ x5) {M_ : Mem} {M : ZM} (gM : rm M_ M) {r : Int} {m' : ZM} (h : zJ145_30 n g0 zrec3 x2 x3 x4 x5 M = some (r, m')) : sI (J145_30 n g0 rec3 X2_ X3_ X4_ X5_ M_) r m' := by
  unfold zJ145_30 at h
  unfold J145_30
  by_cases q1 : x5 = (-2001)
  · rw [if_pos q1] at h
    rw [if_pos ((rp_eq hx5 (show rp (-2001) (-2001) from rfl)).mpr q1)]
    by_cases w2 : rg (x4 + 1)
    · rw [if_pos w2] at h
      exact hrec3 hx2 hx3 (rp_add (rp_iz hx4) (rp_iz (show rp 1 1 from rfl)) w2) gM h
    · rw [if_neg w2] at h
      cases h
  · rw [if_neg q1] at h
    rw [if_neg (fun z => q1 ((rp_eq hx5 (show rp (-2001) (-2001) from rfl)).mp z))]
    by_cases q3 : x5 = 0
    · rw [if_pos q3] at h
      rw [if_pos ((rp_eq hx5 (show rp 0 0 from rfl)).mpr q3)]
      exact zJ145_50_r n g0 hx4 gM h
    · rw [if_neg q3] at h
      rw [if_neg (fun z => q3 ((rp_eq hx5 (show rp 0 0 from rfl)).mp z))]
      exact zJ145_50_r n g0 hx5 gM h
def zL145_3 (n : Nat) (g0 : Nat) : Nat → Int → Int → Int → ZM → Option (Int × ZM)
  | 0, _, _, _, _ => none
  | k + 1, x2, x3, x4, M => match zF108 n g0 M with | some (v1, M2) => (if v1 ≤ x4 then (some ((-2001), M2)) else (match M2.2.1 12 4 with | some p5 => (if isR p5 then (match zF149 n g0 x4 p5 x2 x3 M2 with | some (v8, M9) => (zJ145_30 n g0 (zL145_3 n g0 k) x2 x3 x4 v8 M9) | none => none) else (none)) | none => (none))) | none => none
set_option maxRecDepth 100000 in
set_option maxHeartbeats 4000000 in
theorem zL145_3_r (n : Nat) (g0 : Nat) : ∀ (k : Nat) {X2_ : Int32} {x2 : Int} (hx2 : rp X2_ x2) {X3_ : Int32} {x3 : Int} (hx3 : rp X3_ x3) {X4_ : Int32} {x4 : Int} (hx4 : rp X4_ x4) {M_ : Mem} {M : ZM} (gM : rm M_ M) {r : Int} {m' : ZM} (_ : zL145_3 n g0 k x2 x3 x4 M = some (r, m')), sI (L145_3 n g0 k X2_ X3_ X4_ M_) r m' := by
  intro k
  induction k with
  | zero => intro X2_ x2 hx2 X3_ x3 hx3 X4_ x4 hx4 M_ M gM r m' h; cases h
  | succ k ih =>
    intro X2_ x2 hx2 X3_ x3 hx3 X4_ x4 hx4 M_ M gM r m' h
    rw [zL145_3] at h
    rw [L145_3]
    cases hc1 : zF108 n g0 M with
    | none => rw [hc1] at h; cases h
    | some w =>
      obtain ⟨v1, M2⟩ := w
      rw [hc1] at h
      dsimp only at h
      obtain ⟨V1, NM2, ehc1, hv1, gM2⟩ := zF108_r n g0 gM hc1
      rw [ehc1]
      dsimp only
      by_cases q2 : v1 ≤ x4
      · rw [if_pos q2] at h
        rw [if_pos ((rp_le hv1 hx4).mpr q2)]
        obtain ⟨rfl, rfl⟩ := Prod.mk.inj (Option.some.inj h)
        exact ⟨_, _, rfl, (show rp (-2001) (-2001) from rfl), gM2⟩
      · rw [if_neg q2] at h
        rw [if_neg (fun z => q2 ((rp_le hv1 hx4).mp z))]
        rw [rm_rf gM2 12 4]
        cases hq3 : M2.2.1 12 4 with
        | none =>
          rw [hq3] at h
          dsimp only at h ⊢
          cases h
        | some p5 =>
          rw [hq3] at h
          dsimp only at h ⊢
          by_cases q4 : isR p5
          · rw [if_pos q4] at h
            rw [if_pos (Iff.rfl.mpr q4)]
            cases hc5 : zF149 n g0 x4 p5 x2 x3 M2 with
            | none => rw [hc5] at h; cases h
            | some w =>
              obtain ⟨v8, M9⟩ := w
              rw [hc5] at h
              dsimp only at h
              obtain ⟨V8, NM9, ehc5, hv8, gM9⟩ := zF149_r n g0 p5 hx4 hx2 hx3 gM2 hc5
              rw [ehc5]
              dsimp only
              exact zJ145_30_r n g0 _ _ ih hx2 hx3 hx4 hv8 gM9 h
          · rw [if_neg q4] at h
            rw [if_neg (fun z => q4 (Iff.rfl.mp z))]
            cases h
/-- ArmExpander$Expander.chooseArm -/
def zF145 (n : Nat) (g0 : Nat) (a1 : Int) (a2 : Int) (M : ZM) : Option (Int × ZM) :=
  zL145_3 n g0 n a1 a2 0 M
set_option maxRecDepth 100000 in
set_option maxHeartbeats 4000000 in
theorem zF145_r (n : Nat) (g0 : Nat) {A1_ : Int32} {a1 : Int} (ha1 : rp A1_ a1) {A2_ : Int32} {a2 : Int} (ha2 : rp A2_ a2) {M_ : Mem} {M : ZM} (gM : rm M_ M) {r : Int} {m' : ZM} (h : zF145 n g0 a1 a2 M = some (r, m')) : sI (F145 n g0 A1_ A2_ M_) r m' := by
  unfold zF145 at h
  unfold F145
  exact zL145_3_r n g0 n ha1 ha2 (show rp 0 0 from rfl) gM h
def zJ142_137 (n : Nat) (x3 : Int) (M : ZM) : Option (Int × ZM) :=
  some (x3, M)
set_option maxRecDepth 100000 in
set_option maxHeartbeats 4000000 in
theorem zJ142_137_r (n : Nat) {X3_ : Int32} {x3 : Int} (hx3 : rp X3_ x3) {M_ : Mem} {M : ZM} (gM : rm M_ M) {r : Int} {m' : ZM} (h : zJ142_137 n x3 M = some (r, m')) : sI (J142_137 n X3_ M_) r m' := by
  unfold zJ142_137 at h
  unfold J142_137
  obtain ⟨rfl, rfl⟩ := Prod.mk.inj (Option.some.inj h)
  exact ⟨_, _, rfl, hx3, gM⟩
def zJ142_126 (n : Nat) (x3 : Int) (M : ZM) : Option (Int × ZM) :=
  if x3 = 0 then (match M.2.1 12 4 with | some p9 => (if isR p9 then (match zF166 n p9 M with | some (v12, M13) => (some (v12, M13)) | none => none) else (none)) | none => (none)) else (match M.2.1 12 4 with | some p15 => (if isR p15 then (match zF165 n p15 M with | some (v18, M19) => (zJ142_137 n x3 M19) | none => none) else (none)) | none => (none))
set_option maxRecDepth 100000 in
set_option maxHeartbeats 4000000 in
theorem zJ142_126_r (n : Nat) {X3_ : Int32} {x3 : Int} (hx3 : rp X3_ x3) {M_ : Mem} {M : ZM} (gM : rm M_ M) {r : Int} {m' : ZM} (h : zJ142_126 n x3 M = some (r, m')) : sI (J142_126 n X3_ M_) r m' := by
  unfold zJ142_126 at h
  unfold J142_126
  by_cases q1 : x3 = 0
  · rw [if_pos q1] at h
    rw [if_pos ((rp_eq hx3 (show rp 0 0 from rfl)).mpr q1)]
    rw [rm_rf gM 12 4]
    cases hq2 : M.2.1 12 4 with
    | none =>
      rw [hq2] at h
      dsimp only at h ⊢
      cases h
    | some p9 =>
      rw [hq2] at h
      dsimp only at h ⊢
      by_cases q3 : isR p9
      · rw [if_pos q3] at h
        rw [if_pos (Iff.rfl.mpr q3)]
        cases hc4 : zF166 n p9 M with
        | none => rw [hc4] at h; cases h
        | some w =>
          obtain ⟨v12, M13⟩ := w
          rw [hc4] at h
          dsimp only at h
          obtain ⟨V12, NM13, ehc4, hv12, gM13⟩ := zF166_r n p9 gM hc4
          rw [ehc4]
          dsimp only
          obtain ⟨rfl, rfl⟩ := Prod.mk.inj (Option.some.inj h)
          exact ⟨_, _, rfl, hv12, gM13⟩
      · rw [if_neg q3] at h
        rw [if_neg (fun z => q3 (Iff.rfl.mp z))]
        cases h
  · rw [if_neg q1] at h
    rw [if_neg (fun z => q1 ((rp_eq hx3 (show rp 0 0 from rfl)).mp z))]
    rw [rm_rf gM 12 4]
    cases hq5 : M.2.1 12 4 with
    | none =>
      rw [hq5] at h
      dsimp only at h ⊢
      cases h
    | some p15 =>
      rw [hq5] at h
      dsimp only at h ⊢
      by_cases q6 : isR p15
      · rw [if_pos q6] at h
        rw [if_pos (Iff.rfl.mpr q6)]
        cases hc7 : zF165 n p15 M with
        | none => rw [hc7] at h; cases h
        | some w =>
          obtain ⟨v18, M19⟩ := w
          rw [hc7] at h
          dsimp only at h
          obtain ⟨NM19, ehc7, gM19⟩ := zF165_r n p15 gM hc7
          rw [ehc7]
          dsimp only
          exact zJ142_137_r n hx3 gM19 h
      · rw [if_neg q6] at h
        rw [if_neg (fun z => q6 (Iff.rfl.mp z))]
        cases h
def zJ142_108 (n : Nat) (zrec15 : Int → Int → Int → Int → ZM → Option (Int × ZM)) (x2 : Int) (x4 : Int) (x5 : Int) (s0 : Int) (M : ZM) : Option (Int × ZM) :=
  match M.2.1 12 4 with | some p41 => (if isR p41 then (match zF173 n p41 x4 M with | some (v44, M45) => (if rg (x5 + 1) then (zrec15 x2 s0 v44 (x5 + 1) M45) else none) | none => none) else (none)) | none => (none)
set_option maxRecDepth 100000 in
set_option maxHeartbeats 4000000 in
theorem zJ142_108_r (n : Nat) (rec15 : Int32 → Int32 → Int32 → Int32 → Mem → Option (Int32 × Mem)) (zrec15 : Int → Int → Int → Int → ZM → Option (Int × ZM)) (hrec15 : ∀ {Y1 : Int32} {y1 : Int} (_ : rp Y1 y1) {Y2 : Int32} {y2 : Int} (_ : rp Y2 y2) {Y3 : Int32} {y3 : Int} (_ : rp Y3 y3) {Y4 : Int32} {y4 : Int} (_ : rp Y4 y4) {M : Mem} {m : ZM} (_ : rm M m) {r : Int} {m' : ZM} (_ : zrec15 y1 y2 y3 y4 m = some (r, m')), sI (rec15 Y1 Y2 Y3 Y4 M) r m') {X2_ : Int32} {x2 : Int} (hx2 : rp X2_ x2) {X4_ : Int32} {x4 : Int} (hx4 : rp X4_ x4) {X5_ : Int32} {x5 : Int} (hx5 : rp X5_ x5) {S0_ : Int32} {s0 : Int} (hs0 : rp S0_ s0) {M_ : Mem} {M : ZM} (gM : rm M_ M) {r : Int} {m' : ZM} (h : zJ142_108 n zrec15 x2 x4 x5 s0 M = some (r, m')) : sI (J142_108 n rec15 X2_ X4_ X5_ S0_ M_) r m' := by
  unfold zJ142_108 at h
  unfold J142_108
  rw [rm_rf gM 12 4]
  cases hq1 : M.2.1 12 4 with
  | none =>
    rw [hq1] at h
    dsimp only at h ⊢
    cases h
  | some p41 =>
    rw [hq1] at h
    dsimp only at h ⊢
    by_cases q2 : isR p41
    · rw [if_pos q2] at h
      rw [if_pos (Iff.rfl.mpr q2)]
      cases hc3 : zF173 n p41 x4 M with
      | none => rw [hc3] at h; cases h
      | some w =>
        obtain ⟨v44, M45⟩ := w
        rw [hc3] at h
        dsimp only at h
        obtain ⟨V44, NM45, ehc3, hv44, gM45⟩ := zF173_r n p41 hx4 gM hc3
        rw [ehc3]
        dsimp only
        by_cases w4 : rg (x5 + 1)
        · rw [if_pos w4] at h
          exact hrec15 hx2 hs0 hv44 (rp_add (rp_iz hx5) (rp_iz (show rp 1 1 from rfl)) w4) gM45 h
        · rw [if_neg w4] at h
          cases h
    · rw [if_neg q2] at h
      rw [if_neg (fun z => q2 (Iff.rfl.mp z))]
      cases h
def zL142_15 (n : Nat) : Nat → Int → Int → Int → Int → ZM → Option (Int × ZM)
  | 0, _, _, _, _, _ => none
  | k + 1, x2, x3, x4, x5, M => if 10 < x5 then (zJ142_126 n x3 M) else (if x4 = (-1) then (zJ142_126 n x3 M) else (if x3 = 0 then (match M.2.1 12 4 with | some p23 => (if isR p23 then (match zF170 n p23 x4 M with | some (v26, M27) => (match zF143 n x2 v26 M27 with | some (v29, M30) => (match v29 with | some p32 => (if isD p32 then (match M30.2.1 12 4 with | some p47 => (if isR p47 then (if rg (x4 + 2) then (match zF172 n p47 (x4 + 2) M30 with | some (v50, M51) => (if rg (x4 + 3) then (match zF145 n p32 (x4 + 3) v50 M51 with | some (v53, M54) => (if 0 ≤ v53 then (match zF144 n p32 v53 x4 v50 M54 with | some (v57, M58) => (zJ142_108 n (zL142_15 n k) x2 x4 x5 v57 M58) | none => none) else (zJ142_108 n (zL142_15 n k) x2 x4 x5 v53 M54)) | none => none) else none) | none => none) else none) else (none)) | none => (none)) else (none)) | none => (match M30.2.1 12 4 with | some p35 => (if isR p35 then (if rg (x4 + 2) then (match zF172 n p35 (x4 + 2) M30 with | some (v38, M39) => (zJ142_108 n (zL142_15 n k) x2 x4 x5 (-2000) M39) | none => none) else none) else (none)) | none => (none))) | none => none) | none => none) else (none)) | none => (none)) else (zJ142_126 n x3 M)))
set_option maxRecDepth 100000 in
set_option maxHeartbeats 4000000 in
theorem zL142_15_r (n : Nat) : ∀ (k : Nat) {X2_ : Int32} {x2 : Int} (hx2 : rp X2_ x2) {X3_ : Int32} {x3 : Int} (hx3 : rp X3_ x3) {X4_ : Int32} {x4 : Int} (hx4 : rp X4_ x4) {X5_ : Int32} {x5 : Int} (hx5 : rp X5_ x5) {M_ : Mem} {M : ZM} (gM : rm M_ M) {r : Int} {m' : ZM} (_ : zL142_15 n k x2 x3 x4 x5 M = some (r, m')), sI (L142_15 n k X2_ X3_ X4_ X5_ M_) r m' := by
  intro k
  induction k with
  | zero => intro X2_ x2 hx2 X3_ x3 hx3 X4_ x4 hx4 X5_ x5 hx5 M_ M gM r m' h; cases h
  | succ k ih =>
    intro X2_ x2 hx2 X3_ x3 hx3 X4_ x4 hx4 X5_ x5 hx5 M_ M gM r m' h
    rw [zL142_15] at h
    rw [L142_15]
    by_cases q1 : 10 < x5
    · rw [if_pos q1] at h
      rw [if_pos ((rp_lt (show rp 10 10 from rfl) hx5).mpr q1)]
      exact zJ142_126_r n hx3 gM h
    · rw [if_neg q1] at h
      rw [if_neg (fun z => q1 ((rp_lt (show rp 10 10 from rfl) hx5).mp z))]
      by_cases q2 : x4 = (-1)
      · rw [if_pos q2] at h
        rw [if_pos ((rp_eq hx4 (show rp (-1) (-1) from rfl)).mpr q2)]
        exact zJ142_126_r n hx3 gM h
      · rw [if_neg q2] at h
        rw [if_neg (fun z => q2 ((rp_eq hx4 (show rp (-1) (-1) from rfl)).mp z))]
        by_cases q3 : x3 = 0
        · rw [if_pos q3] at h
          rw [if_pos ((rp_eq hx3 (show rp 0 0 from rfl)).mpr q3)]
          rw [rm_rf gM 12 4]
          cases hq4 : M.2.1 12 4 with
          | none =>
            rw [hq4] at h
            dsimp only at h ⊢
            cases h
          | some p23 =>
            rw [hq4] at h
            dsimp only at h ⊢
            by_cases q5 : isR p23
            · rw [if_pos q5] at h
              rw [if_pos (Iff.rfl.mpr q5)]
              cases hc6 : zF170 n p23 x4 M with
              | none => rw [hc6] at h; cases h
              | some w =>
                obtain ⟨v26, M27⟩ := w
                rw [hc6] at h
                dsimp only at h
                obtain ⟨V26, NM27, ehc6, hv26, gM27⟩ := zF170_r n p23 hx4 gM hc6
                rw [ehc6]
                dsimp only
                cases hc7 : zF143 n x2 v26 M27 with
                | none => rw [hc7] at h; cases h
                | some w =>
                  obtain ⟨v29, M30⟩ := w
                  rw [hc7] at h
                  dsimp only at h
                  obtain ⟨NM30, ehc7, gM30⟩ := zF143_r n hx2 hv26 gM27 hc7
                  rw [ehc7]
                  dsimp only
                  cases hq8 : v29 with
                  | none =>
                    rw [hq8] at h
                    dsimp only at h ⊢
                    rw [rm_rf gM30 12 4]
                    cases hq18 : M30.2.1 12 4 with
                    | none =>
                      rw [hq18] at h
                      dsimp only at h ⊢
                      cases h
                    | some p35 =>
                      rw [hq18] at h
                      dsimp only at h ⊢
                      by_cases q19 : isR p35
                      · rw [if_pos q19] at h
                        rw [if_pos (Iff.rfl.mpr q19)]
                        by_cases w20 : rg (x4 + 2)
                        · rw [if_pos w20] at h
                          cases hc21 : zF172 n p35 (x4 + 2) M30 with
                          | none => rw [hc21] at h; cases h
                          | some w =>
                            obtain ⟨v38, M39⟩ := w
                            rw [hc21] at h
                            dsimp only at h
                            obtain ⟨V38, NM39, ehc21, hv38, gM39⟩ := zF172_r n p35 (rp_add (rp_iz hx4) (rp_iz (show rp 2 2 from rfl)) w20) gM30 hc21
                            rw [ehc21]
                            dsimp only
                            exact zJ142_108_r n _ _ ih hx2 hx4 hx5 (show rp (-2000) (-2000) from rfl) gM39 h
                        · rw [if_neg w20] at h
                          cases h
                      · rw [if_neg q19] at h
                        rw [if_neg (fun z => q19 (Iff.rfl.mp z))]
                        cases h
                  | some p32 =>
                    rw [hq8] at h
                    dsimp only at h ⊢
                    by_cases q9 : isD p32
                    · rw [if_pos q9] at h
                      rw [if_pos (Iff.rfl.mpr q9)]
                      rw [rm_rf gM30 12 4]
                      cases hq10 : M30.2.1 12 4 with
                      | none =>
                        rw [hq10] at h
                        dsimp only at h ⊢
                        cases h
                      | some p47 =>
                        rw [hq10] at h
                        dsimp only at h ⊢
                        by_cases q11 : isR p47
                        · rw [if_pos q11] at h
                          rw [if_pos (Iff.rfl.mpr q11)]
                          by_cases w12 : rg (x4 + 2)
                          · rw [if_pos w12] at h
                            cases hc13 : zF172 n p47 (x4 + 2) M30 with
                            | none => rw [hc13] at h; cases h
                            | some w =>
                              obtain ⟨v50, M51⟩ := w
                              rw [hc13] at h
                              dsimp only at h
                              obtain ⟨V50, NM51, ehc13, hv50, gM51⟩ := zF172_r n p47 (rp_add (rp_iz hx4) (rp_iz (show rp 2 2 from rfl)) w12) gM30 hc13
                              rw [ehc13]
                              dsimp only
                              by_cases w14 : rg (x4 + 3)
                              · rw [if_pos w14] at h
                                cases hc15 : zF145 n p32 (x4 + 3) v50 M51 with
                                | none => rw [hc15] at h; cases h
                                | some w =>
                                  obtain ⟨v53, M54⟩ := w
                                  rw [hc15] at h
                                  dsimp only at h
                                  obtain ⟨V53, NM54, ehc15, hv53, gM54⟩ := zF145_r n p32 (rp_add (rp_iz hx4) (rp_iz (show rp 3 3 from rfl)) w14) hv50 gM51 hc15
                                  rw [ehc15]
                                  dsimp only
                                  by_cases q16 : 0 ≤ v53
                                  · rw [if_pos q16] at h
                                    rw [if_pos ((rp_le (show rp 0 0 from rfl) hv53).mpr q16)]
                                    cases hc17 : zF144 n p32 v53 x4 v50 M54 with
                                    | none => rw [hc17] at h; cases h
                                    | some w =>
                                      obtain ⟨v57, M58⟩ := w
                                      rw [hc17] at h
                                      dsimp only at h
                                      obtain ⟨V57, NM58, ehc17, hv57, gM58⟩ := zF144_r n p32 hv53 hx4 hv50 gM54 hc17
                                      rw [ehc17]
                                      dsimp only
                                      exact zJ142_108_r n _ _ ih hx2 hx4 hx5 hv57 gM58 h
                                  · rw [if_neg q16] at h
                                    rw [if_neg (fun z => q16 ((rp_le (show rp 0 0 from rfl) hv53).mp z))]
                                    exact zJ142_108_r n _ _ ih hx2 hx4 hx5 hv53 gM54 h
                              · rw [if_neg w14] at h
                                cases h
                          · rw [if_neg w12] at h
                            cases h
                        · rw [if_neg q11] at h
                          rw [if_neg (fun z => q11 (Iff.rfl.mp z))]
                          cases h
                    · rw [if_neg q9] at h
                      rw [if_neg (fun z => q9 (Iff.rfl.mp z))]
                      cases h
            · rw [if_neg q5] at h
              rw [if_neg (fun z => q5 (Iff.rfl.mp z))]
              cases h
        · rw [if_neg q3] at h
          rw [if_neg (fun z => q3 ((rp_eq hx3 (show rp 0 0 from rfl)).mp z))]
          exact zJ142_126_r n hx3 gM h
/-- ArmExpander$Expander.run -/
def zF142 (n : Nat) (a1 : Int) (M : ZM) : Option (Int × ZM) :=
  match M.2.1 12 4 with | some p1 => (if isR p1 then (match zF173 n p1 0 M with | some (v4, M5) => (zL142_15 n n a1 0 v4 0 M5) | none => none) else (none)) | none => (none)
set_option maxRecDepth 100000 in
set_option maxHeartbeats 4000000 in
theorem zF142_r (n : Nat) {A1_ : Int32} {a1 : Int} (ha1 : rp A1_ a1) {M_ : Mem} {M : ZM} (gM : rm M_ M) {r : Int} {m' : ZM} (h : zF142 n a1 M = some (r, m')) : sI (F142 n A1_ M_) r m' := by
  unfold zF142 at h
  unfold F142
  rw [rm_rf gM 12 4]
  cases hq1 : M.2.1 12 4 with
  | none =>
    rw [hq1] at h
    dsimp only at h ⊢
    cases h
  | some p1 =>
    rw [hq1] at h
    dsimp only at h ⊢
    by_cases q2 : isR p1
    · rw [if_pos q2] at h
      rw [if_pos (Iff.rfl.mpr q2)]
      cases hc3 : zF173 n p1 0 M with
      | none => rw [hc3] at h; cases h
      | some w =>
        obtain ⟨v4, M5⟩ := w
        rw [hc3] at h
        dsimp only at h
        obtain ⟨V4, NM5, ehc3, hv4, gM5⟩ := zF173_r n p1 (show rp 0 0 from rfl) gM hc3
        rw [ehc3]
        dsimp only
        exact zL142_15_r n n ha1 (show rp 0 0 from rfl) hv4 (show rp 0 0 from rfl) gM5 h
    · rw [if_neg q2] at h
      rw [if_neg (fun z => q2 (Iff.rfl.mp z))]
      cases h
def zJ3_45 (n : Nat) (s0 : Int) (M : ZM) : Option (Int × ZM) :=
  some (s0, M)
set_option maxRecDepth 100000 in
set_option maxHeartbeats 4000000 in
theorem zJ3_45_r (n : Nat) {S0_ : Int32} {s0 : Int} (hs0 : rp S0_ s0) {M_ : Mem} {M : ZM} (gM : rm M_ M) {r : Int} {m' : ZM} (h : zJ3_45 n s0 M = some (r, m')) : sI (J3_45 n S0_ M_) r m' := by
  unfold zJ3_45 at h
  unfold J3_45
  obtain ⟨rfl, rfl⟩ := Prod.mk.inj (Option.some.inj h)
  exact ⟨_, _, rfl, hs0, gM⟩
def zJ3_19 (n : Nat) (x1 : Int) (M : ZM) : Option (Int × ZM) :=
  if x1 = (-1) then (match zF142 n (M.1 0 5) M with | some (v8, M9) => (zJ3_45 n v8 M9) | none => none) else (if rg ((-1) - x1) then (zJ3_45 n ((-1) - x1) M) else none)
set_option maxRecDepth 100000 in
set_option maxHeartbeats 4000000 in
theorem zJ3_19_r (n : Nat) {X1_ : Int32} {x1 : Int} (hx1 : rp X1_ x1) {M_ : Mem} {M : ZM} (gM : rm M_ M) {r : Int} {m' : ZM} (h : zJ3_19 n x1 M = some (r, m')) : sI (J3_19 n X1_ M_) r m' := by
  unfold zJ3_19 at h
  unfold J3_19
  by_cases q1 : x1 = (-1)
  · rw [if_pos q1] at h
    rw [if_pos ((rp_eq hx1 (show rp (-1) (-1) from rfl)).mpr q1)]
    cases hc2 : zF142 n (M.1 0 5) M with
    | none => rw [hc2] at h; cases h
    | some w =>
      obtain ⟨v8, M9⟩ := w
      rw [hc2] at h
      dsimp only at h
      obtain ⟨V8, NM9, ehc2, hv8, gM9⟩ := zF142_r n (rm_rd gM 0 5) gM hc2
      rw [ehc2]
      dsimp only
      exact zJ3_45_r n hv8 gM9 h
  · rw [if_neg q1] at h
    rw [if_neg (fun z => q1 ((rp_eq hx1 (show rp (-1) (-1) from rfl)).mp z))]
    by_cases w3 : rg ((-1) - x1)
    · rw [if_pos w3] at h
      exact zJ3_45_r n (rp_sub (rp_iz (show rp (-1) (-1) from rfl)) (rp_iz hx1) w3) gM h
    · rw [if_neg w3] at h
      cases h
/-- ArmExpander.expand -/
def zF3 (n : Nat) (M : ZM) : Option (Int × ZM) :=
  match zF139 n M with | some (v1, M2) => (match zF198 n M2 with | some (v4, M5) => (zJ3_19 n v1 M5) | none => none) | none => none
set_option maxRecDepth 100000 in
set_option maxHeartbeats 4000000 in
theorem zF3_r (n : Nat) {M_ : Mem} {M : ZM} (gM : rm M_ M) {r : Int} {m' : ZM} (h : zF3 n M = some (r, m')) : sI (F3 n M_) r m' := by
  unfold zF3 at h
  unfold F3
  cases hc1 : zF139 n M with
  | none => rw [hc1] at h; cases h
  | some w =>
    obtain ⟨v1, M2⟩ := w
    rw [hc1] at h
    dsimp only at h
    obtain ⟨V1, NM2, ehc1, hv1, gM2⟩ := zF139_r n gM hc1
    rw [ehc1]
    dsimp only
    cases hc2 : zF198 n M2 with
    | none => rw [hc2] at h; cases h
    | some w =>
      obtain ⟨v4, M5⟩ := w
      rw [hc2] at h
      dsimp only at h
      obtain ⟨NM5, ehc2, gM5⟩ := zF198_r n gM2 hc2
      rw [ehc2]
      dsimp only
      exact zJ3_19_r n hv1 gM5 h
