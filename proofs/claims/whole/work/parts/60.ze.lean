/-! The methods over whole numbers; written by program. -/
/-- ArmExpanderModel.mark -/
def zF84 (n : Nat) (a0 : Int) (M : ZM) : Option (Int × ZM) :=
  if rg ((M.1 83 37) - 1) then (match zF19 n a0 0 ((M.1 83 37) - 1) M with | some (v1, M2) => (if v1 = 0 then (zJ84_24 n (-1) M2) else (if a0 < 0 ∨ 320 ≤ a0 then (none) else (zJ84_24 n (M2.1 106 (Int.toNat a0)) M2))) | none => none) else none
set_option maxRecDepth 100000 in
set_option maxHeartbeats 4000000 in
theorem zF84_r (n : Nat) {A0_ : Int32} {a0 : Int} (ha0 : rp A0_ a0) {M_ : Mem} {M : ZM} (gM : rm M_ M) {r : Int} {m' : ZM} (h : zF84 n a0 M = some (r, m')) : sI (F84 n A0_ M_) r m' := by
  unfold zF84 at h
  unfold F84
  by_cases w1 : rg ((M.1 83 37) - 1)
  · rw [if_pos w1] at h
    cases hc2 : zF19 n a0 0 ((M.1 83 37) - 1) M with
    | none => rw [hc2] at h; cases h
    | some w =>
      obtain ⟨v1, M2⟩ := w
      rw [hc2] at h
      dsimp only at h
      obtain ⟨V1, NM2, ehc2, hv1, gM2⟩ := zF19_r n ha0 (show rp 0 0 from rfl) (rp_sub (rp_iz (rm_rd gM 83 37)) (rp_iz (show rp 1 1 from rfl)) w1) gM hc2
      rw [ehc2]
      dsimp only
      by_cases q3 : v1 = 0
      · rw [if_pos q3] at h
        rw [if_pos ((rp_eq hv1 (show rp 0 0 from rfl)).mpr q3)]
        exact zJ84_24_r n (show rp (-1) (-1) from rfl) gM2 h
      · rw [if_neg q3] at h
        rw [if_neg (fun z => q3 ((rp_eq hv1 (show rp 0 0 from rfl)).mp z))]
        by_cases q4 : a0 < 0 ∨ 320 ≤ a0
        · rw [if_pos q4] at h
          rw [if_pos ((rp_ob ha0 320).mpr q4)]
          cases h
        · rw [if_neg q4] at h
          rw [if_neg (fun z => q4 ((rp_ob ha0 320).mp z))]
          exact zJ84_24_r n (rm_rdx gM2 106 ha0) gM2 h
  · rw [if_neg w1] at h
    cases h
def zJ85_40 (n : Nat) (s0 : Int) (M : ZM) : Option (Int × ZM) :=
  if s0 = 0 ∨ s0 = 1 then (some (s0, M)) else (none)
set_option maxRecDepth 100000 in
set_option maxHeartbeats 4000000 in
theorem zJ85_40_r (n : Nat) {S0_ : Int32} {s0 : Int} (hs0 : rp S0_ s0) {M_ : Mem} {M : ZM} (gM : rm M_ M) {r : Int} {m' : ZM} (h : zJ85_40 n s0 M = some (r, m')) : sI (J85_40 n S0_ M_) r m' := by
  unfold zJ85_40 at h
  unfold J85_40
  by_cases q1 : s0 = 0 ∨ s0 = 1
  · rw [if_pos q1] at h
    rw [if_pos ((or_congr (rp_eq hs0 (show rp 0 0 from rfl)) (rp_eq hs0 (show rp 1 1 from rfl))).mpr q1)]
    obtain ⟨rfl, rfl⟩ := Prod.mk.inj (Option.some.inj h)
    exact ⟨_, _, rfl, hs0, gM⟩
  · rw [if_neg q1] at h
    rw [if_neg (fun z => q1 ((or_congr (rp_eq hs0 (show rp 0 0 from rfl)) (rp_eq hs0 (show rp 1 1 from rfl))).mp z))]
    cases h
def zJ85_39 (n : Nat) (M : ZM) : Option (Int × ZM) :=
  zJ85_40 n 0 M
set_option maxRecDepth 100000 in
set_option maxHeartbeats 4000000 in
theorem zJ85_39_r (n : Nat) {M_ : Mem} {M : ZM} (gM : rm M_ M) {r : Int} {m' : ZM} (h : zJ85_39 n M = some (r, m')) : sI (J85_39 n M_) r m' := by
  unfold zJ85_39 at h
  unfold J85_39
  exact zJ85_40_r n (show rp 0 0 from rfl) gM h
def zJ85_35 (n : Nat) (M : ZM) : Option (Int × ZM) :=
  zJ85_40 n 1 M
set_option maxRecDepth 100000 in
set_option maxHeartbeats 4000000 in
theorem zJ85_35_r (n : Nat) {M_ : Mem} {M : ZM} (gM : rm M_ M) {r : Int} {m' : ZM} (h : zJ85_35 n M = some (r, m')) : sI (J85_35 n M_) r m' := by
  unfold zJ85_35 at h
  unfold J85_35
  exact zJ85_40_r n (show rp 1 1 from rfl) gM h
/-- ArmExpanderModel.isBinder -/
def zF85 (n : Nat) (a0 : Int) (M : ZM) : Option (Int × ZM) :=
  if a0 < 0 ∨ 320 ≤ a0 then (none) else (if (M.1 105 (Int.toNat a0)) < 1000 then (zJ85_39 n M) else (if a0 ≤ 0 then (zJ85_39 n M) else (if rg (a0 - 1) then (if (a0 - 1) < 0 ∨ 320 ≤ (a0 - 1) then (none) else (match zF27 n 12 5 20 M with | some (v6, M7) => (if (M.1 105 (Int.toNat (a0 - 1))) = v6 then (zJ85_35 n M7) else (zJ85_39 n M7)) | none => none)) else none)))
set_option maxRecDepth 100000 in
set_option maxHeartbeats 4000000 in
theorem zF85_r (n : Nat) {A0_ : Int32} {a0 : Int} (ha0 : rp A0_ a0) {M_ : Mem} {M : ZM} (gM : rm M_ M) {r : Int} {m' : ZM} (h : zF85 n a0 M = some (r, m')) : sI (F85 n A0_ M_) r m' := by
  unfold zF85 at h
  unfold F85
  by_cases q1 : a0 < 0 ∨ 320 ≤ a0
  · rw [if_pos q1] at h
    rw [if_pos ((rp_ob ha0 320).mpr q1)]
    cases h
  · rw [if_neg q1] at h
    rw [if_neg (fun z => q1 ((rp_ob ha0 320).mp z))]
    by_cases q2 : (M.1 105 (Int.toNat a0)) < 1000
    · rw [if_pos q2] at h
      rw [if_pos ((rp_lt (rm_rdx gM 105 ha0) (show rp 1000 1000 from rfl)).mpr q2)]
      exact zJ85_39_r n gM h
    · rw [if_neg q2] at h
      rw [if_neg (fun z => q2 ((rp_lt (rm_rdx gM 105 ha0) (show rp 1000 1000 from rfl)).mp z))]
      by_cases q3 : a0 ≤ 0
      · rw [if_pos q3] at h
        rw [if_pos ((rp_le ha0 (show rp 0 0 from rfl)).mpr q3)]
        exact zJ85_39_r n gM h
      · rw [if_neg q3] at h
        rw [if_neg (fun z => q3 ((rp_le ha0 (show rp 0 0 from rfl)).mp z))]
        by_cases w4 : rg (a0 - 1)
        · rw [if_pos w4] at h
          by_cases q5 : (a0 - 1) < 0 ∨ 320 ≤ (a0 - 1)
          · rw [if_pos q5] at h
            rw [if_pos ((rp_ob (rp_sub (rp_iz ha0) (rp_iz (show rp 1 1 from rfl)) w4) 320).mpr q5)]
            cases h
          · rw [if_neg q5] at h
            rw [if_neg (fun z => q5 ((rp_ob (rp_sub (rp_iz ha0) (rp_iz (show rp 1 1 from rfl)) w4) 320).mp z))]
            cases hc6 : zF27 n 12 5 20 M with
            | none => rw [hc6] at h; cases h
            | some w =>
              obtain ⟨v6, M7⟩ := w
              rw [hc6] at h
              dsimp only at h
              obtain ⟨V6, NM7, ehc6, hv6, gM7⟩ := zF27_r n (show rp 12 12 from rfl) (show rp 5 5 from rfl) (show rp 20 20 from rfl) gM hc6
              rw [ehc6]
              dsimp only
              by_cases q7 : (M.1 105 (Int.toNat (a0 - 1))) = v6
              · rw [if_pos q7] at h
                rw [if_pos ((rp_eq (rm_rdx gM 105 (rp_sub (rp_iz ha0) (rp_iz (show rp 1 1 from rfl)) w4)) hv6).mpr q7)]
                exact zJ85_35_r n gM7 h
              · rw [if_neg q7] at h
                rw [if_neg (fun z => q7 ((rp_eq (rm_rdx gM 105 (rp_sub (rp_iz ha0) (rp_iz (show rp 1 1 from rfl)) w4)) hv6).mp z))]
                exact zJ85_39_r n gM7 h
        · rw [if_neg w4] at h
          cases h
def zJ86_26 (n : Nat) (M : ZM) : Option (Int × ZM) :=
  some ((-1), M)
set_option maxRecDepth 100000 in
set_option maxHeartbeats 4000000 in
theorem zJ86_26_r (n : Nat) {M_ : Mem} {M : ZM} (gM : rm M_ M) {r : Int} {m' : ZM} (h : zJ86_26 n M = some (r, m')) : sI (J86_26 n M_) r m' := by
  unfold zJ86_26 at h
  unfold J86_26
  obtain ⟨rfl, rfl⟩ := Prod.mk.inj (Option.some.inj h)
  exact ⟨_, _, rfl, (show rp (-1) (-1) from rfl), gM⟩
def zJ86_170 (n : Nat) (x2 : Int) (M : ZM) : Option (Int × ZM) :=
  some (x2, M)
set_option maxRecDepth 100000 in
set_option maxHeartbeats 4000000 in
theorem zJ86_170_r (n : Nat) {X2_ : Int32} {x2 : Int} (hx2 : rp X2_ x2) {M_ : Mem} {M : ZM} (gM : rm M_ M) {r : Int} {m' : ZM} (h : zJ86_170 n x2 M = some (r, m')) : sI (J86_170 n X2_ M_) r m' := by
  unfold zJ86_170 at h
  unfold J86_170
  obtain ⟨rfl, rfl⟩ := Prod.mk.inj (Option.some.inj h)
  exact ⟨_, _, rfl, hx2, gM⟩
def zJ86_163 (n : Nat) (zrec47 : Int → Int → Int → Int → ZM → Option (Int × ZM)) (x1 : Int) (x3 : Int) (x4 : Int) (s0 : Int) (M : ZM) : Option (Int × ZM) :=
  if rg (x4 + (-1)) then (zrec47 x1 s0 x3 (x4 + (-1)) M) else none
set_option maxRecDepth 100000 in
set_option maxHeartbeats 4000000 in
theorem zJ86_163_r (n : Nat) (rec47 : Int32 → Int32 → Int32 → Int32 → Mem → Option (Int32 × Mem)) (zrec47 : Int → Int → Int → Int → ZM → Option (Int × ZM)) (hrec47 : ∀ {Y1 : Int32} {y1 : Int} (_ : rp Y1 y1) {Y2 : Int32} {y2 : Int} (_ : rp Y2 y2) {Y3 : Int32} {y3 : Int} (_ : rp Y3 y3) {Y4 : Int32} {y4 : Int} (_ : rp Y4 y4) {M : Mem} {m : ZM} (_ : rm M m) {r : Int} {m' : ZM} (_ : zrec47 y1 y2 y3 y4 m = some (r, m')), sI (rec47 Y1 Y2 Y3 Y4 M) r m') {X1_ : Int32} {x1 : Int} (hx1 : rp X1_ x1) {X3_ : Int32} {x3 : Int} (hx3 : rp X3_ x3) {X4_ : Int32} {x4 : Int} (hx4 : rp X4_ x4) {S0_ : Int32} {s0 : Int} (hs0 : rp S0_ s0) {M_ : Mem} {M : ZM} (gM : rm M_ M) {r : Int} {m' : ZM} (h : zJ86_163 n zrec47 x1 x3 x4 s0 M = some (r, m')) : sI (J86_163 n rec47 X1_ X3_ X4_ S0_ M_) r m' := by
  unfold zJ86_163 at h
  unfold J86_163
  by_cases w1 : rg (x4 + (-1))
  · rw [if_pos w1] at h
    exact hrec47 hx1 hs0 hx3 (rp_add (rp_iz hx4) (rp_iz (show rp (-1) (-1) from rfl)) w1) gM h
  · rw [if_neg w1] at h
    cases h
def zJ86_150 (n : Nat) (zrec47 : Int → Int → Int → Int → ZM → Option (Int × ZM)) (x1 : Int) (x2 : Int) (x3 : Int) (x4 : Int) (s0 : Int) (M : ZM) : Option (Int × ZM) :=
  if s0 = 0 then (zJ86_163 n zrec47 x1 x3 x4 x2 M) else (zJ86_163 n zrec47 x1 x3 x4 x4 M)
set_option maxRecDepth 100000 in
set_option maxHeartbeats 4000000 in
theorem zJ86_150_r (n : Nat) (rec47 : Int32 → Int32 → Int32 → Int32 → Mem → Option (Int32 × Mem)) (zrec47 : Int → Int → Int → Int → ZM → Option (Int × ZM)) (hrec47 : ∀ {Y1 : Int32} {y1 : Int} (_ : rp Y1 y1) {Y2 : Int32} {y2 : Int} (_ : rp Y2 y2) {Y3 : Int32} {y3 : Int} (_ : rp Y3 y3) {Y4 : Int32} {y4 : Int} (_ : rp Y4 y4) {M : Mem} {m : ZM} (_ : rm M m) {r : Int} {m' : ZM} (_ : zrec47 y1 y2 y3 y4 m = some (r, m')), sI (rec47 Y1 Y2 Y3 Y4 M) r m') {X1_ : Int32} {x1 : Int} (hx1 : rp X1_ x1) {X2_ : Int32} {x2 : Int} (hx2 : rp X2_ x2) {X3_ : Int32} {x3 : Int} (hx3 : rp X3_ x3) {X4_ : Int32} {x4 : Int} (hx4 : rp X4_ x4) {S0_ : Int32} {s0 : Int} (hs0 : rp S0_ s0) {M_ : Mem} {M : ZM} (gM : rm M_ M) {r : Int} {m' : ZM} (h : zJ86_150 n zrec47 x1 x2 x3 x4 s0 M = some (r, m')) : sI (J86_150 n rec47 X1_ X2_ X3_ X4_ S0_ M_) r m' := by
  unfold zJ86_150 at h
  unfold J86_150
  by_cases q1 : s0 = 0
  · rw [if_pos q1] at h
    rw [if_pos ((rp_eq hs0 (show rp 0 0 from rfl)).mpr q1)]
    exact zJ86_163_r n _ _ hrec47 hx1 hx3 hx4 hx2 gM h
  · rw [if_neg q1] at h
    rw [if_neg (fun z => q1 ((rp_eq hs0 (show rp 0 0 from rfl)).mp z))]
    exact zJ86_163_r n _ _ hrec47 hx1 hx3 hx4 hx4 gM h
def zJ86_149 (n : Nat) (zrec47 : Int → Int → Int → Int → ZM → Option (Int × ZM)) (x1 : Int) (x2 : Int) (x3 : Int) (x4 : Int) (M : ZM) : Option (Int × ZM) :=
  zJ86_150 n zrec47 x1 x2 x3 x4 0 M
set_option maxRecDepth 100000 in
set_option maxHeartbeats 4000000 in
theorem zJ86_149_r (n : Nat) (rec47 : Int32 → Int32 → Int32 → Int32 → Mem → Option (Int32 × Mem)) (zrec47 : Int → Int → Int → Int → ZM → Option (Int × ZM)) (hrec47 : ∀ {Y1 : Int32} {y1 : Int} (_ : rp Y1 y1) {Y2 : Int32} {y2 : Int} (_ : rp Y2 y2) {Y3 : Int32} {y3 : Int} (_ : rp Y3 y3) {Y4 : Int32} {y4 : Int} (_ : rp Y4 y4) {M : Mem} {m : ZM} (_ : rm M m) {r : Int} {m' : ZM} (_ : zrec47 y1 y2 y3 y4 m = some (r, m')), sI (rec47 Y1 Y2 Y3 Y4 M) r m') {X1_ : Int32} {x1 : Int} (hx1 : rp X1_ x1) {X2_ : Int32} {x2 : Int} (hx2 : rp X2_ x2) {X3_ : Int32} {x3 : Int} (hx3 : rp X3_ x3) {X4_ : Int32} {x4 : Int} (hx4 : rp X4_ x4) {M_ : Mem} {M : ZM} (gM : rm M_ M) {r : Int} {m' : ZM} (h : zJ86_149 n zrec47 x1 x2 x3 x4 M = some (r, m')) : sI (J86_149 n rec47 X1_ X2_ X3_ X4_ M_) r m' := by
  unfold zJ86_149 at h
  unfold J86_149
  exact zJ86_150_r n _ _ hrec47 hx1 hx2 hx3 hx4 (show rp 0 0 from rfl) gM h
def zJ86_129 (n : Nat) (zrec47 : Int → Int → Int → Int → ZM → Option (Int × ZM)) (x1 : Int) (x2 : Int) (x3 : Int) (x4 : Int) (M : ZM) : Option (Int × ZM) :=
  if x4 < 0 ∨ 320 ≤ x4 then (none) else (if x1 < 0 ∨ 320 ≤ x1 then (none) else (if (M.1 106 (Int.toNat x4)) = (M.1 106 (Int.toNat x1)) then (zJ86_150 n zrec47 x1 x2 x3 x4 1 M) else (zJ86_149 n zrec47 x1 x2 x3 x4 M)))
set_option maxRecDepth 100000 in
set_option maxHeartbeats 4000000 in
theorem zJ86_129_r (n : Nat) (rec47 : Int32 → Int32 → Int32 → Int32 → Mem → Option (Int32 × Mem)) (zrec47 : Int → Int → Int → Int → ZM → Option (Int × ZM)) (hrec47 : ∀ {Y1 : Int32} {y1 : Int} (_ : rp Y1 y1) {Y2 : Int32} {y2 : Int} (_ : rp Y2 y2) {Y3 : Int32} {y3 : Int} (_ : rp Y3 y3) {Y4 : Int32} {y4 : Int} (_ : rp Y4 y4) {M : Mem} {m : ZM} (_ : rm M m) {r : Int} {m' : ZM} (_ : zrec47 y1 y2 y3 y4 m = some (r, m')), sI (rec47 Y1 Y2 Y3 Y4 M) r m') {X1_ : Int32} {x1 : Int} (hx1 : rp X1_ x1) {X2_ : Int32} {x2 : Int} (hx2 : rp X2_ x2) {X3_ : Int32} {x3 : Int} (hx3 : rp X3_ x3) {X4_ : Int32} {x4 : Int} (hx4 : rp X4_ x4) {M_ : Mem} {M : ZM} (gM : rm M_ M) {r : Int} {m' : ZM} (h : zJ86_129 n zrec47 x1 x2 x3 x4 M = some (r, m')) : sI (J86_129 n rec47 X1_ X2_ X3_ X4_ M_) r m' := by
  unfold zJ86_129 at h
  unfold J86_129
  by_cases q1 : x4 < 0 ∨ 320 ≤ x4
  · rw [if_pos q1] at h
    rw [if_pos ((rp_ob hx4 320).mpr q1)]
    cases h
  · rw [if_neg q1] at h
    rw [if_neg (fun z => q1 ((rp_ob hx4 320).mp z))]
    by_cases q2 : x1 < 0 ∨ 320 ≤ x1
    · rw [if_pos q2] at h
      rw [if_pos ((rp_ob hx1 320).mpr q2)]
      cases h
    · rw [if_neg q2] at h
      rw [if_neg (fun z => q2 ((rp_ob hx1 320).mp z))]
      by_cases q3 : (M.1 106 (Int.toNat x4)) = (M.1 106 (Int.toNat x1))
      · rw [if_pos q3] at h
        rw [if_pos ((rp_eq (rm_rdx gM 106 hx4) (rm_rdx gM 106 hx1)).mpr q3)]
        exact zJ86_150_r n _ _ hrec47 hx1 hx2 hx3 hx4 (show rp 1 1 from rfl) gM h
      · rw [if_neg q3] at h
        rw [if_neg (fun z => q3 ((rp_eq (rm_rdx gM 106 hx4) (rm_rdx gM 106 hx1)).mp z))]
        exact zJ86_149_r n _ _ hrec47 hx1 hx2 hx3 hx4 gM h
def zJ86_99 (n : Nat) (zrec47 : Int → Int → Int → Int → ZM → Option (Int × ZM)) (x1 : Int) (x2 : Int) (x4 : Int) (s0 : Int) (M : ZM) : Option (Int × ZM) :=
  if s0 = 0 then (match zF85 n x4 M with | some (v24, M25) => (if v24 = 0 then (zJ86_149 n zrec47 x1 x2 s0 x4 M25) else (if x4 < 0 ∨ 320 ≤ x4 then (none) else (if x1 < 0 ∨ 320 ≤ x1 then (none) else (if (M25.1 105 (Int.toNat x4)) = (M25.1 105 (Int.toNat x1)) then (zJ86_129 n zrec47 x1 x2 s0 x4 M25) else (zJ86_149 n zrec47 x1 x2 s0 x4 M25))))) | none => none) else (zJ86_149 n zrec47 x1 x2 s0 x4 M)
set_option maxRecDepth 100000 in
set_option maxHeartbeats 4000000 in
theorem zJ86_99_r (n : Nat) (rec47 : Int32 → Int32 → Int32 → Int32 → Mem → Option (Int32 × Mem)) (zrec47 : Int → Int → Int → Int → ZM → Option (Int × ZM)) (hrec47 : ∀ {Y1 : Int32} {y1 : Int} (_ : rp Y1 y1) {Y2 : Int32} {y2 : Int} (_ : rp Y2 y2) {Y3 : Int32} {y3 : Int} (_ : rp Y3 y3) {Y4 : Int32} {y4 : Int} (_ : rp Y4 y4) {M : Mem} {m : ZM} (_ : rm M m) {r : Int} {m' : ZM} (_ : zrec47 y1 y2 y3 y4 m = some (r, m')), sI (rec47 Y1 Y2 Y3 Y4 M) r m') {X1_ : Int32} {x1 : Int} (hx1 : rp X1_ x1) {X2_ : Int32} {x2 : Int} (hx2 : rp X2_ x2) {X4_ : Int32} {x4 : Int} (hx4 : rp X4_ x4) {S0_ : Int32} {s0 : Int} (hs0 : rp S0_ s0) {M_ : Mem} {M : ZM} (gM : rm M_ M) {r : Int} {m' : ZM} (h : zJ86_99 n zrec47 x1 x2 x4 s0 M = some (r, m')) : sI (J86_99 n rec47 X1_ X2_ X4_ S0_ M_) r m' := by
  unfold zJ86_99 at h
  unfold J86_99
  by_cases q1 : s0 = 0
  · rw [if_pos q1] at h
    rw [if_pos ((rp_eq hs0 (show rp 0 0 from rfl)).mpr q1)]
    cases hc2 : zF85 n x4 M with
    | none => rw [hc2] at h; cases h
    | some w =>
      obtain ⟨v24, M25⟩ := w
      rw [hc2] at h
      dsimp only at h
      obtain ⟨V24, NM25, ehc2, hv24, gM25⟩ := zF85_r n hx4 gM hc2
      rw [ehc2]
      dsimp only
      by_cases q3 : v24 = 0
      · rw [if_pos q3] at h
        rw [if_pos ((rp_eq hv24 (show rp 0 0 from rfl)).mpr q3)]
        exact zJ86_149_r n _ _ hrec47 hx1 hx2 hs0 hx4 gM25 h
      · rw [if_neg q3] at h
        rw [if_neg (fun z => q3 ((rp_eq hv24 (show rp 0 0 from rfl)).mp z))]
        by_cases q4 : x4 < 0 ∨ 320 ≤ x4
        · rw [if_pos q4] at h
          rw [if_pos ((rp_ob hx4 320).mpr q4)]
          cases h
        · rw [if_neg q4] at h
          rw [if_neg (fun z => q4 ((rp_ob hx4 320).mp z))]
          by_cases q5 : x1 < 0 ∨ 320 ≤ x1
          · rw [if_pos q5] at h
            rw [if_pos ((rp_ob hx1 320).mpr q5)]
            cases h
          · rw [if_neg q5] at h
            rw [if_neg (fun z => q5 ((rp_ob hx1 320).mp z))]
            by_cases q6 : (M25.1 105 (Int.toNat x4)) = (M25.1 105 (Int.toNat x1))
            · rw [if_pos q6] at h
              rw [if_pos ((rp_eq (rm_rdx gM25 105 hx4) (rm_rdx gM25 105 hx1)).mpr q6)]
              exact zJ86_129_r n _ _ hrec47 hx1 hx2 hs0 hx4 gM25 h
            · rw [if_neg q6] at h
              rw [if_neg (fun z => q6 ((rp_eq (rm_rdx gM25 105 hx4) (rm_rdx gM25 105 hx1)).mp z))]
              exact zJ86_149_r n _ _ hrec47 hx1 hx2 hs0 hx4 gM25 h
  · rw [if_neg q1] at h
    rw [if_neg (fun z => q1 ((rp_eq hs0 (show rp 0 0 from rfl)).mp z))]
    exact zJ86_149_r n _ _ hrec47 hx1 hx2 hs0 hx4 gM h
def zJ86_98 (n : Nat) (zrec47 : Int → Int → Int → Int → ZM → Option (Int × ZM)) (x1 : Int) (x2 : Int) (x3 : Int) (x4 : Int) (M : ZM) : Option (Int × ZM) :=
  zJ86_99 n zrec47 x1 x2 x4 x3 M
set_option maxRecDepth 100000 in
set_option maxHeartbeats 4000000 in
theorem zJ86_98_r (n : Nat) (rec47 : Int32 → Int32 → Int32 → Int32 → Mem → Option (Int32 × Mem)) (zrec47 : Int → Int → Int → Int → ZM → Option (Int × ZM)) (hrec47 : ∀ {Y1 : Int32} {y1 : Int} (_ : rp Y1 y1) {Y2 : Int32} {y2 : Int} (_ : rp Y2 y2) {Y3 : Int32} {y3 : Int} (_ : rp Y3 y3) {Y4 : Int32} {y4 : Int} (_ : rp Y4 y4) {M : Mem} {m : ZM} (_ : rm M m) {r : Int} {m' : ZM} (_ : zrec47 y1 y2 y3 y4 m = some (r, m')), sI (rec47 Y1 Y2 Y3 Y4 M) r m') {X1_ : Int32} {x1 : Int} (hx1 : rp X1_ x1) {X2_ : Int32} {x2 : Int} (hx2 : rp X2_ x2) {X3_ : Int32} {x3 : Int} (hx3 : rp X3_ x3) {X4_ : Int32} {x4 : Int} (hx4 : rp X4_ x4) {M_ : Mem} {M : ZM} (gM : rm M_ M) {r : Int} {m' : ZM} (h : zJ86_98 n zrec47 x1 x2 x3 x4 M = some (r, m')) : sI (J86_98 n rec47 X1_ X2_ X3_ X4_ M_) r m' := by
  unfold zJ86_98 at h
  unfold J86_98
  exact zJ86_99_r n _ _ hrec47 hx1 hx2 hx4 hx3 gM h
def zJ86_92 (n : Nat) (zrec47 : Int → Int → Int → Int → ZM → Option (Int × ZM)) (x1 : Int) (x2 : Int) (x3 : Int) (x4 : Int) (M : ZM) : Option (Int × ZM) :=
  if rg (x3 - 1) then (zJ86_99 n zrec47 x1 x2 x4 (x3 - 1) M) else none
set_option maxRecDepth 100000 in
set_option maxHeartbeats 4000000 in
theorem zJ86_92_r (n : Nat) (rec47 : Int32 → Int32 → Int32 → Int32 → Mem → Option (Int32 × Mem)) (zrec47 : Int → Int → Int → Int → ZM → Option (Int × ZM)) (hrec47 : ∀ {Y1 : Int32} {y1 : Int} (_ : rp Y1 y1) {Y2 : Int32} {y2 : Int} (_ : rp Y2 y2) {Y3 : Int32} {y3 : Int} (_ : rp Y3 y3) {Y4 : Int32} {y4 : Int} (_ : rp Y4 y4) {M : Mem} {m : ZM} (_ : rm M m) {r : Int} {m' : ZM} (_ : zrec47 y1 y2 y3 y4 m = some (r, m')), sI (rec47 Y1 Y2 Y3 Y4 M) r m') {X1_ : Int32} {x1 : Int} (hx1 : rp X1_ x1) {X2_ : Int32} {x2 : Int} (hx2 : rp X2_ x2) {X3_ : Int32} {x3 : Int} (hx3 : rp X3_ x3) {X4_ : Int32} {x4 : Int} (hx4 : rp X4_ x4) {M_ : Mem} {M : ZM} (gM : rm M_ M) {r : Int} {m' : ZM} (h : zJ86_92 n zrec47 x1 x2 x3 x4 M = some (r, m')) : sI (J86_92 n rec47 X1_ X2_ X3_ X4_ M_) r m' := by
  unfold zJ86_92 at h
  unfold J86_92
  by_cases w1 : rg (x3 - 1)
  · rw [if_pos w1] at h
    exact zJ86_99_r n _ _ hrec47 hx1 hx2 hx4 (rp_sub (rp_iz hx3) (rp_iz (show rp 1 1 from rfl)) w1) gM h
  · rw [if_neg w1] at h
    cases h
def zJ86_75 (n : Nat) (zrec47 : Int → Int → Int → Int → ZM → Option (Int × ZM)) (x1 : Int) (x2 : Int) (x3 : Int) (x4 : Int) (M : ZM) : Option (Int × ZM) :=
  if x4 < 0 ∨ 320 ≤ x4 then (none) else (match zF21 n (M.1 105 (Int.toNat x4)) M with | some (v19, M20) => (if v19 = 0 then (zJ86_98 n zrec47 x1 x2 x3 x4 M20) else (if x3 ≤ 0 then (zJ86_98 n zrec47 x1 x2 x3 x4 M20) else (zJ86_92 n zrec47 x1 x2 x3 x4 M20))) | none => none)
set_option maxRecDepth 100000 in
set_option maxHeartbeats 4000000 in
theorem zJ86_75_r (n : Nat) (rec47 : Int32 → Int32 → Int32 → Int32 → Mem → Option (Int32 × Mem)) (zrec47 : Int → Int → Int → Int → ZM → Option (Int × ZM)) (hrec47 : ∀ {Y1 : Int32} {y1 : Int} (_ : rp Y1 y1) {Y2 : Int32} {y2 : Int} (_ : rp Y2 y2) {Y3 : Int32} {y3 : Int} (_ : rp Y3 y3) {Y4 : Int32} {y4 : Int} (_ : rp Y4 y4) {M : Mem} {m : ZM} (_ : rm M m) {r : Int} {m' : ZM} (_ : zrec47 y1 y2 y3 y4 m = some (r, m')), sI (rec47 Y1 Y2 Y3 Y4 M) r m') {X1_ : Int32} {x1 : Int} (hx1 : rp X1_ x1) {X2_ : Int32} {x2 : Int} (hx2 : rp X2_ x2) {X3_ : Int32} {x3 : Int} (hx3 : rp X3_ x3) {X4_ : Int32} {x4 : Int} (hx4 : rp X4_ x4) {M_ : Mem} {M : ZM} (gM : rm M_ M) {r : Int} {m' : ZM} (h : zJ86_75 n zrec47 x1 x2 x3 x4 M = some (r, m')) : sI (J86_75 n rec47 X1_ X2_ X3_ X4_ M_) r m' := by
  unfold zJ86_75 at h
  unfold J86_75
  by_cases q1 : x4 < 0 ∨ 320 ≤ x4
  · rw [if_pos q1] at h
    rw [if_pos ((rp_ob hx4 320).mpr q1)]
    cases h
  · rw [if_neg q1] at h
    rw [if_neg (fun z => q1 ((rp_ob hx4 320).mp z))]
    cases hc2 : zF21 n (M.1 105 (Int.toNat x4)) M with
    | none => rw [hc2] at h; cases h
    | some w =>
      obtain ⟨v19, M20⟩ := w
      rw [hc2] at h
      dsimp only at h
      obtain ⟨V19, NM20, ehc2, hv19, gM20⟩ := zF21_r n (rm_rdx gM 105 hx4) gM hc2
      rw [ehc2]
      dsimp only
      by_cases q3 : v19 = 0
      · rw [if_pos q3] at h
        rw [if_pos ((rp_eq hv19 (show rp 0 0 from rfl)).mpr q3)]
        exact zJ86_98_r n _ _ hrec47 hx1 hx2 hx3 hx4 gM20 h
      · rw [if_neg q3] at h
        rw [if_neg (fun z => q3 ((rp_eq hv19 (show rp 0 0 from rfl)).mp z))]
        by_cases q4 : x3 ≤ 0
        · rw [if_pos q4] at h
          rw [if_pos ((rp_le hx3 (show rp 0 0 from rfl)).mpr q4)]
          exact zJ86_98_r n _ _ hrec47 hx1 hx2 hx3 hx4 gM20 h
        · rw [if_neg q4] at h
          rw [if_neg (fun z => q4 ((rp_le hx3 (show rp 0 0 from rfl)).mp z))]
          exact zJ86_92_r n _ _ hrec47 hx1 hx2 hx3 hx4 gM20 h
def zJ86_69 (n : Nat) (zrec47 : Int → Int → Int → Int → ZM → Option (Int × ZM)) (x1 : Int) (x2 : Int) (x3 : Int) (x4 : Int) (M : ZM) : Option (Int × ZM) :=
  if rg (x3 + 1) then (zJ86_99 n zrec47 x1 x2 x4 (x3 + 1) M) else none
set_option maxRecDepth 100000 in
set_option maxHeartbeats 4000000 in
theorem zJ86_69_r (n : Nat) (rec47 : Int32 → Int32 → Int32 → Int32 → Mem → Option (Int32 × Mem)) (zrec47 : Int → Int → Int → Int → ZM → Option (Int × ZM)) (hrec47 : ∀ {Y1 : Int32} {y1 : Int} (_ : rp Y1 y1) {Y2 : Int32} {y2 : Int} (_ : rp Y2 y2) {Y3 : Int32} {y3 : Int} (_ : rp Y3 y3) {Y4 : Int32} {y4 : Int} (_ : rp Y4 y4) {M : Mem} {m : ZM} (_ : rm M m) {r : Int} {m' : ZM} (_ : zrec47 y1 y2 y3 y4 m = some (r, m')), sI (rec47 Y1 Y2 Y3 Y4 M) r m') {X1_ : Int32} {x1 : Int} (hx1 : rp X1_ x1) {X2_ : Int32} {x2 : Int} (hx2 : rp X2_ x2) {X3_ : Int32} {x3 : Int} (hx3 : rp X3_ x3) {X4_ : Int32} {x4 : Int} (hx4 : rp X4_ x4) {M_ : Mem} {M : ZM} (gM : rm M_ M) {r : Int} {m' : ZM} (h : zJ86_69 n zrec47 x1 x2 x3 x4 M = some (r, m')) : sI (J86_69 n rec47 X1_ X2_ X3_ X4_ M_) r m' := by
  unfold zJ86_69 at h
  unfold J86_69
  by_cases w1 : rg (x3 + 1)
  · rw [if_pos w1] at h
    exact zJ86_99_r n _ _ hrec47 hx1 hx2 hx4 (rp_add (rp_iz hx3) (rp_iz (show rp 1 1 from rfl)) w1) gM h
  · rw [if_neg w1] at h
    cases h
def zL86_47 (n : Nat) : Nat → Int → Int → Int → Int → ZM → Option (Int × ZM)
  | 0, _, _, _, _, _ => none
  | k + 1, x1, x2, x3, x4, M => if x4 < 0 then (zJ86_170 n x2 M) else (if 0 ≤ x2 then (zJ86_170 n x2 M) else (if x4 < 0 ∨ 320 ≤ x4 then (none) else (match zF22 n (M.1 105 (Int.toNat x4)) M with | some (v14, M15) => (if v14 = 0 then (zJ86_75 n (zL86_47 n k) x1 x2 x3 x4 M15) else (zJ86_69 n (zL86_47 n k) x1 x2 x3 x4 M15)) | none => none)))
set_option maxRecDepth 100000 in
set_option maxHeartbeats 4000000 in
theorem zL86_47_r (n : Nat) : ∀ (k : Nat) {X1_ : Int32} {x1 : Int} (hx1 : rp X1_ x1) {X2_ : Int32} {x2 : Int} (hx2 : rp X2_ x2) {X3_ : Int32} {x3 : Int} (hx3 : rp X3_ x3) {X4_ : Int32} {x4 : Int} (hx4 : rp X4_ x4) {M_ : Mem} {M : ZM} (gM : rm M_ M) {r : Int} {m' : ZM} (_ : zL86_47 n k x1 x2 x3 x4 M = some (r, m')), sI (L86_47 n k X1_ X2_ X3_ X4_ M_) r m' := by
  intro k
  induction k with
  | zero => intro X1_ x1 hx1 X2_ x2 hx2 X3_ x3 hx3 X4_ x4 hx4 M_ M gM r m' h; cases h
  | succ k ih =>
    intro X1_ x1 hx1 X2_ x2 hx2 X3_ x3 hx3 X4_ x4 hx4 M_ M gM r m' h
    rw [zL86_47] at h
    rw [L86_47]
    by_cases q1 : x4 < 0
    · rw [if_pos q1] at h
      rw [if_pos ((rp_lt hx4 (show rp 0 0 from rfl)).mpr q1)]
      exact zJ86_170_r n hx2 gM h
    · rw [if_neg q1] at h
      rw [if_neg (fun z => q1 ((rp_lt hx4 (show rp 0 0 from rfl)).mp z))]
      by_cases q2 : 0 ≤ x2
      · rw [if_pos q2] at h
        rw [if_pos ((rp_le (show rp 0 0 from rfl) hx2).mpr q2)]
        exact zJ86_170_r n hx2 gM h
      · rw [if_neg q2] at h
        rw [if_neg (fun z => q2 ((rp_le (show rp 0 0 from rfl) hx2).mp z))]
        by_cases q3 : x4 < 0 ∨ 320 ≤ x4
        · rw [if_pos q3] at h
          rw [if_pos ((rp_ob hx4 320).mpr q3)]
          cases h
        · rw [if_neg q3] at h
          rw [if_neg (fun z => q3 ((rp_ob hx4 320).mp z))]
          cases hc4 : zF22 n (M.1 105 (Int.toNat x4)) M with
          | none => rw [hc4] at h; cases h
          | some w =>
            obtain ⟨v14, M15⟩ := w
            rw [hc4] at h
            dsimp only at h
            obtain ⟨V14, NM15, ehc4, hv14, gM15⟩ := zF22_r n (rm_rdx gM 105 hx4) gM hc4
            rw [ehc4]
            dsimp only
            by_cases q5 : v14 = 0
            · rw [if_pos q5] at h
              rw [if_pos ((rp_eq hv14 (show rp 0 0 from rfl)).mpr q5)]
              exact zJ86_75_r n _ _ ih hx1 hx2 hx3 hx4 gM15 h
            · rw [if_neg q5] at h
              rw [if_neg (fun z => q5 ((rp_eq hv14 (show rp 0 0 from rfl)).mp z))]
              exact zJ86_69_r n _ _ ih hx1 hx2 hx3 hx4 gM15 h
def zJ86_28 (n : Nat) (x1 : Int) (M : ZM) : Option (Int × ZM) :=
  match zF85 n x1 M with | some (v7, M8) => (if v7 = 0 then (if rg (x1 - 1) then (zL86_47 n n x1 (-1) 0 (x1 - 1) M8) else none) else (some (x1, M8))) | none => none
set_option maxRecDepth 100000 in
set_option maxHeartbeats 4000000 in
theorem zJ86_28_r (n : Nat) {X1_ : Int32} {x1 : Int} (hx1 : rp X1_ x1) {M_ : Mem} {M : ZM} (gM : rm M_ M) {r : Int} {m' : ZM} (h : zJ86_28 n x1 M = some (r, m')) : sI (J86_28 n X1_ M_) r m' := by
  unfold zJ86_28 at h
  unfold J86_28
  cases hc1 : zF85 n x1 M with
  | none => rw [hc1] at h; cases h
  | some w =>
    obtain ⟨v7, M8⟩ := w
    rw [hc1] at h
    dsimp only at h
    obtain ⟨V7, NM8, ehc1, hv7, gM8⟩ := zF85_r n hx1 gM hc1
    rw [ehc1]
    dsimp only
    by_cases q2 : v7 = 0
    · rw [if_pos q2] at h
      rw [if_pos ((rp_eq hv7 (show rp 0 0 from rfl)).mpr q2)]
      by_cases w3 : rg (x1 - 1)
      · rw [if_pos w3] at h
        exact zL86_47_r n n hx1 (show rp (-1) (-1) from rfl) (show rp 0 0 from rfl) (rp_sub (rp_iz hx1) (rp_iz (show rp 1 1 from rfl)) w3) gM8 h
      · rw [if_neg w3] at h
        cases h
    · rw [if_neg q2] at h
      rw [if_neg (fun z => q2 ((rp_eq hv7 (show rp 0 0 from rfl)).mp z))]
      obtain ⟨rfl, rfl⟩ := Prod.mk.inj (Option.some.inj h)
      exact ⟨_, _, rfl, hx1, gM8⟩
/-- ArmExpanderModel.means -/
def zF86 (n : Nat) (a0 : Int) (M : ZM) : Option (Int × ZM) :=
  if rg ((M.1 83 37) - 1) then (match zF19 n a0 0 ((M.1 83 37) - 1) M with | some (v1, M2) => (if v1 = 0 then (zJ86_26 n M2) else (if a0 < 0 ∨ 320 ≤ a0 then (none) else (if 1000 ≤ (M2.1 105 (Int.toNat a0)) then (zJ86_28 n a0 M2) else (zJ86_26 n M2)))) | none => none) else none
set_option maxRecDepth 100000 in
set_option maxHeartbeats 4000000 in
theorem zF86_r (n : Nat) {A0_ : Int32} {a0 : Int} (ha0 : rp A0_ a0) {M_ : Mem} {M : ZM} (gM : rm M_ M) {r : Int} {m' : ZM} (h : zF86 n a0 M = some (r, m')) : sI (F86 n A0_ M_) r m' := by
  unfold zF86 at h
  unfold F86
  by_cases w1 : rg ((M.1 83 37) - 1)
  · rw [if_pos w1] at h
    cases hc2 : zF19 n a0 0 ((M.1 83 37) - 1) M with
    | none => rw [hc2] at h; cases h
    | some w =>
      obtain ⟨v1, M2⟩ := w
      rw [hc2] at h
      dsimp only at h
      obtain ⟨V1, NM2, ehc2, hv1, gM2⟩ := zF19_r n ha0 (show rp 0 0 from rfl) (rp_sub (rp_iz (rm_rd gM 83 37)) (rp_iz (show rp 1 1 from rfl)) w1) gM hc2
      rw [ehc2]
      dsimp only
      by_cases q3 : v1 = 0
      · rw [if_pos q3] at h
        rw [if_pos ((rp_eq hv1 (show rp 0 0 from rfl)).mpr q3)]
        exact zJ86_26_r n gM2 h
      · rw [if_neg q3] at h
        rw [if_neg (fun z => q3 ((rp_eq hv1 (show rp 0 0 from rfl)).mp z))]
        by_cases q4 : a0 < 0 ∨ 320 ≤ a0
        · rw [if_pos q4] at h
          rw [if_pos ((rp_ob ha0 320).mpr q4)]
          cases h
        · rw [if_neg q4] at h
          rw [if_neg (fun z => q4 ((rp_ob ha0 320).mp z))]
          by_cases q5 : 1000 ≤ (M2.1 105 (Int.toNat a0))
          · rw [if_pos q5] at h
            rw [if_pos ((rp_le (show rp 1000 1000 from rfl) (rm_rdx gM2 105 ha0)).mpr q5)]
            exact zJ86_28_r n ha0 gM2 h
          · rw [if_neg q5] at h
            rw [if_neg (fun z => q5 ((rp_le (show rp 1000 1000 from rfl) (rm_rdx gM2 105 ha0)).mp z))]
            exact zJ86_26_r n gM2 h
  · rw [if_neg w1] at h
    cases h
/-- ArmExpanderModel.expansions -/
def zF87 (n : Nat) (M : ZM) : Option (Int × ZM) :=
  some ((M.1 83 38), M)
set_option maxRecDepth 100000 in
set_option maxHeartbeats 4000000 in
theorem zF87_r (n : Nat) {M_ : Mem} {M : ZM} (gM : rm M_ M) {r : Int} {m' : ZM} (h : zF87 n M = some (r, m')) : sI (F87 n M_) r m' := by
  unfold zF87 at h
  unfold F87
  obtain ⟨rfl, rfl⟩ := Prod.mk.inj (Option.some.inj h)
  exact ⟨_, _, rfl, (rm_rd gM 83 38), gM⟩
def zJ88_22 (n : Nat) (s0 : Int) (M : ZM) : Option (Int × ZM) :=
  some (s0, M)
set_option maxRecDepth 100000 in
set_option maxHeartbeats 4000000 in
theorem zJ88_22_r (n : Nat) {S0_ : Int32} {s0 : Int} (hs0 : rp S0_ s0) {M_ : Mem} {M : ZM} (gM : rm M_ M) {r : Int} {m' : ZM} (h : zJ88_22 n s0 M = some (r, m')) : sI (J88_22 n S0_ M_) r m' := by
  unfold zJ88_22 at h
  unfold J88_22
  obtain ⟨rfl, rfl⟩ := Prod.mk.inj (Option.some.inj h)
  exact ⟨_, _, rfl, hs0, gM⟩
/-- ArmExpanderModel.used -/
def zF88 (n : Nat) (a0 : Int) (M : ZM) : Option (Int × ZM) :=
  match zF19 n a0 1 (M.1 83 38) M with | some (v1, M2) => (if v1 = 0 then (zJ88_22 n (-1) M2) else (if a0 < 0 ∨ 12 ≤ a0 then (none) else (zJ88_22 n (M2.1 107 (Int.toNat a0)) M2))) | none => none
set_option maxRecDepth 100000 in
set_option maxHeartbeats 4000000 in
theorem zF88_r (n : Nat) {A0_ : Int32} {a0 : Int} (ha0 : rp A0_ a0) {M_ : Mem} {M : ZM} (gM : rm M_ M) {r : Int} {m' : ZM} (h : zF88 n a0 M = some (r, m')) : sI (F88 n A0_ M_) r m' := by
  unfold zF88 at h
  unfold F88
  cases hc1 : zF19 n a0 1 (M.1 83 38) M with
  | none => rw [hc1] at h; cases h
  | some w =>
    obtain ⟨v1, M2⟩ := w
    rw [hc1] at h
    dsimp only at h
    obtain ⟨V1, NM2, ehc1, hv1, gM2⟩ := zF19_r n ha0 (show rp 1 1 from rfl) (rm_rd gM 83 38) gM hc1
    rw [ehc1]
    dsimp only
    by_cases q2 : v1 = 0
    · rw [if_pos q2] at h
      rw [if_pos ((rp_eq hv1 (show rp 0 0 from rfl)).mpr q2)]
      exact zJ88_22_r n (show rp (-1) (-1) from rfl) gM2 h
    · rw [if_neg q2] at h
      rw [if_neg (fun z => q2 ((rp_eq hv1 (show rp 0 0 from rfl)).mp z))]
      by_cases q3 : a0 < 0 ∨ 12 ≤ a0
      · rw [if_pos q3] at h
        rw [if_pos ((rp_ob ha0 12).mpr q3)]
        cases h
      · rw [if_neg q3] at h
        rw [if_neg (fun z => q3 ((rp_ob ha0 12).mp z))]
        exact zJ88_22_r n (rm_rdx gM2 107 ha0) gM2 h
/-- ArmExpander$Definition.clear -/
def zF101 (n : Nat) (b : Nat) (M : ZM) : Option (Unit × ZM) :=
  zlet (z_i M b 6 0) (fun M1 => zlet (z_i M1 b 7 0) (fun M2 => some ((), M2)))
set_option maxRecDepth 100000 in
set_option maxHeartbeats 4000000 in
theorem zF101_r (n : Nat) (b : Nat) {M_ : Mem} {M : ZM} (gM : rm M_ M) {r : Unit} {m' : ZM} (h : zF101 n b M = some (r, m')) : sU (F101 n b M_) m' := by
  unfold zF101 at h
  unfold F101
  have gM1 : rm (m_i M_ b 6 (0 : Int32)) (z_i M b 6 0) := rm_i gM b 6 (show rp 0 0 from rfl)
  rw [mlet]
  rw [zlet] at h
  generalize z_i M b 6 0 = M1 at h gM1
  generalize m_i M_ b 6 (0 : Int32) = NM1 at gM1 ⊢
  have gM2 : rm (m_i NM1 b 7 (0 : Int32)) (z_i M1 b 7 0) := rm_i gM1 b 7 (show rp 0 0 from rfl)
  rw [mlet]
  rw [zlet] at h
  generalize z_i M1 b 7 0 = M2 at h gM2
  generalize m_i NM1 b 7 (0 : Int32) = NM2 at gM2 ⊢
  obtain ⟨_, rfl⟩ := Prod.mk.inj (Option.some.inj h)
  exact ⟨_, rfl, gM2⟩
def zJ102_69 (n : Nat) (b : Nat) (M : ZM) : Option (Unit × ZM) :=
  some ((), M)
set_option maxRecDepth 100000 in
set_option maxHeartbeats 4000000 in
theorem zJ102_69_r (n : Nat) (b : Nat) {M_ : Mem} {M : ZM} (gM : rm M_ M) {r : Unit} {m' : ZM} (h : zJ102_69 n b M = some (r, m')) : sU (J102_69 n b M_) m' := by
  unfold zJ102_69 at h
  unfold J102_69
  obtain ⟨_, rfl⟩ := Prod.mk.inj (Option.some.inj h)
  exact ⟨_, rfl, gM⟩
def zJ102_59 (n : Nat) (b : Nat) (M : ZM) : Option (Unit × ZM) :=
  if rg ((M.1 b 6) + 1) then (zlet (z_i M b 6 ((M.1 b 6) + 1)) (fun M12 => zJ102_69 n b M12)) else none
set_option maxRecDepth 100000 in
set_option maxHeartbeats 4000000 in
theorem zJ102_59_r (n : Nat) (b : Nat) {M_ : Mem} {M : ZM} (gM : rm M_ M) {r : Unit} {m' : ZM} (h : zJ102_59 n b M = some (r, m')) : sU (J102_59 n b M_) m' := by
  unfold zJ102_59 at h
  unfold J102_59
  by_cases w1 : rg ((M.1 b 6) + 1)
  · rw [if_pos w1] at h
    have gM12 : rm (m_i M_ b 6 ((M_.1 b 6) + (1 : Int32))) (z_i M b 6 ((M.1 b 6) + 1)) := rm_i gM b 6 (rp_add (rp_iz (rm_rd gM b 6)) (rp_iz (show rp 1 1 from rfl)) w1)
    rw [mlet]
    rw [zlet] at h
    generalize z_i M b 6 ((M.1 b 6) + 1) = M12 at h gM12
    generalize m_i M_ b 6 ((M_.1 b 6) + (1 : Int32)) = NM12 at gM12 ⊢
    exact zJ102_69_r n b gM12 h
  · rw [if_neg w1] at h
    cases h
def zJ102_39 (n : Nat) (b : Nat) (M : ZM) : Option (Unit × ZM) :=
  if (M.1 b 6) < 0 ∨ 120 ≤ (M.1 b 6) then (none) else (zlet (z_i M (b + 4) (Int.toNat (M.1 b 6)) (-1)) (fun M9 => if (M9.1 b 6) < 0 ∨ 120 ≤ (M9.1 b 6) then (none) else (zlet (z_i M9 (b + 5) (Int.toNat (M9.1 b 6)) (-1)) (fun M11 => zJ102_59 n b M11))))
set_option maxRecDepth 100000 in
set_option maxHeartbeats 4000000 in
theorem zJ102_39_r (n : Nat) (b : Nat) {M_ : Mem} {M : ZM} (gM : rm M_ M) {r : Unit} {m' : ZM} (h : zJ102_39 n b M = some (r, m')) : sU (J102_39 n b M_) m' := by
  unfold zJ102_39 at h
  unfold J102_39
  by_cases q1 : (M.1 b 6) < 0 ∨ 120 ≤ (M.1 b 6)
  · rw [if_pos q1] at h
    rw [if_pos ((rp_ob (rm_rd gM b 6) 120).mpr q1)]
    cases h
  · rw [if_neg q1] at h
    rw [if_neg (fun z => q1 ((rp_ob (rm_rd gM b 6) 120).mp z))]
    have gM9 : rm (m_i M_ (b + 4) ((M_.1 b 6)).toNatClampNeg (-1 : Int32)) (z_i M (b + 4) (Int.toNat (M.1 b 6)) (-1)) := rm_ix gM (b + 4) (rm_rd gM b 6) (show rp (-1) (-1) from rfl)
    rw [mlet]
    rw [zlet] at h
    generalize z_i M (b + 4) (Int.toNat (M.1 b 6)) (-1) = M9 at h gM9
    generalize m_i M_ (b + 4) ((M_.1 b 6)).toNatClampNeg (-1 : Int32) = NM9 at gM9 ⊢
    by_cases q2 : (M9.1 b 6) < 0 ∨ 120 ≤ (M9.1 b 6)
    · rw [if_pos q2] at h
      rw [if_pos ((rp_ob (rm_rd gM9 b 6) 120).mpr q2)]
      cases h
    · rw [if_neg q2] at h
      rw [if_neg (fun z => q2 ((rp_ob (rm_rd gM9 b 6) 120).mp z))]
      have gM11 : rm (m_i NM9 (b + 5) ((NM9.1 b 6)).toNatClampNeg (-1 : Int32)) (z_i M9 (b + 5) (Int.toNat (M9.1 b 6)) (-1)) := rm_ix gM9 (b + 5) (rm_rd gM9 b 6) (show rp (-1) (-1) from rfl)
      rw [mlet]
      rw [zlet] at h
      generalize z_i M9 (b + 5) (Int.toNat (M9.1 b 6)) (-1) = M11 at h gM11
      generalize m_i NM9 (b + 5) ((NM9.1 b 6)).toNatClampNeg (-1 : Int32) = NM11 at gM11 ⊢
      exact zJ102_59_r n b gM11 h
def zJ102_19 (n : Nat) (b : Nat) (x2 : Int) (M : ZM) : Option (Unit × ZM) :=
  if (M.1 b 6) < 0 ∨ 120 ≤ (M.1 b 6) then (none) else (zlet (z_i M (b + 2) (Int.toNat (M.1 b 6)) (-1)) (fun M5 => if (M5.1 b 6) < 0 ∨ 120 ≤ (M5.1 b 6) then (none) else (zlet (z_i M5 (b + 3) (Int.toNat (M5.1 b 6)) x2) (fun M7 => zJ102_39 n b M7))))
set_option maxRecDepth 100000 in
set_option maxHeartbeats 4000000 in
theorem zJ102_19_r (n : Nat) (b : Nat) {X2_ : Int32} {x2 : Int} (hx2 : rp X2_ x2) {M_ : Mem} {M : ZM} (gM : rm M_ M) {r : Unit} {m' : ZM} (h : zJ102_19 n b x2 M = some (r, m')) : sU (J102_19 n b X2_ M_) m' := by
  unfold zJ102_19 at h
  unfold J102_19
  by_cases q1 : (M.1 b 6) < 0 ∨ 120 ≤ (M.1 b 6)
  · rw [if_pos q1] at h
    rw [if_pos ((rp_ob (rm_rd gM b 6) 120).mpr q1)]
    cases h
  · rw [if_neg q1] at h
    rw [if_neg (fun z => q1 ((rp_ob (rm_rd gM b 6) 120).mp z))]
    have gM5 : rm (m_i M_ (b + 2) ((M_.1 b 6)).toNatClampNeg (-1 : Int32)) (z_i M (b + 2) (Int.toNat (M.1 b 6)) (-1)) := rm_ix gM (b + 2) (rm_rd gM b 6) (show rp (-1) (-1) from rfl)
    rw [mlet]
    rw [zlet] at h
    generalize z_i M (b + 2) (Int.toNat (M.1 b 6)) (-1) = M5 at h gM5
    generalize m_i M_ (b + 2) ((M_.1 b 6)).toNatClampNeg (-1 : Int32) = NM5 at gM5 ⊢
    by_cases q2 : (M5.1 b 6) < 0 ∨ 120 ≤ (M5.1 b 6)
    · rw [if_pos q2] at h
      rw [if_pos ((rp_ob (rm_rd gM5 b 6) 120).mpr q2)]
      cases h
    · rw [if_neg q2] at h
      rw [if_neg (fun z => q2 ((rp_ob (rm_rd gM5 b 6) 120).mp z))]
      have gM7 : rm (m_i NM5 (b + 3) ((NM5.1 b 6)).toNatClampNeg X2_) (z_i M5 (b + 3) (Int.toNat (M5.1 b 6)) x2) := rm_ix gM5 (b + 3) (rm_rd gM5 b 6) hx2
      rw [mlet]
      rw [zlet] at h
      generalize z_i M5 (b + 3) (Int.toNat (M5.1 b 6)) x2 = M7 at h gM7
      generalize m_i NM5 (b + 3) ((NM5.1 b 6)).toNatClampNeg X2_ = NM7 at gM7 ⊢
      exact zJ102_39_r n b gM7 h
/-- ArmExpander$Definition.append -/
def zF102 (n : Nat) (b : Nat) (a0 : Int) (a1 : Int) (M : ZM) : Option (Unit × ZM) :=
  if 120 ≤ (M.1 b 6) then (zJ102_69 n b M) else (if (M.1 b 6) < 0 ∨ 120 ≤ (M.1 b 6) then (none) else (zlet (z_i M (b + 1) (Int.toNat (M.1 b 6)) a0) (fun M3 => zJ102_19 n b a1 M3)))
set_option maxRecDepth 100000 in
set_option maxHeartbeats 4000000 in
theorem zF102_r (n : Nat) (b : Nat) {A0_ : Int32} {a0 : Int} (ha0 : rp A0_ a0) {A1_ : Int32} {a1 : Int} (ha1 : rp A1_ a1) {M_ : Mem} {M : ZM} (gM : rm M_ M) {r : Unit} {m' : ZM} (h : zF102 n b a0 a1 M = some (r, m')) : sU (F102 n b A0_ A1_ M_) m' := by
  unfold zF102 at h
  unfold F102
  by_cases q1 : 120 ≤ (M.1 b 6)
  · rw [if_pos q1] at h
    rw [if_pos ((rp_le (show rp 120 120 from rfl) (rm_rd gM b 6)).mpr q1)]
    exact zJ102_69_r n b gM h
  · rw [if_neg q1] at h
    rw [if_neg (fun z => q1 ((rp_le (show rp 120 120 from rfl) (rm_rd gM b 6)).mp z))]
    by_cases q2 : (M.1 b 6) < 0 ∨ 120 ≤ (M.1 b 6)
    · rw [if_pos q2] at h
      rw [if_pos ((rp_ob (rm_rd gM b 6) 120).mpr q2)]
      cases h
    · rw [if_neg q2] at h
      rw [if_neg (fun z => q2 ((rp_ob (rm_rd gM b 6) 120).mp z))]
      have gM3 : rm (m_i M_ (b + 1) ((M_.1 b 6)).toNatClampNeg A0_) (z_i M (b + 1) (Int.toNat (M.1 b 6)) a0) := rm_ix gM (b + 1) (rm_rd gM b 6) ha0
      rw [mlet]
      rw [zlet] at h
      generalize z_i M (b + 1) (Int.toNat (M.1 b 6)) a0 = M3 at h gM3
      generalize m_i M_ (b + 1) ((M_.1 b 6)).toNatClampNeg A0_ = NM3 at gM3 ⊢
      exact zJ102_19_r n b ha1 gM3 h
def zJ103_28 (n : Nat) (b : Nat) (M : ZM) : Option (Unit × ZM) :=
  some ((), M)
set_option maxRecDepth 100000 in
set_option maxHeartbeats 4000000 in
theorem zJ103_28_r (n : Nat) (b : Nat) {M_ : Mem} {M : ZM} (gM : rm M_ M) {r : Unit} {m' : ZM} (h : zJ103_28 n b M = some (r, m')) : sU (J103_28 n b M_) m' := by
  unfold zJ103_28 at h
  unfold J103_28
  obtain ⟨_, rfl⟩ := Prod.mk.inj (Option.some.inj h)
  exact ⟨_, rfl, gM⟩
def zJ103_18 (n : Nat) (b : Nat) (M : ZM) : Option (Unit × ZM) :=
  if rg ((M.1 b 7) + 1) then (zlet (z_i M b 7 ((M.1 b 7) + 1)) (fun M4 => zJ103_28 n b M4)) else none
set_option maxRecDepth 100000 in
set_option maxHeartbeats 4000000 in
theorem zJ103_18_r (n : Nat) (b : Nat) {M_ : Mem} {M : ZM} (gM : rm M_ M) {r : Unit} {m' : ZM} (h : zJ103_18 n b M = some (r, m')) : sU (J103_18 n b M_) m' := by
  unfold zJ103_18 at h
  unfold J103_18
  by_cases w1 : rg ((M.1 b 7) + 1)
  · rw [if_pos w1] at h
    have gM4 : rm (m_i M_ b 7 ((M_.1 b 7) + (1 : Int32))) (z_i M b 7 ((M.1 b 7) + 1)) := rm_i gM b 7 (rp_add (rp_iz (rm_rd gM b 7)) (rp_iz (show rp 1 1 from rfl)) w1)
    rw [mlet]
    rw [zlet] at h
    generalize z_i M b 7 ((M.1 b 7) + 1) = M4 at h gM4
    generalize m_i M_ b 7 ((M_.1 b 7) + (1 : Int32)) = NM4 at gM4 ⊢
    exact zJ103_28_r n b gM4 h
  · rw [if_neg w1] at h
    cases h
/-- ArmExpander$Definition.beginArm -/
def zF103 (n : Nat) (b : Nat) (a0 : Int) (M : ZM) : Option (Unit × ZM) :=
  if 3 ≤ (M.1 b 7) then (zJ103_28 n b M) else (if (M.1 b 7) < 0 ∨ 3 ≤ (M.1 b 7) then (none) else (zlet (z_i M (b + 6) (Int.toNat (M.1 b 7)) a0) (fun M3 => zJ103_18 n b M3)))
set_option maxRecDepth 100000 in
set_option maxHeartbeats 4000000 in
theorem zF103_r (n : Nat) (b : Nat) {A0_ : Int32} {a0 : Int} (ha0 : rp A0_ a0) {M_ : Mem} {M : ZM} (gM : rm M_ M) {r : Unit} {m' : ZM} (h : zF103 n b a0 M = some (r, m')) : sU (F103 n b A0_ M_) m' := by
  unfold zF103 at h
  unfold F103
  by_cases q1 : 3 ≤ (M.1 b 7)
  · rw [if_pos q1] at h
    rw [if_pos ((rp_le (show rp 3 3 from rfl) (rm_rd gM b 7)).mpr q1)]
    exact zJ103_28_r n b gM h
  · rw [if_neg q1] at h
    rw [if_neg (fun z => q1 ((rp_le (show rp 3 3 from rfl) (rm_rd gM b 7)).mp z))]
    by_cases q2 : (M.1 b 7) < 0 ∨ 3 ≤ (M.1 b 7)
    · rw [if_pos q2] at h
      rw [if_pos ((rp_ob (rm_rd gM b 7) 3).mpr q2)]
      cases h
    · rw [if_neg q2] at h
      rw [if_neg (fun z => q2 ((rp_ob (rm_rd gM b 7) 3).mp z))]
      have gM3 : rm (m_i M_ (b + 6) ((M_.1 b 7)).toNatClampNeg A0_) (z_i M (b + 6) (Int.toNat (M.1 b 7)) a0) := rm_ix gM (b + 6) (rm_rd gM b 7) ha0
      rw [mlet]
      rw [zlet] at h
      generalize z_i M (b + 6) (Int.toNat (M.1 b 7)) a0 = M3 at h gM3
      generalize m_i M_ (b + 6) ((M_.1 b 7)).toNatClampNeg A0_ = NM3 at gM3 ⊢
      exact zJ103_18_r n b gM3 h
def zJ104_38 (n : Nat) (b : Nat) (M : ZM) : Option (Unit × ZM) :=
  some ((), M)
set_option maxRecDepth 100000 in
set_option maxHeartbeats 4000000 in
theorem zJ104_38_r (n : Nat) (b : Nat) {M_ : Mem} {M : ZM} (gM : rm M_ M) {r : Unit} {m' : ZM} (h : zJ104_38 n b M = some (r, m')) : sU (J104_38 n b M_) m' := by
  unfold zJ104_38 at h
  unfold J104_38
  obtain ⟨_, rfl⟩ := Prod.mk.inj (Option.some.inj h)
  exact ⟨_, rfl, gM⟩
def zJ104_24 (n : Nat) (b : Nat) (x1 : Int) (x2 : Int) (M : ZM) : Option (Unit × ZM) :=
  if x1 < 0 ∨ 120 ≤ x1 then (none) else (zlet (z_i M (b + 2) (Int.toNat x1) x2) (fun M6 => if x2 < 0 ∨ 120 ≤ x2 then (none) else (zlet (z_i M6 (b + 2) (Int.toNat x2) x1) (fun M8 => zJ104_38 n b M8))))
set_option maxRecDepth 100000 in
set_option maxHeartbeats 4000000 in
theorem zJ104_24_r (n : Nat) (b : Nat) {X1_ : Int32} {x1 : Int} (hx1 : rp X1_ x1) {X2_ : Int32} {x2 : Int} (hx2 : rp X2_ x2) {M_ : Mem} {M : ZM} (gM : rm M_ M) {r : Unit} {m' : ZM} (h : zJ104_24 n b x1 x2 M = some (r, m')) : sU (J104_24 n b X1_ X2_ M_) m' := by
  unfold zJ104_24 at h
  unfold J104_24
  by_cases q1 : x1 < 0 ∨ 120 ≤ x1
  · rw [if_pos q1] at h
    rw [if_pos ((rp_ob hx1 120).mpr q1)]
    cases h
  · rw [if_neg q1] at h
    rw [if_neg (fun z => q1 ((rp_ob hx1 120).mp z))]
    have gM6 : rm (m_i M_ (b + 2) (X1_).toNatClampNeg X2_) (z_i M (b + 2) (Int.toNat x1) x2) := rm_ix gM (b + 2) hx1 hx2
    rw [mlet]
    rw [zlet] at h
    generalize z_i M (b + 2) (Int.toNat x1) x2 = M6 at h gM6
    generalize m_i M_ (b + 2) (X1_).toNatClampNeg X2_ = NM6 at gM6 ⊢
    by_cases q2 : x2 < 0 ∨ 120 ≤ x2
    · rw [if_pos q2] at h
      rw [if_pos ((rp_ob hx2 120).mpr q2)]
      cases h
    · rw [if_neg q2] at h
      rw [if_neg (fun z => q2 ((rp_ob hx2 120).mp z))]
      have gM8 : rm (m_i NM6 (b + 2) (X2_).toNatClampNeg X1_) (z_i M6 (b + 2) (Int.toNat x2) x1) := rm_ix gM6 (b + 2) hx2 hx1
      rw [mlet]
      rw [zlet] at h
      generalize z_i M6 (b + 2) (Int.toNat x2) x1 = M8 at h gM8
      generalize m_i NM6 (b + 2) (X2_).toNatClampNeg X1_ = NM8 at gM8 ⊢
      exact zJ104_38_r n b gM8 h
/-- ArmExpander$Definition.join -/
def zF104 (n : Nat) (b : Nat) (a0 : Int) (a1 : Int) (M : ZM) : Option (Unit × ZM) :=
  if a0 < 0 then (zJ104_38 n b M) else (if (M.1 b 6) ≤ a0 then (zJ104_38 n b M) else (if a1 < 0 then (zJ104_38 n b M) else (if (M.1 b 6) ≤ a1 then (zJ104_38 n b M) else (zJ104_24 n b a0 a1 M))))
set_option maxRecDepth 100000 in
set_option maxHeartbeats 4000000 in
theorem zF104_r (n : Nat) (b : Nat) {A0_ : Int32} {a0 : Int} (ha0 : rp A0_ a0) {A1_ : Int32} {a1 : Int} (ha1 : rp A1_ a1) {M_ : Mem} {M : ZM} (gM : rm M_ M) {r : Unit} {m' : ZM} (h : zF104 n b a0 a1 M = some (r, m')) : sU (F104 n b A0_ A1_ M_) m' := by
  unfold zF104 at h
  unfold F104
  by_cases q1 : a0 < 0
  · rw [if_pos q1] at h
    rw [if_pos ((rp_lt ha0 (show rp 0 0 from rfl)).mpr q1)]
    exact zJ104_38_r n b gM h
  · rw [if_neg q1] at h
    rw [if_neg (fun z => q1 ((rp_lt ha0 (show rp 0 0 from rfl)).mp z))]
    by_cases q2 : (M.1 b 6) ≤ a0
    · rw [if_pos q2] at h
      rw [if_pos ((rp_le (rm_rd gM b 6) ha0).mpr q2)]
      exact zJ104_38_r n b gM h
    · rw [if_neg q2] at h
      rw [if_neg (fun z => q2 ((rp_le (rm_rd gM b 6) ha0).mp z))]
      by_cases q3 : a1 < 0
      · rw [if_pos q3] at h
        rw [if_pos ((rp_lt ha1 (show rp 0 0 from rfl)).mpr q3)]
        exact zJ104_38_r n b gM h
      · rw [if_neg q3] at h
        rw [if_neg (fun z => q3 ((rp_lt ha1 (show rp 0 0 from rfl)).mp z))]
        by_cases q4 : (M.1 b 6) ≤ a1
        · rw [if_pos q4] at h
          rw [if_pos ((rp_le (rm_rd gM b 6) ha1).mpr q4)]
          exact zJ104_38_r n b gM h
        · rw [if_neg q4] at h
          rw [if_neg (fun z => q4 ((rp_le (rm_rd gM b 6) ha1).mp z))]
          exact zJ104_24_r n b ha0 ha1 gM h
def zJ105_31 (n : Nat) (b : Nat) (M : ZM) : Option (Unit × ZM) :=
  some ((), M)
set_option maxRecDepth 100000 in
set_option maxHeartbeats 4000000 in
theorem zJ105_31_r (n : Nat) (b : Nat) {M_ : Mem} {M : ZM} (gM : rm M_ M) {r : Unit} {m' : ZM} (h : zJ105_31 n b M = some (r, m')) : sU (J105_31 n b M_) m' := by
  unfold zJ105_31 at h
  unfold J105_31
  obtain ⟨_, rfl⟩ := Prod.mk.inj (Option.some.inj h)
  exact ⟨_, rfl, gM⟩
def zJ105_24 (n : Nat) (b : Nat) (x1 : Int) (x2 : Int) (M : ZM) : Option (Unit × ZM) :=
  if x1 < 0 ∨ 120 ≤ x1 then (none) else (zlet (z_i M (b + 4) (Int.toNat x1) x2) (fun M6 => zJ105_31 n b M6))
set_option maxRecDepth 100000 in
set_option maxHeartbeats 4000000 in
theorem zJ105_24_r (n : Nat) (b : Nat) {X1_ : Int32} {x1 : Int} (hx1 : rp X1_ x1) {X2_ : Int32} {x2 : Int} (hx2 : rp X2_ x2) {M_ : Mem} {M : ZM} (gM : rm M_ M) {r : Unit} {m' : ZM} (h : zJ105_24 n b x1 x2 M = some (r, m')) : sU (J105_24 n b X1_ X2_ M_) m' := by
  unfold zJ105_24 at h
  unfold J105_24
  by_cases q1 : x1 < 0 ∨ 120 ≤ x1
  · rw [if_pos q1] at h
    rw [if_pos ((rp_ob hx1 120).mpr q1)]
    cases h
  · rw [if_neg q1] at h
    rw [if_neg (fun z => q1 ((rp_ob hx1 120).mp z))]
    have gM6 : rm (m_i M_ (b + 4) (X1_).toNatClampNeg X2_) (z_i M (b + 4) (Int.toNat x1) x2) := rm_ix gM (b + 4) hx1 hx2
    rw [mlet]
    rw [zlet] at h
    generalize z_i M (b + 4) (Int.toNat x1) x2 = M6 at h gM6
    generalize m_i M_ (b + 4) (X1_).toNatClampNeg X2_ = NM6 at gM6 ⊢
    exact zJ105_31_r n b gM6 h
/-- ArmExpander$Definition.setMark -/
def zF105 (n : Nat) (b : Nat) (a0 : Int) (a1 : Int) (M : ZM) : Option (Unit × ZM) :=
  if a0 < 0 then (zJ105_31 n b M) else (if (M.1 b 6) ≤ a0 then (zJ105_31 n b M) else (if a1 < 0 then (zJ105_31 n b M) else (if (M.1 b 6) ≤ a1 then (zJ105_31 n b M) else (zJ105_24 n b a0 a1 M))))
set_option maxRecDepth 100000 in
set_option maxHeartbeats 4000000 in
theorem zF105_r (n : Nat) (b : Nat) {A0_ : Int32} {a0 : Int} (ha0 : rp A0_ a0) {A1_ : Int32} {a1 : Int} (ha1 : rp A1_ a1) {M_ : Mem} {M : ZM} (gM : rm M_ M) {r : Unit} {m' : ZM} (h : zF105 n b a0 a1 M = some (r, m')) : sU (F105 n b A0_ A1_ M_) m' := by
  unfold zF105 at h
  unfold F105
  by_cases q1 : a0 < 0
  · rw [if_pos q1] at h
    rw [if_pos ((rp_lt ha0 (show rp 0 0 from rfl)).mpr q1)]
    exact zJ105_31_r n b gM h
  · rw [if_neg q1] at h
    rw [if_neg (fun z => q1 ((rp_lt ha0 (show rp 0 0 from rfl)).mp z))]
    by_cases q2 : (M.1 b 6) ≤ a0
    · rw [if_pos q2] at h
      rw [if_pos ((rp_le (rm_rd gM b 6) ha0).mpr q2)]
      exact zJ105_31_r n b gM h
    · rw [if_neg q2] at h
      rw [if_neg (fun z => q2 ((rp_le (rm_rd gM b 6) ha0).mp z))]
      by_cases q3 : a1 < 0
      · rw [if_pos q3] at h
        rw [if_pos ((rp_lt ha1 (show rp 0 0 from rfl)).mpr q3)]
        exact zJ105_31_r n b gM h
      · rw [if_neg q3] at h
        rw [if_neg (fun z => q3 ((rp_lt ha1 (show rp 0 0 from rfl)).mp z))]
        by_cases q4 : (M.1 b 6) ≤ a1
        · rw [if_pos q4] at h
          rw [if_pos ((rp_le (rm_rd gM b 6) ha1).mpr q4)]
          exact zJ105_31_r n b gM h
        · rw [if_neg q4] at h
          rw [if_neg (fun z => q4 ((rp_le (rm_rd gM b 6) ha1).mp z))]
          exact zJ105_24_r n b ha0 ha1 gM h
def zJ106_19 (n : Nat) (b : Nat) (M : ZM) : Option (Unit × ZM) :=
  some ((), M)
set_option maxRecDepth 100000 in
set_option maxHeartbeats 4000000 in
theorem zJ106_19_r (n : Nat) (b : Nat) {M_ : Mem} {M : ZM} (gM : rm M_ M) {r : Unit} {m' : ZM} (h : zJ106_19 n b M = some (r, m')) : sU (J106_19 n b M_) m' := by
  unfold zJ106_19 at h
  unfold J106_19
  obtain ⟨_, rfl⟩ := Prod.mk.inj (Option.some.inj h)
  exact ⟨_, rfl, gM⟩
/-- ArmExpander$Definition.setOrder -/
def zF106 (n : Nat) (b : Nat) (a0 : Int) (a1 : Int) (M : ZM) : Option (Unit × ZM) :=
  if a0 < 0 then (zJ106_19 n b M) else (if (M.1 b 6) ≤ a0 then (zJ106_19 n b M) else (if a0 < 0 ∨ 120 ≤ a0 then (none) else (zlet (z_i M (b + 5) (Int.toNat a0) a1) (fun M4 => zJ106_19 n b M4))))
set_option maxRecDepth 100000 in
set_option maxHeartbeats 4000000 in
theorem zF106_r (n : Nat) (b : Nat) {A0_ : Int32} {a0 : Int} (ha0 : rp A0_ a0) {A1_ : Int32} {a1 : Int} (ha1 : rp A1_ a1) {M_ : Mem} {M : ZM} (gM : rm M_ M) {r : Unit} {m' : ZM} (h : zF106 n b a0 a1 M = some (r, m')) : sU (F106 n b A0_ A1_ M_) m' := by
  unfold zF106 at h
  unfold F106
  by_cases q1 : a0 < 0
  · rw [if_pos q1] at h
    rw [if_pos ((rp_lt ha0 (show rp 0 0 from rfl)).mpr q1)]
    exact zJ106_19_r n b gM h
  · rw [if_neg q1] at h
    rw [if_neg (fun z => q1 ((rp_lt ha0 (show rp 0 0 from rfl)).mp z))]
    by_cases q2 : (M.1 b 6) ≤ a0
    · rw [if_pos q2] at h
      rw [if_pos ((rp_le (rm_rd gM b 6) ha0).mpr q2)]
      exact zJ106_19_r n b gM h
    · rw [if_neg q2] at h
      rw [if_neg (fun z => q2 ((rp_le (rm_rd gM b 6) ha0).mp z))]
      by_cases q3 : a0 < 0 ∨ 120 ≤ a0
      · rw [if_pos q3] at h
        rw [if_pos ((rp_ob ha0 120).mpr q3)]
        cases h
      · rw [if_neg q3] at h
        rw [if_neg (fun z => q3 ((rp_ob ha0 120).mp z))]
        have gM4 : rm (m_i M_ (b + 5) (A0_).toNatClampNeg A1_) (z_i M (b + 5) (Int.toNat a0) a1) := rm_ix gM (b + 5) ha0 ha1
        rw [mlet]
        rw [zlet] at h
        generalize z_i M (b + 5) (Int.toNat a0) a1 = M4 at h gM4
        generalize m_i M_ (b + 5) (A0_).toNatClampNeg A1_ = NM4 at gM4 ⊢
        exact zJ106_19_r n b gM4 h
def zJ107_17 (n : Nat) (b : Nat) (s0 : Int) (M : ZM) : Option (Int × ZM) :=
  some (s0, M)
set_option maxRecDepth 100000 in
set_option maxHeartbeats 4000000 in
theorem zJ107_17_r (n : Nat) (b : Nat) {S0_ : Int32} {s0 : Int} (hs0 : rp S0_ s0) {M_ : Mem} {M : ZM} (gM : rm M_ M) {r : Int} {m' : ZM} (h : zJ107_17 n b s0 M = some (r, m')) : sI (J107_17 n b S0_ M_) r m' := by
  unfold zJ107_17 at h
  unfold J107_17
  obtain ⟨rfl, rfl⟩ := Prod.mk.inj (Option.some.inj h)
  exact ⟨_, _, rfl, hs0, gM⟩
/-- ArmExpander$Definition.name -/
def zF107 (n : Nat) (b : Nat) (M : ZM) : Option (Int × ZM) :=
  if (M.1 b 6) ≤ 0 then (zJ107_17 n b (-1) M) else (zJ107_17 n b (M.1 (b + 1) 0) M)
set_option maxRecDepth 100000 in
set_option maxHeartbeats 4000000 in
theorem zF107_r (n : Nat) (b : Nat) {M_ : Mem} {M : ZM} (gM : rm M_ M) {r : Int} {m' : ZM} (h : zF107 n b M = some (r, m')) : sI (F107 n b M_) r m' := by
  unfold zF107 at h
  unfold F107
  by_cases q1 : (M.1 b 6) ≤ 0
  · rw [if_pos q1] at h
    rw [if_pos ((rp_le (rm_rd gM b 6) (show rp 0 0 from rfl)).mpr q1)]
    exact zJ107_17_r n b (show rp (-1) (-1) from rfl) gM h
  · rw [if_neg q1] at h
    rw [if_neg (fun z => q1 ((rp_le (rm_rd gM b 6) (show rp 0 0 from rfl)).mp z))]
    exact zJ107_17_r n b (rm_rd gM (b + 1) 0) gM h
/-- ArmExpander$Definition.armCount -/
def zF108 (n : Nat) (b : Nat) (M : ZM) : Option (Int × ZM) :=
  some ((M.1 b 7), M)
set_option maxRecDepth 100000 in
set_option maxHeartbeats 4000000 in
theorem zF108_r (n : Nat) (b : Nat) {M_ : Mem} {M : ZM} (gM : rm M_ M) {r : Int} {m' : ZM} (h : zF108 n b M = some (r, m')) : sI (F108 n b M_) r m' := by
  unfold zF108 at h
  unfold F108
  obtain ⟨rfl, rfl⟩ := Prod.mk.inj (Option.some.inj h)
  exact ⟨_, _, rfl, (rm_rd gM b 7), gM⟩
def zJ109_22 (n : Nat) (b : Nat) (s0 : Int) (M : ZM) : Option (Int × ZM) :=
  some (s0, M)
set_option maxRecDepth 100000 in
set_option maxHeartbeats 4000000 in
theorem zJ109_22_r (n : Nat) (b : Nat) {S0_ : Int32} {s0 : Int} (hs0 : rp S0_ s0) {M_ : Mem} {M : ZM} (gM : rm M_ M) {r : Int} {m' : ZM} (h : zJ109_22 n b s0 M = some (r, m')) : sI (J109_22 n b S0_ M_) r m' := by
  unfold zJ109_22 at h
  unfold J109_22
  obtain ⟨rfl, rfl⟩ := Prod.mk.inj (Option.some.inj h)
  exact ⟨_, _, rfl, hs0, gM⟩
def zJ109_21 (n : Nat) (b : Nat) (M : ZM) : Option (Int × ZM) :=
  zJ109_22 n b (-1) M
set_option maxRecDepth 100000 in
set_option maxHeartbeats 4000000 in
theorem zJ109_21_r (n : Nat) (b : Nat) {M_ : Mem} {M : ZM} (gM : rm M_ M) {r : Int} {m' : ZM} (h : zJ109_21 n b M = some (r, m')) : sI (J109_21 n b M_) r m' := by
  unfold zJ109_21 at h
  unfold J109_21
  exact zJ109_22_r n b (show rp (-1) (-1) from rfl) gM h
/-- ArmExpander$Definition.codeAt -/
def zF109 (n : Nat) (b : Nat) (a0 : Int) (M : ZM) : Option (Int × ZM) :=
  if a0 < 0 then (zJ109_21 n b M) else (if (M.1 b 6) ≤ a0 then (zJ109_21 n b M) else (if a0 < 0 ∨ 120 ≤ a0 then (none) else (zJ109_22 n b (M.1 (b + 1) (Int.toNat a0)) M)))
set_option maxRecDepth 100000 in
set_option maxHeartbeats 4000000 in
theorem zF109_r (n : Nat) (b : Nat) {A0_ : Int32} {a0 : Int} (ha0 : rp A0_ a0) {M_ : Mem} {M : ZM} (gM : rm M_ M) {r : Int} {m' : ZM} (h : zF109 n b a0 M = some (r, m')) : sI (F109 n b A0_ M_) r m' := by
  unfold zF109 at h
  unfold F109
  by_cases q1 : a0 < 0
  · rw [if_pos q1] at h
    rw [if_pos ((rp_lt ha0 (show rp 0 0 from rfl)).mpr q1)]
    exact zJ109_21_r n b gM h
  · rw [if_neg q1] at h
    rw [if_neg (fun z => q1 ((rp_lt ha0 (show rp 0 0 from rfl)).mp z))]
    by_cases q2 : (M.1 b 6) ≤ a0
    · rw [if_pos q2] at h
      rw [if_pos ((rp_le (rm_rd gM b 6) ha0).mpr q2)]
      exact zJ109_21_r n b gM h
    · rw [if_neg q2] at h
      rw [if_neg (fun z => q2 ((rp_le (rm_rd gM b 6) ha0).mp z))]
      by_cases q3 : a0 < 0 ∨ 120 ≤ a0
      · rw [if_pos q3] at h
        rw [if_pos ((rp_ob ha0 120).mpr q3)]
        cases h
      · rw [if_neg q3] at h
        rw [if_neg (fun z => q3 ((rp_ob ha0 120).mp z))]
        exact zJ109_22_r n b (rm_rdx gM (b + 1) ha0) gM h
def zJ110_22 (n : Nat) (b : Nat) (s0 : Int) (M : ZM) : Option (Int × ZM) :=
  some (s0, M)
set_option maxRecDepth 100000 in
set_option maxHeartbeats 4000000 in
theorem zJ110_22_r (n : Nat) (b : Nat) {S0_ : Int32} {s0 : Int} (hs0 : rp S0_ s0) {M_ : Mem} {M : ZM} (gM : rm M_ M) {r : Int} {m' : ZM} (h : zJ110_22 n b s0 M = some (r, m')) : sI (J110_22 n b S0_ M_) r m' := by
  unfold zJ110_22 at h
  unfold J110_22
  obtain ⟨rfl, rfl⟩ := Prod.mk.inj (Option.some.inj h)
  exact ⟨_, _, rfl, hs0, gM⟩
def zJ110_21 (n : Nat) (b : Nat) (M : ZM) : Option (Int × ZM) :=
  zJ110_22 n b (-1) M
set_option maxRecDepth 100000 in
set_option maxHeartbeats 4000000 in
theorem zJ110_21_r (n : Nat) (b : Nat) {M_ : Mem} {M : ZM} (gM : rm M_ M) {r : Int} {m' : ZM} (h : zJ110_21 n b M = some (r, m')) : sI (J110_21 n b M_) r m' := by
  unfold zJ110_21 at h
  unfold J110_21
  exact zJ110_22_r n b (show rp (-1) (-1) from rfl) gM h
/-- ArmExpander$Definition.partnerOf -/
def zF110 (n : Nat) (b : Nat) (a0 : Int) (M : ZM) : Option (Int × ZM) :=
  if a0 < 0 then (zJ110_21 n b M) else (if (M.1 b 6) ≤ a0 then (zJ110_21 n b M) else (if a0 < 0 ∨ 120 ≤ a0 then (none) else (zJ110_22 n b (M.1 (b + 2) (Int.toNat a0)) M)))
set_option maxRecDepth 100000 in
set_option maxHeartbeats 4000000 in
theorem zF110_r (n : Nat) (b : Nat) {A0_ : Int32} {a0 : Int} (ha0 : rp A0_ a0) {M_ : Mem} {M : ZM} (gM : rm M_ M) {r : Int} {m' : ZM} (h : zF110 n b a0 M = some (r, m')) : sI (F110 n b A0_ M_) r m' := by
  unfold zF110 at h
  unfold F110
  by_cases q1 : a0 < 0
  · rw [if_pos q1] at h
    rw [if_pos ((rp_lt ha0 (show rp 0 0 from rfl)).mpr q1)]
    exact zJ110_21_r n b gM h
  · rw [if_neg q1] at h
    rw [if_neg (fun z => q1 ((rp_lt ha0 (show rp 0 0 from rfl)).mp z))]
    by_cases q2 : (M.1 b 6) ≤ a0
    · rw [if_pos q2] at h
      rw [if_pos ((rp_le (rm_rd gM b 6) ha0).mpr q2)]
      exact zJ110_21_r n b gM h
    · rw [if_neg q2] at h
      rw [if_neg (fun z => q2 ((rp_le (rm_rd gM b 6) ha0).mp z))]
      by_cases q3 : a0 < 0 ∨ 120 ≤ a0
      · rw [if_pos q3] at h
        rw [if_pos ((rp_ob ha0 120).mpr q3)]
        cases h
      · rw [if_neg q3] at h
        rw [if_neg (fun z => q3 ((rp_ob ha0 120).mp z))]
        exact zJ110_22_r n b (rm_rdx gM (b + 2) ha0) gM h
def zJ111_24 (n : Nat) (b : Nat) (s0 : Int) (M : ZM) : Option (Int × ZM) :=
  some (s0, M)
set_option maxRecDepth 100000 in
set_option maxHeartbeats 4000000 in
theorem zJ111_24_r (n : Nat) (b : Nat) {S0_ : Int32} {s0 : Int} (hs0 : rp S0_ s0) {M_ : Mem} {M : ZM} (gM : rm M_ M) {r : Int} {m' : ZM} (h : zJ111_24 n b s0 M = some (r, m')) : sI (J111_24 n b S0_ M_) r m' := by
  unfold zJ111_24 at h
  unfold J111_24
  obtain ⟨rfl, rfl⟩ := Prod.mk.inj (Option.some.inj h)
  exact ⟨_, _, rfl, hs0, gM⟩
def zJ111_23 (n : Nat) (b : Nat) (M : ZM) : Option (Int × ZM) :=
  zJ111_24 n b 0 M
set_option maxRecDepth 100000 in
set_option maxHeartbeats 4000000 in
theorem zJ111_23_r (n : Nat) (b : Nat) {M_ : Mem} {M : ZM} (gM : rm M_ M) {r : Int} {m' : ZM} (h : zJ111_23 n b M = some (r, m')) : sI (J111_23 n b M_) r m' := by
  unfold zJ111_23 at h
  unfold J111_23
  exact zJ111_24_r n b (show rp 0 0 from rfl) gM h
/-- ArmExpander$Definition.patternStart -/
def zF111 (n : Nat) (b : Nat) (a0 : Int) (M : ZM) : Option (Int × ZM) :=
  if a0 < 0 then (zJ111_23 n b M) else (if (M.1 b 7) ≤ a0 then (zJ111_23 n b M) else (if a0 < 0 ∨ 3 ≤ a0 then (none) else (if rg ((M.1 (b + 6) (Int.toNat a0)) + 1) then (zJ111_24 n b ((M.1 (b + 6) (Int.toNat a0)) + 1) M) else none)))
set_option maxRecDepth 100000 in
set_option maxHeartbeats 4000000 in
theorem zF111_r (n : Nat) (b : Nat) {A0_ : Int32} {a0 : Int} (ha0 : rp A0_ a0) {M_ : Mem} {M : ZM} (gM : rm M_ M) {r : Int} {m' : ZM} (h : zF111 n b a0 M = some (r, m')) : sI (F111 n b A0_ M_) r m' := by
  unfold zF111 at h
  unfold F111
  by_cases q1 : a0 < 0
  · rw [if_pos q1] at h
    rw [if_pos ((rp_lt ha0 (show rp 0 0 from rfl)).mpr q1)]
    exact zJ111_23_r n b gM h
  · rw [if_neg q1] at h
    rw [if_neg (fun z => q1 ((rp_lt ha0 (show rp 0 0 from rfl)).mp z))]
    by_cases q2 : (M.1 b 7) ≤ a0
    · rw [if_pos q2] at h
      rw [if_pos ((rp_le (rm_rd gM b 7) ha0).mpr q2)]
      exact zJ111_23_r n b gM h
    · rw [if_neg q2] at h
      rw [if_neg (fun z => q2 ((rp_le (rm_rd gM b 7) ha0).mp z))]
      by_cases q3 : a0 < 0 ∨ 3 ≤ a0
      · rw [if_pos q3] at h
        rw [if_pos ((rp_ob ha0 3).mpr q3)]
        cases h
      · rw [if_neg q3] at h
        rw [if_neg (fun z => q3 ((rp_ob ha0 3).mp z))]
        by_cases w4 : rg ((M.1 (b + 6) (Int.toNat a0)) + 1)
        · rw [if_pos w4] at h
          exact zJ111_24_r n b (rp_add (rp_iz (rm_rdx gM (b + 6) ha0)) (rp_iz (show rp 1 1 from rfl)) w4) gM h
        · rw [if_neg w4] at h
          cases h
def zJ112_27 (n : Nat) (b : Nat) (s0 : Int) (M : ZM) : Option (Int × ZM) :=
  some (s0, M)
set_option maxRecDepth 100000 in
set_option maxHeartbeats 4000000 in
theorem zJ112_27_r (n : Nat) (b : Nat) {S0_ : Int32} {s0 : Int} (hs0 : rp S0_ s0) {M_ : Mem} {M : ZM} (gM : rm M_ M) {r : Int} {m' : ZM} (h : zJ112_27 n b s0 M = some (r, m')) : sI (J112_27 n b S0_ M_) r m' := by
  unfold zJ112_27 at h
  unfold J112_27
  obtain ⟨rfl, rfl⟩ := Prod.mk.inj (Option.some.inj h)
  exact ⟨_, _, rfl, hs0, gM⟩
def zJ112_26 (n : Nat) (b : Nat) (M : ZM) : Option (Int × ZM) :=
  zJ112_27 n b 0 M
set_option maxRecDepth 100000 in
set_option maxHeartbeats 4000000 in
theorem zJ112_26_r (n : Nat) (b : Nat) {M_ : Mem} {M : ZM} (gM : rm M_ M) {r : Int} {m' : ZM} (h : zJ112_26 n b M = some (r, m')) : sI (J112_26 n b M_) r m' := by
  unfold zJ112_26 at h
  unfold J112_26
  exact zJ112_27_r n b (show rp 0 0 from rfl) gM h
/-- ArmExpander$Definition.patternEnd -/
def zF112 (n : Nat) (b : Nat) (a0 : Int) (M : ZM) : Option (Int × ZM) :=
  if a0 < 0 then (zJ112_26 n b M) else (if (M.1 b 7) ≤ a0 then (zJ112_26 n b M) else (if a0 < 0 ∨ 3 ≤ a0 then (none) else (if (M.1 (b + 6) (Int.toNat a0)) < 0 ∨ 120 ≤ (M.1 (b + 6) (Int.toNat a0)) then (none) else (zJ112_27 n b (M.1 (b + 2) (Int.toNat (M.1 (b + 6) (Int.toNat a0)))) M))))
set_option maxRecDepth 100000 in
set_option maxHeartbeats 4000000 in
theorem zF112_r (n : Nat) (b : Nat) {A0_ : Int32} {a0 : Int} (ha0 : rp A0_ a0) {M_ : Mem} {M : ZM} (gM : rm M_ M) {r : Int} {m' : ZM} (h : zF112 n b a0 M = some (r, m')) : sI (F112 n b A0_ M_) r m' := by
  unfold zF112 at h
  unfold F112
  by_cases q1 : a0 < 0
  · rw [if_pos q1] at h
    rw [if_pos ((rp_lt ha0 (show rp 0 0 from rfl)).mpr q1)]
    exact zJ112_26_r n b gM h
  · rw [if_neg q1] at h
    rw [if_neg (fun z => q1 ((rp_lt ha0 (show rp 0 0 from rfl)).mp z))]
    by_cases q2 : (M.1 b 7) ≤ a0
    · rw [if_pos q2] at h
      rw [if_pos ((rp_le (rm_rd gM b 7) ha0).mpr q2)]
      exact zJ112_26_r n b gM h
    · rw [if_neg q2] at h
      rw [if_neg (fun z => q2 ((rp_le (rm_rd gM b 7) ha0).mp z))]
      by_cases q3 : a0 < 0 ∨ 3 ≤ a0
      · rw [if_pos q3] at h
        rw [if_pos ((rp_ob ha0 3).mpr q3)]
        cases h
      · rw [if_neg q3] at h
        rw [if_neg (fun z => q3 ((rp_ob ha0 3).mp z))]
        by_cases q4 : (M.1 (b + 6) (Int.toNat a0)) < 0 ∨ 120 ≤ (M.1 (b + 6) (Int.toNat a0))
        · rw [if_pos q4] at h
          rw [if_pos ((rp_ob (rm_rdx gM (b + 6) ha0) 120).mpr q4)]
          cases h
        · rw [if_neg q4] at h
          rw [if_neg (fun z => q4 ((rp_ob (rm_rdx gM (b + 6) ha0) 120).mp z))]
          exact zJ112_27_r n b (rm_rdx gM (b + 2) (rm_rdx gM (b + 6) ha0)) gM h
/-- ArmExpander$Definition.bodyStart -/
def zF113 (n : Nat) (b : Nat) (a0 : Int) (M : ZM) : Option (Int × ZM) :=
  match zF112 n b a0 M with | some (v1, M2) => (if rg (v1 + 2) then (some ((v1 + 2), M2)) else none) | none => none
set_option maxRecDepth 100000 in
set_option maxHeartbeats 4000000 in
theorem zF113_r (n : Nat) (b : Nat) {A0_ : Int32} {a0 : Int} (ha0 : rp A0_ a0) {M_ : Mem} {M : ZM} (gM : rm M_ M) {r : Int} {m' : ZM} (h : zF113 n b a0 M = some (r, m')) : sI (F113 n b A0_ M_) r m' := by
  unfold zF113 at h
  unfold F113
  cases hc1 : zF112 n b a0 M with
  | none => rw [hc1] at h; cases h
  | some w =>
    obtain ⟨v1, M2⟩ := w
    rw [hc1] at h
    dsimp only at h
    obtain ⟨V1, NM2, ehc1, hv1, gM2⟩ := zF112_r n b ha0 gM hc1
    rw [ehc1]
    dsimp only
    by_cases w2 : rg (v1 + 2)
    · rw [if_pos w2] at h
      obtain ⟨rfl, rfl⟩ := Prod.mk.inj (Option.some.inj h)
      exact ⟨_, _, rfl, (rp_add (rp_iz hv1) (rp_iz (show rp 2 2 from rfl)) w2), gM2⟩
    · rw [if_neg w2] at h
      cases h
/-- ArmExpander$Definition.bodyEnd -/
def zF114 (n : Nat) (b : Nat) (a0 : Int) (M : ZM) : Option (Int × ZM) :=
  match zF112 n b a0 M with | some (v1, M2) => (if rg (v1 + 1) then (match zF110 n b (v1 + 1) M2 with | some (v4, M5) => (some (v4, M5)) | none => none) else none) | none => none
set_option maxRecDepth 100000 in
set_option maxHeartbeats 4000000 in
theorem zF114_r (n : Nat) (b : Nat) {A0_ : Int32} {a0 : Int} (ha0 : rp A0_ a0) {M_ : Mem} {M : ZM} (gM : rm M_ M) {r : Int} {m' : ZM} (h : zF114 n b a0 M = some (r, m')) : sI (F114 n b A0_ M_) r m' := by
  unfold zF114 at h
  unfold F114
  cases hc1 : zF112 n b a0 M with
  | none => rw [hc1] at h; cases h
  | some w =>
    obtain ⟨v1, M2⟩ := w
    rw [hc1] at h
    dsimp only at h
    obtain ⟨V1, NM2, ehc1, hv1, gM2⟩ := zF112_r n b ha0 gM hc1
    rw [ehc1]
    dsimp only
    by_cases w2 : rg (v1 + 1)
    · rw [if_pos w2] at h
      cases hc3 : zF110 n b (v1 + 1) M2 with
      | none => rw [hc3] at h; cases h
      | some w =>
        obtain ⟨v4, M5⟩ := w
        rw [hc3] at h
        dsimp only at h
        obtain ⟨V4, NM5, ehc3, hv4, gM5⟩ := zF110_r n b (rp_add (rp_iz hv1) (rp_iz (show rp 1 1 from rfl)) w2) gM2 hc3
        rw [ehc3]
        dsimp only
        obtain ⟨rfl, rfl⟩ := Prod.mk.inj (Option.some.inj h)
        exact ⟨_, _, rfl, hv4, gM5⟩
    · rw [if_neg w2] at h
      cases h
def zJ115_43 (n : Nat) (b : Nat) (s0 : Int) (M : ZM) : Option (Int × ZM) :=
  if s0 = 0 ∨ s0 = 1 then (some (s0, M)) else (none)
set_option maxRecDepth 100000 in
set_option maxHeartbeats 4000000 in
theorem zJ115_43_r (n : Nat) (b : Nat) {S0_ : Int32} {s0 : Int} (hs0 : rp S0_ s0) {M_ : Mem} {M : ZM} (gM : rm M_ M) {r : Int} {m' : ZM} (h : zJ115_43 n b s0 M = some (r, m')) : sI (J115_43 n b S0_ M_) r m' := by
  unfold zJ115_43 at h
  unfold J115_43
  by_cases q1 : s0 = 0 ∨ s0 = 1
  · rw [if_pos q1] at h
    rw [if_pos ((or_congr (rp_eq hs0 (show rp 0 0 from rfl)) (rp_eq hs0 (show rp 1 1 from rfl))).mpr q1)]
    obtain ⟨rfl, rfl⟩ := Prod.mk.inj (Option.some.inj h)
    exact ⟨_, _, rfl, hs0, gM⟩
  · rw [if_neg q1] at h
    rw [if_neg (fun z => q1 ((or_congr (rp_eq hs0 (show rp 0 0 from rfl)) (rp_eq hs0 (show rp 1 1 from rfl))).mp z))]
    cases h
def zJ115_42 (n : Nat) (b : Nat) (M : ZM) : Option (Int × ZM) :=
  zJ115_43 n b 0 M
set_option maxRecDepth 100000 in
set_option maxHeartbeats 4000000 in
theorem zJ115_42_r (n : Nat) (b : Nat) {M_ : Mem} {M : ZM} (gM : rm M_ M) {r : Int} {m' : ZM} (h : zJ115_42 n b M = some (r, m')) : sI (J115_42 n b M_) r m' := by
  unfold zJ115_42 at h
  unfold J115_42
  exact zJ115_43_r n b (show rp 0 0 from rfl) gM h
def zJ115_25 (n : Nat) (b : Nat) (x1 : Int) (M : ZM) : Option (Int × ZM) :=
  if rg (x1 + 1) then (if (x1 + 1) < 0 ∨ 120 ≤ (x1 + 1) then (none) else (if (M.1 (b + 1) (Int.toNat (x1 + 1))) = 40 then (zJ115_42 n b M) else (zJ115_43 n b 1 M))) else none
set_option maxRecDepth 100000 in
set_option maxHeartbeats 4000000 in
theorem zJ115_25_r (n : Nat) (b : Nat) {X1_ : Int32} {x1 : Int} (hx1 : rp X1_ x1) {M_ : Mem} {M : ZM} (gM : rm M_ M) {r : Int} {m' : ZM} (h : zJ115_25 n b x1 M = some (r, m')) : sI (J115_25 n b X1_ M_) r m' := by
  unfold zJ115_25 at h
  unfold J115_25
  by_cases w1 : rg (x1 + 1)
  · rw [if_pos w1] at h
    by_cases q2 : (x1 + 1) < 0 ∨ 120 ≤ (x1 + 1)
    · rw [if_pos q2] at h
      rw [if_pos ((rp_ob (rp_add (rp_iz hx1) (rp_iz (show rp 1 1 from rfl)) w1) 120).mpr q2)]
      cases h
    · rw [if_neg q2] at h
      rw [if_neg (fun z => q2 ((rp_ob (rp_add (rp_iz hx1) (rp_iz (show rp 1 1 from rfl)) w1) 120).mp z))]
      by_cases q3 : (M.1 (b + 1) (Int.toNat (x1 + 1))) = 40
      · rw [if_pos q3] at h
        rw [if_pos ((rp_eq (rm_rdx gM (b + 1) (rp_add (rp_iz hx1) (rp_iz (show rp 1 1 from rfl)) w1)) (show rp 40 40 from rfl)).mpr q3)]
        exact zJ115_42_r n b gM h
      · rw [if_neg q3] at h
        rw [if_neg (fun z => q3 ((rp_eq (rm_rdx gM (b + 1) (rp_add (rp_iz hx1) (rp_iz (show rp 1 1 from rfl)) w1)) (show rp 40 40 from rfl)).mp z))]
        exact zJ115_43_r n b (show rp 1 1 from rfl) gM h
  · rw [if_neg w1] at h
    cases h
/-- ArmExpander$Definition.startsVariable -/
def zF115 (n : Nat) (b : Nat) (a0 : Int) (M : ZM) : Option (Int × ZM) :=
  if a0 < 0 then (zJ115_42 n b M) else (if rg (a0 + 1) then (if (M.1 b 6) ≤ (a0 + 1) then (zJ115_42 n b M) else (if a0 < 0 ∨ 120 ≤ a0 then (none) else (if (M.1 (b + 1) (Int.toNat a0)) = 36 then (zJ115_25 n b a0 M) else (zJ115_42 n b M)))) else none)
set_option maxRecDepth 100000 in
set_option maxHeartbeats 4000000 in
theorem zF115_r (n : Nat) (b : Nat) {A0_ : Int32} {a0 : Int} (ha0 : rp A0_ a0) {M_ : Mem} {M : ZM} (gM : rm M_ M) {r : Int} {m' : ZM} (h : zF115 n b a0 M = some (r, m')) : sI (F115 n b A0_ M_) r m' := by
  unfold zF115 at h
  unfold F115
  by_cases q1 : a0 < 0
  · rw [if_pos q1] at h
    rw [if_pos ((rp_lt ha0 (show rp 0 0 from rfl)).mpr q1)]
    exact zJ115_42_r n b gM h
  · rw [if_neg q1] at h
    rw [if_neg (fun z => q1 ((rp_lt ha0 (show rp 0 0 from rfl)).mp z))]
    by_cases w2 : rg (a0 + 1)
    · rw [if_pos w2] at h
      by_cases q3 : (M.1 b 6) ≤ (a0 + 1)
      · rw [if_pos q3] at h
        rw [if_pos ((rp_le (rm_rd gM b 6) (rp_add (rp_iz ha0) (rp_iz (show rp 1 1 from rfl)) w2)).mpr q3)]
        exact zJ115_42_r n b gM h
      · rw [if_neg q3] at h
        rw [if_neg (fun z => q3 ((rp_le (rm_rd gM b 6) (rp_add (rp_iz ha0) (rp_iz (show rp 1 1 from rfl)) w2)).mp z))]
        by_cases q4 : a0 < 0 ∨ 120 ≤ a0
        · rw [if_pos q4] at h
          rw [if_pos ((rp_ob ha0 120).mpr q4)]
          cases h
        · rw [if_neg q4] at h
          rw [if_neg (fun z => q4 ((rp_ob ha0 120).mp z))]
          by_cases q5 : (M.1 (b + 1) (Int.toNat a0)) = 36
          · rw [if_pos q5] at h
            rw [if_pos ((rp_eq (rm_rdx gM (b + 1) ha0) (show rp 36 36 from rfl)).mpr q5)]
            exact zJ115_25_r n b ha0 gM h
          · rw [if_neg q5] at h
            rw [if_neg (fun z => q5 ((rp_eq (rm_rdx gM (b + 1) ha0) (show rp 36 36 from rfl)).mp z))]
            exact zJ115_42_r n b gM h
    · rw [if_neg w2] at h
      cases h
def zJ116_43 (n : Nat) (b : Nat) (s0 : Int) (M : ZM) : Option (Int × ZM) :=
  if s0 = 0 ∨ s0 = 1 then (some (s0, M)) else (none)
set_option maxRecDepth 100000 in
set_option maxHeartbeats 4000000 in
theorem zJ116_43_r (n : Nat) (b : Nat) {S0_ : Int32} {s0 : Int} (hs0 : rp S0_ s0) {M_ : Mem} {M : ZM} (gM : rm M_ M) {r : Int} {m' : ZM} (h : zJ116_43 n b s0 M = some (r, m')) : sI (J116_43 n b S0_ M_) r m' := by
  unfold zJ116_43 at h
  unfold J116_43
  by_cases q1 : s0 = 0 ∨ s0 = 1
  · rw [if_pos q1] at h
    rw [if_pos ((or_congr (rp_eq hs0 (show rp 0 0 from rfl)) (rp_eq hs0 (show rp 1 1 from rfl))).mpr q1)]
    obtain ⟨rfl, rfl⟩ := Prod.mk.inj (Option.some.inj h)
    exact ⟨_, _, rfl, hs0, gM⟩
  · rw [if_neg q1] at h
    rw [if_neg (fun z => q1 ((or_congr (rp_eq hs0 (show rp 0 0 from rfl)) (rp_eq hs0 (show rp 1 1 from rfl))).mp z))]
    cases h
def zJ116_42 (n : Nat) (b : Nat) (M : ZM) : Option (Int × ZM) :=
  zJ116_43 n b 0 M
set_option maxRecDepth 100000 in
set_option maxHeartbeats 4000000 in
theorem zJ116_42_r (n : Nat) (b : Nat) {M_ : Mem} {M : ZM} (gM : rm M_ M) {r : Int} {m' : ZM} (h : zJ116_42 n b M = some (r, m')) : sI (J116_42 n b M_) r m' := by
  unfold zJ116_42 at h
  unfold J116_42
  exact zJ116_43_r n b (show rp 0 0 from rfl) gM h
def zJ116_25 (n : Nat) (b : Nat) (x1 : Int) (M : ZM) : Option (Int × ZM) :=
  if rg (x1 + 1) then (if (x1 + 1) < 0 ∨ 120 ≤ (x1 + 1) then (none) else (if (M.1 (b + 1) (Int.toNat (x1 + 1))) = 40 then (zJ116_43 n b 1 M) else (zJ116_42 n b M))) else none
set_option maxRecDepth 100000 in
set_option maxHeartbeats 4000000 in
theorem zJ116_25_r (n : Nat) (b : Nat) {X1_ : Int32} {x1 : Int} (hx1 : rp X1_ x1) {M_ : Mem} {M : ZM} (gM : rm M_ M) {r : Int} {m' : ZM} (h : zJ116_25 n b x1 M = some (r, m')) : sI (J116_25 n b X1_ M_) r m' := by
  unfold zJ116_25 at h
  unfold J116_25
  by_cases w1 : rg (x1 + 1)
  · rw [if_pos w1] at h
    by_cases q2 : (x1 + 1) < 0 ∨ 120 ≤ (x1 + 1)
    · rw [if_pos q2] at h
      rw [if_pos ((rp_ob (rp_add (rp_iz hx1) (rp_iz (show rp 1 1 from rfl)) w1) 120).mpr q2)]
      cases h
    · rw [if_neg q2] at h
      rw [if_neg (fun z => q2 ((rp_ob (rp_add (rp_iz hx1) (rp_iz (show rp 1 1 from rfl)) w1) 120).mp z))]
      by_cases q3 : (M.1 (b + 1) (Int.toNat (x1 + 1))) = 40
      · rw [if_pos q3] at h
        rw [if_pos ((rp_eq (rm_rdx gM (b + 1) (rp_add (rp_iz hx1) (rp_iz (show rp 1 1 from rfl)) w1)) (show rp 40 40 from rfl)).mpr q3)]
        exact zJ116_43_r n b (show rp 1 1 from rfl) gM h
      · rw [if_neg q3] at h
        rw [if_neg (fun z => q3 ((rp_eq (rm_rdx gM (b + 1) (rp_add (rp_iz hx1) (rp_iz (show rp 1 1 from rfl)) w1)) (show rp 40 40 from rfl)).mp z))]
        exact zJ116_42_r n b gM h
  · rw [if_neg w1] at h
    cases h
/-- ArmExpander$Definition.startsRepetition -/
def zF116 (n : Nat) (b : Nat) (a0 : Int) (M : ZM) : Option (Int × ZM) :=
  if a0 < 0 then (zJ116_42 n b M) else (if rg (a0 + 1) then (if (M.1 b 6) ≤ (a0 + 1) then (zJ116_42 n b M) else (if a0 < 0 ∨ 120 ≤ a0 then (none) else (if (M.1 (b + 1) (Int.toNat a0)) = 36 then (zJ116_25 n b a0 M) else (zJ116_42 n b M)))) else none)
set_option maxRecDepth 100000 in
set_option maxHeartbeats 4000000 in
theorem zF116_r (n : Nat) (b : Nat) {A0_ : Int32} {a0 : Int} (ha0 : rp A0_ a0) {M_ : Mem} {M : ZM} (gM : rm M_ M) {r : Int} {m' : ZM} (h : zF116 n b a0 M = some (r, m')) : sI (F116 n b A0_ M_) r m' := by
  unfold zF116 at h
  unfold F116
  by_cases q1 : a0 < 0
  · rw [if_pos q1] at h
    rw [if_pos ((rp_lt ha0 (show rp 0 0 from rfl)).mpr q1)]
    exact zJ116_42_r n b gM h
  · rw [if_neg q1] at h
    rw [if_neg (fun z => q1 ((rp_lt ha0 (show rp 0 0 from rfl)).mp z))]
    by_cases w2 : rg (a0 + 1)
    · rw [if_pos w2] at h
      by_cases q3 : (M.1 b 6) ≤ (a0 + 1)
      · rw [if_pos q3] at h
        rw [if_pos ((rp_le (rm_rd gM b 6) (rp_add (rp_iz ha0) (rp_iz (show rp 1 1 from rfl)) w2)).mpr q3)]
        exact zJ116_42_r n b gM h
      · rw [if_neg q3] at h
        rw [if_neg (fun z => q3 ((rp_le (rm_rd gM b 6) (rp_add (rp_iz ha0) (rp_iz (show rp 1 1 from rfl)) w2)).mp z))]
        by_cases q4 : a0 < 0 ∨ 120 ≤ a0
        · rw [if_pos q4] at h
          rw [if_pos ((rp_ob ha0 120).mpr q4)]
          cases h
        · rw [if_neg q4] at h
          rw [if_neg (fun z => q4 ((rp_ob ha0 120).mp z))]
          by_cases q5 : (M.1 (b + 1) (Int.toNat a0)) = 36
          · rw [if_pos q5] at h
            rw [if_pos ((rp_eq (rm_rdx gM (b + 1) ha0) (show rp 36 36 from rfl)).mpr q5)]
            exact zJ116_25_r n b ha0 gM h
          · rw [if_neg q5] at h
            rw [if_neg (fun z => q5 ((rp_eq (rm_rdx gM (b + 1) ha0) (show rp 36 36 from rfl)).mp z))]
            exact zJ116_42_r n b gM h
    · rw [if_neg w2] at h
      cases h
def zJ117_23 (n : Nat) (b : Nat) (M : ZM) : Option (Int × ZM) :=
  some ((-1), M)
set_option maxRecDepth 100000 in
set_option maxHeartbeats 4000000 in
theorem zJ117_23_r (n : Nat) (b : Nat) {M_ : Mem} {M : ZM} (gM : rm M_ M) {r : Int} {m' : ZM} (h : zJ117_23 n b M = some (r, m')) : sI (J117_23 n b M_) r m' := by
  unfold zJ117_23 at h
  unfold J117_23
  obtain ⟨rfl, rfl⟩ := Prod.mk.inj (Option.some.inj h)
  exact ⟨_, _, rfl, (show rp (-1) (-1) from rfl), gM⟩
def zJ117_54 (n : Nat) (b : Nat) (s0 : Int) (M : ZM) : Option (Int × ZM) :=
  some (s0, M)
set_option maxRecDepth 100000 in
set_option maxHeartbeats 4000000 in
theorem zJ117_54_r (n : Nat) (b : Nat) {S0_ : Int32} {s0 : Int} (hs0 : rp S0_ s0) {M_ : Mem} {M : ZM} (gM : rm M_ M) {r : Int} {m' : ZM} (h : zJ117_54 n b s0 M = some (r, m')) : sI (J117_54 n b S0_ M_) r m' := by
  unfold zJ117_54 at h
  unfold J117_54
  obtain ⟨rfl, rfl⟩ := Prod.mk.inj (Option.some.inj h)
  exact ⟨_, _, rfl, hs0, gM⟩
def zJ117_53 (n : Nat) (b : Nat) (M : ZM) : Option (Int × ZM) :=
  zJ117_54 n b (-1) M
set_option maxRecDepth 100000 in
set_option maxHeartbeats 4000000 in
theorem zJ117_53_r (n : Nat) (b : Nat) {M_ : Mem} {M : ZM} (gM : rm M_ M) {r : Int} {m' : ZM} (h : zJ117_53 n b M = some (r, m')) : sI (J117_53 n b M_) r m' := by
  unfold zJ117_53 at h
  unfold J117_53
  exact zJ117_54_r n b (show rp (-1) (-1) from rfl) gM h
def zJ117_49 (n : Nat) (b : Nat) (x2 : Int) (M : ZM) : Option (Int × ZM) :=
  zJ117_54 n b x2 M
set_option maxRecDepth 100000 in
set_option maxHeartbeats 4000000 in
theorem zJ117_49_r (n : Nat) (b : Nat) {X2_ : Int32} {x2 : Int} (hx2 : rp X2_ x2) {M_ : Mem} {M : ZM} (gM : rm M_ M) {r : Int} {m' : ZM} (h : zJ117_49 n b x2 M = some (r, m')) : sI (J117_49 n b X2_ M_) r m' := by
  unfold zJ117_49 at h
  unfold J117_49
  exact zJ117_54_r n b hx2 gM h
def zJ117_25 (n : Nat) (b : Nat) (x1 : Int) (M : ZM) : Option (Int × ZM) :=
  if x1 < 0 ∨ 120 ≤ x1 then (none) else (if rg ((M.1 (b + 2) (Int.toNat x1)) - 1) then (if ((M.1 (b + 2) (Int.toNat x1)) - 1) < 0 then (zJ117_53 n b M) else (if ((M.1 (b + 2) (Int.toNat x1)) - 1) < 0 ∨ 120 ≤ ((M.1 (b + 2) (Int.toNat x1)) - 1) then (none) else (if (M.1 (b + 1) (Int.toNat ((M.1 (b + 2) (Int.toNat x1)) - 1))) = 36 then (zJ117_49 n b ((M.1 (b + 2) (Int.toNat x1)) - 1) M) else (zJ117_53 n b M)))) else none)
set_option maxRecDepth 100000 in
set_option maxHeartbeats 4000000 in
theorem zJ117_25_r (n : Nat) (b : Nat) {X1_ : Int32} {x1 : Int} (hx1 : rp X1_ x1) {M_ : Mem} {M : ZM} (gM : rm M_ M) {r : Int} {m' : ZM} (h : zJ117_25 n b x1 M = some (r, m')) : sI (J117_25 n b X1_ M_) r m' := by
  unfold zJ117_25 at h
  unfold J117_25
  by_cases q1 : x1 < 0 ∨ 120 ≤ x1
  · rw [if_pos q1] at h
    rw [if_pos ((rp_ob hx1 120).mpr q1)]
    cases h
  · rw [if_neg q1] at h
    rw [if_neg (fun z => q1 ((rp_ob hx1 120).mp z))]
    by_cases w2 : rg ((M.1 (b + 2) (Int.toNat x1)) - 1)
    · rw [if_pos w2] at h
      by_cases q3 : ((M.1 (b + 2) (Int.toNat x1)) - 1) < 0
      · rw [if_pos q3] at h
        rw [if_pos ((rp_lt (rp_sub (rp_iz (rm_rdx gM (b + 2) hx1)) (rp_iz (show rp 1 1 from rfl)) w2) (show rp 0 0 from rfl)).mpr q3)]
        exact zJ117_53_r n b gM h
      · rw [if_neg q3] at h
        rw [if_neg (fun z => q3 ((rp_lt (rp_sub (rp_iz (rm_rdx gM (b + 2) hx1)) (rp_iz (show rp 1 1 from rfl)) w2) (show rp 0 0 from rfl)).mp z))]
        by_cases q4 : ((M.1 (b + 2) (Int.toNat x1)) - 1) < 0 ∨ 120 ≤ ((M.1 (b + 2) (Int.toNat x1)) - 1)
        · rw [if_pos q4] at h
          rw [if_pos ((rp_ob (rp_sub (rp_iz (rm_rdx gM (b + 2) hx1)) (rp_iz (show rp 1 1 from rfl)) w2) 120).mpr q4)]
          cases h
        · rw [if_neg q4] at h
          rw [if_neg (fun z => q4 ((rp_ob (rp_sub (rp_iz (rm_rdx gM (b + 2) hx1)) (rp_iz (show rp 1 1 from rfl)) w2) 120).mp z))]
          by_cases q5 : (M.1 (b + 1) (Int.toNat ((M.1 (b + 2) (Int.toNat x1)) - 1))) = 36
          · rw [if_pos q5] at h
            rw [if_pos ((rp_eq (rm_rdx gM (b + 1) (rp_sub (rp_iz (rm_rdx gM (b + 2) hx1)) (rp_iz (show rp 1 1 from rfl)) w2)) (show rp 36 36 from rfl)).mpr q5)]
            exact zJ117_49_r n b (rp_sub (rp_iz (rm_rdx gM (b + 2) hx1)) (rp_iz (show rp 1 1 from rfl)) w2) gM h
          · rw [if_neg q5] at h
            rw [if_neg (fun z => q5 ((rp_eq (rm_rdx gM (b + 1) (rp_sub (rp_iz (rm_rdx gM (b + 2) hx1)) (rp_iz (show rp 1 1 from rfl)) w2)) (show rp 36 36 from rfl)).mp z))]
            exact zJ117_53_r n b gM h
    · rw [if_neg w2] at h
      cases h
/-- ArmExpander$Definition.repetitionEndedAt -/
def zF117 (n : Nat) (b : Nat) (a0 : Int) (M : ZM) : Option (Int × ZM) :=
  if a0 < 0 then (zJ117_23 n b M) else (if (M.1 b 6) ≤ a0 then (zJ117_23 n b M) else (if a0 < 0 ∨ 120 ≤ a0 then (none) else (if (M.1 (b + 1) (Int.toNat a0)) = 41 then (zJ117_25 n b a0 M) else (zJ117_23 n b M))))
set_option maxRecDepth 100000 in
set_option maxHeartbeats 4000000 in
theorem zF117_r (n : Nat) (b : Nat) {A0_ : Int32} {a0 : Int} (ha0 : rp A0_ a0) {M_ : Mem} {M : ZM} (gM : rm M_ M) {r : Int} {m' : ZM} (h : zF117 n b a0 M = some (r, m')) : sI (F117 n b A0_ M_) r m' := by
  unfold zF117 at h
  unfold F117
  by_cases q1 : a0 < 0
  · rw [if_pos q1] at h
    rw [if_pos ((rp_lt ha0 (show rp 0 0 from rfl)).mpr q1)]
    exact zJ117_23_r n b gM h
  · rw [if_neg q1] at h
    rw [if_neg (fun z => q1 ((rp_lt ha0 (show rp 0 0 from rfl)).mp z))]
    by_cases q2 : (M.1 b 6) ≤ a0
    · rw [if_pos q2] at h
      rw [if_pos ((rp_le (rm_rd gM b 6) ha0).mpr q2)]
      exact zJ117_23_r n b gM h
    · rw [if_neg q2] at h
      rw [if_neg (fun z => q2 ((rp_le (rm_rd gM b 6) ha0).mp z))]
      by_cases q3 : a0 < 0 ∨ 120 ≤ a0
      · rw [if_pos q3] at h
        rw [if_pos ((rp_ob ha0 120).mpr q3)]
        cases h
      · rw [if_neg q3] at h
        rw [if_neg (fun z => q3 ((rp_ob ha0 120).mp z))]
        by_cases q4 : (M.1 (b + 1) (Int.toNat a0)) = 41
        · rw [if_pos q4] at h
          rw [if_pos ((rp_eq (rm_rdx gM (b + 1) ha0) (show rp 41 41 from rfl)).mpr q4)]
          exact zJ117_25_r n b ha0 gM h
        · rw [if_neg q4] at h
          rw [if_neg (fun z => q4 ((rp_eq (rm_rdx gM (b + 1) ha0) (show rp 41 41 from rfl)).mp z))]
          exact zJ117_23_r n b gM h
def zJ118_21 (n : Nat) (b : Nat) (M : ZM) : Option (Int × ZM) :=
  some ((-1), M)
set_option maxRecDepth 100000 in
set_option maxHeartbeats 4000000 in
theorem zJ118_21_r (n : Nat) (b : Nat) {M_ : Mem} {M : ZM} (gM : rm M_ M) {r : Int} {m' : ZM} (h : zJ118_21 n b M = some (r, m')) : sI (J118_21 n b M_) r m' := by
  unfold zJ118_21 at h
  unfold J118_21
  obtain ⟨rfl, rfl⟩ := Prod.mk.inj (Option.some.inj h)
  exact ⟨_, _, rfl, (show rp (-1) (-1) from rfl), gM⟩
def zJ118_23 (n : Nat) (b : Nat) (x1 : Int) (M : ZM) : Option (Int × ZM) :=
  if x1 < 0 ∨ 120 ≤ x1 then (none) else (if (M.1 (b + 4) (Int.toNat x1)) < 0 ∨ 120 ≤ (M.1 (b + 4) (Int.toNat x1)) then (none) else (some ((M.1 (b + 1) (Int.toNat (M.1 (b + 4) (Int.toNat x1)))), M)))
set_option maxRecDepth 100000 in
set_option maxHeartbeats 4000000 in
theorem zJ118_23_r (n : Nat) (b : Nat) {X1_ : Int32} {x1 : Int} (hx1 : rp X1_ x1) {M_ : Mem} {M : ZM} (gM : rm M_ M) {r : Int} {m' : ZM} (h : zJ118_23 n b x1 M = some (r, m')) : sI (J118_23 n b X1_ M_) r m' := by
  unfold zJ118_23 at h
  unfold J118_23
  by_cases q1 : x1 < 0 ∨ 120 ≤ x1
  · rw [if_pos q1] at h
    rw [if_pos ((rp_ob hx1 120).mpr q1)]
    cases h
  · rw [if_neg q1] at h
    rw [if_neg (fun z => q1 ((rp_ob hx1 120).mp z))]
    by_cases q2 : (M.1 (b + 4) (Int.toNat x1)) < 0 ∨ 120 ≤ (M.1 (b + 4) (Int.toNat x1))
    · rw [if_pos q2] at h
      rw [if_pos ((rp_ob (rm_rdx gM (b + 4) hx1) 120).mpr q2)]
      cases h
    · rw [if_neg q2] at h
      rw [if_neg (fun z => q2 ((rp_ob (rm_rdx gM (b + 4) hx1) 120).mp z))]
      obtain ⟨rfl, rfl⟩ := Prod.mk.inj (Option.some.inj h)
      exact ⟨_, _, rfl, (rm_rdx gM (b + 1) (rm_rdx gM (b + 4) hx1)), gM⟩
/-- ArmExpander$Definition.markOf -/
def zF118 (n : Nat) (b : Nat) (a0 : Int) (M : ZM) : Option (Int × ZM) :=
  if a0 < 0 then (zJ118_21 n b M) else (if (M.1 b 6) ≤ a0 then (zJ118_21 n b M) else (if a0 < 0 ∨ 120 ≤ a0 then (none) else (if 0 ≤ (M.1 (b + 4) (Int.toNat a0)) then (zJ118_23 n b a0 M) else (zJ118_21 n b M))))
set_option maxRecDepth 100000 in
set_option maxHeartbeats 4000000 in
theorem zF118_r (n : Nat) (b : Nat) {A0_ : Int32} {a0 : Int} (ha0 : rp A0_ a0) {M_ : Mem} {M : ZM} (gM : rm M_ M) {r : Int} {m' : ZM} (h : zF118 n b a0 M = some (r, m')) : sI (F118 n b A0_ M_) r m' := by
  unfold zF118 at h
  unfold F118
  by_cases q1 : a0 < 0
  · rw [if_pos q1] at h
    rw [if_pos ((rp_lt ha0 (show rp 0 0 from rfl)).mpr q1)]
    exact zJ118_21_r n b gM h
  · rw [if_neg q1] at h
    rw [if_neg (fun z => q1 ((rp_lt ha0 (show rp 0 0 from rfl)).mp z))]
    by_cases q2 : (M.1 b 6) ≤ a0
    · rw [if_pos q2] at h
      rw [if_pos ((rp_le (rm_rd gM b 6) ha0).mpr q2)]
      exact zJ118_21_r n b gM h
    · rw [if_neg q2] at h
      rw [if_neg (fun z => q2 ((rp_le (rm_rd gM b 6) ha0).mp z))]
      by_cases q3 : a0 < 0 ∨ 120 ≤ a0
      · rw [if_pos q3] at h
        rw [if_pos ((rp_ob ha0 120).mpr q3)]
        cases h
      · rw [if_neg q3] at h
        rw [if_neg (fun z => q3 ((rp_ob ha0 120).mp z))]
        by_cases q4 : 0 ≤ (M.1 (b + 4) (Int.toNat a0))
        · rw [if_pos q4] at h
          rw [if_pos ((rp_le (show rp 0 0 from rfl) (rm_rdx gM (b + 4) ha0)).mpr q4)]
          exact zJ118_23_r n b ha0 gM h
        · rw [if_neg q4] at h
          rw [if_neg (fun z => q4 ((rp_le (show rp 0 0 from rfl) (rm_rdx gM (b + 4) ha0)).mp z))]
          exact zJ118_21_r n b gM h
def zJ119_21 (n : Nat) (b : Nat) (M : ZM) : Option (Int × ZM) :=
  some ((M.1 b 6), M)
set_option maxRecDepth 100000 in
set_option maxHeartbeats 4000000 in
theorem zJ119_21_r (n : Nat) (b : Nat) {M_ : Mem} {M : ZM} (gM : rm M_ M) {r : Int} {m' : ZM} (h : zJ119_21 n b M = some (r, m')) : sI (J119_21 n b M_) r m' := by
  unfold zJ119_21 at h
  unfold J119_21
  obtain ⟨rfl, rfl⟩ := Prod.mk.inj (Option.some.inj h)
  exact ⟨_, _, rfl, (rm_rd gM b 6), gM⟩
def zJ119_26 (n : Nat) (b : Nat) (x1 : Int) (M : ZM) : Option (Int × ZM) :=
  if x1 < 0 ∨ 120 ≤ x1 then (none) else (if rg ((M.1 (b + 4) (Int.toNat x1)) + 1) then (some (((M.1 (b + 4) (Int.toNat x1)) + 1), M)) else none)
set_option maxRecDepth 100000 in
set_option maxHeartbeats 4000000 in
theorem zJ119_26_r (n : Nat) (b : Nat) {X1_ : Int32} {x1 : Int} (hx1 : rp X1_ x1) {M_ : Mem} {M : ZM} (gM : rm M_ M) {r : Int} {m' : ZM} (h : zJ119_26 n b x1 M = some (r, m')) : sI (J119_26 n b X1_ M_) r m' := by
  unfold zJ119_26 at h
  unfold J119_26
  by_cases q1 : x1 < 0 ∨ 120 ≤ x1
  · rw [if_pos q1] at h
    rw [if_pos ((rp_ob hx1 120).mpr q1)]
    cases h
  · rw [if_neg q1] at h
    rw [if_neg (fun z => q1 ((rp_ob hx1 120).mp z))]
    by_cases w2 : rg ((M.1 (b + 4) (Int.toNat x1)) + 1)
    · rw [if_pos w2] at h
      obtain ⟨rfl, rfl⟩ := Prod.mk.inj (Option.some.inj h)
      exact ⟨_, _, rfl, (rp_add (rp_iz (rm_rdx gM (b + 4) hx1)) (rp_iz (show rp 1 1 from rfl)) w2), gM⟩
    · rw [if_neg w2] at h
      cases h
/-- ArmExpander$Definition.behind -/
def zF119 (n : Nat) (b : Nat) (a0 : Int) (M : ZM) : Option (Int × ZM) :=
  if a0 < 0 then (zJ119_21 n b M) else (if (M.1 b 6) ≤ a0 then (zJ119_21 n b M) else (if a0 < 0 ∨ 120 ≤ a0 then (none) else (if 0 ≤ (M.1 (b + 4) (Int.toNat a0)) then (zJ119_26 n b a0 M) else (zJ119_21 n b M))))
set_option maxRecDepth 100000 in
set_option maxHeartbeats 4000000 in
theorem zF119_r (n : Nat) (b : Nat) {A0_ : Int32} {a0 : Int} (ha0 : rp A0_ a0) {M_ : Mem} {M : ZM} (gM : rm M_ M) {r : Int} {m' : ZM} (h : zF119 n b a0 M = some (r, m')) : sI (F119 n b A0_ M_) r m' := by
  unfold zF119 at h
  unfold F119
  by_cases q1 : a0 < 0
  · rw [if_pos q1] at h
    rw [if_pos ((rp_lt ha0 (show rp 0 0 from rfl)).mpr q1)]
    exact zJ119_21_r n b gM h
  · rw [if_neg q1] at h
    rw [if_neg (fun z => q1 ((rp_lt ha0 (show rp 0 0 from rfl)).mp z))]
    by_cases q2 : (M.1 b 6) ≤ a0
    · rw [if_pos q2] at h
      rw [if_pos ((rp_le (rm_rd gM b 6) ha0).mpr q2)]
      exact zJ119_21_r n b gM h
    · rw [if_neg q2] at h
      rw [if_neg (fun z => q2 ((rp_le (rm_rd gM b 6) ha0).mp z))]
      by_cases q3 : a0 < 0 ∨ 120 ≤ a0
      · rw [if_pos q3] at h
        rw [if_pos ((rp_ob ha0 120).mpr q3)]
        cases h
      · rw [if_neg q3] at h
        rw [if_neg (fun z => q3 ((rp_ob ha0 120).mp z))]
        by_cases q4 : 0 ≤ (M.1 (b + 4) (Int.toNat a0))
        · rw [if_pos q4] at h
          rw [if_pos ((rp_le (show rp 0 0 from rfl) (rm_rdx gM (b + 4) ha0)).mpr q4)]
          exact zJ119_26_r n b ha0 gM h
        · rw [if_neg q4] at h
          rw [if_neg (fun z => q4 ((rp_le (show rp 0 0 from rfl) (rm_rdx gM (b + 4) ha0)).mp z))]
          exact zJ119_21_r n b gM h
def zJ120_14 (n : Nat) (b : Nat) (M : ZM) : Option (Int × ZM) :=
  some ((-1), M)
set_option maxRecDepth 100000 in
set_option maxHeartbeats 4000000 in
theorem zJ120_14_r (n : Nat) (b : Nat) {M_ : Mem} {M : ZM} (gM : rm M_ M) {r : Int} {m' : ZM} (h : zJ120_14 n b M = some (r, m')) : sI (J120_14 n b M_) r m' := by
  unfold zJ120_14 at h
  unfold J120_14
  obtain ⟨rfl, rfl⟩ := Prod.mk.inj (Option.some.inj h)
  exact ⟨_, _, rfl, (show rp (-1) (-1) from rfl), gM⟩
def zJ120_44 (n : Nat) (b : Nat) (s0 : Int) (M : ZM) : Option (Int × ZM) :=
  some (s0, M)
set_option maxRecDepth 100000 in
set_option maxHeartbeats 4000000 in
theorem zJ120_44_r (n : Nat) (b : Nat) {S0_ : Int32} {s0 : Int} (hs0 : rp S0_ s0) {M_ : Mem} {M : ZM} (gM : rm M_ M) {r : Int} {m' : ZM} (h : zJ120_44 n b s0 M = some (r, m')) : sI (J120_44 n b S0_ M_) r m' := by
  unfold zJ120_44 at h
  unfold J120_44
  obtain ⟨rfl, rfl⟩ := Prod.mk.inj (Option.some.inj h)
  exact ⟨_, _, rfl, hs0, gM⟩
def zJ120_37 (n : Nat) (b : Nat) (x2 : Int) (M : ZM) : Option (Int × ZM) :=
  if rg (x2 + 1) then (zJ120_44 n b (x2 + 1) M) else none
set_option maxRecDepth 100000 in
set_option maxHeartbeats 4000000 in
theorem zJ120_37_r (n : Nat) (b : Nat) {X2_ : Int32} {x2 : Int} (hx2 : rp X2_ x2) {M_ : Mem} {M : ZM} (gM : rm M_ M) {r : Int} {m' : ZM} (h : zJ120_37 n b x2 M = some (r, m')) : sI (J120_37 n b X2_ M_) r m' := by
  unfold zJ120_37 at h
  unfold J120_37
  by_cases w1 : rg (x2 + 1)
  · rw [if_pos w1] at h
    exact zJ120_44_r n b (rp_add (rp_iz hx2) (rp_iz (show rp 1 1 from rfl)) w1) gM h
  · rw [if_neg w1] at h
    cases h
def zJ120_43 (n : Nat) (b : Nat) (M : ZM) : Option (Int × ZM) :=
  zJ120_44 n b (-1) M
set_option maxRecDepth 100000 in
set_option maxHeartbeats 4000000 in
theorem zJ120_43_r (n : Nat) (b : Nat) {M_ : Mem} {M : ZM} (gM : rm M_ M) {r : Int} {m' : ZM} (h : zJ120_43 n b M = some (r, m')) : sI (J120_43 n b M_) r m' := by
  unfold zJ120_43 at h
  unfold J120_43
  exact zJ120_44_r n b (show rp (-1) (-1) from rfl) gM h
/-- ArmExpander$Definition.separatorOf -/
def zF120 (n : Nat) (b : Nat) (a0 : Int) (M : ZM) : Option (Int × ZM) :=
  if a0 < 0 then (zJ120_14 n b M) else (if rg (a0 + 1) then (if (a0 + 1) < (M.1 b 6) then (if (a0 + 1) < 0 ∨ 120 ≤ (a0 + 1) then (none) else (if a0 < 0 ∨ 120 ≤ a0 then (none) else (if rg ((M.1 (b + 2) (Int.toNat (a0 + 1))) + 2) then (if (M.1 (b + 4) (Int.toNat a0)) = ((M.1 (b + 2) (Int.toNat (a0 + 1))) + 2) then (zJ120_37 n b (M.1 (b + 2) (Int.toNat (a0 + 1))) M) else (zJ120_43 n b M)) else none))) else (zJ120_14 n b M)) else none)
set_option maxRecDepth 100000 in
set_option maxHeartbeats 4000000 in
theorem zF120_r (n : Nat) (b : Nat) {A0_ : Int32} {a0 : Int} (ha0 : rp A0_ a0) {M_ : Mem} {M : ZM} (gM : rm M_ M) {r : Int} {m' : ZM} (h : zF120 n b a0 M = some (r, m')) : sI (F120 n b A0_ M_) r m' := by
  unfold zF120 at h
  unfold F120
  by_cases q1 : a0 < 0
  · rw [if_pos q1] at h
    rw [if_pos ((rp_lt ha0 (show rp 0 0 from rfl)).mpr q1)]
    exact zJ120_14_r n b gM h
  · rw [if_neg q1] at h
    rw [if_neg (fun z => q1 ((rp_lt ha0 (show rp 0 0 from rfl)).mp z))]
    by_cases w2 : rg (a0 + 1)
    · rw [if_pos w2] at h
      by_cases q3 : (a0 + 1) < (M.1 b 6)
      · rw [if_pos q3] at h
        rw [if_pos ((rp_lt (rp_add (rp_iz ha0) (rp_iz (show rp 1 1 from rfl)) w2) (rm_rd gM b 6)).mpr q3)]
        by_cases q4 : (a0 + 1) < 0 ∨ 120 ≤ (a0 + 1)
        · rw [if_pos q4] at h
          rw [if_pos ((rp_ob (rp_add (rp_iz ha0) (rp_iz (show rp 1 1 from rfl)) w2) 120).mpr q4)]
          cases h
        · rw [if_neg q4] at h
          rw [if_neg (fun z => q4 ((rp_ob (rp_add (rp_iz ha0) (rp_iz (show rp 1 1 from rfl)) w2) 120).mp z))]
          by_cases q5 : a0 < 0 ∨ 120 ≤ a0
          · rw [if_pos q5] at h
            rw [if_pos ((rp_ob ha0 120).mpr q5)]
            cases h
          · rw [if_neg q5] at h
            rw [if_neg (fun z => q5 ((rp_ob ha0 120).mp z))]
            by_cases w6 : rg ((M.1 (b + 2) (Int.toNat (a0 + 1))) + 2)
            · rw [if_pos w6] at h
              by_cases q7 : (M.1 (b + 4) (Int.toNat a0)) = ((M.1 (b + 2) (Int.toNat (a0 + 1))) + 2)
              · rw [if_pos q7] at h
                rw [if_pos ((rp_eq (rm_rdx gM (b + 4) ha0) (rp_add (rp_iz (rm_rdx gM (b + 2) (rp_add (rp_iz ha0) (rp_iz (show rp 1 1 from rfl)) w2))) (rp_iz (show rp 2 2 from rfl)) w6)).mpr q7)]
                exact zJ120_37_r n b (rm_rdx gM (b + 2) (rp_add (rp_iz ha0) (rp_iz (show rp 1 1 from rfl)) w2)) gM h
              · rw [if_neg q7] at h
                rw [if_neg (fun z => q7 ((rp_eq (rm_rdx gM (b + 4) ha0) (rp_add (rp_iz (rm_rdx gM (b + 2) (rp_add (rp_iz ha0) (rp_iz (show rp 1 1 from rfl)) w2))) (rp_iz (show rp 2 2 from rfl)) w6)).mp z))]
                exact zJ120_43_r n b gM h
            · rw [if_neg w6] at h
              cases h
      · rw [if_neg q3] at h
        rw [if_neg (fun z => q3 ((rp_lt (rp_add (rp_iz ha0) (rp_iz (show rp 1 1 from rfl)) w2) (rm_rd gM b 6)).mp z))]
        exact zJ120_14_r n b gM h
    · rw [if_neg w2] at h
      cases h
def zJ121_22 (n : Nat) (b : Nat) (s0 : Int) (M : ZM) : Option (Int × ZM) :=
  some (s0, M)
set_option maxRecDepth 100000 in
set_option maxHeartbeats 4000000 in
theorem zJ121_22_r (n : Nat) (b : Nat) {S0_ : Int32} {s0 : Int} (hs0 : rp S0_ s0) {M_ : Mem} {M : ZM} (gM : rm M_ M) {r : Int} {m' : ZM} (h : zJ121_22 n b s0 M = some (r, m')) : sI (J121_22 n b S0_ M_) r m' := by
  unfold zJ121_22 at h
  unfold J121_22
  obtain ⟨rfl, rfl⟩ := Prod.mk.inj (Option.some.inj h)
  exact ⟨_, _, rfl, hs0, gM⟩
def zJ121_21 (n : Nat) (b : Nat) (M : ZM) : Option (Int × ZM) :=
  zJ121_22 n b (-1) M
set_option maxRecDepth 100000 in
set_option maxHeartbeats 4000000 in
theorem zJ121_21_r (n : Nat) (b : Nat) {M_ : Mem} {M : ZM} (gM : rm M_ M) {r : Int} {m' : ZM} (h : zJ121_21 n b M = some (r, m')) : sI (J121_21 n b M_) r m' := by
  unfold zJ121_21 at h
  unfold J121_21
  exact zJ121_22_r n b (show rp (-1) (-1) from rfl) gM h
/-- ArmExpander$Definition.repetitionAround -/
def zF121 (n : Nat) (b : Nat) (a0 : Int) (M : ZM) : Option (Int × ZM) :=
  if a0 < 0 then (zJ121_21 n b M) else (if (M.1 b 6) ≤ a0 then (zJ121_21 n b M) else (if a0 < 0 ∨ 120 ≤ a0 then (none) else (zJ121_22 n b (M.1 (b + 3) (Int.toNat a0)) M)))
set_option maxRecDepth 100000 in
set_option maxHeartbeats 4000000 in
theorem zF121_r (n : Nat) (b : Nat) {A0_ : Int32} {a0 : Int} (ha0 : rp A0_ a0) {M_ : Mem} {M : ZM} (gM : rm M_ M) {r : Int} {m' : ZM} (h : zF121 n b a0 M = some (r, m')) : sI (F121 n b A0_ M_) r m' := by
  unfold zF121 at h
  unfold F121
  by_cases q1 : a0 < 0
  · rw [if_pos q1] at h
    rw [if_pos ((rp_lt ha0 (show rp 0 0 from rfl)).mpr q1)]
    exact zJ121_21_r n b gM h
  · rw [if_neg q1] at h
    rw [if_neg (fun z => q1 ((rp_lt ha0 (show rp 0 0 from rfl)).mp z))]
    by_cases q2 : (M.1 b 6) ≤ a0
    · rw [if_pos q2] at h
      rw [if_pos ((rp_le (rm_rd gM b 6) ha0).mpr q2)]
      exact zJ121_21_r n b gM h
    · rw [if_neg q2] at h
      rw [if_neg (fun z => q2 ((rp_le (rm_rd gM b 6) ha0).mp z))]
      by_cases q3 : a0 < 0 ∨ 120 ≤ a0
      · rw [if_pos q3] at h
        rw [if_pos ((rp_ob ha0 120).mpr q3)]
        cases h
      · rw [if_neg q3] at h
        rw [if_neg (fun z => q3 ((rp_ob ha0 120).mp z))]
        exact zJ121_22_r n b (rm_rdx gM (b + 3) ha0) gM h
def zJ122_29 (n : Nat) (b : Nat) (s0 : Int) (M : ZM) : Option (Int × ZM) :=
  some (s0, M)
set_option maxRecDepth 100000 in
set_option maxHeartbeats 4000000 in
theorem zJ122_29_r (n : Nat) (b : Nat) {S0_ : Int32} {s0 : Int} (hs0 : rp S0_ s0) {M_ : Mem} {M : ZM} (gM : rm M_ M) {r : Int} {m' : ZM} (h : zJ122_29 n b s0 M = some (r, m')) : sI (J122_29 n b S0_ M_) r m' := by
  unfold zJ122_29 at h
  unfold J122_29
  obtain ⟨rfl, rfl⟩ := Prod.mk.inj (Option.some.inj h)
  exact ⟨_, _, rfl, hs0, gM⟩
def zJ122_24 (n : Nat) (b : Nat) (M : ZM) : Option (Int × ZM) :=
  zJ122_29 n b 1 M
set_option maxRecDepth 100000 in
set_option maxHeartbeats 4000000 in
theorem zJ122_24_r (n : Nat) (b : Nat) {M_ : Mem} {M : ZM} (gM : rm M_ M) {r : Int} {m' : ZM} (h : zJ122_24 n b M = some (r, m')) : sI (J122_24 n b M_) r m' := by
  unfold zJ122_24 at h
  unfold J122_24
  exact zJ122_29_r n b (show rp 1 1 from rfl) gM h
def zJ122_28 (n : Nat) (b : Nat) (M : ZM) : Option (Int × ZM) :=
  zJ122_29 n b 2 M
set_option maxRecDepth 100000 in
set_option maxHeartbeats 4000000 in
theorem zJ122_28_r (n : Nat) (b : Nat) {M_ : Mem} {M : ZM} (gM : rm M_ M) {r : Int} {m' : ZM} (h : zJ122_28 n b M = some (r, m')) : sI (J122_28 n b M_) r m' := by
  unfold zJ122_28 at h
  unfold J122_28
  exact zJ122_29_r n b (show rp 2 2 from rfl) gM h
/-- ArmExpander$Definition.repetitionsAround -/
def zF122 (n : Nat) (b : Nat) (a0 : Int) (M : ZM) : Option (Int × ZM) :=
  match zF121 n b a0 M with | some (v1, M2) => (if v1 = (-1) then (zJ122_29 n b 0 M2) else (match zF121 n b v1 M2 with | some (v5, M6) => (if v5 = (-1) then (zJ122_24 n b M6) else (zJ122_28 n b M6)) | none => none)) | none => none
set_option maxRecDepth 100000 in
set_option maxHeartbeats 4000000 in
theorem zF122_r (n : Nat) (b : Nat) {A0_ : Int32} {a0 : Int} (ha0 : rp A0_ a0) {M_ : Mem} {M : ZM} (gM : rm M_ M) {r : Int} {m' : ZM} (h : zF122 n b a0 M = some (r, m')) : sI (F122 n b A0_ M_) r m' := by
  unfold zF122 at h
  unfold F122
  cases hc1 : zF121 n b a0 M with
  | none => rw [hc1] at h; cases h
  | some w =>
    obtain ⟨v1, M2⟩ := w
    rw [hc1] at h
    dsimp only at h
    obtain ⟨V1, NM2, ehc1, hv1, gM2⟩ := zF121_r n b ha0 gM hc1
    rw [ehc1]
    dsimp only
    by_cases q2 : v1 = (-1)
    · rw [if_pos q2] at h
      rw [if_pos ((rp_eq hv1 (show rp (-1) (-1) from rfl)).mpr q2)]
      exact zJ122_29_r n b (show rp 0 0 from rfl) gM2 h
    · rw [if_neg q2] at h
      rw [if_neg (fun z => q2 ((rp_eq hv1 (show rp (-1) (-1) from rfl)).mp z))]
      cases hc3 : zF121 n b v1 M2 with
      | none => rw [hc3] at h; cases h
      | some w =>
        obtain ⟨v5, M6⟩ := w
        rw [hc3] at h
        dsimp only at h
        obtain ⟨V5, NM6, ehc3, hv5, gM6⟩ := zF121_r n b hv1 gM2 hc3
        rw [ehc3]
        dsimp only
        by_cases q4 : v5 = (-1)
        · rw [if_pos q4] at h
          rw [if_pos ((rp_eq hv5 (show rp (-1) (-1) from rfl)).mpr q4)]
          exact zJ122_24_r n b gM6 h
        · rw [if_neg q4] at h
          rw [if_neg (fun z => q4 ((rp_eq hv5 (show rp (-1) (-1) from rfl)).mp z))]
          exact zJ122_28_r n b gM6 h
def zJ123_22 (n : Nat) (b : Nat) (M : ZM) : Option (Int × ZM) :=
  some ((-1), M)
set_option maxRecDepth 100000 in
set_option maxHeartbeats 4000000 in
theorem zJ123_22_r (n : Nat) (b : Nat) {M_ : Mem} {M : ZM} (gM : rm M_ M) {r : Int} {m' : ZM} (h : zJ123_22 n b M = some (r, m')) : sI (J123_22 n b M_) r m' := by
  unfold zJ123_22 at h
  unfold J123_22
  obtain ⟨rfl, rfl⟩ := Prod.mk.inj (Option.some.inj h)
  exact ⟨_, _, rfl, (show rp (-1) (-1) from rfl), gM⟩
def zJ123_24 (n : Nat) (b : Nat) (x1 : Int) (M : ZM) : Option (Int × ZM) :=
  if x1 < 0 ∨ 120 ≤ x1 then (none) else (some ((M.1 (b + 5) (Int.toNat x1)), M))
set_option maxRecDepth 100000 in
set_option maxHeartbeats 4000000 in
theorem zJ123_24_r (n : Nat) (b : Nat) {X1_ : Int32} {x1 : Int} (hx1 : rp X1_ x1) {M_ : Mem} {M : ZM} (gM : rm M_ M) {r : Int} {m' : ZM} (h : zJ123_24 n b x1 M = some (r, m')) : sI (J123_24 n b X1_ M_) r m' := by
  unfold zJ123_24 at h
  unfold J123_24
  by_cases q1 : x1 < 0 ∨ 120 ≤ x1
  · rw [if_pos q1] at h
    rw [if_pos ((rp_ob hx1 120).mpr q1)]
    cases h
  · rw [if_neg q1] at h
    rw [if_neg (fun z => q1 ((rp_ob hx1 120).mp z))]
    obtain ⟨rfl, rfl⟩ := Prod.mk.inj (Option.some.inj h)
    exact ⟨_, _, rfl, (rm_rdx gM (b + 5) hx1), gM⟩
/-- ArmExpander$Definition.outerOrder -/
def zF123 (n : Nat) (b : Nat) (a0 : Int) (M : ZM) : Option (Int × ZM) :=
  if a0 < 0 then (zJ123_22 n b M) else (if (M.1 b 6) ≤ a0 then (zJ123_22 n b M) else (if a0 < 0 ∨ 120 ≤ a0 then (none) else (if (M.1 (b + 3) (Int.toNat a0)) = (-1) then (zJ123_24 n b a0 M) else (zJ123_22 n b M))))
set_option maxRecDepth 100000 in
set_option maxHeartbeats 4000000 in
theorem zF123_r (n : Nat) (b : Nat) {A0_ : Int32} {a0 : Int} (ha0 : rp A0_ a0) {M_ : Mem} {M : ZM} (gM : rm M_ M) {r : Int} {m' : ZM} (h : zF123 n b a0 M = some (r, m')) : sI (F123 n b A0_ M_) r m' := by
  unfold zF123 at h
  unfold F123
  by_cases q1 : a0 < 0
  · rw [if_pos q1] at h
    rw [if_pos ((rp_lt ha0 (show rp 0 0 from rfl)).mpr q1)]
    exact zJ123_22_r n b gM h
  · rw [if_neg q1] at h
    rw [if_neg (fun z => q1 ((rp_lt ha0 (show rp 0 0 from rfl)).mp z))]
    by_cases q2 : (M.1 b 6) ≤ a0
    · rw [if_pos q2] at h
      rw [if_pos ((rp_le (rm_rd gM b 6) ha0).mpr q2)]
      exact zJ123_22_r n b gM h
    · rw [if_neg q2] at h
      rw [if_neg (fun z => q2 ((rp_le (rm_rd gM b 6) ha0).mp z))]
      by_cases q3 : a0 < 0 ∨ 120 ≤ a0
      · rw [if_pos q3] at h
        rw [if_pos ((rp_ob ha0 120).mpr q3)]
        cases h
      · rw [if_neg q3] at h
        rw [if_neg (fun z => q3 ((rp_ob ha0 120).mp z))]
        by_cases q4 : (M.1 (b + 3) (Int.toNat a0)) = (-1)
        · rw [if_pos q4] at h
          rw [if_pos ((rp_eq (rm_rdx gM (b + 3) ha0) (show rp (-1) (-1) from rfl)).mpr q4)]
          exact zJ123_24_r n b ha0 gM h
        · rw [if_neg q4] at h
          rw [if_neg (fun z => q4 ((rp_eq (rm_rdx gM (b + 3) ha0) (show rp (-1) (-1) from rfl)).mp z))]
          exact zJ123_22_r n b gM h
def zJ124_21 (n : Nat) (b : Nat) (M : ZM) : Option (Int × ZM) :=
  some ((-1), M)
set_option maxRecDepth 100000 in
set_option maxHeartbeats 4000000 in
theorem zJ124_21_r (n : Nat) (b : Nat) {M_ : Mem} {M : ZM} (gM : rm M_ M) {r : Int} {m' : ZM} (h : zJ124_21 n b M = some (r, m')) : sI (J124_21 n b M_) r m' := by
  unfold zJ124_21 at h
  unfold J124_21
  obtain ⟨rfl, rfl⟩ := Prod.mk.inj (Option.some.inj h)
  exact ⟨_, _, rfl, (show rp (-1) (-1) from rfl), gM⟩
def zJ124_59 (n : Nat) (b : Nat) (s0 : Int) (M : ZM) : Option (Int × ZM) :=
  some (s0, M)
set_option maxRecDepth 100000 in
set_option maxHeartbeats 4000000 in
theorem zJ124_59_r (n : Nat) (b : Nat) {S0_ : Int32} {s0 : Int} (hs0 : rp S0_ s0) {M_ : Mem} {M : ZM} (gM : rm M_ M) {r : Int} {m' : ZM} (h : zJ124_59 n b s0 M = some (r, m')) : sI (J124_59 n b S0_ M_) r m' := by
  unfold zJ124_59 at h
  unfold J124_59
  obtain ⟨rfl, rfl⟩ := Prod.mk.inj (Option.some.inj h)
  exact ⟨_, _, rfl, hs0, gM⟩
def zJ124_23 (n : Nat) (b : Nat) (x1 : Int) (M : ZM) : Option (Int × ZM) :=
  if x1 < 0 ∨ 120 ≤ x1 then (none) else (if (M.1 (b + 3) (Int.toNat x1)) < 0 ∨ 120 ≤ (M.1 (b + 3) (Int.toNat x1)) then (none) else (if 0 ≤ (M.1 (b + 3) (Int.toNat (M.1 (b + 3) (Int.toNat x1)))) then (if (M.1 (b + 3) (Int.toNat (M.1 (b + 3) (Int.toNat x1)))) < 0 ∨ 120 ≤ (M.1 (b + 3) (Int.toNat (M.1 (b + 3) (Int.toNat x1)))) then (none) else (zJ124_59 n b (M.1 (b + 5) (Int.toNat (M.1 (b + 3) (Int.toNat (M.1 (b + 3) (Int.toNat x1)))))) M)) else (zJ124_59 n b (M.1 (b + 5) (Int.toNat (M.1 (b + 3) (Int.toNat x1)))) M)))
set_option maxRecDepth 100000 in
set_option maxHeartbeats 4000000 in
theorem zJ124_23_r (n : Nat) (b : Nat) {X1_ : Int32} {x1 : Int} (hx1 : rp X1_ x1) {M_ : Mem} {M : ZM} (gM : rm M_ M) {r : Int} {m' : ZM} (h : zJ124_23 n b x1 M = some (r, m')) : sI (J124_23 n b X1_ M_) r m' := by
  unfold zJ124_23 at h
  unfold J124_23
  by_cases q1 : x1 < 0 ∨ 120 ≤ x1
  · rw [if_pos q1] at h
    rw [if_pos ((rp_ob hx1 120).mpr q1)]
    cases h
  · rw [if_neg q1] at h
    rw [if_neg (fun z => q1 ((rp_ob hx1 120).mp z))]
    by_cases q2 : (M.1 (b + 3) (Int.toNat x1)) < 0 ∨ 120 ≤ (M.1 (b + 3) (Int.toNat x1))
    · rw [if_pos q2] at h
      rw [if_pos ((rp_ob (rm_rdx gM (b + 3) hx1) 120).mpr q2)]
      cases h
    · rw [if_neg q2] at h
      rw [if_neg (fun z => q2 ((rp_ob (rm_rdx gM (b + 3) hx1) 120).mp z))]
      by_cases q3 : 0 ≤ (M.1 (b + 3) (Int.toNat (M.1 (b + 3) (Int.toNat x1))))
      · rw [if_pos q3] at h
        rw [if_pos ((rp_le (show rp 0 0 from rfl) (rm_rdx gM (b + 3) (rm_rdx gM (b + 3) hx1))).mpr q3)]
        rw [if_neg (fun z => q2 ((rp_ob (rm_rdx gM (b + 3) hx1) 120).mp z))]
        by_cases q4 : (M.1 (b + 3) (Int.toNat (M.1 (b + 3) (Int.toNat x1)))) < 0 ∨ 120 ≤ (M.1 (b + 3) (Int.toNat (M.1 (b + 3) (Int.toNat x1))))
        · rw [if_pos q4] at h
          rw [if_pos ((rp_ob (rm_rdx gM (b + 3) (rm_rdx gM (b + 3) hx1)) 120).mpr q4)]
          cases h
        · rw [if_neg q4] at h
          rw [if_neg (fun z => q4 ((rp_ob (rm_rdx gM (b + 3) (rm_rdx gM (b + 3) hx1)) 120).mp z))]
          exact zJ124_59_r n b (rm_rdx gM (b + 5) (rm_rdx gM (b + 3) (rm_rdx gM (b + 3) hx1))) gM h
      · rw [if_neg q3] at h
        rw [if_neg (fun z => q3 ((rp_le (show rp 0 0 from rfl) (rm_rdx gM (b + 3) (rm_rdx gM (b + 3) hx1))).mp z))]
        rw [if_neg (fun z => q2 ((rp_ob (rm_rdx gM (b + 3) hx1) 120).mp z))]
        exact zJ124_59_r n b (rm_rdx gM (b + 5) (rm_rdx gM (b + 3) hx1)) gM h
/-- ArmExpander$Definition.orderAround -/
def zF124 (n : Nat) (b : Nat) (a0 : Int) (M : ZM) : Option (Int × ZM) :=
  if a0 < 0 then (zJ124_21 n b M) else (if (M.1 b 6) ≤ a0 then (zJ124_21 n b M) else (if a0 < 0 ∨ 120 ≤ a0 then (none) else (if 0 ≤ (M.1 (b + 3) (Int.toNat a0)) then (zJ124_23 n b a0 M) else (zJ124_21 n b M))))
set_option maxRecDepth 100000 in
set_option maxHeartbeats 4000000 in
theorem zF124_r (n : Nat) (b : Nat) {A0_ : Int32} {a0 : Int} (ha0 : rp A0_ a0) {M_ : Mem} {M : ZM} (gM : rm M_ M) {r : Int} {m' : ZM} (h : zF124 n b a0 M = some (r, m')) : sI (F124 n b A0_ M_) r m' := by
  unfold zF124 at h
  unfold F124
  by_cases q1 : a0 < 0
  · rw [if_pos q1] at h
    rw [if_pos ((rp_lt ha0 (show rp 0 0 from rfl)).mpr q1)]
    exact zJ124_21_r n b gM h
  · rw [if_neg q1] at h
    rw [if_neg (fun z => q1 ((rp_lt ha0 (show rp 0 0 from rfl)).mp z))]
    by_cases q2 : (M.1 b 6) ≤ a0
    · rw [if_pos q2] at h
      rw [if_pos ((rp_le (rm_rd gM b 6) ha0).mpr q2)]
      exact zJ124_21_r n b gM h
    · rw [if_neg q2] at h
      rw [if_neg (fun z => q2 ((rp_le (rm_rd gM b 6) ha0).mp z))]
      by_cases q3 : a0 < 0 ∨ 120 ≤ a0
      · rw [if_pos q3] at h
        rw [if_pos ((rp_ob ha0 120).mpr q3)]
        cases h
      · rw [if_neg q3] at h
        rw [if_neg (fun z => q3 ((rp_ob ha0 120).mp z))]
        by_cases q4 : 0 ≤ (M.1 (b + 3) (Int.toNat a0))
        · rw [if_pos q4] at h
          rw [if_pos ((rp_le (show rp 0 0 from rfl) (rm_rdx gM (b + 3) ha0)).mpr q4)]
          exact zJ124_23_r n b ha0 gM h
        · rw [if_neg q4] at h
          rw [if_neg (fun z => q4 ((rp_le (show rp 0 0 from rfl) (rm_rdx gM (b + 3) ha0)).mp z))]
          exact zJ124_21_r n b gM h
def zJ125_12 (n : Nat) (b : Nat) (M : ZM) : Option (Int × ZM) :=
  some ((-1), M)
set_option maxRecDepth 100000 in
set_option maxHeartbeats 4000000 in
theorem zJ125_12_r (n : Nat) (b : Nat) {M_ : Mem} {M : ZM} (gM : rm M_ M) {r : Int} {m' : ZM} (h : zJ125_12 n b M = some (r, m')) : sI (J125_12 n b M_) r m' := by
  unfold zJ125_12 at h
  unfold J125_12
  obtain ⟨rfl, rfl⟩ := Prod.mk.inj (Option.some.inj h)
  exact ⟨_, _, rfl, (show rp (-1) (-1) from rfl), gM⟩
def zJ125_85 (n : Nat) (b : Nat) (M : ZM) : Option (Int × ZM) :=
  some ((-1), M)
set_option maxRecDepth 100000 in
set_option maxHeartbeats 4000000 in
theorem zJ125_85_r (n : Nat) (b : Nat) {M_ : Mem} {M : ZM} (gM : rm M_ M) {r : Int} {m' : ZM} (h : zJ125_85 n b M = some (r, m')) : sI (J125_85 n b M_) r m' := by
  unfold zJ125_85 at h
  unfold J125_85
  obtain ⟨rfl, rfl⟩ := Prod.mk.inj (Option.some.inj h)
  exact ⟨_, _, rfl, (show rp (-1) (-1) from rfl), gM⟩
def zJ125_79 (n : Nat) (b : Nat) (zrec34 : Int → Int → Int → ZM → Option (Int × ZM)) (x2 : Int) (x3 : Int) (x4 : Int) (M : ZM) : Option (Int × ZM) :=
  if rg (x4 + 1) then (zrec34 x2 x3 (x4 + 1) M) else none
set_option maxRecDepth 100000 in
set_option maxHeartbeats 4000000 in
theorem zJ125_79_r (n : Nat) (b : Nat) (rec34 : Int32 → Int32 → Int32 → Mem → Option (Int32 × Mem)) (zrec34 : Int → Int → Int → ZM → Option (Int × ZM)) (hrec34 : ∀ {Y1 : Int32} {y1 : Int} (_ : rp Y1 y1) {Y2 : Int32} {y2 : Int} (_ : rp Y2 y2) {Y3 : Int32} {y3 : Int} (_ : rp Y3 y3) {M : Mem} {m : ZM} (_ : rm M m) {r : Int} {m' : ZM} (_ : zrec34 y1 y2 y3 m = some (r, m')), sI (rec34 Y1 Y2 Y3 M) r m') {X2_ : Int32} {x2 : Int} (hx2 : rp X2_ x2) {X3_ : Int32} {x3 : Int} (hx3 : rp X3_ x3) {X4_ : Int32} {x4 : Int} (hx4 : rp X4_ x4) {M_ : Mem} {M : ZM} (gM : rm M_ M) {r : Int} {m' : ZM} (h : zJ125_79 n b zrec34 x2 x3 x4 M = some (r, m')) : sI (J125_79 n b rec34 X2_ X3_ X4_ M_) r m' := by
  unfold zJ125_79 at h
  unfold J125_79
  by_cases w1 : rg (x4 + 1)
  · rw [if_pos w1] at h
    exact hrec34 hx2 hx3 (rp_add (rp_iz hx4) (rp_iz (show rp 1 1 from rfl)) w1) gM h
  · rw [if_neg w1] at h
    cases h
def zJ125_63 (n : Nat) (b : Nat) (zrec34 : Int → Int → Int → ZM → Option (Int × ZM)) (x2 : Int) (x3 : Int) (x4 : Int) (M : ZM) : Option (Int × ZM) :=
  if rg (x4 + 1) then (if (x4 + 1) < 0 ∨ 120 ≤ (x4 + 1) then (none) else (if (M.1 (b + 1) (Int.toNat (x4 + 1))) = x2 then (some (x4, M)) else (zJ125_79 n b zrec34 x2 x3 x4 M))) else none
set_option maxRecDepth 100000 in
set_option maxHeartbeats 4000000 in
theorem zJ125_63_r (n : Nat) (b : Nat) (rec34 : Int32 → Int32 → Int32 → Mem → Option (Int32 × Mem)) (zrec34 : Int → Int → Int → ZM → Option (Int × ZM)) (hrec34 : ∀ {Y1 : Int32} {y1 : Int} (_ : rp Y1 y1) {Y2 : Int32} {y2 : Int} (_ : rp Y2 y2) {Y3 : Int32} {y3 : Int} (_ : rp Y3 y3) {M : Mem} {m : ZM} (_ : rm M m) {r : Int} {m' : ZM} (_ : zrec34 y1 y2 y3 m = some (r, m')), sI (rec34 Y1 Y2 Y3 M) r m') {X2_ : Int32} {x2 : Int} (hx2 : rp X2_ x2) {X3_ : Int32} {x3 : Int} (hx3 : rp X3_ x3) {X4_ : Int32} {x4 : Int} (hx4 : rp X4_ x4) {M_ : Mem} {M : ZM} (gM : rm M_ M) {r : Int} {m' : ZM} (h : zJ125_63 n b zrec34 x2 x3 x4 M = some (r, m')) : sI (J125_63 n b rec34 X2_ X3_ X4_ M_) r m' := by
  unfold zJ125_63 at h
  unfold J125_63
  by_cases w1 : rg (x4 + 1)
  · rw [if_pos w1] at h
    by_cases q2 : (x4 + 1) < 0 ∨ 120 ≤ (x4 + 1)
    · rw [if_pos q2] at h
      rw [if_pos ((rp_ob (rp_add (rp_iz hx4) (rp_iz (show rp 1 1 from rfl)) w1) 120).mpr q2)]
      cases h
    · rw [if_neg q2] at h
      rw [if_neg (fun z => q2 ((rp_ob (rp_add (rp_iz hx4) (rp_iz (show rp 1 1 from rfl)) w1) 120).mp z))]
      by_cases q3 : (M.1 (b + 1) (Int.toNat (x4 + 1))) = x2
      · rw [if_pos q3] at h
        rw [if_pos ((rp_eq (rm_rdx gM (b + 1) (rp_add (rp_iz hx4) (rp_iz (show rp 1 1 from rfl)) w1)) hx2).mpr q3)]
        obtain ⟨rfl, rfl⟩ := Prod.mk.inj (Option.some.inj h)
        exact ⟨_, _, rfl, hx4, gM⟩
      · rw [if_neg q3] at h
        rw [if_neg (fun z => q3 ((rp_eq (rm_rdx gM (b + 1) (rp_add (rp_iz hx4) (rp_iz (show rp 1 1 from rfl)) w1)) hx2).mp z))]
        exact zJ125_79_r n b _ _ hrec34 hx2 hx3 hx4 gM h
  · rw [if_neg w1] at h
    cases h
def zL125_34 (n : Nat) (b : Nat) : Nat → Int → Int → Int → ZM → Option (Int × ZM)
  | 0, _, _, _, _ => none
  | k + 1, x2, x3, x4, M => if x3 ≤ x4 then (zJ125_85 n b M) else (if rg (x4 + 1) then (if (M.1 b 6) ≤ (x4 + 1) then (zJ125_85 n b M) else (if x4 < 0 ∨ 120 ≤ x4 then (none) else (if (M.1 (b + 1) (Int.toNat x4)) = 36 then (zJ125_63 n b (zL125_34 n b k) x2 x3 x4 M) else (zJ125_79 n b (zL125_34 n b k) x2 x3 x4 M)))) else none)
set_option maxRecDepth 100000 in
set_option maxHeartbeats 4000000 in
theorem zL125_34_r (n : Nat) (b : Nat) : ∀ (k : Nat) {X2_ : Int32} {x2 : Int} (hx2 : rp X2_ x2) {X3_ : Int32} {x3 : Int} (hx3 : rp X3_ x3) {X4_ : Int32} {x4 : Int} (hx4 : rp X4_ x4) {M_ : Mem} {M : ZM} (gM : rm M_ M) {r : Int} {m' : ZM} (_ : zL125_34 n b k x2 x3 x4 M = some (r, m')), sI (L125_34 n b k X2_ X3_ X4_ M_) r m' := by
  intro k
  induction k with
  | zero => intro X2_ x2 hx2 X3_ x3 hx3 X4_ x4 hx4 M_ M gM r m' h; cases h
  | succ k ih =>
    intro X2_ x2 hx2 X3_ x3 hx3 X4_ x4 hx4 M_ M gM r m' h
    rw [zL125_34] at h
    rw [L125_34]
    by_cases q1 : x3 ≤ x4
    · rw [if_pos q1] at h
      rw [if_pos ((rp_le hx3 hx4).mpr q1)]
      exact zJ125_85_r n b gM h
    · rw [if_neg q1] at h
      rw [if_neg (fun z => q1 ((rp_le hx3 hx4).mp z))]
      by_cases w2 : rg (x4 + 1)
      · rw [if_pos w2] at h
        by_cases q3 : (M.1 b 6) ≤ (x4 + 1)
        · rw [if_pos q3] at h
          rw [if_pos ((rp_le (rm_rd gM b 6) (rp_add (rp_iz hx4) (rp_iz (show rp 1 1 from rfl)) w2)).mpr q3)]
          exact zJ125_85_r n b gM h
        · rw [if_neg q3] at h
          rw [if_neg (fun z => q3 ((rp_le (rm_rd gM b 6) (rp_add (rp_iz hx4) (rp_iz (show rp 1 1 from rfl)) w2)).mp z))]
          by_cases q4 : x4 < 0 ∨ 120 ≤ x4
          · rw [if_pos q4] at h
            rw [if_pos ((rp_ob hx4 120).mpr q4)]
            cases h
          · rw [if_neg q4] at h
            rw [if_neg (fun z => q4 ((rp_ob hx4 120).mp z))]
            by_cases q5 : (M.1 (b + 1) (Int.toNat x4)) = 36
            · rw [if_pos q5] at h
              rw [if_pos ((rp_eq (rm_rdx gM (b + 1) hx4) (show rp 36 36 from rfl)).mpr q5)]
              exact zJ125_63_r n b _ _ ih hx2 hx3 hx4 gM h
            · rw [if_neg q5] at h
              rw [if_neg (fun z => q5 ((rp_eq (rm_rdx gM (b + 1) hx4) (show rp 36 36 from rfl)).mp z))]
              exact zJ125_79_r n b _ _ ih hx2 hx3 hx4 gM h
      · rw [if_neg w2] at h
        cases h
def zJ125_26 (n : Nat) (b : Nat) (x1 : Int) (x2 : Int) (x3 : Int) (M : ZM) : Option (Int × ZM) :=
  if x1 < 0 ∨ 3 ≤ x1 then (none) else (zL125_34 n b n x2 x3 (M.1 (b + 6) (Int.toNat x1)) M)
set_option maxRecDepth 100000 in
set_option maxHeartbeats 4000000 in
theorem zJ125_26_r (n : Nat) (b : Nat) {X1_ : Int32} {x1 : Int} (hx1 : rp X1_ x1) {X2_ : Int32} {x2 : Int} (hx2 : rp X2_ x2) {X3_ : Int32} {x3 : Int} (hx3 : rp X3_ x3) {M_ : Mem} {M : ZM} (gM : rm M_ M) {r : Int} {m' : ZM} (h : zJ125_26 n b x1 x2 x3 M = some (r, m')) : sI (J125_26 n b X1_ X2_ X3_ M_) r m' := by
  unfold zJ125_26 at h
  unfold J125_26
  by_cases q1 : x1 < 0 ∨ 3 ≤ x1
  · rw [if_pos q1] at h
    rw [if_pos ((rp_ob hx1 3).mpr q1)]
    cases h
  · rw [if_neg q1] at h
    rw [if_neg (fun z => q1 ((rp_ob hx1 3).mp z))]
    exact zL125_34_r n b n hx2 hx3 (rm_rdx gM (b + 6) hx1) gM h
/-- ArmExpander$Definition.fragmentOf -/
def zF125 (n : Nat) (b : Nat) (a0 : Int) (a1 : Int) (M : ZM) : Option (Int × ZM) :=
  if a0 < 0 then (zJ125_12 n b M) else (if a0 < (M.1 b 7) then (if a0 < 0 ∨ 3 ≤ a0 then (none) else (if (M.1 (b + 6) (Int.toNat a0)) < 0 ∨ 120 ≤ (M.1 (b + 6) (Int.toNat a0)) then (none) else (zJ125_26 n b a0 a1 (M.1 (b + 2) (Int.toNat (M.1 (b + 6) (Int.toNat a0)))) M))) else (zJ125_12 n b M))
set_option maxRecDepth 100000 in
set_option maxHeartbeats 4000000 in
theorem zF125_r (n : Nat) (b : Nat) {A0_ : Int32} {a0 : Int} (ha0 : rp A0_ a0) {A1_ : Int32} {a1 : Int} (ha1 : rp A1_ a1) {M_ : Mem} {M : ZM} (gM : rm M_ M) {r : Int} {m' : ZM} (h : zF125 n b a0 a1 M = some (r, m')) : sI (F125 n b A0_ A1_ M_) r m' := by
  unfold zF125 at h
  unfold F125
  by_cases q1 : a0 < 0
  · rw [if_pos q1] at h
    rw [if_pos ((rp_lt ha0 (show rp 0 0 from rfl)).mpr q1)]
    exact zJ125_12_r n b gM h
  · rw [if_neg q1] at h
    rw [if_neg (fun z => q1 ((rp_lt ha0 (show rp 0 0 from rfl)).mp z))]
    by_cases q2 : a0 < (M.1 b 7)
    · rw [if_pos q2] at h
      rw [if_pos ((rp_lt ha0 (rm_rd gM b 7)).mpr q2)]
      by_cases q3 : a0 < 0 ∨ 3 ≤ a0
      · rw [if_pos q3] at h
        rw [if_pos ((rp_ob ha0 3).mpr q3)]
        cases h
      · rw [if_neg q3] at h
        rw [if_neg (fun z => q3 ((rp_ob ha0 3).mp z))]
        by_cases q4 : (M.1 (b + 6) (Int.toNat a0)) < 0 ∨ 120 ≤ (M.1 (b + 6) (Int.toNat a0))
        · rw [if_pos q4] at h
          rw [if_pos ((rp_ob (rm_rdx gM (b + 6) ha0) 120).mpr q4)]
          cases h
        · rw [if_neg q4] at h
          rw [if_neg (fun z => q4 ((rp_ob (rm_rdx gM (b + 6) ha0) 120).mp z))]
          exact zJ125_26_r n b ha0 ha1 (rm_rdx gM (b + 2) (rm_rdx gM (b + 6) ha0)) gM h
    · rw [if_neg q2] at h
      rw [if_neg (fun z => q2 ((rp_lt ha0 (rm_rd gM b 7)).mp z))]
      exact zJ125_12_r n b gM h
/-- ArmExpander$DefinitionReader.acceptsIf -/
def zF129 (n : Nat) (a0 : Int) (a1 : Int) (M : ZM) : Option (Int × ZM) :=
  zlet (z_i M 3 2 a1) (fun M1 => if a0 = 0 ∨ a0 = 1 then (some (a0, M1)) else (none))
set_option maxRecDepth 100000 in
set_option maxHeartbeats 4000000 in
theorem zF129_r (n : Nat) {A0_ : Int32} {a0 : Int} (ha0 : rp A0_ a0) {A1_ : Int32} {a1 : Int} (ha1 : rp A1_ a1) {M_ : Mem} {M : ZM} (gM : rm M_ M) {r : Int} {m' : ZM} (h : zF129 n a0 a1 M = some (r, m')) : sI (F129 n A0_ A1_ M_) r m' := by
  unfold zF129 at h
  unfold F129
  have gM1 : rm (m_i M_ 3 2 A1_) (z_i M 3 2 a1) := rm_i gM 3 2 ha1
  rw [mlet]
  rw [zlet] at h
  generalize z_i M 3 2 a1 = M1 at h gM1
  generalize m_i M_ 3 2 A1_ = NM1 at gM1 ⊢
  by_cases q1 : a0 = 0 ∨ a0 = 1
  · rw [if_pos q1] at h
    rw [if_pos ((or_congr (rp_eq ha0 (show rp 0 0 from rfl)) (rp_eq ha0 (show rp 1 1 from rfl))).mpr q1)]
    obtain ⟨rfl, rfl⟩ := Prod.mk.inj (Option.some.inj h)
    exact ⟨_, _, rfl, ha0, gM1⟩
  · rw [if_neg q1] at h
    rw [if_neg (fun z => q1 ((or_congr (rp_eq ha0 (show rp 0 0 from rfl)) (rp_eq ha0 (show rp 1 1 from rfl))).mp z))]
    cases h
/-- ArmExpander$Expander.done -/
def zF137 (n : Nat) (M : ZM) : Option (Int × ZM) :=
  some ((M.1 12 6), M)
set_option maxRecDepth 100000 in
set_option maxHeartbeats 4000000 in
theorem zF137_r (n : Nat) {M_ : Mem} {M : ZM} (gM : rm M_ M) {r : Int} {m' : ZM} (h : zF137 n M = some (r, m')) : sI (F137 n M_) r m' := by
  unfold zF137 at h
  unfold F137
  obtain ⟨rfl, rfl⟩ := Prod.mk.inj (Option.some.inj h)
  exact ⟨_, _, rfl, (rm_rd gM 12 6), gM⟩
def zJ138_25 (n : Nat) (s0 : Int) (M : ZM) : Option (Int × ZM) :=
  some (s0, M)
set_option maxRecDepth 100000 in
set_option maxHeartbeats 4000000 in
theorem zJ138_25_r (n : Nat) {S0_ : Int32} {s0 : Int} (hs0 : rp S0_ s0) {M_ : Mem} {M : ZM} (gM : rm M_ M) {r : Int} {m' : ZM} (h : zJ138_25 n s0 M = some (r, m')) : sI (J138_25 n S0_ M_) r m' := by
  unfold zJ138_25 at h
  unfold J138_25
  obtain ⟨rfl, rfl⟩ := Prod.mk.inj (Option.some.inj h)
  exact ⟨_, _, rfl, hs0, gM⟩
def zJ138_24 (n : Nat) (M : ZM) : Option (Int × ZM) :=
  zJ138_25 n (-1) M
set_option maxRecDepth 100000 in
set_option maxHeartbeats 4000000 in
theorem zJ138_24_r (n : Nat) {M_ : Mem} {M : ZM} (gM : rm M_ M) {r : Int} {m' : ZM} (h : zJ138_24 n M = some (r, m')) : sI (J138_24 n M_) r m' := by
  unfold zJ138_24 at h
  unfold J138_24
  exact zJ138_25_r n (show rp (-1) (-1) from rfl) gM h
/-- ArmExpander$Expander.armOf -/
def zF138 (n : Nat) (a0 : Int) (M : ZM) : Option (Int × ZM) :=
  if a0 < 1 then (zJ138_24 n M) else (if (M.1 12 6) < a0 then (zJ138_24 n M) else (if rg (a0 - 1) then (if (a0 - 1) < 0 ∨ 10 ≤ (a0 - 1) then (none) else (zJ138_25 n (M.1 33 (Int.toNat (a0 - 1))) M)) else none))
set_option maxRecDepth 100000 in
set_option maxHeartbeats 4000000 in
theorem zF138_r (n : Nat) {A0_ : Int32} {a0 : Int} (ha0 : rp A0_ a0) {M_ : Mem} {M : ZM} (gM : rm M_ M) {r : Int} {m' : ZM} (h : zF138 n a0 M = some (r, m')) : sI (F138 n A0_ M_) r m' := by
  unfold zF138 at h
  unfold F138
  by_cases q1 : a0 < 1
  · rw [if_pos q1] at h
    rw [if_pos ((rp_lt ha0 (show rp 1 1 from rfl)).mpr q1)]
    exact zJ138_24_r n gM h
  · rw [if_neg q1] at h
    rw [if_neg (fun z => q1 ((rp_lt ha0 (show rp 1 1 from rfl)).mp z))]
    by_cases q2 : (M.1 12 6) < a0
    · rw [if_pos q2] at h
      rw [if_pos ((rp_lt (rm_rd gM 12 6) ha0).mpr q2)]
      exact zJ138_24_r n gM h
    · rw [if_neg q2] at h
      rw [if_neg (fun z => q2 ((rp_lt (rm_rd gM 12 6) ha0).mp z))]
      by_cases w3 : rg (a0 - 1)
      · rw [if_pos w3] at h
        by_cases q4 : (a0 - 1) < 0 ∨ 10 ≤ (a0 - 1)
        · rw [if_pos q4] at h
          rw [if_pos ((rp_ob (rp_sub (rp_iz ha0) (rp_iz (show rp 1 1 from rfl)) w3) 10).mpr q4)]
          cases h
        · rw [if_neg q4] at h
          rw [if_neg (fun z => q4 ((rp_ob (rp_sub (rp_iz ha0) (rp_iz (show rp 1 1 from rfl)) w3) 10).mp z))]
          exact zJ138_25_r n (rm_rdx gM 33 (rp_sub (rp_iz ha0) (rp_iz (show rp 1 1 from rfl)) w3)) gM h
      · rw [if_neg w3] at h
        cases h
/-- ArmExpander$Nesting.clear -/
def zF160 (n : Nat) (b : Nat) (M : ZM) : Option (Unit × ZM) :=
  zlet (z_i M b 2 0) (fun M1 => some ((), M1))
set_option maxRecDepth 100000 in
set_option maxHeartbeats 4000000 in
theorem zF160_r (n : Nat) (b : Nat) {M_ : Mem} {M : ZM} (gM : rm M_ M) {r : Unit} {m' : ZM} (h : zF160 n b M = some (r, m')) : sU (F160 n b M_) m' := by
  unfold zF160 at h
  unfold F160
  have gM1 : rm (m_i M_ b 2 (0 : Int32)) (z_i M b 2 0) := rm_i gM b 2 (show rp 0 0 from rfl)
  rw [mlet]
  rw [zlet] at h
  generalize z_i M b 2 0 = M1 at h gM1
  generalize m_i M_ b 2 (0 : Int32) = NM1 at gM1 ⊢
  obtain ⟨_, rfl⟩ := Prod.mk.inj (Option.some.inj h)
  exact ⟨_, rfl, gM1⟩
def zJ161_12 (n : Nat) (b : Nat) (s0 : Int) (M : ZM) : Option (Int × ZM) :=
  if s0 = 0 ∨ s0 = 1 then (some (s0, M)) else (none)
set_option maxRecDepth 100000 in
set_option maxHeartbeats 4000000 in
theorem zJ161_12_r (n : Nat) (b : Nat) {S0_ : Int32} {s0 : Int} (hs0 : rp S0_ s0) {M_ : Mem} {M : ZM} (gM : rm M_ M) {r : Int} {m' : ZM} (h : zJ161_12 n b s0 M = some (r, m')) : sI (J161_12 n b S0_ M_) r m' := by
  unfold zJ161_12 at h
  unfold J161_12
  by_cases q1 : s0 = 0 ∨ s0 = 1
  · rw [if_pos q1] at h
    rw [if_pos ((or_congr (rp_eq hs0 (show rp 0 0 from rfl)) (rp_eq hs0 (show rp 1 1 from rfl))).mpr q1)]
    obtain ⟨rfl, rfl⟩ := Prod.mk.inj (Option.some.inj h)
    exact ⟨_, _, rfl, hs0, gM⟩
  · rw [if_neg q1] at h
    rw [if_neg (fun z => q1 ((or_congr (rp_eq hs0 (show rp 0 0 from rfl)) (rp_eq hs0 (show rp 1 1 from rfl))).mp z))]
    cases h
/-- ArmExpander$Nesting.isEmpty -/
def zF161 (n : Nat) (b : Nat) (M : ZM) : Option (Int × ZM) :=
  if (M.1 b 2) = 0 then (zJ161_12 n b 1 M) else (zJ161_12 n b 0 M)
set_option maxRecDepth 100000 in
set_option maxHeartbeats 4000000 in
theorem zF161_r (n : Nat) (b : Nat) {M_ : Mem} {M : ZM} (gM : rm M_ M) {r : Int} {m' : ZM} (h : zF161 n b M = some (r, m')) : sI (F161 n b M_) r m' := by
  unfold zF161 at h
  unfold F161
  by_cases q1 : (M.1 b 2) = 0
  · rw [if_pos q1] at h
    rw [if_pos ((rp_eq (rm_rd gM b 2) (show rp 0 0 from rfl)).mpr q1)]
    exact zJ161_12_r n b (show rp 1 1 from rfl) gM h
  · rw [if_neg q1] at h
    rw [if_neg (fun z => q1 ((rp_eq (rm_rd gM b 2) (show rp 0 0 from rfl)).mp z))]
    exact zJ161_12_r n b (show rp 0 0 from rfl) gM h
def zJ162_34 (n : Nat) (b : Nat) (M : ZM) : Option (Int × ZM) :=
  if rg ((M.1 b 2) + 1) then (zlet (z_i M b 2 ((M.1 b 2) + 1)) (fun M9 => some (1, M9))) else none
set_option maxRecDepth 100000 in
set_option maxHeartbeats 4000000 in
theorem zJ162_34_r (n : Nat) (b : Nat) {M_ : Mem} {M : ZM} (gM : rm M_ M) {r : Int} {m' : ZM} (h : zJ162_34 n b M = some (r, m')) : sI (J162_34 n b M_) r m' := by
  unfold zJ162_34 at h
  unfold J162_34
  by_cases w1 : rg ((M.1 b 2) + 1)
  · rw [if_pos w1] at h
    have gM9 : rm (m_i M_ b 2 ((M_.1 b 2) + (1 : Int32))) (z_i M b 2 ((M.1 b 2) + 1)) := rm_i gM b 2 (rp_add (rp_iz (rm_rd gM b 2)) (rp_iz (show rp 1 1 from rfl)) w1)
    rw [mlet]
    rw [zlet] at h
    generalize z_i M b 2 ((M.1 b 2) + 1) = M9 at h gM9
    generalize m_i M_ b 2 ((M_.1 b 2) + (1 : Int32)) = NM9 at gM9 ⊢
    obtain ⟨rfl, rfl⟩ := Prod.mk.inj (Option.some.inj h)
    exact ⟨_, _, rfl, (show rp 1 1 from rfl), gM9⟩
  · rw [if_neg w1] at h
    cases h
def zJ162_21 (n : Nat) (b : Nat) (x2 : Int) (M : ZM) : Option (Int × ZM) :=
  match zF17 n x2 M with | some (v4, M5) => (if (M.1 b 2) < 0 ∨ 10 ≤ (M.1 b 2) then (none) else (zlet (z_i M5 (b + 2) (Int.toNat (M.1 b 2)) v4) (fun M8 => zJ162_34 n b M8))) | none => none
set_option maxRecDepth 100000 in
set_option maxHeartbeats 4000000 in
theorem zJ162_21_r (n : Nat) (b : Nat) {X2_ : Int32} {x2 : Int} (hx2 : rp X2_ x2) {M_ : Mem} {M : ZM} (gM : rm M_ M) {r : Int} {m' : ZM} (h : zJ162_21 n b x2 M = some (r, m')) : sI (J162_21 n b X2_ M_) r m' := by
  unfold zJ162_21 at h
  unfold J162_21
  cases hc1 : zF17 n x2 M with
  | none => rw [hc1] at h; cases h
  | some w =>
    obtain ⟨v4, M5⟩ := w
    rw [hc1] at h
    dsimp only at h
    obtain ⟨V4, NM5, ehc1, hv4, gM5⟩ := zF17_r n hx2 gM hc1
    rw [ehc1]
    dsimp only
    by_cases q2 : (M.1 b 2) < 0 ∨ 10 ≤ (M.1 b 2)
    · rw [if_pos q2] at h
      rw [if_pos ((rp_ob (rm_rd gM b 2) 10).mpr q2)]
      cases h
    · rw [if_neg q2] at h
      rw [if_neg (fun z => q2 ((rp_ob (rm_rd gM b 2) 10).mp z))]
      have gM8 : rm (m_i NM5 (b + 2) ((M_.1 b 2)).toNatClampNeg V4) (z_i M5 (b + 2) (Int.toNat (M.1 b 2)) v4) := rm_ix gM5 (b + 2) (rm_rd gM b 2) hv4
      rw [mlet]
      rw [zlet] at h
      generalize z_i M5 (b + 2) (Int.toNat (M.1 b 2)) v4 = M8 at h gM8
      generalize m_i NM5 (b + 2) ((M_.1 b 2)).toNatClampNeg V4 = NM8 at gM8 ⊢
      exact zJ162_34_r n b gM8 h
/-- ArmExpander$Nesting.open -/
def zF162 (n : Nat) (b : Nat) (a0 : Int) (a1 : Int) (M : ZM) : Option (Int × ZM) :=
  if (M.1 b 2) < 10 then (if (M.1 b 2) < 0 ∨ 10 ≤ (M.1 b 2) then (none) else (zlet (z_i M (b + 1) (Int.toNat (M.1 b 2)) a0) (fun M3 => zJ162_21 n b a1 M3))) else (some (0, M))
set_option maxRecDepth 100000 in
set_option maxHeartbeats 4000000 in
theorem zF162_r (n : Nat) (b : Nat) {A0_ : Int32} {a0 : Int} (ha0 : rp A0_ a0) {A1_ : Int32} {a1 : Int} (ha1 : rp A1_ a1) {M_ : Mem} {M : ZM} (gM : rm M_ M) {r : Int} {m' : ZM} (h : zF162 n b a0 a1 M = some (r, m')) : sI (F162 n b A0_ A1_ M_) r m' := by
  unfold zF162 at h
  unfold F162
  by_cases q1 : (M.1 b 2) < 10
  · rw [if_pos q1] at h
    rw [if_pos ((rp_lt (rm_rd gM b 2) (show rp 10 10 from rfl)).mpr q1)]
    by_cases q2 : (M.1 b 2) < 0 ∨ 10 ≤ (M.1 b 2)
    · rw [if_pos q2] at h
      rw [if_pos ((rp_ob (rm_rd gM b 2) 10).mpr q2)]
      cases h
    · rw [if_neg q2] at h
      rw [if_neg (fun z => q2 ((rp_ob (rm_rd gM b 2) 10).mp z))]
      have gM3 : rm (m_i M_ (b + 1) ((M_.1 b 2)).toNatClampNeg A0_) (z_i M (b + 1) (Int.toNat (M.1 b 2)) a0) := rm_ix gM (b + 1) (rm_rd gM b 2) ha0
      rw [mlet]
      rw [zlet] at h
      generalize z_i M (b + 1) (Int.toNat (M.1 b 2)) a0 = M3 at h gM3
      generalize m_i M_ (b + 1) ((M_.1 b 2)).toNatClampNeg A0_ = NM3 at gM3 ⊢
      exact zJ162_21_r n b ha1 gM3 h
  · rw [if_neg q1] at h
    rw [if_neg (fun z => q1 ((rp_lt (rm_rd gM b 2) (show rp 10 10 from rfl)).mp z))]
    obtain ⟨rfl, rfl⟩ := Prod.mk.inj (Option.some.inj h)
    exact ⟨_, _, rfl, (show rp 0 0 from rfl), gM⟩
def zJ163_22 (n : Nat) (b : Nat) (M : ZM) : Option (Int × ZM) :=
  some ((-1), M)
set_option maxRecDepth 100000 in
set_option maxHeartbeats 4000000 in
theorem zJ163_22_r (n : Nat) (b : Nat) {M_ : Mem} {M : ZM} (gM : rm M_ M) {r : Int} {m' : ZM} (h : zJ163_22 n b M = some (r, m')) : sI (J163_22 n b M_) r m' := by
  unfold zJ163_22 at h
  unfold J163_22
  obtain ⟨rfl, rfl⟩ := Prod.mk.inj (Option.some.inj h)
  exact ⟨_, _, rfl, (show rp (-1) (-1) from rfl), gM⟩
def zJ163_24 (n : Nat) (b : Nat) (M : ZM) : Option (Int × ZM) :=
  if rg ((M.1 b 2) - 1) then (zlet (z_i M b 2 ((M.1 b 2) - 1)) (fun M4 => if (M4.1 b 2) < 0 ∨ 10 ≤ (M4.1 b 2) then (none) else (some ((M4.1 (b + 1) (Int.toNat (M4.1 b 2))), M4)))) else none
set_option maxRecDepth 100000 in
set_option maxHeartbeats 4000000 in
theorem zJ163_24_r (n : Nat) (b : Nat) {M_ : Mem} {M : ZM} (gM : rm M_ M) {r : Int} {m' : ZM} (h : zJ163_24 n b M = some (r, m')) : sI (J163_24 n b M_) r m' := by
  unfold zJ163_24 at h
  unfold J163_24
  by_cases w1 : rg ((M.1 b 2) - 1)
  · rw [if_pos w1] at h
    have gM4 : rm (m_i M_ b 2 ((M_.1 b 2) - (1 : Int32))) (z_i M b 2 ((M.1 b 2) - 1)) := rm_i gM b 2 (rp_sub (rp_iz (rm_rd gM b 2)) (rp_iz (show rp 1 1 from rfl)) w1)
    rw [mlet]
    rw [zlet] at h
    generalize z_i M b 2 ((M.1 b 2) - 1) = M4 at h gM4
    generalize m_i M_ b 2 ((M_.1 b 2) - (1 : Int32)) = NM4 at gM4 ⊢
    by_cases q2 : (M4.1 b 2) < 0 ∨ 10 ≤ (M4.1 b 2)
    · rw [if_pos q2] at h
      rw [if_pos ((rp_ob (rm_rd gM4 b 2) 10).mpr q2)]
      cases h
    · rw [if_neg q2] at h
      rw [if_neg (fun z => q2 ((rp_ob (rm_rd gM4 b 2) 10).mp z))]
      obtain ⟨rfl, rfl⟩ := Prod.mk.inj (Option.some.inj h)
      exact ⟨_, _, rfl, (rm_rdx gM4 (b + 1) (rm_rd gM4 b 2)), gM4⟩
  · rw [if_neg w1] at h
    cases h
/-- ArmExpander$Nesting.close -/
def zF163 (n : Nat) (b : Nat) (a0 : Int) (M : ZM) : Option (Int × ZM) :=
  if (M.1 b 2) ≤ 0 then (zJ163_22 n b M) else (if rg ((M.1 b 2) - 1) then (if ((M.1 b 2) - 1) < 0 ∨ 10 ≤ ((M.1 b 2) - 1) then (none) else (if (M.1 (b + 2) (Int.toNat ((M.1 b 2) - 1))) = a0 then (zJ163_24 n b M) else (zJ163_22 n b M))) else none)
set_option maxRecDepth 100000 in
set_option maxHeartbeats 4000000 in
theorem zF163_r (n : Nat) (b : Nat) {A0_ : Int32} {a0 : Int} (ha0 : rp A0_ a0) {M_ : Mem} {M : ZM} (gM : rm M_ M) {r : Int} {m' : ZM} (h : zF163 n b a0 M = some (r, m')) : sI (F163 n b A0_ M_) r m' := by
  unfold zF163 at h
  unfold F163
  by_cases q1 : (M.1 b 2) ≤ 0
  · rw [if_pos q1] at h
    rw [if_pos ((rp_le (rm_rd gM b 2) (show rp 0 0 from rfl)).mpr q1)]
    exact zJ163_22_r n b gM h
  · rw [if_neg q1] at h
    rw [if_neg (fun z => q1 ((rp_le (rm_rd gM b 2) (show rp 0 0 from rfl)).mp z))]
    by_cases w2 : rg ((M.1 b 2) - 1)
    · rw [if_pos w2] at h
      by_cases q3 : ((M.1 b 2) - 1) < 0 ∨ 10 ≤ ((M.1 b 2) - 1)
      · rw [if_pos q3] at h
        rw [if_pos ((rp_ob (rp_sub (rp_iz (rm_rd gM b 2)) (rp_iz (show rp 1 1 from rfl)) w2) 10).mpr q3)]
        cases h
      · rw [if_neg q3] at h
        rw [if_neg (fun z => q3 ((rp_ob (rp_sub (rp_iz (rm_rd gM b 2)) (rp_iz (show rp 1 1 from rfl)) w2) 10).mp z))]
        by_cases q4 : (M.1 (b + 2) (Int.toNat ((M.1 b 2) - 1))) = a0
        · rw [if_pos q4] at h
          rw [if_pos ((rp_eq (rm_rdx gM (b + 2) (rp_sub (rp_iz (rm_rd gM b 2)) (rp_iz (show rp 1 1 from rfl)) w2)) ha0).mpr q4)]
          exact zJ163_24_r n b gM h
        · rw [if_neg q4] at h
          rw [if_neg (fun z => q4 ((rp_eq (rm_rdx gM (b + 2) (rp_sub (rp_iz (rm_rd gM b 2)) (rp_iz (show rp 1 1 from rfl)) w2)) ha0).mp z))]
          exact zJ163_22_r n b gM h
    · rw [if_neg w2] at h
      cases h
/-- ArmExpander$Row.clear -/
def zF165 (n : Nat) (b : Nat) (M : ZM) : Option (Unit × ZM) :=
  zlet (z_i M b 2 0) (fun M1 => zlet (z_i M1 b 3 0) (fun M2 => some ((), M2)))
set_option maxRecDepth 100000 in
set_option maxHeartbeats 4000000 in
theorem zF165_r (n : Nat) (b : Nat) {M_ : Mem} {M : ZM} (gM : rm M_ M) {r : Unit} {m' : ZM} (h : zF165 n b M = some (r, m')) : sU (F165 n b M_) m' := by
  unfold zF165 at h
  unfold F165
  have gM1 : rm (m_i M_ b 2 (0 : Int32)) (z_i M b 2 0) := rm_i gM b 2 (show rp 0 0 from rfl)
  rw [mlet]
  rw [zlet] at h
  generalize z_i M b 2 0 = M1 at h gM1
  generalize m_i M_ b 2 (0 : Int32) = NM1 at gM1 ⊢
  have gM2 : rm (m_i NM1 b 3 (0 : Int32)) (z_i M1 b 3 0) := rm_i gM1 b 3 (show rp 0 0 from rfl)
  rw [mlet]
  rw [zlet] at h
  generalize z_i M1 b 3 0 = M2 at h gM2
  generalize m_i NM1 b 3 (0 : Int32) = NM2 at gM2 ⊢
  obtain ⟨_, rfl⟩ := Prod.mk.inj (Option.some.inj h)
  exact ⟨_, rfl, gM2⟩
/-- ArmExpander$Row.size -/
def zF166 (n : Nat) (b : Nat) (M : ZM) : Option (Int × ZM) :=
  some ((M.1 b 2), M)
set_option maxRecDepth 100000 in
set_option maxHeartbeats 4000000 in
theorem zF166_r (n : Nat) (b : Nat) {M_ : Mem} {M : ZM} (gM : rm M_ M) {r : Int} {m' : ZM} (h : zF166 n b M = some (r, m')) : sI (F166 n b M_) r m' := by
  unfold zF166 at h
  unfold F166
  obtain ⟨rfl, rfl⟩ := Prod.mk.inj (Option.some.inj h)
  exact ⟨_, _, rfl, (rm_rd gM b 2), gM⟩
/-- ArmExpander$Row.isOverfull -/
def zF167 (n : Nat) (b : Nat) (M : ZM) : Option (Int × ZM) :=
  if (M.1 b 3) = 0 ∨ (M.1 b 3) = 1 then (some ((M.1 b 3), M)) else (none)
set_option maxRecDepth 100000 in
set_option maxHeartbeats 4000000 in
theorem zF167_r (n : Nat) (b : Nat) {M_ : Mem} {M : ZM} (gM : rm M_ M) {r : Int} {m' : ZM} (h : zF167 n b M = some (r, m')) : sI (F167 n b M_) r m' := by
  unfold zF167 at h
  unfold F167
  by_cases q1 : (M.1 b 3) = 0 ∨ (M.1 b 3) = 1
  · rw [if_pos q1] at h
    rw [if_pos ((or_congr (rp_eq (rm_rd gM b 3) (show rp 0 0 from rfl)) (rp_eq (rm_rd gM b 3) (show rp 1 1 from rfl))).mpr q1)]
    obtain ⟨rfl, rfl⟩ := Prod.mk.inj (Option.some.inj h)
    exact ⟨_, _, rfl, (rm_rd gM b 3), gM⟩
  · rw [if_neg q1] at h
    rw [if_neg (fun z => q1 ((or_congr (rp_eq (rm_rd gM b 3) (show rp 0 0 from rfl)) (rp_eq (rm_rd gM b 3) (show rp 1 1 from rfl))).mp z))]
    cases h
def zJ168_26 (n : Nat) (b : Nat) (x2 : Int) (M : ZM) : Option (Unit × ZM) :=
  if (M.1 b 2) < 0 ∨ 150 ≤ (M.1 b 2) then (none) else (zlet (z_i M (b + 2) (Int.toNat (M.1 b 2)) x2) (fun M5 => if rg ((M5.1 b 2) + 1) then (zlet (z_i M5 b 2 ((M5.1 b 2) + 1)) (fun M6 => some ((), M6))) else none))
set_option maxRecDepth 100000 in
set_option maxHeartbeats 4000000 in
theorem zJ168_26_r (n : Nat) (b : Nat) {X2_ : Int32} {x2 : Int} (hx2 : rp X2_ x2) {M_ : Mem} {M : ZM} (gM : rm M_ M) {r : Unit} {m' : ZM} (h : zJ168_26 n b x2 M = some (r, m')) : sU (J168_26 n b X2_ M_) m' := by
  unfold zJ168_26 at h
  unfold J168_26
  by_cases q1 : (M.1 b 2) < 0 ∨ 150 ≤ (M.1 b 2)
  · rw [if_pos q1] at h
    rw [if_pos ((rp_ob (rm_rd gM b 2) 150).mpr q1)]
    cases h
  · rw [if_neg q1] at h
    rw [if_neg (fun z => q1 ((rp_ob (rm_rd gM b 2) 150).mp z))]
    have gM5 : rm (m_i M_ (b + 2) ((M_.1 b 2)).toNatClampNeg X2_) (z_i M (b + 2) (Int.toNat (M.1 b 2)) x2) := rm_ix gM (b + 2) (rm_rd gM b 2) hx2
    rw [mlet]
    rw [zlet] at h
    generalize z_i M (b + 2) (Int.toNat (M.1 b 2)) x2 = M5 at h gM5
    generalize m_i M_ (b + 2) ((M_.1 b 2)).toNatClampNeg X2_ = NM5 at gM5 ⊢
    by_cases w2 : rg ((M5.1 b 2) + 1)
    · rw [if_pos w2] at h
      have gM6 : rm (m_i NM5 b 2 ((NM5.1 b 2) + (1 : Int32))) (z_i M5 b 2 ((M5.1 b 2) + 1)) := rm_i gM5 b 2 (rp_add (rp_iz (rm_rd gM5 b 2)) (rp_iz (show rp 1 1 from rfl)) w2)
      rw [mlet]
      rw [zlet] at h
      generalize z_i M5 b 2 ((M5.1 b 2) + 1) = M6 at h gM6
      generalize m_i NM5 b 2 ((NM5.1 b 2) + (1 : Int32)) = NM6 at gM6 ⊢
      obtain ⟨_, rfl⟩ := Prod.mk.inj (Option.some.inj h)
      exact ⟨_, rfl, gM6⟩
    · rw [if_neg w2] at h
      cases h
/-- ArmExpander$Row.add -/
def zF168 (n : Nat) (b : Nat) (a0 : Int) (a1 : Int) (M : ZM) : Option (Unit × ZM) :=
  if (M.1 b 2) < 150 then (if (M.1 b 2) < 0 ∨ 150 ≤ (M.1 b 2) then (none) else (zlet (z_i M (b + 1) (Int.toNat (M.1 b 2)) a0) (fun M3 => zJ168_26 n b a1 M3))) else (zlet (z_i M b 3 1) (fun M7 => some ((), M7)))
set_option maxRecDepth 100000 in
set_option maxHeartbeats 4000000 in
theorem zF168_r (n : Nat) (b : Nat) {A0_ : Int32} {a0 : Int} (ha0 : rp A0_ a0) {A1_ : Int32} {a1 : Int} (ha1 : rp A1_ a1) {M_ : Mem} {M : ZM} (gM : rm M_ M) {r : Unit} {m' : ZM} (h : zF168 n b a0 a1 M = some (r, m')) : sU (F168 n b A0_ A1_ M_) m' := by
  unfold zF168 at h
  unfold F168
  by_cases q1 : (M.1 b 2) < 150
  · rw [if_pos q1] at h
    rw [if_pos ((rp_lt (rm_rd gM b 2) (show rp 150 150 from rfl)).mpr q1)]
    by_cases q2 : (M.1 b 2) < 0 ∨ 150 ≤ (M.1 b 2)
    · rw [if_pos q2] at h
      rw [if_pos ((rp_ob (rm_rd gM b 2) 150).mpr q2)]
      cases h
    · rw [if_neg q2] at h
      rw [if_neg (fun z => q2 ((rp_ob (rm_rd gM b 2) 150).mp z))]
      have gM3 : rm (m_i M_ (b + 1) ((M_.1 b 2)).toNatClampNeg A0_) (z_i M (b + 1) (Int.toNat (M.1 b 2)) a0) := rm_ix gM (b + 1) (rm_rd gM b 2) ha0
      rw [mlet]
      rw [zlet] at h
      generalize z_i M (b + 1) (Int.toNat (M.1 b 2)) a0 = M3 at h gM3
      generalize m_i M_ (b + 1) ((M_.1 b 2)).toNatClampNeg A0_ = NM3 at gM3 ⊢
      exact zJ168_26_r n b ha1 gM3 h
  · rw [if_neg q1] at h
    rw [if_neg (fun z => q1 ((rp_lt (rm_rd gM b 2) (show rp 150 150 from rfl)).mp z))]
    have gM7 : rm (m_i M_ b 3 (1 : Int32)) (z_i M b 3 1) := rm_i gM b 3 (show rp 1 1 from rfl)
    rw [mlet]
    rw [zlet] at h
    generalize z_i M b 3 1 = M7 at h gM7
    generalize m_i M_ b 3 (1 : Int32) = NM7 at gM7 ⊢
    obtain ⟨_, rfl⟩ := Prod.mk.inj (Option.some.inj h)
    exact ⟨_, rfl, gM7⟩
def zJ170_22 (n : Nat) (b : Nat) (s0 : Int) (M : ZM) : Option (Int × ZM) :=
  some (s0, M)
set_option maxRecDepth 100000 in
set_option maxHeartbeats 4000000 in
theorem zJ170_22_r (n : Nat) (b : Nat) {S0_ : Int32} {s0 : Int} (hs0 : rp S0_ s0) {M_ : Mem} {M : ZM} (gM : rm M_ M) {r : Int} {m' : ZM} (h : zJ170_22 n b s0 M = some (r, m')) : sI (J170_22 n b S0_ M_) r m' := by
  unfold zJ170_22 at h
  unfold J170_22
  obtain ⟨rfl, rfl⟩ := Prod.mk.inj (Option.some.inj h)
  exact ⟨_, _, rfl, hs0, gM⟩
def zJ170_21 (n : Nat) (b : Nat) (M : ZM) : Option (Int × ZM) :=
  zJ170_22 n b (-1) M
set_option maxRecDepth 100000 in
set_option maxHeartbeats 4000000 in
theorem zJ170_21_r (n : Nat) (b : Nat) {M_ : Mem} {M : ZM} (gM : rm M_ M) {r : Int} {m' : ZM} (h : zJ170_21 n b M = some (r, m')) : sI (J170_21 n b M_) r m' := by
  unfold zJ170_21 at h
  unfold J170_21
  exact zJ170_22_r n b (show rp (-1) (-1) from rfl) gM h
/-- ArmExpander$Row.codeAt -/
def zF170 (n : Nat) (b : Nat) (a0 : Int) (M : ZM) : Option (Int × ZM) :=
  if a0 < 0 then (zJ170_21 n b M) else (if (M.1 b 2) ≤ a0 then (zJ170_21 n b M) else (if a0 < 0 ∨ 150 ≤ a0 then (none) else (zJ170_22 n b (M.1 (b + 1) (Int.toNat a0)) M)))
set_option maxRecDepth 100000 in
set_option maxHeartbeats 4000000 in
theorem zF170_r (n : Nat) (b : Nat) {A0_ : Int32} {a0 : Int} (ha0 : rp A0_ a0) {M_ : Mem} {M : ZM} (gM : rm M_ M) {r : Int} {m' : ZM} (h : zF170 n b a0 M = some (r, m')) : sI (F170 n b A0_ M_) r m' := by
  unfold zF170 at h
  unfold F170
  by_cases q1 : a0 < 0
  · rw [if_pos q1] at h
    rw [if_pos ((rp_lt ha0 (show rp 0 0 from rfl)).mpr q1)]
    exact zJ170_21_r n b gM h
  · rw [if_neg q1] at h
    rw [if_neg (fun z => q1 ((rp_lt ha0 (show rp 0 0 from rfl)).mp z))]
    by_cases q2 : (M.1 b 2) ≤ a0
    · rw [if_pos q2] at h
      rw [if_pos ((rp_le (rm_rd gM b 2) ha0).mpr q2)]
      exact zJ170_21_r n b gM h
    · rw [if_neg q2] at h
      rw [if_neg (fun z => q2 ((rp_le (rm_rd gM b 2) ha0).mp z))]
      by_cases q3 : a0 < 0 ∨ 150 ≤ a0
      · rw [if_pos q3] at h
        rw [if_pos ((rp_ob ha0 150).mpr q3)]
        cases h
      · rw [if_neg q3] at h
        rw [if_neg (fun z => q3 ((rp_ob ha0 150).mp z))]
        exact zJ170_22_r n b (rm_rdx gM (b + 1) ha0) gM h
def zJ171_22 (n : Nat) (b : Nat) (s0 : Int) (M : ZM) : Option (Int × ZM) :=
  some (s0, M)
set_option maxRecDepth 100000 in
set_option maxHeartbeats 4000000 in
theorem zJ171_22_r (n : Nat) (b : Nat) {S0_ : Int32} {s0 : Int} (hs0 : rp S0_ s0) {M_ : Mem} {M : ZM} (gM : rm M_ M) {r : Int} {m' : ZM} (h : zJ171_22 n b s0 M = some (r, m')) : sI (J171_22 n b S0_ M_) r m' := by
  unfold zJ171_22 at h
  unfold J171_22
  obtain ⟨rfl, rfl⟩ := Prod.mk.inj (Option.some.inj h)
  exact ⟨_, _, rfl, hs0, gM⟩
def zJ171_21 (n : Nat) (b : Nat) (M : ZM) : Option (Int × ZM) :=
  zJ171_22 n b (-1) M
set_option maxRecDepth 100000 in
set_option maxHeartbeats 4000000 in
theorem zJ171_21_r (n : Nat) (b : Nat) {M_ : Mem} {M : ZM} (gM : rm M_ M) {r : Int} {m' : ZM} (h : zJ171_21 n b M = some (r, m')) : sI (J171_21 n b M_) r m' := by
  unfold zJ171_21 at h
  unfold J171_21
  exact zJ171_22_r n b (show rp (-1) (-1) from rfl) gM h
/-- ArmExpander$Row.originAt -/
def zF171 (n : Nat) (b : Nat) (a0 : Int) (M : ZM) : Option (Int × ZM) :=
  if a0 < 0 then (zJ171_21 n b M) else (if (M.1 b 2) ≤ a0 then (zJ171_21 n b M) else (if a0 < 0 ∨ 150 ≤ a0 then (none) else (zJ171_22 n b (M.1 (b + 2) (Int.toNat a0)) M)))
set_option maxRecDepth 100000 in
set_option maxHeartbeats 4000000 in
theorem zF171_r (n : Nat) (b : Nat) {A0_ : Int32} {a0 : Int} (ha0 : rp A0_ a0) {M_ : Mem} {M : ZM} (gM : rm M_ M) {r : Int} {m' : ZM} (h : zF171 n b a0 M = some (r, m')) : sI (F171 n b A0_ M_) r m' := by
  unfold zF171 at h
  unfold F171
  by_cases q1 : a0 < 0
  · rw [if_pos q1] at h
    rw [if_pos ((rp_lt ha0 (show rp 0 0 from rfl)).mpr q1)]
    exact zJ171_21_r n b gM h
  · rw [if_neg q1] at h
    rw [if_neg (fun z => q1 ((rp_lt ha0 (show rp 0 0 from rfl)).mp z))]
    by_cases q2 : (M.1 b 2) ≤ a0
    · rw [if_pos q2] at h
      rw [if_pos ((rp_le (rm_rd gM b 2) ha0).mpr q2)]
      exact zJ171_21_r n b gM h
    · rw [if_neg q2] at h
      rw [if_neg (fun z => q2 ((rp_le (rm_rd gM b 2) ha0).mp z))]
      by_cases q3 : a0 < 0 ∨ 150 ≤ a0
      · rw [if_pos q3] at h
        rw [if_pos ((rp_ob ha0 150).mpr q3)]
        cases h
      · rw [if_neg q3] at h
        rw [if_neg (fun z => q3 ((rp_ob ha0 150).mp z))]
        exact zJ171_22_r n b (rm_rdx gM (b + 2) ha0) gM h
def zJ172_55 (n : Nat) (b : Nat) (zrec8 : Int → Int → ZM → Option (Int × ZM)) (x2 : Int) (x3 : Int) (M : ZM) : Option (Int × ZM) :=
  if rg (x3 + 1) then (zrec8 x2 (x3 + 1) M) else none
set_option maxRecDepth 100000 in
set_option maxHeartbeats 4000000 in
theorem zJ172_55_r (n : Nat) (b : Nat) (rec8 : Int32 → Int32 → Mem → Option (Int32 × Mem)) (zrec8 : Int → Int → ZM → Option (Int × ZM)) (hrec8 : ∀ {Y1 : Int32} {y1 : Int} (_ : rp Y1 y1) {Y2 : Int32} {y2 : Int} (_ : rp Y2 y2) {M : Mem} {m : ZM} (_ : rm M m) {r : Int} {m' : ZM} (_ : zrec8 y1 y2 m = some (r, m')), sI (rec8 Y1 Y2 M) r m') {X2_ : Int32} {x2 : Int} (hx2 : rp X2_ x2) {X3_ : Int32} {x3 : Int} (hx3 : rp X3_ x3) {M_ : Mem} {M : ZM} (gM : rm M_ M) {r : Int} {m' : ZM} (h : zJ172_55 n b zrec8 x2 x3 M = some (r, m')) : sI (J172_55 n b rec8 X2_ X3_ M_) r m' := by
  unfold zJ172_55 at h
  unfold J172_55
  by_cases w1 : rg (x3 + 1)
  · rw [if_pos w1] at h
    exact hrec8 hx2 (rp_add (rp_iz hx3) (rp_iz (show rp 1 1 from rfl)) w1) gM h
  · rw [if_neg w1] at h
    cases h
def zJ172_53 (n : Nat) (b : Nat) (x3 : Int) (M : ZM) : Option (Int × ZM) :=
  some (x3, M)
set_option maxRecDepth 100000 in
set_option maxHeartbeats 4000000 in
theorem zJ172_53_r (n : Nat) (b : Nat) {X3_ : Int32} {x3 : Int} (hx3 : rp X3_ x3) {M_ : Mem} {M : ZM} (gM : rm M_ M) {r : Int} {m' : ZM} (h : zJ172_53 n b x3 M = some (r, m')) : sI (J172_53 n b X3_ M_) r m' := by
  unfold zJ172_53 at h
  unfold J172_53
  obtain ⟨rfl, rfl⟩ := Prod.mk.inj (Option.some.inj h)
  exact ⟨_, _, rfl, hx3, gM⟩
def zJ172_34 (n : Nat) (b : Nat) (zrec8 : Int → Int → ZM → Option (Int × ZM)) (x2 : Int) (x3 : Int) (M : ZM) : Option (Int × ZM) :=
  if x3 < 0 ∨ 150 ≤ x3 then (none) else (match zF14 n (M.1 (b + 1) (Int.toNat x3)) M with | some (v8, M9) => (if v8 = 0 then (zJ172_55 n b zrec8 x2 x3 M9) else (if rg (x2 + (-1)) then (if (x2 + (-1)) = 0 then (zJ172_53 n b x3 M9) else (zJ172_55 n b zrec8 (x2 + (-1)) x3 M9)) else none)) | none => none)
set_option maxRecDepth 100000 in
set_option maxHeartbeats 4000000 in
theorem zJ172_34_r (n : Nat) (b : Nat) (rec8 : Int32 → Int32 → Mem → Option (Int32 × Mem)) (zrec8 : Int → Int → ZM → Option (Int × ZM)) (hrec8 : ∀ {Y1 : Int32} {y1 : Int} (_ : rp Y1 y1) {Y2 : Int32} {y2 : Int} (_ : rp Y2 y2) {M : Mem} {m : ZM} (_ : rm M m) {r : Int} {m' : ZM} (_ : zrec8 y1 y2 m = some (r, m')), sI (rec8 Y1 Y2 M) r m') {X2_ : Int32} {x2 : Int} (hx2 : rp X2_ x2) {X3_ : Int32} {x3 : Int} (hx3 : rp X3_ x3) {M_ : Mem} {M : ZM} (gM : rm M_ M) {r : Int} {m' : ZM} (h : zJ172_34 n b zrec8 x2 x3 M = some (r, m')) : sI (J172_34 n b rec8 X2_ X3_ M_) r m' := by
  unfold zJ172_34 at h
  unfold J172_34
  by_cases q1 : x3 < 0 ∨ 150 ≤ x3
  · rw [if_pos q1] at h
    rw [if_pos ((rp_ob hx3 150).mpr q1)]
    cases h
  · rw [if_neg q1] at h
    rw [if_neg (fun z => q1 ((rp_ob hx3 150).mp z))]
    cases hc2 : zF14 n (M.1 (b + 1) (Int.toNat x3)) M with
    | none => rw [hc2] at h; cases h
    | some w =>
      obtain ⟨v8, M9⟩ := w
      rw [hc2] at h
      dsimp only at h
      obtain ⟨V8, NM9, ehc2, hv8, gM9⟩ := zF14_r n (rm_rdx gM (b + 1) hx3) gM hc2
      rw [ehc2]
      dsimp only
      by_cases q3 : v8 = 0
      · rw [if_pos q3] at h
        rw [if_pos ((rp_eq hv8 (show rp 0 0 from rfl)).mpr q3)]
        exact zJ172_55_r n b _ _ hrec8 hx2 hx3 gM9 h
      · rw [if_neg q3] at h
        rw [if_neg (fun z => q3 ((rp_eq hv8 (show rp 0 0 from rfl)).mp z))]
        by_cases w4 : rg (x2 + (-1))
        · rw [if_pos w4] at h
          by_cases q5 : (x2 + (-1)) = 0
          · rw [if_pos q5] at h
            rw [if_pos ((rp_eq (rp_add (rp_iz hx2) (rp_iz (show rp (-1) (-1) from rfl)) w4) (show rp 0 0 from rfl)).mpr q5)]
            exact zJ172_53_r n b hx3 gM9 h
          · rw [if_neg q5] at h
            rw [if_neg (fun z => q5 ((rp_eq (rp_add (rp_iz hx2) (rp_iz (show rp (-1) (-1) from rfl)) w4) (show rp 0 0 from rfl)).mp z))]
            exact zJ172_55_r n b _ _ hrec8 (rp_add (rp_iz hx2) (rp_iz (show rp (-1) (-1) from rfl)) w4) hx3 gM9 h
        · rw [if_neg w4] at h
          cases h
def zJ172_28 (n : Nat) (b : Nat) (zrec8 : Int → Int → ZM → Option (Int × ZM)) (x2 : Int) (x3 : Int) (M : ZM) : Option (Int × ZM) :=
  if rg (x2 + 1) then (zJ172_55 n b zrec8 (x2 + 1) x3 M) else none
set_option maxRecDepth 100000 in
set_option maxHeartbeats 4000000 in
theorem zJ172_28_r (n : Nat) (b : Nat) (rec8 : Int32 → Int32 → Mem → Option (Int32 × Mem)) (zrec8 : Int → Int → ZM → Option (Int × ZM)) (hrec8 : ∀ {Y1 : Int32} {y1 : Int} (_ : rp Y1 y1) {Y2 : Int32} {y2 : Int} (_ : rp Y2 y2) {M : Mem} {m : ZM} (_ : rm M m) {r : Int} {m' : ZM} (_ : zrec8 y1 y2 m = some (r, m')), sI (rec8 Y1 Y2 M) r m') {X2_ : Int32} {x2 : Int} (hx2 : rp X2_ x2) {X3_ : Int32} {x3 : Int} (hx3 : rp X3_ x3) {M_ : Mem} {M : ZM} (gM : rm M_ M) {r : Int} {m' : ZM} (h : zJ172_28 n b zrec8 x2 x3 M = some (r, m')) : sI (J172_28 n b rec8 X2_ X3_ M_) r m' := by
  unfold zJ172_28 at h
  unfold J172_28
  by_cases w1 : rg (x2 + 1)
  · rw [if_pos w1] at h
    exact zJ172_55_r n b _ _ hrec8 (rp_add (rp_iz hx2) (rp_iz (show rp 1 1 from rfl)) w1) hx3 gM h
  · rw [if_neg w1] at h
    cases h
def zL172_8 (n : Nat) (b : Nat) : Nat → Int → Int → ZM → Option (Int × ZM)
  | 0, _, _, _ => none
  | k + 1, x2, x3, M => if (M.1 b 2) ≤ x3 then (some ((M.1 b 2), M)) else (if x3 < 0 ∨ 150 ≤ x3 then (none) else (match zF13 n (M.1 (b + 1) (Int.toNat x3)) M with | some (v3, M4) => (if v3 = 0 then (zJ172_34 n b (zL172_8 n b k) x2 x3 M4) else (zJ172_28 n b (zL172_8 n b k) x2 x3 M4)) | none => none))
set_option maxRecDepth 100000 in
set_option maxHeartbeats 4000000 in
theorem zL172_8_r (n : Nat) (b : Nat) : ∀ (k : Nat) {X2_ : Int32} {x2 : Int} (hx2 : rp X2_ x2) {X3_ : Int32} {x3 : Int} (hx3 : rp X3_ x3) {M_ : Mem} {M : ZM} (gM : rm M_ M) {r : Int} {m' : ZM} (_ : zL172_8 n b k x2 x3 M = some (r, m')), sI (L172_8 n b k X2_ X3_ M_) r m' := by
  intro k
  induction k with
  | zero => intro X2_ x2 hx2 X3_ x3 hx3 M_ M gM r m' h; cases h
  | succ k ih =>
    intro X2_ x2 hx2 X3_ x3 hx3 M_ M gM r m' h
    rw [zL172_8] at h
    rw [L172_8]
    by_cases q1 : (M.1 b 2) ≤ x3
    · rw [if_pos q1] at h
      rw [if_pos ((rp_le (rm_rd gM b 2) hx3).mpr q1)]
      obtain ⟨rfl, rfl⟩ := Prod.mk.inj (Option.some.inj h)
      exact ⟨_, _, rfl, (rm_rd gM b 2), gM⟩
    · rw [if_neg q1] at h
      rw [if_neg (fun z => q1 ((rp_le (rm_rd gM b 2) hx3).mp z))]
      by_cases q2 : x3 < 0 ∨ 150 ≤ x3
      · rw [if_pos q2] at h
        rw [if_pos ((rp_ob hx3 150).mpr q2)]
        cases h
      · rw [if_neg q2] at h
        rw [if_neg (fun z => q2 ((rp_ob hx3 150).mp z))]
        cases hc3 : zF13 n (M.1 (b + 1) (Int.toNat x3)) M with
        | none => rw [hc3] at h; cases h
        | some w =>
          obtain ⟨v3, M4⟩ := w
          rw [hc3] at h
          dsimp only at h
          obtain ⟨V3, NM4, ehc3, hv3, gM4⟩ := zF13_r n (rm_rdx gM (b + 1) hx3) gM hc3
          rw [ehc3]
          dsimp only
          by_cases q4 : v3 = 0
          · rw [if_pos q4] at h
            rw [if_pos ((rp_eq hv3 (show rp 0 0 from rfl)).mpr q4)]
            exact zJ172_34_r n b _ _ ih hx2 hx3 gM4 h
          · rw [if_neg q4] at h
            rw [if_neg (fun z => q4 ((rp_eq hv3 (show rp 0 0 from rfl)).mp z))]
            exact zJ172_28_r n b _ _ ih hx2 hx3 gM4 h
/-- ArmExpander$Row.closingOfBracketAt -/
def zF172 (n : Nat) (b : Nat) (a0 : Int) (M : ZM) : Option (Int × ZM) :=
  zL172_8 n b n 0 (if 0 < a0 then a0 else 0) M
set_option maxRecDepth 100000 in
set_option maxHeartbeats 4000000 in
theorem zF172_r (n : Nat) (b : Nat) {A0_ : Int32} {a0 : Int} (ha0 : rp A0_ a0) {M_ : Mem} {M : ZM} (gM : rm M_ M) {r : Int} {m' : ZM} (h : zF172 n b a0 M = some (r, m')) : sI (F172 n b A0_ M_) r m' := by
  unfold zF172 at h
  unfold F172
  exact zL172_8_r n b n (show rp 0 0 from rfl) (rp_ite (rp_lt (show rp 0 0 from rfl) ha0) ha0 (show rp 0 0 from rfl)) gM h
def zJ173_57 (n : Nat) (b : Nat) (zrec6 : Int → ZM → Option (Int × ZM)) (x2 : Int) (M : ZM) : Option (Int × ZM) :=
  if rg (x2 + 1) then (zrec6 (x2 + 1) M) else none
set_option maxRecDepth 100000 in
set_option maxHeartbeats 4000000 in
theorem zJ173_57_r (n : Nat) (b : Nat) (rec6 : Int32 → Mem → Option (Int32 × Mem)) (zrec6 : Int → ZM → Option (Int × ZM)) (hrec6 : ∀ {Y1 : Int32} {y1 : Int} (_ : rp Y1 y1) {M : Mem} {m : ZM} (_ : rm M m) {r : Int} {m' : ZM} (_ : zrec6 y1 m = some (r, m')), sI (rec6 Y1 M) r m') {X2_ : Int32} {x2 : Int} (hx2 : rp X2_ x2) {M_ : Mem} {M : ZM} (gM : rm M_ M) {r : Int} {m' : ZM} (h : zJ173_57 n b zrec6 x2 M = some (r, m')) : sI (J173_57 n b rec6 X2_ M_) r m' := by
  unfold zJ173_57 at h
  unfold J173_57
  by_cases w1 : rg (x2 + 1)
  · rw [if_pos w1] at h
    exact hrec6 (rp_add (rp_iz hx2) (rp_iz (show rp 1 1 from rfl)) w1) gM h
  · rw [if_neg w1] at h
    cases h
def zJ173_55 (n : Nat) (b : Nat) (x2 : Int) (M : ZM) : Option (Int × ZM) :=
  some (x2, M)
set_option maxRecDepth 100000 in
set_option maxHeartbeats 4000000 in
theorem zJ173_55_r (n : Nat) (b : Nat) {X2_ : Int32} {x2 : Int} (hx2 : rp X2_ x2) {M_ : Mem} {M : ZM} (gM : rm M_ M) {r : Int} {m' : ZM} (h : zJ173_55 n b x2 M = some (r, m')) : sI (J173_55 n b X2_ M_) r m' := by
  unfold zJ173_55 at h
  unfold J173_55
  obtain ⟨rfl, rfl⟩ := Prod.mk.inj (Option.some.inj h)
  exact ⟨_, _, rfl, hx2, gM⟩
