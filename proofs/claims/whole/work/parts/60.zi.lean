/-! The methods over whole numbers; written by program. -/
def zJ194_166 (n : Nat) (zgg : Nat → Int → Int → ZM → Option (Unit × ZM)) (b : Nat) (x2 : Int) (x5 : Int) (x7 : Int) (s0 : Int) (M : ZM) : Option (Unit × ZM) :=
  if s0 = 0 then (zJ194_184 n zgg b x2 x5 x7 s0 M) else (if x7 < 0 ∨ 4 ≤ x7 then (none) else (if rg ((M.1 (b + 3) (Int.toNat x7)) + 1) then (zlet (z_i M (b + 3) (Int.toNat x7) ((M.1 (b + 3) (Int.toNat x7)) + 1)) (fun M63 => zJ194_184 n zgg b x2 x5 x7 s0 M63)) else none))
set_option maxRecDepth 100000 in
set_option maxHeartbeats 4000000 in
theorem zJ194_166_r (n : Nat) (gg : Nat → Int32 → Int32 → Mem → Option (Unit × Mem)) (zgg : Nat → Int → Int → ZM → Option (Unit × ZM)) (hgg : ∀ (c1 : Nat) {Y2 : Int32} {y2 : Int} (_ : rp Y2 y2) {Y3 : Int32} {y3 : Int} (_ : rp Y3 y3) {M : Mem} {m : ZM} (_ : rm M m) {r : Unit} {m' : ZM} (_ : zgg c1 y2 y3 m = some (r, m')), sU (gg c1 Y2 Y3 M) m') (b : Nat) {X2_ : Int32} {x2 : Int} (hx2 : rp X2_ x2) {X5_ : Int32} {x5 : Int} (hx5 : rp X5_ x5) {X7_ : Int32} {x7 : Int} (hx7 : rp X7_ x7) {S0_ : Int32} {s0 : Int} (hs0 : rp S0_ s0) {M_ : Mem} {M : ZM} (gM : rm M_ M) {r : Unit} {m' : ZM} (h : zJ194_166 n zgg b x2 x5 x7 s0 M = some (r, m')) : sU (J194_166 n gg b X2_ X5_ X7_ S0_ M_) m' := by
  unfold zJ194_166 at h
  unfold J194_166
  by_cases q1 : s0 = 0
  · rw [if_pos q1] at h
    rw [if_pos ((rp_eq hs0 (show rp 0 0 from rfl)).mpr q1)]
    exact zJ194_184_r n _ _ hgg b hx2 hx5 hx7 hs0 gM h
  · rw [if_neg q1] at h
    rw [if_neg (fun z => q1 ((rp_eq hs0 (show rp 0 0 from rfl)).mp z))]
    by_cases q2 : x7 < 0 ∨ 4 ≤ x7
    · rw [if_pos q2] at h
      rw [if_pos ((rp_ob hx7 4).mpr q2)]
      cases h
    · rw [if_neg q2] at h
      rw [if_neg (fun z => q2 ((rp_ob hx7 4).mp z))]
      rw [if_neg (fun z => q2 ((rp_ob hx7 4).mp z))]
      by_cases w3 : rg ((M.1 (b + 3) (Int.toNat x7)) + 1)
      · rw [if_pos w3] at h
        have gM63 : rm (m_i M_ (b + 3) (X7_).toNatClampNeg ((M_.1 (b + 3) (X7_).toNatClampNeg) + (1 : Int32))) (z_i M (b + 3) (Int.toNat x7) ((M.1 (b + 3) (Int.toNat x7)) + 1)) := rm_ix gM (b + 3) hx7 (rp_add (rp_iz (rm_rdx gM (b + 3) hx7)) (rp_iz (show rp 1 1 from rfl)) w3)
        rw [mlet]
        rw [zlet] at h
        generalize z_i M (b + 3) (Int.toNat x7) ((M.1 (b + 3) (Int.toNat x7)) + 1) = M63 at h gM63
        generalize m_i M_ (b + 3) (X7_).toNatClampNeg ((M_.1 (b + 3) (X7_).toNatClampNeg) + (1 : Int32)) = NM63 at gM63 ⊢
        exact zJ194_184_r n _ _ hgg b hx2 hx5 hx7 hs0 gM63 h
      · rw [if_neg w3] at h
        cases h
def zJ194_165 (n : Nat) (zgg : Nat → Int → Int → ZM → Option (Unit × ZM)) (b : Nat) (x2 : Int) (x5 : Int) (x7 : Int) (M : ZM) : Option (Unit × ZM) :=
  zJ194_166 n zgg b x2 x5 x7 0 M
set_option maxRecDepth 100000 in
set_option maxHeartbeats 4000000 in
theorem zJ194_165_r (n : Nat) (gg : Nat → Int32 → Int32 → Mem → Option (Unit × Mem)) (zgg : Nat → Int → Int → ZM → Option (Unit × ZM)) (hgg : ∀ (c1 : Nat) {Y2 : Int32} {y2 : Int} (_ : rp Y2 y2) {Y3 : Int32} {y3 : Int} (_ : rp Y3 y3) {M : Mem} {m : ZM} (_ : rm M m) {r : Unit} {m' : ZM} (_ : zgg c1 y2 y3 m = some (r, m')), sU (gg c1 Y2 Y3 M) m') (b : Nat) {X2_ : Int32} {x2 : Int} (hx2 : rp X2_ x2) {X5_ : Int32} {x5 : Int} (hx5 : rp X5_ x5) {X7_ : Int32} {x7 : Int} (hx7 : rp X7_ x7) {M_ : Mem} {M : ZM} (gM : rm M_ M) {r : Unit} {m' : ZM} (h : zJ194_165 n zgg b x2 x5 x7 M = some (r, m')) : sU (J194_165 n gg b X2_ X5_ X7_ M_) m' := by
  unfold zJ194_165 at h
  unfold J194_165
  exact zJ194_166_r n _ _ hgg b hx2 hx5 hx7 (show rp 0 0 from rfl) gM h
def zJ194_155 (n : Nat) (zgg : Nat → Int → Int → ZM → Option (Unit × ZM)) (b : Nat) (x2 : Int) (x5 : Int) (x7 : Int) (M : ZM) : Option (Unit × ZM) :=
  if 4 ≤ x7 then (zJ194_165 n zgg b x2 x5 x7 M) else (zJ194_166 n zgg b x2 x5 x7 1 M)
set_option maxRecDepth 100000 in
set_option maxHeartbeats 4000000 in
theorem zJ194_155_r (n : Nat) (gg : Nat → Int32 → Int32 → Mem → Option (Unit × Mem)) (zgg : Nat → Int → Int → ZM → Option (Unit × ZM)) (hgg : ∀ (c1 : Nat) {Y2 : Int32} {y2 : Int} (_ : rp Y2 y2) {Y3 : Int32} {y3 : Int} (_ : rp Y3 y3) {M : Mem} {m : ZM} (_ : rm M m) {r : Unit} {m' : ZM} (_ : zgg c1 y2 y3 m = some (r, m')), sU (gg c1 Y2 Y3 M) m') (b : Nat) {X2_ : Int32} {x2 : Int} (hx2 : rp X2_ x2) {X5_ : Int32} {x5 : Int} (hx5 : rp X5_ x5) {X7_ : Int32} {x7 : Int} (hx7 : rp X7_ x7) {M_ : Mem} {M : ZM} (gM : rm M_ M) {r : Unit} {m' : ZM} (h : zJ194_155 n zgg b x2 x5 x7 M = some (r, m')) : sU (J194_155 n gg b X2_ X5_ X7_ M_) m' := by
  unfold zJ194_155 at h
  unfold J194_155
  by_cases q1 : 4 ≤ x7
  · rw [if_pos q1] at h
    rw [if_pos ((rp_le (show rp 4 4 from rfl) hx7).mpr q1)]
    exact zJ194_165_r n _ _ hgg b hx2 hx5 hx7 gM h
  · rw [if_neg q1] at h
    rw [if_neg (fun z => q1 ((rp_le (show rp 4 4 from rfl) hx7).mp z))]
    exact zJ194_166_r n _ _ hgg b hx2 hx5 hx7 (show rp 1 1 from rfl) gM h
def zJ194_139 (n : Nat) (zgg : Nat → Int → Int → ZM → Option (Unit × ZM)) (b : Nat) (x2 : Int) (x5 : Int) (M : ZM) : Option (Unit × ZM) :=
  match M.2.1 b 4 with | some p46 => (if isD p46 then (match zF123 n p46 x5 M with | some (v49, M50) => (if v49 < 0 then (zJ194_165 n zgg b x2 x5 v49 M50) else (zJ194_155 n zgg b x2 x5 v49 M50)) | none => none) else (none)) | none => (none)
set_option maxRecDepth 100000 in
set_option maxHeartbeats 4000000 in
theorem zJ194_139_r (n : Nat) (gg : Nat → Int32 → Int32 → Mem → Option (Unit × Mem)) (zgg : Nat → Int → Int → ZM → Option (Unit × ZM)) (hgg : ∀ (c1 : Nat) {Y2 : Int32} {y2 : Int} (_ : rp Y2 y2) {Y3 : Int32} {y3 : Int} (_ : rp Y3 y3) {M : Mem} {m : ZM} (_ : rm M m) {r : Unit} {m' : ZM} (_ : zgg c1 y2 y3 m = some (r, m')), sU (gg c1 Y2 Y3 M) m') (b : Nat) {X2_ : Int32} {x2 : Int} (hx2 : rp X2_ x2) {X5_ : Int32} {x5 : Int} (hx5 : rp X5_ x5) {M_ : Mem} {M : ZM} (gM : rm M_ M) {r : Unit} {m' : ZM} (h : zJ194_139 n zgg b x2 x5 M = some (r, m')) : sU (J194_139 n gg b X2_ X5_ M_) m' := by
  unfold zJ194_139 at h
  unfold J194_139
  rw [rm_rf gM b 4]
  cases hq1 : M.2.1 b 4 with
  | none =>
    rw [hq1] at h
    dsimp only at h ⊢
    cases h
  | some p46 =>
    rw [hq1] at h
    dsimp only at h ⊢
    by_cases q2 : isD p46
    · rw [if_pos q2] at h
      rw [if_pos (Iff.rfl.mpr q2)]
      cases hc3 : zF123 n p46 x5 M with
      | none => rw [hc3] at h; cases h
      | some w =>
        obtain ⟨v49, M50⟩ := w
        rw [hc3] at h
        dsimp only at h
        obtain ⟨V49, NM50, ehc3, hv49, gM50⟩ := zF123_r n p46 hx5 gM hc3
        rw [ehc3]
        dsimp only
        by_cases q4 : v49 < 0
        · rw [if_pos q4] at h
          rw [if_pos ((rp_lt hv49 (show rp 0 0 from rfl)).mpr q4)]
          exact zJ194_165_r n _ _ hgg b hx2 hx5 hv49 gM50 h
        · rw [if_neg q4] at h
          rw [if_neg (fun z => q4 ((rp_lt hv49 (show rp 0 0 from rfl)).mp z))]
          exact zJ194_155_r n _ _ hgg b hx2 hx5 hv49 gM50 h
    · rw [if_neg q2] at h
      rw [if_neg (fun z => q2 (Iff.rfl.mp z))]
      cases h
def zJ194_120 (n : Nat) (zgg : Nat → Int → Int → ZM → Option (Unit × ZM)) (b : Nat) (x2 : Int) (x4 : Int) (x5 : Int) (M : ZM) : Option (Unit × ZM) :=
  if x4 = 0 then (match M.2.1 b 4 with | some p39 => (if isD p39 then (match zF118 n p39 x5 M with | some (v42, M43) => (if v42 = 63 then (zJ194_211 n zgg b M43) else (zJ194_139 n zgg b x2 x5 M43)) | none => none) else (none)) | none => (none)) else (zJ194_139 n zgg b x2 x5 M)
set_option maxRecDepth 100000 in
set_option maxHeartbeats 4000000 in
theorem zJ194_120_r (n : Nat) (gg : Nat → Int32 → Int32 → Mem → Option (Unit × Mem)) (zgg : Nat → Int → Int → ZM → Option (Unit × ZM)) (hgg : ∀ (c1 : Nat) {Y2 : Int32} {y2 : Int} (_ : rp Y2 y2) {Y3 : Int32} {y3 : Int} (_ : rp Y3 y3) {M : Mem} {m : ZM} (_ : rm M m) {r : Unit} {m' : ZM} (_ : zgg c1 y2 y3 m = some (r, m')), sU (gg c1 Y2 Y3 M) m') (b : Nat) {X2_ : Int32} {x2 : Int} (hx2 : rp X2_ x2) {X4_ : Int32} {x4 : Int} (hx4 : rp X4_ x4) {X5_ : Int32} {x5 : Int} (hx5 : rp X5_ x5) {M_ : Mem} {M : ZM} (gM : rm M_ M) {r : Unit} {m' : ZM} (h : zJ194_120 n zgg b x2 x4 x5 M = some (r, m')) : sU (J194_120 n gg b X2_ X4_ X5_ M_) m' := by
  unfold zJ194_120 at h
  unfold J194_120
  by_cases q1 : x4 = 0
  · rw [if_pos q1] at h
    rw [if_pos ((rp_eq hx4 (show rp 0 0 from rfl)).mpr q1)]
    rw [rm_rf gM b 4]
    cases hq2 : M.2.1 b 4 with
    | none =>
      rw [hq2] at h
      dsimp only at h ⊢
      cases h
    | some p39 =>
      rw [hq2] at h
      dsimp only at h ⊢
      by_cases q3 : isD p39
      · rw [if_pos q3] at h
        rw [if_pos (Iff.rfl.mpr q3)]
        cases hc4 : zF118 n p39 x5 M with
        | none => rw [hc4] at h; cases h
        | some w =>
          obtain ⟨v42, M43⟩ := w
          rw [hc4] at h
          dsimp only at h
          obtain ⟨V42, NM43, ehc4, hv42, gM43⟩ := zF118_r n p39 hx5 gM hc4
          rw [ehc4]
          dsimp only
          by_cases q5 : v42 = 63
          · rw [if_pos q5] at h
            rw [if_pos ((rp_eq hv42 (show rp 63 63 from rfl)).mpr q5)]
            exact zJ194_211_r n _ _ hgg b gM43 h
          · rw [if_neg q5] at h
            rw [if_neg (fun z => q5 ((rp_eq hv42 (show rp 63 63 from rfl)).mp z))]
            exact zJ194_139_r n _ _ hgg b hx2 hx5 gM43 h
      · rw [if_neg q3] at h
        rw [if_neg (fun z => q3 (Iff.rfl.mp z))]
        cases h
  · rw [if_neg q1] at h
    rw [if_neg (fun z => q1 ((rp_eq hx4 (show rp 0 0 from rfl)).mp z))]
    exact zJ194_139_r n _ _ hgg b hx2 hx5 gM h
def zJ194_105 (n : Nat) (zgg : Nat → Int → Int → ZM → Option (Unit × ZM)) (b : Nat) (x2 : Int) (x4 : Int) (x5 : Int) (x6 : Int) (M : ZM) : Option (Unit × ZM) :=
  if x6 = (-1) then (zJ194_120 n zgg b x2 x4 x5 M) else (match zF195 n b x6 M with | some (v65, M66) => (zJ194_211 n zgg b M66) | none => none)
set_option maxRecDepth 100000 in
set_option maxHeartbeats 4000000 in
theorem zJ194_105_r (n : Nat) (gg : Nat → Int32 → Int32 → Mem → Option (Unit × Mem)) (zgg : Nat → Int → Int → ZM → Option (Unit × ZM)) (hgg : ∀ (c1 : Nat) {Y2 : Int32} {y2 : Int} (_ : rp Y2 y2) {Y3 : Int32} {y3 : Int} (_ : rp Y3 y3) {M : Mem} {m : ZM} (_ : rm M m) {r : Unit} {m' : ZM} (_ : zgg c1 y2 y3 m = some (r, m')), sU (gg c1 Y2 Y3 M) m') (b : Nat) {X2_ : Int32} {x2 : Int} (hx2 : rp X2_ x2) {X4_ : Int32} {x4 : Int} (hx4 : rp X4_ x4) {X5_ : Int32} {x5 : Int} (hx5 : rp X5_ x5) {X6_ : Int32} {x6 : Int} (hx6 : rp X6_ x6) {M_ : Mem} {M : ZM} (gM : rm M_ M) {r : Unit} {m' : ZM} (h : zJ194_105 n zgg b x2 x4 x5 x6 M = some (r, m')) : sU (J194_105 n gg b X2_ X4_ X5_ X6_ M_) m' := by
  unfold zJ194_105 at h
  unfold J194_105
  by_cases q1 : x6 = (-1)
  · rw [if_pos q1] at h
    rw [if_pos ((rp_eq hx6 (show rp (-1) (-1) from rfl)).mpr q1)]
    exact zJ194_120_r n _ _ hgg b hx2 hx4 hx5 gM h
  · rw [if_neg q1] at h
    rw [if_neg (fun z => q1 ((rp_eq hx6 (show rp (-1) (-1) from rfl)).mp z))]
    cases hc2 : zF195 n b x6 M with
    | none => rw [hc2] at h; cases h
    | some w =>
      obtain ⟨v65, M66⟩ := w
      rw [hc2] at h
      dsimp only at h
      obtain ⟨NM66, ehc2, gM66⟩ := zF195_r n b hx6 gM hc2
      rw [ehc2]
      dsimp only
      exact zJ194_211_r n _ _ hgg b gM66 h
def zJ194_89 (n : Nat) (zgg : Nat → Int → Int → ZM → Option (Unit × ZM)) (b : Nat) (x2 : Int) (x4 : Int) (x5 : Int) (M : ZM) : Option (Unit × ZM) :=
  match M.2.1 b 4 with | some p30 => (if isD p30 then (match zF120 n p30 x5 M with | some (v33, M34) => (if x4 = 0 then (zJ194_105 n zgg b x2 x4 x5 v33 M34) else (zJ194_120 n zgg b x2 x4 x5 M34)) | none => none) else (none)) | none => (none)
set_option maxRecDepth 100000 in
set_option maxHeartbeats 4000000 in
theorem zJ194_89_r (n : Nat) (gg : Nat → Int32 → Int32 → Mem → Option (Unit × Mem)) (zgg : Nat → Int → Int → ZM → Option (Unit × ZM)) (hgg : ∀ (c1 : Nat) {Y2 : Int32} {y2 : Int} (_ : rp Y2 y2) {Y3 : Int32} {y3 : Int} (_ : rp Y3 y3) {M : Mem} {m : ZM} (_ : rm M m) {r : Unit} {m' : ZM} (_ : zgg c1 y2 y3 m = some (r, m')), sU (gg c1 Y2 Y3 M) m') (b : Nat) {X2_ : Int32} {x2 : Int} (hx2 : rp X2_ x2) {X4_ : Int32} {x4 : Int} (hx4 : rp X4_ x4) {X5_ : Int32} {x5 : Int} (hx5 : rp X5_ x5) {M_ : Mem} {M : ZM} (gM : rm M_ M) {r : Unit} {m' : ZM} (h : zJ194_89 n zgg b x2 x4 x5 M = some (r, m')) : sU (J194_89 n gg b X2_ X4_ X5_ M_) m' := by
  unfold zJ194_89 at h
  unfold J194_89
  rw [rm_rf gM b 4]
  cases hq1 : M.2.1 b 4 with
  | none =>
    rw [hq1] at h
    dsimp only at h ⊢
    cases h
  | some p30 =>
    rw [hq1] at h
    dsimp only at h ⊢
    by_cases q2 : isD p30
    · rw [if_pos q2] at h
      rw [if_pos (Iff.rfl.mpr q2)]
      cases hc3 : zF120 n p30 x5 M with
      | none => rw [hc3] at h; cases h
      | some w =>
        obtain ⟨v33, M34⟩ := w
        rw [hc3] at h
        dsimp only at h
        obtain ⟨V33, NM34, ehc3, hv33, gM34⟩ := zF120_r n p30 hx5 gM hc3
        rw [ehc3]
        dsimp only
        by_cases q4 : x4 = 0
        · rw [if_pos q4] at h
          rw [if_pos ((rp_eq hx4 (show rp 0 0 from rfl)).mpr q4)]
          exact zJ194_105_r n _ _ hgg b hx2 hx4 hx5 hv33 gM34 h
        · rw [if_neg q4] at h
          rw [if_neg (fun z => q4 ((rp_eq hx4 (show rp 0 0 from rfl)).mp z))]
          exact zJ194_120_r n _ _ hgg b hx2 hx4 hx5 gM34 h
    · rw [if_neg q2] at h
      rw [if_neg (fun z => q2 (Iff.rfl.mp z))]
      cases h
def zJ194_73 (n : Nat) (zgg : Nat → Int → Int → ZM → Option (Unit × ZM)) (b : Nat) (x2 : Int) (x4 : Int) (x5 : Int) (M : ZM) : Option (Unit × ZM) :=
  match M.2.1 b 4 with | some p21 => (if isD p21 then (match zF119 n p21 x5 M with | some (v24, M25) => (if rg (x2 + 1) then (match zgg b v24 (x2 + 1) M25 with | some (v27, M28) => (zJ194_89 n zgg b x2 x4 x5 M28) | none => none) else none) | none => none) else (none)) | none => (none)
set_option maxRecDepth 100000 in
set_option maxHeartbeats 4000000 in
theorem zJ194_73_r (n : Nat) (gg : Nat → Int32 → Int32 → Mem → Option (Unit × Mem)) (zgg : Nat → Int → Int → ZM → Option (Unit × ZM)) (hgg : ∀ (c1 : Nat) {Y2 : Int32} {y2 : Int} (_ : rp Y2 y2) {Y3 : Int32} {y3 : Int} (_ : rp Y3 y3) {M : Mem} {m : ZM} (_ : rm M m) {r : Unit} {m' : ZM} (_ : zgg c1 y2 y3 m = some (r, m')), sU (gg c1 Y2 Y3 M) m') (b : Nat) {X2_ : Int32} {x2 : Int} (hx2 : rp X2_ x2) {X4_ : Int32} {x4 : Int} (hx4 : rp X4_ x4) {X5_ : Int32} {x5 : Int} (hx5 : rp X5_ x5) {M_ : Mem} {M : ZM} (gM : rm M_ M) {r : Unit} {m' : ZM} (h : zJ194_73 n zgg b x2 x4 x5 M = some (r, m')) : sU (J194_73 n gg b X2_ X4_ X5_ M_) m' := by
  unfold zJ194_73 at h
  unfold J194_73
  rw [rm_rf gM b 4]
  cases hq1 : M.2.1 b 4 with
  | none =>
    rw [hq1] at h
    dsimp only at h ⊢
    cases h
  | some p21 =>
    rw [hq1] at h
    dsimp only at h ⊢
    by_cases q2 : isD p21
    · rw [if_pos q2] at h
      rw [if_pos (Iff.rfl.mpr q2)]
      cases hc3 : zF119 n p21 x5 M with
      | none => rw [hc3] at h; cases h
      | some w =>
        obtain ⟨v24, M25⟩ := w
        rw [hc3] at h
        dsimp only at h
        obtain ⟨V24, NM25, ehc3, hv24, gM25⟩ := zF119_r n p21 hx5 gM hc3
        rw [ehc3]
        dsimp only
        by_cases w4 : rg (x2 + 1)
        · rw [if_pos w4] at h
          cases hc5 : zgg b v24 (x2 + 1) M25 with
          | none => rw [hc5] at h; cases h
          | some w =>
            obtain ⟨v27, M28⟩ := w
            rw [hc5] at h
            dsimp only at h
            obtain ⟨NM28, ehc5, gM28⟩ := hgg b hv24 (rp_add (rp_iz hx2) (rp_iz (show rp 1 1 from rfl)) w4) gM25 hc5
            rw [ehc5]
            dsimp only
            exact zJ194_89_r n _ _ hgg b hx2 hx4 hx5 gM28 h
        · rw [if_neg w4] at h
          cases h
    · rw [if_neg q2] at h
      rw [if_neg (fun z => q2 (Iff.rfl.mp z))]
      cases h
def zJ194_52 (n : Nat) (zgg : Nat → Int → Int → ZM → Option (Unit × ZM)) (b : Nat) (x2 : Int) (x4 : Int) (s0 : Int) (M : ZM) : Option (Unit × ZM) :=
  if x4 = 0 then (zJ194_73 n zgg b x2 x4 s0 M) else (match M.2.1 b 4 with | some p68 => (if isD p68 then (match zF118 n p68 s0 M with | some (v71, M72) => (if v71 = 43 then (zJ194_89 n zgg b x2 x4 s0 M72) else (zJ194_73 n zgg b x2 x4 s0 M72)) | none => none) else (none)) | none => (none))
set_option maxRecDepth 100000 in
set_option maxHeartbeats 4000000 in
theorem zJ194_52_r (n : Nat) (gg : Nat → Int32 → Int32 → Mem → Option (Unit × Mem)) (zgg : Nat → Int → Int → ZM → Option (Unit × ZM)) (hgg : ∀ (c1 : Nat) {Y2 : Int32} {y2 : Int} (_ : rp Y2 y2) {Y3 : Int32} {y3 : Int} (_ : rp Y3 y3) {M : Mem} {m : ZM} (_ : rm M m) {r : Unit} {m' : ZM} (_ : zgg c1 y2 y3 m = some (r, m')), sU (gg c1 Y2 Y3 M) m') (b : Nat) {X2_ : Int32} {x2 : Int} (hx2 : rp X2_ x2) {X4_ : Int32} {x4 : Int} (hx4 : rp X4_ x4) {S0_ : Int32} {s0 : Int} (hs0 : rp S0_ s0) {M_ : Mem} {M : ZM} (gM : rm M_ M) {r : Unit} {m' : ZM} (h : zJ194_52 n zgg b x2 x4 s0 M = some (r, m')) : sU (J194_52 n gg b X2_ X4_ S0_ M_) m' := by
  unfold zJ194_52 at h
  unfold J194_52
  by_cases q1 : x4 = 0
  · rw [if_pos q1] at h
    rw [if_pos ((rp_eq hx4 (show rp 0 0 from rfl)).mpr q1)]
    exact zJ194_73_r n _ _ hgg b hx2 hx4 hs0 gM h
  · rw [if_neg q1] at h
    rw [if_neg (fun z => q1 ((rp_eq hx4 (show rp 0 0 from rfl)).mp z))]
    rw [rm_rf gM b 4]
    cases hq2 : M.2.1 b 4 with
    | none =>
      rw [hq2] at h
      dsimp only at h ⊢
      cases h
    | some p68 =>
      rw [hq2] at h
      dsimp only at h ⊢
      by_cases q3 : isD p68
      · rw [if_pos q3] at h
        rw [if_pos (Iff.rfl.mpr q3)]
        cases hc4 : zF118 n p68 s0 M with
        | none => rw [hc4] at h; cases h
        | some w =>
          obtain ⟨v71, M72⟩ := w
          rw [hc4] at h
          dsimp only at h
          obtain ⟨V71, NM72, ehc4, hv71, gM72⟩ := zF118_r n p68 hs0 gM hc4
          rw [ehc4]
          dsimp only
          by_cases q5 : v71 = 43
          · rw [if_pos q5] at h
            rw [if_pos ((rp_eq hv71 (show rp 43 43 from rfl)).mpr q5)]
            exact zJ194_89_r n _ _ hgg b hx2 hx4 hs0 gM72 h
          · rw [if_neg q5] at h
            rw [if_neg (fun z => q5 ((rp_eq hv71 (show rp 43 43 from rfl)).mp z))]
            exact zJ194_73_r n _ _ hgg b hx2 hx4 hs0 gM72 h
      · rw [if_neg q3] at h
        rw [if_neg (fun z => q3 (Iff.rfl.mp z))]
        cases h
def zJ194_42 (n : Nat) (zgg : Nat → Int → Int → ZM → Option (Unit × ZM)) (b : Nat) (x1 : Int) (x2 : Int) (x3 : Int) (x4 : Int) (M : ZM) : Option (Unit × ZM) :=
  if x4 = 0 then (zJ194_52 n zgg b x2 x4 x3 M) else (zJ194_52 n zgg b x2 x4 x1 M)
set_option maxRecDepth 100000 in
set_option maxHeartbeats 4000000 in
theorem zJ194_42_r (n : Nat) (gg : Nat → Int32 → Int32 → Mem → Option (Unit × Mem)) (zgg : Nat → Int → Int → ZM → Option (Unit × ZM)) (hgg : ∀ (c1 : Nat) {Y2 : Int32} {y2 : Int} (_ : rp Y2 y2) {Y3 : Int32} {y3 : Int} (_ : rp Y3 y3) {M : Mem} {m : ZM} (_ : rm M m) {r : Unit} {m' : ZM} (_ : zgg c1 y2 y3 m = some (r, m')), sU (gg c1 Y2 Y3 M) m') (b : Nat) {X1_ : Int32} {x1 : Int} (hx1 : rp X1_ x1) {X2_ : Int32} {x2 : Int} (hx2 : rp X2_ x2) {X3_ : Int32} {x3 : Int} (hx3 : rp X3_ x3) {X4_ : Int32} {x4 : Int} (hx4 : rp X4_ x4) {M_ : Mem} {M : ZM} (gM : rm M_ M) {r : Unit} {m' : ZM} (h : zJ194_42 n zgg b x1 x2 x3 x4 M = some (r, m')) : sU (J194_42 n gg b X1_ X2_ X3_ X4_ M_) m' := by
  unfold zJ194_42 at h
  unfold J194_42
  by_cases q1 : x4 = 0
  · rw [if_pos q1] at h
    rw [if_pos ((rp_eq hx4 (show rp 0 0 from rfl)).mpr q1)]
    exact zJ194_52_r n _ _ hgg b hx2 hx4 hx3 gM h
  · rw [if_neg q1] at h
    rw [if_neg (fun z => q1 ((rp_eq hx4 (show rp 0 0 from rfl)).mp z))]
    exact zJ194_52_r n _ _ hgg b hx2 hx4 hx1 gM h
def zJ194_31 (n : Nat) (zgg : Nat → Int → Int → ZM → Option (Unit × ZM)) (b : Nat) (x1 : Int) (x2 : Int) (x3 : Int) (x4 : Int) (M : ZM) : Option (Unit × ZM) :=
  if x4 = 0 then (match zF195 n b x1 M with | some (v16, M17) => (some ((), M17)) | none => none) else (zJ194_42 n zgg b x1 x2 x3 x4 M)
set_option maxRecDepth 100000 in
set_option maxHeartbeats 4000000 in
theorem zJ194_31_r (n : Nat) (gg : Nat → Int32 → Int32 → Mem → Option (Unit × Mem)) (zgg : Nat → Int → Int → ZM → Option (Unit × ZM)) (hgg : ∀ (c1 : Nat) {Y2 : Int32} {y2 : Int} (_ : rp Y2 y2) {Y3 : Int32} {y3 : Int} (_ : rp Y3 y3) {M : Mem} {m : ZM} (_ : rm M m) {r : Unit} {m' : ZM} (_ : zgg c1 y2 y3 m = some (r, m')), sU (gg c1 Y2 Y3 M) m') (b : Nat) {X1_ : Int32} {x1 : Int} (hx1 : rp X1_ x1) {X2_ : Int32} {x2 : Int} (hx2 : rp X2_ x2) {X3_ : Int32} {x3 : Int} (hx3 : rp X3_ x3) {X4_ : Int32} {x4 : Int} (hx4 : rp X4_ x4) {M_ : Mem} {M : ZM} (gM : rm M_ M) {r : Unit} {m' : ZM} (h : zJ194_31 n zgg b x1 x2 x3 x4 M = some (r, m')) : sU (J194_31 n gg b X1_ X2_ X3_ X4_ M_) m' := by
  unfold zJ194_31 at h
  unfold J194_31
  by_cases q1 : x4 = 0
  · rw [if_pos q1] at h
    rw [if_pos ((rp_eq hx4 (show rp 0 0 from rfl)).mpr q1)]
    cases hc2 : zF195 n b x1 M with
    | none => rw [hc2] at h; cases h
    | some w =>
      obtain ⟨v16, M17⟩ := w
      rw [hc2] at h
      dsimp only at h
      obtain ⟨NM17, ehc2, gM17⟩ := zF195_r n b hx1 gM hc2
      rw [ehc2]
      dsimp only
      obtain ⟨_, rfl⟩ := Prod.mk.inj (Option.some.inj h)
      exact ⟨_, rfl, gM17⟩
  · rw [if_neg q1] at h
    rw [if_neg (fun z => q1 ((rp_eq hx4 (show rp 0 0 from rfl)).mp z))]
    exact zJ194_42_r n _ _ hgg b hx1 hx2 hx3 hx4 gM h
def zJ194_16 (n : Nat) (zgg : Nat → Int → Int → ZM → Option (Unit × ZM)) (b : Nat) (x1 : Int) (x2 : Int) (x3 : Int) (M : ZM) : Option (Unit × ZM) :=
  match M.2.1 b 4 with | some p8 => (if isD p8 then (match zF116 n p8 x1 M with | some (v11, M12) => (if x3 = (-1) then (zJ194_31 n zgg b x1 x2 x3 v11 M12) else (zJ194_42 n zgg b x1 x2 x3 v11 M12)) | none => none) else (none)) | none => (none)
set_option maxRecDepth 100000 in
set_option maxHeartbeats 4000000 in
theorem zJ194_16_r (n : Nat) (gg : Nat → Int32 → Int32 → Mem → Option (Unit × Mem)) (zgg : Nat → Int → Int → ZM → Option (Unit × ZM)) (hgg : ∀ (c1 : Nat) {Y2 : Int32} {y2 : Int} (_ : rp Y2 y2) {Y3 : Int32} {y3 : Int} (_ : rp Y3 y3) {M : Mem} {m : ZM} (_ : rm M m) {r : Unit} {m' : ZM} (_ : zgg c1 y2 y3 m = some (r, m')), sU (gg c1 Y2 Y3 M) m') (b : Nat) {X1_ : Int32} {x1 : Int} (hx1 : rp X1_ x1) {X2_ : Int32} {x2 : Int} (hx2 : rp X2_ x2) {X3_ : Int32} {x3 : Int} (hx3 : rp X3_ x3) {M_ : Mem} {M : ZM} (gM : rm M_ M) {r : Unit} {m' : ZM} (h : zJ194_16 n zgg b x1 x2 x3 M = some (r, m')) : sU (J194_16 n gg b X1_ X2_ X3_ M_) m' := by
  unfold zJ194_16 at h
  unfold J194_16
  rw [rm_rf gM b 4]
  cases hq1 : M.2.1 b 4 with
  | none =>
    rw [hq1] at h
    dsimp only at h ⊢
    cases h
  | some p8 =>
    rw [hq1] at h
    dsimp only at h ⊢
    by_cases q2 : isD p8
    · rw [if_pos q2] at h
      rw [if_pos (Iff.rfl.mpr q2)]
      cases hc3 : zF116 n p8 x1 M with
      | none => rw [hc3] at h; cases h
      | some w =>
        obtain ⟨v11, M12⟩ := w
        rw [hc3] at h
        dsimp only at h
        obtain ⟨V11, NM12, ehc3, hv11, gM12⟩ := zF116_r n p8 hx1 gM hc3
        rw [ehc3]
        dsimp only
        by_cases q4 : x3 = (-1)
        · rw [if_pos q4] at h
          rw [if_pos ((rp_eq hx3 (show rp (-1) (-1) from rfl)).mpr q4)]
          exact zJ194_31_r n _ _ hgg b hx1 hx2 hx3 hv11 gM12 h
        · rw [if_neg q4] at h
          rw [if_neg (fun z => q4 ((rp_eq hx3 (show rp (-1) (-1) from rfl)).mp z))]
          exact zJ194_42_r n _ _ hgg b hx1 hx2 hx3 hv11 gM12 h
    · rw [if_neg q2] at h
      rw [if_neg (fun z => q2 (Iff.rfl.mp z))]
      cases h
/-- ArmExpander$Threads.walk -/
def zG194 (n : Nat) (zgg : Nat → Int → Int → ZM → Option (Unit × ZM)) (b : Nat) (a0 : Int) (a1 : Int) (M : ZM) : Option (Unit × ZM) :=
  if a1 ≤ 16 then (match M.2.1 b 4 with | some p2 => (if isD p2 then (match zF117 n p2 a0 M with | some (v5, M6) => (zJ194_16 n zgg b a0 a1 v5 M6) | none => none) else (none)) | none => (none)) else (some ((), M))
set_option maxRecDepth 100000 in
set_option maxHeartbeats 4000000 in
theorem zG194_r (n : Nat) (gg : Nat → Int32 → Int32 → Mem → Option (Unit × Mem)) (zgg : Nat → Int → Int → ZM → Option (Unit × ZM)) (hgg : ∀ (c1 : Nat) {Y2 : Int32} {y2 : Int} (_ : rp Y2 y2) {Y3 : Int32} {y3 : Int} (_ : rp Y3 y3) {M : Mem} {m : ZM} (_ : rm M m) {r : Unit} {m' : ZM} (_ : zgg c1 y2 y3 m = some (r, m')), sU (gg c1 Y2 Y3 M) m') (b : Nat) {A0_ : Int32} {a0 : Int} (ha0 : rp A0_ a0) {A1_ : Int32} {a1 : Int} (ha1 : rp A1_ a1) {M_ : Mem} {M : ZM} (gM : rm M_ M) {r : Unit} {m' : ZM} (h : zG194 n zgg b a0 a1 M = some (r, m')) : sU (G194 n gg b A0_ A1_ M_) m' := by
  unfold zG194 at h
  unfold G194
  by_cases q1 : a1 ≤ 16
  · rw [if_pos q1] at h
    rw [if_pos ((rp_le ha1 (show rp 16 16 from rfl)).mpr q1)]
    rw [rm_rf gM b 4]
    cases hq2 : M.2.1 b 4 with
    | none =>
      rw [hq2] at h
      dsimp only at h ⊢
      cases h
    | some p2 =>
      rw [hq2] at h
      dsimp only at h ⊢
      by_cases q3 : isD p2
      · rw [if_pos q3] at h
        rw [if_pos (Iff.rfl.mpr q3)]
        cases hc4 : zF117 n p2 a0 M with
        | none => rw [hc4] at h; cases h
        | some w =>
          obtain ⟨v5, M6⟩ := w
          rw [hc4] at h
          dsimp only at h
          obtain ⟨V5, NM6, ehc4, hv5, gM6⟩ := zF117_r n p2 ha0 gM hc4
          rw [ehc4]
          dsimp only
          exact zJ194_16_r n _ _ hgg b ha0 ha1 hv5 gM6 h
      · rw [if_neg q3] at h
        rw [if_neg (fun z => q3 (Iff.rfl.mp z))]
        cases h
  · rw [if_neg q1] at h
    rw [if_neg (fun z => q1 ((rp_le ha1 (show rp 16 16 from rfl)).mp z))]
    obtain ⟨_, rfl⟩ := Prod.mk.inj (Option.some.inj h)
    exact ⟨_, rfl, gM⟩
def zK194 (n : Nat) : Nat → Nat → Int → Int → ZM → Option (Unit × ZM)
  | 0, _, _, _, _ => none
  | k + 1, b, a0, a1, M => zG194 n (zK194 n k) b a0 a1 M
set_option maxRecDepth 100000 in
set_option maxHeartbeats 4000000 in
theorem zK194_r (n : Nat) : ∀ (k : Nat) (b : Nat) {A0_ : Int32} {a0 : Int} (ha0 : rp A0_ a0) {A1_ : Int32} {a1 : Int} (ha1 : rp A1_ a1) {M_ : Mem} {M : ZM} (gM : rm M_ M) {r : Unit} {m' : ZM} (_ : zK194 n k b a0 a1 M = some (r, m')), sU (K194 n k b A0_ A1_ M_) m' := by
  intro k
  induction k with
  | zero => intro b A0_ a0 ha0 A1_ a1 ha1 M_ M gM r m' h; cases h
  | succ k ih =>
    intro b A0_ a0 ha0 A1_ a1 ha1 M_ M gM r m' h
    rw [zK194] at h
    rw [K194]
    exact zG194_r n _ _ ih b ha0 ha1 gM h
/-- ArmExpander$Threads.walk -/
def zF194 (n : Nat) (b : Nat) (a0 : Int) (a1 : Int) (M : ZM) : Option (Unit × ZM) :=
  zK194 n 18 b a0 a1 M
set_option maxRecDepth 100000 in
set_option maxHeartbeats 4000000 in
theorem zF194_r (n : Nat) (b : Nat) {A0_ : Int32} {a0 : Int} (ha0 : rp A0_ a0) {A1_ : Int32} {a1 : Int} (ha1 : rp A1_ a1) {M_ : Mem} {M : ZM} (gM : rm M_ M) {r : Unit} {m' : ZM} (h : zF194 n b a0 a1 M = some (r, m')) : sU (F194 n b A0_ A1_ M_) m' := by
  unfold zF194 at h
  unfold F194
  exact zK194_r n 18 b ha0 ha1 gM h
/-- ArmExpander$Threads.arrive -/
def zF192 (n : Nat) (b : Nat) (a0 : Int) (M : ZM) : Option (Unit × ZM) :=
  match zF194 n b a0 0 M with | some (v1, M2) => (some ((), M2)) | none => none
set_option maxRecDepth 100000 in
set_option maxHeartbeats 4000000 in
theorem zF192_r (n : Nat) (b : Nat) {A0_ : Int32} {a0 : Int} (ha0 : rp A0_ a0) {M_ : Mem} {M : ZM} (gM : rm M_ M) {r : Unit} {m' : ZM} (h : zF192 n b a0 M = some (r, m')) : sU (F192 n b A0_ M_) m' := by
  unfold zF192 at h
  unfold F192
  cases hc1 : zF194 n b a0 0 M with
  | none => rw [hc1] at h; cases h
  | some w =>
    obtain ⟨v1, M2⟩ := w
    rw [hc1] at h
    dsimp only at h
    obtain ⟨NM2, ehc1, gM2⟩ := zF194_r n b ha0 (show rp 0 0 from rfl) gM hc1
    rw [ehc1]
    dsimp only
    obtain ⟨_, rfl⟩ := Prod.mk.inj (Option.some.inj h)
    exact ⟨_, rfl, gM2⟩
def zJ193_28 (n : Nat) (b : Nat) (x1 : Int) (M : ZM) : Option (Unit × ZM) :=
  if rg (x1 + 2) then (match zF194 n b (x1 + 2) 0 M with | some (v8, M9) => (some ((), M9)) | none => none) else none
set_option maxRecDepth 100000 in
set_option maxHeartbeats 4000000 in
theorem zJ193_28_r (n : Nat) (b : Nat) {X1_ : Int32} {x1 : Int} (hx1 : rp X1_ x1) {M_ : Mem} {M : ZM} (gM : rm M_ M) {r : Unit} {m' : ZM} (h : zJ193_28 n b x1 M = some (r, m')) : sU (J193_28 n b X1_ M_) m' := by
  unfold zJ193_28 at h
  unfold J193_28
  by_cases w1 : rg (x1 + 2)
  · rw [if_pos w1] at h
    cases hc2 : zF194 n b (x1 + 2) 0 M with
    | none => rw [hc2] at h; cases h
    | some w =>
      obtain ⟨v8, M9⟩ := w
      rw [hc2] at h
      dsimp only at h
      obtain ⟨NM9, ehc2, gM9⟩ := zF194_r n b (rp_add (rp_iz hx1) (rp_iz (show rp 2 2 from rfl)) w1) (show rp 0 0 from rfl) gM hc2
      rw [ehc2]
      dsimp only
      obtain ⟨_, rfl⟩ := Prod.mk.inj (Option.some.inj h)
      exact ⟨_, rfl, gM9⟩
  · rw [if_neg w1] at h
    cases h
def zJ193_13 (n : Nat) (b : Nat) (x1 : Int) (x2 : Int) (M : ZM) : Option (Unit × ZM) :=
  if 4 ≤ x2 then (zJ193_28 n b x1 M) else (if x2 < 0 ∨ 4 ≤ x2 then (none) else (if rg ((M.1 (b + 3) (Int.toNat x2)) + 1) then (zlet (z_i M (b + 3) (Int.toNat x2) ((M.1 (b + 3) (Int.toNat x2)) + 1)) (fun M14 => zJ193_28 n b x1 M14)) else none))
set_option maxRecDepth 100000 in
set_option maxHeartbeats 4000000 in
theorem zJ193_13_r (n : Nat) (b : Nat) {X1_ : Int32} {x1 : Int} (hx1 : rp X1_ x1) {X2_ : Int32} {x2 : Int} (hx2 : rp X2_ x2) {M_ : Mem} {M : ZM} (gM : rm M_ M) {r : Unit} {m' : ZM} (h : zJ193_13 n b x1 x2 M = some (r, m')) : sU (J193_13 n b X1_ X2_ M_) m' := by
  unfold zJ193_13 at h
  unfold J193_13
  by_cases q1 : 4 ≤ x2
  · rw [if_pos q1] at h
    rw [if_pos ((rp_le (show rp 4 4 from rfl) hx2).mpr q1)]
    exact zJ193_28_r n b hx1 gM h
  · rw [if_neg q1] at h
    rw [if_neg (fun z => q1 ((rp_le (show rp 4 4 from rfl) hx2).mp z))]
    by_cases q2 : x2 < 0 ∨ 4 ≤ x2
    · rw [if_pos q2] at h
      rw [if_pos ((rp_ob hx2 4).mpr q2)]
      cases h
    · rw [if_neg q2] at h
      rw [if_neg (fun z => q2 ((rp_ob hx2 4).mp z))]
      rw [if_neg (fun z => q2 ((rp_ob hx2 4).mp z))]
      by_cases w3 : rg ((M.1 (b + 3) (Int.toNat x2)) + 1)
      · rw [if_pos w3] at h
        have gM14 : rm (m_i M_ (b + 3) (X2_).toNatClampNeg ((M_.1 (b + 3) (X2_).toNatClampNeg) + (1 : Int32))) (z_i M (b + 3) (Int.toNat x2) ((M.1 (b + 3) (Int.toNat x2)) + 1)) := rm_ix gM (b + 3) hx2 (rp_add (rp_iz (rm_rdx gM (b + 3) hx2)) (rp_iz (show rp 1 1 from rfl)) w3)
        rw [mlet]
        rw [zlet] at h
        generalize z_i M (b + 3) (Int.toNat x2) ((M.1 (b + 3) (Int.toNat x2)) + 1) = M14 at h gM14
        generalize m_i M_ (b + 3) (X2_).toNatClampNeg ((M_.1 (b + 3) (X2_).toNatClampNeg) + (1 : Int32)) = NM14 at gM14 ⊢
        exact zJ193_28_r n b hx1 gM14 h
      · rw [if_neg w3] at h
        cases h
/-- ArmExpander$Threads.beginRound -/
def zF193 (n : Nat) (b : Nat) (a0 : Int) (M : ZM) : Option (Unit × ZM) :=
  match M.2.1 b 4 with | some p1 => (if isD p1 then (match zF123 n p1 a0 M with | some (v4, M5) => (if v4 < 0 then (zJ193_28 n b a0 M5) else (zJ193_13 n b a0 v4 M5)) | none => none) else (none)) | none => (none)
set_option maxRecDepth 100000 in
set_option maxHeartbeats 4000000 in
theorem zF193_r (n : Nat) (b : Nat) {A0_ : Int32} {a0 : Int} (ha0 : rp A0_ a0) {M_ : Mem} {M : ZM} (gM : rm M_ M) {r : Unit} {m' : ZM} (h : zF193 n b a0 M = some (r, m')) : sU (F193 n b A0_ M_) m' := by
  unfold zF193 at h
  unfold F193
  rw [rm_rf gM b 4]
  cases hq1 : M.2.1 b 4 with
  | none =>
    rw [hq1] at h
    dsimp only at h ⊢
    cases h
  | some p1 =>
    rw [hq1] at h
    dsimp only at h ⊢
    by_cases q2 : isD p1
    · rw [if_pos q2] at h
      rw [if_pos (Iff.rfl.mpr q2)]
      cases hc3 : zF123 n p1 a0 M with
      | none => rw [hc3] at h; cases h
      | some w =>
        obtain ⟨v4, M5⟩ := w
        rw [hc3] at h
        dsimp only at h
        obtain ⟨V4, NM5, ehc3, hv4, gM5⟩ := zF123_r n p1 ha0 gM hc3
        rw [ehc3]
        dsimp only
        by_cases q4 : v4 < 0
        · rw [if_pos q4] at h
          rw [if_pos ((rp_lt hv4 (show rp 0 0 from rfl)).mpr q4)]
          exact zJ193_28_r n b ha0 gM5 h
        · rw [if_neg q4] at h
          rw [if_neg (fun z => q4 ((rp_lt hv4 (show rp 0 0 from rfl)).mp z))]
          exact zJ193_13_r n b ha0 hv4 gM5 h
    · rw [if_neg q2] at h
      rw [if_neg (fun z => q2 (Iff.rfl.mp z))]
      cases h
def zJ96_76 (n : Nat) (g0 : Nat) (zrec26 : Int → Int → ZM → Option (Int × ZM)) (x3 : Int) (x4 : Int) (M : ZM) : Option (Int × ZM) :=
  if rg (x4 + 1) then (zrec26 x3 (x4 + 1) M) else none
set_option maxRecDepth 100000 in
set_option maxHeartbeats 4000000 in
theorem zJ96_76_r (n : Nat) (g0 : Nat) (rec26 : Int32 → Int32 → Mem → Option (Int32 × Mem)) (zrec26 : Int → Int → ZM → Option (Int × ZM)) (hrec26 : ∀ {Y1 : Int32} {y1 : Int} (_ : rp Y1 y1) {Y2 : Int32} {y2 : Int} (_ : rp Y2 y2) {M : Mem} {m : ZM} (_ : rm M m) {r : Int} {m' : ZM} (_ : zrec26 y1 y2 m = some (r, m')), sI (rec26 Y1 Y2 M) r m') {X3_ : Int32} {x3 : Int} (hx3 : rp X3_ x3) {X4_ : Int32} {x4 : Int} (hx4 : rp X4_ x4) {M_ : Mem} {M : ZM} (gM : rm M_ M) {r : Int} {m' : ZM} (h : zJ96_76 n g0 zrec26 x3 x4 M = some (r, m')) : sI (J96_76 n g0 rec26 X3_ X4_ M_) r m' := by
  unfold zJ96_76 at h
  unfold J96_76
  by_cases w1 : rg (x4 + 1)
  · rw [if_pos w1] at h
    exact hrec26 hx3 (rp_add (rp_iz hx4) (rp_iz (show rp 1 1 from rfl)) w1) gM h
  · rw [if_neg w1] at h
    cases h
def zJ96_74 (n : Nat) (g0 : Nat) (M : ZM) : Option (Int × ZM) :=
  some (0, M)
set_option maxRecDepth 100000 in
set_option maxHeartbeats 4000000 in
theorem zJ96_74_r (n : Nat) (g0 : Nat) {M_ : Mem} {M : ZM} (gM : rm M_ M) {r : Int} {m' : ZM} (h : zJ96_74 n g0 M = some (r, m')) : sI (J96_74 n g0 M_) r m' := by
  unfold zJ96_74 at h
  unfold J96_74
  obtain ⟨rfl, rfl⟩ := Prod.mk.inj (Option.some.inj h)
  exact ⟨_, _, rfl, (show rp 0 0 from rfl), gM⟩
def zJ96_52 (n : Nat) (g0 : Nat) (zrec26 : Int → Int → ZM → Option (Int × ZM)) (x3 : Int) (x4 : Int) (x5 : Int) (M : ZM) : Option (Int × ZM) :=
  if x5 = 44 then (zJ96_76 n g0 zrec26 x3 x4 M) else (if x5 = 59 then (zJ96_76 n g0 zrec26 x3 x4 M) else (match zF14 n x5 M with | some (v20, M21) => (if v20 = 0 then (zJ96_74 n g0 M21) else (zJ96_76 n g0 zrec26 x3 x4 M21)) | none => none))
set_option maxRecDepth 100000 in
set_option maxHeartbeats 4000000 in
theorem zJ96_52_r (n : Nat) (g0 : Nat) (rec26 : Int32 → Int32 → Mem → Option (Int32 × Mem)) (zrec26 : Int → Int → ZM → Option (Int × ZM)) (hrec26 : ∀ {Y1 : Int32} {y1 : Int} (_ : rp Y1 y1) {Y2 : Int32} {y2 : Int} (_ : rp Y2 y2) {M : Mem} {m : ZM} (_ : rm M m) {r : Int} {m' : ZM} (_ : zrec26 y1 y2 m = some (r, m')), sI (rec26 Y1 Y2 M) r m') {X3_ : Int32} {x3 : Int} (hx3 : rp X3_ x3) {X4_ : Int32} {x4 : Int} (hx4 : rp X4_ x4) {X5_ : Int32} {x5 : Int} (hx5 : rp X5_ x5) {M_ : Mem} {M : ZM} (gM : rm M_ M) {r : Int} {m' : ZM} (h : zJ96_52 n g0 zrec26 x3 x4 x5 M = some (r, m')) : sI (J96_52 n g0 rec26 X3_ X4_ X5_ M_) r m' := by
  unfold zJ96_52 at h
  unfold J96_52
  by_cases q1 : x5 = 44
  · rw [if_pos q1] at h
    rw [if_pos ((rp_eq hx5 (show rp 44 44 from rfl)).mpr q1)]
    exact zJ96_76_r n g0 _ _ hrec26 hx3 hx4 gM h
  · rw [if_neg q1] at h
    rw [if_neg (fun z => q1 ((rp_eq hx5 (show rp 44 44 from rfl)).mp z))]
    by_cases q2 : x5 = 59
    · rw [if_pos q2] at h
      rw [if_pos ((rp_eq hx5 (show rp 59 59 from rfl)).mpr q2)]
      exact zJ96_76_r n g0 _ _ hrec26 hx3 hx4 gM h
    · rw [if_neg q2] at h
      rw [if_neg (fun z => q2 ((rp_eq hx5 (show rp 59 59 from rfl)).mp z))]
      cases hc3 : zF14 n x5 M with
      | none => rw [hc3] at h; cases h
      | some w =>
        obtain ⟨v20, M21⟩ := w
        rw [hc3] at h
        dsimp only at h
        obtain ⟨V20, NM21, ehc3, hv20, gM21⟩ := zF14_r n hx5 gM hc3
        rw [ehc3]
        dsimp only
        by_cases q4 : v20 = 0
        · rw [if_pos q4] at h
          rw [if_pos ((rp_eq hv20 (show rp 0 0 from rfl)).mpr q4)]
          exact zJ96_74_r n g0 gM21 h
        · rw [if_neg q4] at h
          rw [if_neg (fun z => q4 ((rp_eq hv20 (show rp 0 0 from rfl)).mp z))]
          exact zJ96_76_r n g0 _ _ hrec26 hx3 hx4 gM21 h
def zL96_26 (n : Nat) (g0 : Nat) : Nat → Int → Int → ZM → Option (Int × ZM)
  | 0, _, _, _ => none
  | k + 1, x3, x4, M => if x3 < x4 then (some (1, M)) else (match zF109 n g0 x4 M with | some (v11, M12) => (match zF188 n 8 x4 M12 with | some (v14, M15) => (if v14 ≤ 0 then (zJ96_76 n g0 (zL96_26 n g0 k) x3 x4 M15) else (zJ96_52 n g0 (zL96_26 n g0 k) x3 x4 v11 M15)) | none => none) | none => none)
set_option maxRecDepth 100000 in
set_option maxHeartbeats 4000000 in
theorem zL96_26_r (n : Nat) (g0 : Nat) : ∀ (k : Nat) {X3_ : Int32} {x3 : Int} (hx3 : rp X3_ x3) {X4_ : Int32} {x4 : Int} (hx4 : rp X4_ x4) {M_ : Mem} {M : ZM} (gM : rm M_ M) {r : Int} {m' : ZM} (_ : zL96_26 n g0 k x3 x4 M = some (r, m')), sI (L96_26 n g0 k X3_ X4_ M_) r m' := by
  intro k
  induction k with
  | zero => intro X3_ x3 hx3 X4_ x4 hx4 M_ M gM r m' h; cases h
  | succ k ih =>
    intro X3_ x3 hx3 X4_ x4 hx4 M_ M gM r m' h
    rw [zL96_26] at h
    rw [L96_26]
    by_cases q1 : x3 < x4
    · rw [if_pos q1] at h
      rw [if_pos ((rp_lt hx3 hx4).mpr q1)]
      obtain ⟨rfl, rfl⟩ := Prod.mk.inj (Option.some.inj h)
      exact ⟨_, _, rfl, (show rp 1 1 from rfl), gM⟩
    · rw [if_neg q1] at h
      rw [if_neg (fun z => q1 ((rp_lt hx3 hx4).mp z))]
      cases hc2 : zF109 n g0 x4 M with
      | none => rw [hc2] at h; cases h
      | some w =>
        obtain ⟨v11, M12⟩ := w
        rw [hc2] at h
        dsimp only at h
        obtain ⟨V11, NM12, ehc2, hv11, gM12⟩ := zF109_r n g0 hx4 gM hc2
        rw [ehc2]
        dsimp only
        cases hc3 : zF188 n 8 x4 M12 with
        | none => rw [hc3] at h; cases h
        | some w =>
          obtain ⟨v14, M15⟩ := w
          rw [hc3] at h
          dsimp only at h
          obtain ⟨V14, NM15, ehc3, hv14, gM15⟩ := zF188_r n 8 hx4 gM12 hc3
          rw [ehc3]
          dsimp only
          by_cases q4 : v14 ≤ 0
          · rw [if_pos q4] at h
            rw [if_pos ((rp_le hv14 (show rp 0 0 from rfl)).mpr q4)]
            exact zJ96_76_r n g0 _ _ ih hx3 hx4 gM15 h
          · rw [if_neg q4] at h
            rw [if_neg (fun z => q4 ((rp_le hv14 (show rp 0 0 from rfl)).mp z))]
            exact zJ96_52_r n g0 _ _ ih hx3 hx4 hv11 gM15 h
def zJ96_15 (n : Nat) (g0 : Nat) (x2 : Int) (x3 : Int) (M : ZM) : Option (Int × ZM) :=
  match zF192 n 8 x2 M with | some (v7, M8) => (zL96_26 n g0 n x3 0 M8) | none => none
set_option maxRecDepth 100000 in
set_option maxHeartbeats 4000000 in
theorem zJ96_15_r (n : Nat) (g0 : Nat) {X2_ : Int32} {x2 : Int} (hx2 : rp X2_ x2) {X3_ : Int32} {x3 : Int} (hx3 : rp X3_ x3) {M_ : Mem} {M : ZM} (gM : rm M_ M) {r : Int} {m' : ZM} (h : zJ96_15 n g0 x2 x3 M = some (r, m')) : sI (J96_15 n g0 X2_ X3_ M_) r m' := by
  unfold zJ96_15 at h
  unfold J96_15
  cases hc1 : zF192 n 8 x2 M with
  | none => rw [hc1] at h; cases h
  | some w =>
    obtain ⟨v7, M8⟩ := w
    rw [hc1] at h
    dsimp only at h
    obtain ⟨NM8, ehc1, gM8⟩ := zF192_r n 8 hx2 gM hc1
    rw [ehc1]
    dsimp only
    exact zL96_26_r n g0 n hx3 (show rp 0 0 from rfl) gM8 h
/-- ArmExpander$Checker.isKeptApart -/
def zF96 (n : Nat) (g0 : Nat) (a1 : Int) (a2 : Int) (M : ZM) : Option (Int × ZM) :=
  match zF187 n 8 g0 M with | some (v1, M2) => (match zF190 n 8 M2 with | some (v4, M5) => (zJ96_15 n g0 a1 a2 M5) | none => none) | none => none
set_option maxRecDepth 100000 in
set_option maxHeartbeats 4000000 in
theorem zF96_r (n : Nat) (g0 : Nat) {A1_ : Int32} {a1 : Int} (ha1 : rp A1_ a1) {A2_ : Int32} {a2 : Int} (ha2 : rp A2_ a2) {M_ : Mem} {M : ZM} (gM : rm M_ M) {r : Int} {m' : ZM} (h : zF96 n g0 a1 a2 M = some (r, m')) : sI (F96 n g0 A1_ A2_ M_) r m' := by
  unfold zF96 at h
  unfold F96
  cases hc1 : zF187 n 8 g0 M with
  | none => rw [hc1] at h; cases h
  | some w =>
    obtain ⟨v1, M2⟩ := w
    rw [hc1] at h
    dsimp only at h
    obtain ⟨NM2, ehc1, gM2⟩ := zF187_r n 8 g0 gM hc1
    rw [ehc1]
    dsimp only
    cases hc2 : zF190 n 8 M2 with
    | none => rw [hc2] at h; cases h
    | some w =>
      obtain ⟨v4, M5⟩ := w
      rw [hc2] at h
      dsimp only at h
      obtain ⟨NM5, ehc2, gM5⟩ := zF190_r n 8 gM2 hc2
      rw [ehc2]
      dsimp only
      exact zJ96_15_r n g0 ha1 ha2 gM5 h
def zJ154_69 (n : Nat) (x1 : Int) (M : ZM) : Option (Unit × ZM) :=
  match M.2.1 16 2 with | some p29 => (if isT p29 then (if rg (x1 + 4) then (match zF192 n p29 (x1 + 4) M with | some (v32, M33) => (match zF156 n M33 with | some (v35, M36) => (some ((), M36)) | none => none) | none => none) else none) else (none)) | none => (none)
set_option maxRecDepth 100000 in
set_option maxHeartbeats 4000000 in
theorem zJ154_69_r (n : Nat) {X1_ : Int32} {x1 : Int} (hx1 : rp X1_ x1) {M_ : Mem} {M : ZM} (gM : rm M_ M) {r : Unit} {m' : ZM} (h : zJ154_69 n x1 M = some (r, m')) : sU (J154_69 n X1_ M_) m' := by
  unfold zJ154_69 at h
  unfold J154_69
  rw [rm_rf gM 16 2]
  cases hq1 : M.2.1 16 2 with
  | none =>
    rw [hq1] at h
    dsimp only at h ⊢
    cases h
  | some p29 =>
    rw [hq1] at h
    dsimp only at h ⊢
    by_cases q2 : isT p29
    · rw [if_pos q2] at h
      rw [if_pos (Iff.rfl.mpr q2)]
      by_cases w3 : rg (x1 + 4)
      · rw [if_pos w3] at h
        cases hc4 : zF192 n p29 (x1 + 4) M with
        | none => rw [hc4] at h; cases h
        | some w =>
          obtain ⟨v32, M33⟩ := w
          rw [hc4] at h
          dsimp only at h
          obtain ⟨NM33, ehc4, gM33⟩ := zF192_r n p29 (rp_add (rp_iz hx1) (rp_iz (show rp 4 4 from rfl)) w3) gM hc4
          rw [ehc4]
          dsimp only
          cases hc5 : zF156 n M33 with
          | none => rw [hc5] at h; cases h
          | some w =>
            obtain ⟨v35, M36⟩ := w
            rw [hc5] at h
            dsimp only at h
            obtain ⟨NM36, ehc5, gM36⟩ := zF156_r n gM33 hc5
            rw [ehc5]
            dsimp only
            obtain ⟨_, rfl⟩ := Prod.mk.inj (Option.some.inj h)
            exact ⟨_, rfl, gM36⟩
      · rw [if_neg w3] at h
        cases h
    · rw [if_neg q2] at h
      rw [if_neg (fun z => q2 (Iff.rfl.mp z))]
      cases h
def zJ154_57 (n : Nat) (x1 : Int) (M : ZM) : Option (Unit × ZM) :=
  match M.2.1 16 2 with | some p20 => (if isT p20 then (match M.2.1 16 1 with | some p23 => (if isT p23 then (match zF191 n p20 p23 x1 M with | some (v26, M27) => (zJ154_69 n x1 M27) | none => none) else (none)) | none => (none)) else (none)) | none => (none)
set_option maxRecDepth 100000 in
set_option maxHeartbeats 4000000 in
theorem zJ154_57_r (n : Nat) {X1_ : Int32} {x1 : Int} (hx1 : rp X1_ x1) {M_ : Mem} {M : ZM} (gM : rm M_ M) {r : Unit} {m' : ZM} (h : zJ154_57 n x1 M = some (r, m')) : sU (J154_57 n X1_ M_) m' := by
  unfold zJ154_57 at h
  unfold J154_57
  rw [rm_rf gM 16 2]
  cases hq1 : M.2.1 16 2 with
  | none =>
    rw [hq1] at h
    dsimp only at h ⊢
    cases h
  | some p20 =>
    rw [hq1] at h
    dsimp only at h ⊢
    by_cases q2 : isT p20
    · rw [if_pos q2] at h
      rw [if_pos (Iff.rfl.mpr q2)]
      rw [rm_rf gM 16 1]
      cases hq3 : M.2.1 16 1 with
      | none =>
        rw [hq3] at h
        dsimp only at h ⊢
        cases h
      | some p23 =>
        rw [hq3] at h
        dsimp only at h ⊢
        by_cases q4 : isT p23
        · rw [if_pos q4] at h
          rw [if_pos (Iff.rfl.mpr q4)]
          cases hc5 : zF191 n p20 p23 x1 M with
          | none => rw [hc5] at h; cases h
          | some w =>
            obtain ⟨v26, M27⟩ := w
            rw [hc5] at h
            dsimp only at h
            obtain ⟨NM27, ehc5, gM27⟩ := zF191_r n p20 p23 hx1 gM hc5
            rw [ehc5]
            dsimp only
            exact zJ154_69_r n hx1 gM27 h
        · rw [if_neg q4] at h
          rw [if_neg (fun z => q4 (Iff.rfl.mp z))]
          cases h
    · rw [if_neg q2] at h
      rw [if_neg (fun z => q2 (Iff.rfl.mp z))]
      cases h
def zJ154_32 (n : Nat) (x1 : Int) (x2 : Int) (x3 : Int) (s0 : Int) (M : ZM) : Option (Unit × ZM) :=
  match zF179 n x1 s0 x2 x3 M with | some (v8, M9) => (match M9.2.1 16 2 with | some p11 => (if isT p11 then (match M9.2.1 16 3 with | some p14 => (if isD p14 then (match zF187 n p11 p14 M9 with | some (v17, M18) => (zJ154_57 n x1 M18) | none => none) else (none)) | none => (none)) else (none)) | none => (none)) | none => none
set_option maxRecDepth 100000 in
set_option maxHeartbeats 4000000 in
theorem zJ154_32_r (n : Nat) {X1_ : Int32} {x1 : Int} (hx1 : rp X1_ x1) {X2_ : Int32} {x2 : Int} (hx2 : rp X2_ x2) {X3_ : Int32} {x3 : Int} (hx3 : rp X3_ x3) {S0_ : Int32} {s0 : Int} (hs0 : rp S0_ s0) {M_ : Mem} {M : ZM} (gM : rm M_ M) {r : Unit} {m' : ZM} (h : zJ154_32 n x1 x2 x3 s0 M = some (r, m')) : sU (J154_32 n X1_ X2_ X3_ S0_ M_) m' := by
  unfold zJ154_32 at h
  unfold J154_32
  cases hc1 : zF179 n x1 s0 x2 x3 M with
  | none => rw [hc1] at h; cases h
  | some w =>
    obtain ⟨v8, M9⟩ := w
    rw [hc1] at h
    dsimp only at h
    obtain ⟨NM9, ehc1, gM9⟩ := zF179_r n hx1 hs0 hx2 hx3 gM hc1
    rw [ehc1]
    dsimp only
    rw [rm_rf gM9 16 2]
    cases hq2 : M9.2.1 16 2 with
    | none =>
      rw [hq2] at h
      dsimp only at h ⊢
      cases h
    | some p11 =>
      rw [hq2] at h
      dsimp only at h ⊢
      by_cases q3 : isT p11
      · rw [if_pos q3] at h
        rw [if_pos (Iff.rfl.mpr q3)]
        rw [rm_rf gM9 16 3]
        cases hq4 : M9.2.1 16 3 with
        | none =>
          rw [hq4] at h
          dsimp only at h ⊢
          cases h
        | some p14 =>
          rw [hq4] at h
          dsimp only at h ⊢
          by_cases q5 : isD p14
          · rw [if_pos q5] at h
            rw [if_pos (Iff.rfl.mpr q5)]
            cases hc6 : zF187 n p11 p14 M9 with
            | none => rw [hc6] at h; cases h
            | some w =>
              obtain ⟨v17, M18⟩ := w
              rw [hc6] at h
              dsimp only at h
              obtain ⟨NM18, ehc6, gM18⟩ := zF187_r n p11 p14 gM9 hc6
              rw [ehc6]
              dsimp only
              exact zJ154_57_r n hx1 gM18 h
          · rw [if_neg q5] at h
            rw [if_neg (fun z => q5 (Iff.rfl.mp z))]
            cases h
      · rw [if_neg q3] at h
        rw [if_neg (fun z => q3 (Iff.rfl.mp z))]
        cases h
def zJ154_16 (n : Nat) (x1 : Int) (x2 : Int) (x3 : Int) (M : ZM) : Option (Unit × ZM) :=
  zJ154_32 n x1 x2 x3 0 M
set_option maxRecDepth 100000 in
set_option maxHeartbeats 4000000 in
theorem zJ154_16_r (n : Nat) {X1_ : Int32} {x1 : Int} (hx1 : rp X1_ x1) {X2_ : Int32} {x2 : Int} (hx2 : rp X2_ x2) {X3_ : Int32} {x3 : Int} (hx3 : rp X3_ x3) {M_ : Mem} {M : ZM} (gM : rm M_ M) {r : Unit} {m' : ZM} (h : zJ154_16 n x1 x2 x3 M = some (r, m')) : sU (J154_16 n X1_ X2_ X3_ M_) m' := by
  unfold zJ154_16 at h
  unfold J154_16
  exact zJ154_32_r n hx1 hx2 hx3 (show rp 0 0 from rfl) gM h
def zJ154_20 (n : Nat) (x1 : Int) (x2 : Int) (x3 : Int) (x4 : Int) (M : ZM) : Option (Unit × ZM) :=
  match M.2.1 16 1 with | some p38 => (if isT p38 then (match zF189 n p38 x1 x4 M with | some (v41, M42) => (if rg (v41 - 1) then (zJ154_32 n x1 x2 x3 (v41 - 1) M42) else none) | none => none) else (none)) | none => (none)
set_option maxRecDepth 100000 in
set_option maxHeartbeats 4000000 in
theorem zJ154_20_r (n : Nat) {X1_ : Int32} {x1 : Int} (hx1 : rp X1_ x1) {X2_ : Int32} {x2 : Int} (hx2 : rp X2_ x2) {X3_ : Int32} {x3 : Int} (hx3 : rp X3_ x3) {X4_ : Int32} {x4 : Int} (hx4 : rp X4_ x4) {M_ : Mem} {M : ZM} (gM : rm M_ M) {r : Unit} {m' : ZM} (h : zJ154_20 n x1 x2 x3 x4 M = some (r, m')) : sU (J154_20 n X1_ X2_ X3_ X4_ M_) m' := by
  unfold zJ154_20 at h
  unfold J154_20
  rw [rm_rf gM 16 1]
  cases hq1 : M.2.1 16 1 with
  | none =>
    rw [hq1] at h
    dsimp only at h ⊢
    cases h
  | some p38 =>
    rw [hq1] at h
    dsimp only at h ⊢
    by_cases q2 : isT p38
    · rw [if_pos q2] at h
      rw [if_pos (Iff.rfl.mpr q2)]
      cases hc3 : zF189 n p38 x1 x4 M with
      | none => rw [hc3] at h; cases h
      | some w =>
        obtain ⟨v41, M42⟩ := w
        rw [hc3] at h
        dsimp only at h
        obtain ⟨V41, NM42, ehc3, hv41, gM42⟩ := zF189_r n p38 hx1 hx4 gM hc3
        rw [ehc3]
        dsimp only
        by_cases w4 : rg (v41 - 1)
        · rw [if_pos w4] at h
          exact zJ154_32_r n hx1 hx2 hx3 (rp_sub (rp_iz hv41) (rp_iz (show rp 1 1 from rfl)) w4) gM42 h
        · rw [if_neg w4] at h
          cases h
    · rw [if_neg q2] at h
      rw [if_neg (fun z => q2 (Iff.rfl.mp z))]
      cases h
/-- ArmExpander$Matcher.take -/
def zF154 (n : Nat) (a0 : Int) (a1 : Int) (a2 : Int) (M : ZM) : Option (Unit × ZM) :=
  match M.2.1 16 3 with | some p1 => (if isD p1 then (match zF124 n p1 a0 M with | some (v4, M5) => (if v4 = (-1) then (zJ154_16 n a0 a1 a2 M5) else (zJ154_20 n a0 a1 a2 v4 M5)) | none => none) else (none)) | none => (none)
set_option maxRecDepth 100000 in
set_option maxHeartbeats 4000000 in
theorem zF154_r (n : Nat) {A0_ : Int32} {a0 : Int} (ha0 : rp A0_ a0) {A1_ : Int32} {a1 : Int} (ha1 : rp A1_ a1) {A2_ : Int32} {a2 : Int} (ha2 : rp A2_ a2) {M_ : Mem} {M : ZM} (gM : rm M_ M) {r : Unit} {m' : ZM} (h : zF154 n a0 a1 a2 M = some (r, m')) : sU (F154 n A0_ A1_ A2_ M_) m' := by
  unfold zF154 at h
  unfold F154
  rw [rm_rf gM 16 3]
  cases hq1 : M.2.1 16 3 with
  | none =>
    rw [hq1] at h
    dsimp only at h ⊢
    cases h
  | some p1 =>
    rw [hq1] at h
    dsimp only at h ⊢
    by_cases q2 : isD p1
    · rw [if_pos q2] at h
      rw [if_pos (Iff.rfl.mpr q2)]
      cases hc3 : zF124 n p1 a0 M with
      | none => rw [hc3] at h; cases h
      | some w =>
        obtain ⟨v4, M5⟩ := w
        rw [hc3] at h
        dsimp only at h
        obtain ⟨V4, NM5, ehc3, hv4, gM5⟩ := zF124_r n p1 ha0 gM hc3
        rw [ehc3]
        dsimp only
        by_cases q4 : v4 = (-1)
        · rw [if_pos q4] at h
          rw [if_pos ((rp_eq hv4 (show rp (-1) (-1) from rfl)).mpr q4)]
          exact zJ154_16_r n ha0 ha1 ha2 gM5 h
        · rw [if_neg q4] at h
          rw [if_neg (fun z => q4 ((rp_eq hv4 (show rp (-1) (-1) from rfl)).mp z))]
          exact zJ154_20_r n ha0 ha1 ha2 hv4 gM5 h
    · rw [if_neg q2] at h
      rw [if_neg (fun z => q2 (Iff.rfl.mp z))]
      cases h
def zJ155_102 (n : Nat) (zrec16 : Int → Int → ZM → Option (Unit × ZM)) (x1 : Int) (x2 : Int) (M : ZM) : Option (Unit × ZM) :=
  if rg (x2 + 1) then (zrec16 x1 (x2 + 1) M) else none
set_option maxRecDepth 100000 in
set_option maxHeartbeats 4000000 in
theorem zJ155_102_r (n : Nat) (rec16 : Int32 → Int32 → Mem → Option (Unit × Mem)) (zrec16 : Int → Int → ZM → Option (Unit × ZM)) (hrec16 : ∀ {Y1 : Int32} {y1 : Int} (_ : rp Y1 y1) {Y2 : Int32} {y2 : Int} (_ : rp Y2 y2) {M : Mem} {m : ZM} (_ : rm M m) {r : Unit} {m' : ZM} (_ : zrec16 y1 y2 m = some (r, m')), sU (rec16 Y1 Y2 M) m') {X1_ : Int32} {x1 : Int} (hx1 : rp X1_ x1) {X2_ : Int32} {x2 : Int} (hx2 : rp X2_ x2) {M_ : Mem} {M : ZM} (gM : rm M_ M) {r : Unit} {m' : ZM} (h : zJ155_102 n zrec16 x1 x2 M = some (r, m')) : sU (J155_102 n rec16 X1_ X2_ M_) m' := by
  unfold zJ155_102 at h
  unfold J155_102
  by_cases w1 : rg (x2 + 1)
  · rw [if_pos w1] at h
    exact hrec16 hx1 (rp_add (rp_iz hx2) (rp_iz (show rp 1 1 from rfl)) w1) gM h
  · rw [if_neg w1] at h
    cases h
def zJ155_81 (n : Nat) (zrec16 : Int → Int → ZM → Option (Unit × ZM)) (x1 : Int) (x2 : Int) (M : ZM) : Option (Unit × ZM) :=
  match M.2.1 16 2 with | some p45 => (if isT p45 then (if rg (x2 + 1) then (match zF192 n p45 (x2 + 1) M with | some (v48, M49) => (zJ155_102 n zrec16 x1 x2 M49) | none => none) else none) else (none)) | none => (none)
set_option maxRecDepth 100000 in
set_option maxHeartbeats 4000000 in
theorem zJ155_81_r (n : Nat) (rec16 : Int32 → Int32 → Mem → Option (Unit × Mem)) (zrec16 : Int → Int → ZM → Option (Unit × ZM)) (hrec16 : ∀ {Y1 : Int32} {y1 : Int} (_ : rp Y1 y1) {Y2 : Int32} {y2 : Int} (_ : rp Y2 y2) {M : Mem} {m : ZM} (_ : rm M m) {r : Unit} {m' : ZM} (_ : zrec16 y1 y2 m = some (r, m')), sU (rec16 Y1 Y2 M) m') {X1_ : Int32} {x1 : Int} (hx1 : rp X1_ x1) {X2_ : Int32} {x2 : Int} (hx2 : rp X2_ x2) {M_ : Mem} {M : ZM} (gM : rm M_ M) {r : Unit} {m' : ZM} (h : zJ155_81 n zrec16 x1 x2 M = some (r, m')) : sU (J155_81 n rec16 X1_ X2_ M_) m' := by
  unfold zJ155_81 at h
  unfold J155_81
  rw [rm_rf gM 16 2]
  cases hq1 : M.2.1 16 2 with
  | none =>
    rw [hq1] at h
    dsimp only at h ⊢
    cases h
  | some p45 =>
    rw [hq1] at h
    dsimp only at h ⊢
    by_cases q2 : isT p45
    · rw [if_pos q2] at h
      rw [if_pos (Iff.rfl.mpr q2)]
      by_cases w3 : rg (x2 + 1)
      · rw [if_pos w3] at h
        cases hc4 : zF192 n p45 (x2 + 1) M with
        | none => rw [hc4] at h; cases h
        | some w =>
          obtain ⟨v48, M49⟩ := w
          rw [hc4] at h
          dsimp only at h
          obtain ⟨NM49, ehc4, gM49⟩ := zF192_r n p45 (rp_add (rp_iz hx2) (rp_iz (show rp 1 1 from rfl)) w3) gM hc4
          rw [ehc4]
          dsimp only
          exact zJ155_102_r n _ _ hrec16 hx1 hx2 gM49 h
      · rw [if_neg w3] at h
        cases h
    · rw [if_neg q2] at h
      rw [if_neg (fun z => q2 (Iff.rfl.mp z))]
      cases h
def zJ155_94 (n : Nat) (zrec16 : Int → Int → ZM → Option (Unit × ZM)) (x1 : Int) (x2 : Int) (x3 : Int) (M : ZM) : Option (Unit × ZM) :=
  match M.2.1 16 2 with | some p51 => (if isT p51 then (match zF193 n p51 x3 M with | some (v54, M55) => (zJ155_102 n zrec16 x1 x2 M55) | none => none) else (none)) | none => (none)
set_option maxRecDepth 100000 in
set_option maxHeartbeats 4000000 in
theorem zJ155_94_r (n : Nat) (rec16 : Int32 → Int32 → Mem → Option (Unit × Mem)) (zrec16 : Int → Int → ZM → Option (Unit × ZM)) (hrec16 : ∀ {Y1 : Int32} {y1 : Int} (_ : rp Y1 y1) {Y2 : Int32} {y2 : Int} (_ : rp Y2 y2) {M : Mem} {m : ZM} (_ : rm M m) {r : Unit} {m' : ZM} (_ : zrec16 y1 y2 m = some (r, m')), sU (rec16 Y1 Y2 M) m') {X1_ : Int32} {x1 : Int} (hx1 : rp X1_ x1) {X2_ : Int32} {x2 : Int} (hx2 : rp X2_ x2) {X3_ : Int32} {x3 : Int} (hx3 : rp X3_ x3) {M_ : Mem} {M : ZM} (gM : rm M_ M) {r : Unit} {m' : ZM} (h : zJ155_94 n zrec16 x1 x2 x3 M = some (r, m')) : sU (J155_94 n rec16 X1_ X2_ X3_ M_) m' := by
  unfold zJ155_94 at h
  unfold J155_94
  rw [rm_rf gM 16 2]
  cases hq1 : M.2.1 16 2 with
  | none =>
    rw [hq1] at h
    dsimp only at h ⊢
    cases h
  | some p51 =>
    rw [hq1] at h
    dsimp only at h ⊢
    by_cases q2 : isT p51
    · rw [if_pos q2] at h
      rw [if_pos (Iff.rfl.mpr q2)]
      cases hc3 : zF193 n p51 x3 M with
      | none => rw [hc3] at h; cases h
      | some w =>
        obtain ⟨v54, M55⟩ := w
        rw [hc3] at h
        dsimp only at h
        obtain ⟨NM55, ehc3, gM55⟩ := zF193_r n p51 hx3 gM hc3
        rw [ehc3]
        dsimp only
        exact zJ155_102_r n _ _ hrec16 hx1 hx2 gM55 h
    · rw [if_neg q2] at h
      rw [if_neg (fun z => q2 (Iff.rfl.mp z))]
      cases h
def zJ155_65 (n : Nat) (zrec16 : Int → Int → ZM → Option (Unit × ZM)) (x1 : Int) (x2 : Int) (M : ZM) : Option (Unit × ZM) :=
  match M.2.1 16 3 with | some p38 => (if isD p38 then (if rg (x2 - 1) then (match zF117 n p38 (x2 - 1) M with | some (v41, M42) => (if v41 = (-1) then (zJ155_81 n zrec16 x1 x2 M42) else (zJ155_94 n zrec16 x1 x2 v41 M42)) | none => none) else none) else (none)) | none => (none)
set_option maxRecDepth 100000 in
set_option maxHeartbeats 4000000 in
theorem zJ155_65_r (n : Nat) (rec16 : Int32 → Int32 → Mem → Option (Unit × Mem)) (zrec16 : Int → Int → ZM → Option (Unit × ZM)) (hrec16 : ∀ {Y1 : Int32} {y1 : Int} (_ : rp Y1 y1) {Y2 : Int32} {y2 : Int} (_ : rp Y2 y2) {M : Mem} {m : ZM} (_ : rm M m) {r : Unit} {m' : ZM} (_ : zrec16 y1 y2 m = some (r, m')), sU (rec16 Y1 Y2 M) m') {X1_ : Int32} {x1 : Int} (hx1 : rp X1_ x1) {X2_ : Int32} {x2 : Int} (hx2 : rp X2_ x2) {M_ : Mem} {M : ZM} (gM : rm M_ M) {r : Unit} {m' : ZM} (h : zJ155_65 n zrec16 x1 x2 M = some (r, m')) : sU (J155_65 n rec16 X1_ X2_ M_) m' := by
  unfold zJ155_65 at h
  unfold J155_65
  rw [rm_rf gM 16 3]
  cases hq1 : M.2.1 16 3 with
  | none =>
    rw [hq1] at h
    dsimp only at h ⊢
    cases h
  | some p38 =>
    rw [hq1] at h
    dsimp only at h ⊢
    by_cases q2 : isD p38
    · rw [if_pos q2] at h
      rw [if_pos (Iff.rfl.mpr q2)]
      by_cases w3 : rg (x2 - 1)
      · rw [if_pos w3] at h
        cases hc4 : zF117 n p38 (x2 - 1) M with
        | none => rw [hc4] at h; cases h
        | some w =>
          obtain ⟨v41, M42⟩ := w
          rw [hc4] at h
          dsimp only at h
          obtain ⟨V41, NM42, ehc4, hv41, gM42⟩ := zF117_r n p38 (rp_sub (rp_iz hx2) (rp_iz (show rp 1 1 from rfl)) w3) gM hc4
          rw [ehc4]
          dsimp only
          by_cases q5 : v41 = (-1)
          · rw [if_pos q5] at h
            rw [if_pos ((rp_eq hv41 (show rp (-1) (-1) from rfl)).mpr q5)]
            exact zJ155_81_r n _ _ hrec16 hx1 hx2 gM42 h
          · rw [if_neg q5] at h
            rw [if_neg (fun z => q5 ((rp_eq hv41 (show rp (-1) (-1) from rfl)).mp z))]
            exact zJ155_94_r n _ _ hrec16 hx1 hx2 hv41 gM42 h
      · rw [if_neg w3] at h
        cases h
    · rw [if_neg q2] at h
      rw [if_neg (fun z => q2 (Iff.rfl.mp z))]
      cases h
def zJ155_47 (n : Nat) (zrec16 : Int → Int → ZM → Option (Unit × ZM)) (x1 : Int) (x2 : Int) (M : ZM) : Option (Unit × ZM) :=
  if x1 = 36 then (zJ155_102 n zrec16 x1 x2 M) else (match M.2.1 16 2 with | some p29 => (if isT p29 then (match M.2.1 16 1 with | some p32 => (if isT p32 then (match zF191 n p29 p32 x2 M with | some (v35, M36) => (zJ155_65 n zrec16 x1 x2 M36) | none => none) else (none)) | none => (none)) else (none)) | none => (none))
set_option maxRecDepth 100000 in
set_option maxHeartbeats 4000000 in
theorem zJ155_47_r (n : Nat) (rec16 : Int32 → Int32 → Mem → Option (Unit × Mem)) (zrec16 : Int → Int → ZM → Option (Unit × ZM)) (hrec16 : ∀ {Y1 : Int32} {y1 : Int} (_ : rp Y1 y1) {Y2 : Int32} {y2 : Int} (_ : rp Y2 y2) {M : Mem} {m : ZM} (_ : rm M m) {r : Unit} {m' : ZM} (_ : zrec16 y1 y2 m = some (r, m')), sU (rec16 Y1 Y2 M) m') {X1_ : Int32} {x1 : Int} (hx1 : rp X1_ x1) {X2_ : Int32} {x2 : Int} (hx2 : rp X2_ x2) {M_ : Mem} {M : ZM} (gM : rm M_ M) {r : Unit} {m' : ZM} (h : zJ155_47 n zrec16 x1 x2 M = some (r, m')) : sU (J155_47 n rec16 X1_ X2_ M_) m' := by
  unfold zJ155_47 at h
  unfold J155_47
  by_cases q1 : x1 = 36
  · rw [if_pos q1] at h
    rw [if_pos ((rp_eq hx1 (show rp 36 36 from rfl)).mpr q1)]
    exact zJ155_102_r n _ _ hrec16 hx1 hx2 gM h
  · rw [if_neg q1] at h
    rw [if_neg (fun z => q1 ((rp_eq hx1 (show rp 36 36 from rfl)).mp z))]
    rw [rm_rf gM 16 2]
    cases hq2 : M.2.1 16 2 with
    | none =>
      rw [hq2] at h
      dsimp only at h ⊢
      cases h
    | some p29 =>
      rw [hq2] at h
      dsimp only at h ⊢
      by_cases q3 : isT p29
      · rw [if_pos q3] at h
        rw [if_pos (Iff.rfl.mpr q3)]
        rw [rm_rf gM 16 1]
        cases hq4 : M.2.1 16 1 with
        | none =>
          rw [hq4] at h
          dsimp only at h ⊢
          cases h
        | some p32 =>
          rw [hq4] at h
          dsimp only at h ⊢
          by_cases q5 : isT p32
          · rw [if_pos q5] at h
            rw [if_pos (Iff.rfl.mpr q5)]
            cases hc6 : zF191 n p29 p32 x2 M with
            | none => rw [hc6] at h; cases h
            | some w =>
              obtain ⟨v35, M36⟩ := w
              rw [hc6] at h
              dsimp only at h
              obtain ⟨NM36, ehc6, gM36⟩ := zF191_r n p29 p32 hx2 gM hc6
              rw [ehc6]
              dsimp only
              exact zJ155_65_r n _ _ hrec16 hx1 hx2 gM36 h
          · rw [if_neg q5] at h
            rw [if_neg (fun z => q5 (Iff.rfl.mp z))]
            cases h
      · rw [if_neg q3] at h
        rw [if_neg (fun z => q3 (Iff.rfl.mp z))]
        cases h
def zJ155_35 (n : Nat) (zrec16 : Int → Int → ZM → Option (Unit × ZM)) (x1 : Int) (x2 : Int) (M : ZM) : Option (Unit × ZM) :=
  match M.2.1 16 3 with | some p21 => (if isD p21 then (match zF109 n p21 x2 M with | some (v24, M25) => (if v24 = x1 then (zJ155_47 n zrec16 x1 x2 M25) else (zJ155_102 n zrec16 x1 x2 M25)) | none => none) else (none)) | none => (none)
set_option maxRecDepth 100000 in
set_option maxHeartbeats 4000000 in
theorem zJ155_35_r (n : Nat) (rec16 : Int32 → Int32 → Mem → Option (Unit × Mem)) (zrec16 : Int → Int → ZM → Option (Unit × ZM)) (hrec16 : ∀ {Y1 : Int32} {y1 : Int} (_ : rp Y1 y1) {Y2 : Int32} {y2 : Int} (_ : rp Y2 y2) {M : Mem} {m : ZM} (_ : rm M m) {r : Unit} {m' : ZM} (_ : zrec16 y1 y2 m = some (r, m')), sU (rec16 Y1 Y2 M) m') {X1_ : Int32} {x1 : Int} (hx1 : rp X1_ x1) {X2_ : Int32} {x2 : Int} (hx2 : rp X2_ x2) {M_ : Mem} {M : ZM} (gM : rm M_ M) {r : Unit} {m' : ZM} (h : zJ155_35 n zrec16 x1 x2 M = some (r, m')) : sU (J155_35 n rec16 X1_ X2_ M_) m' := by
  unfold zJ155_35 at h
  unfold J155_35
  rw [rm_rf gM 16 3]
  cases hq1 : M.2.1 16 3 with
  | none =>
    rw [hq1] at h
    dsimp only at h ⊢
    cases h
  | some p21 =>
    rw [hq1] at h
    dsimp only at h ⊢
    by_cases q2 : isD p21
    · rw [if_pos q2] at h
      rw [if_pos (Iff.rfl.mpr q2)]
      cases hc3 : zF109 n p21 x2 M with
      | none => rw [hc3] at h; cases h
      | some w =>
        obtain ⟨v24, M25⟩ := w
        rw [hc3] at h
        dsimp only at h
        obtain ⟨V24, NM25, ehc3, hv24, gM25⟩ := zF109_r n p21 hx2 gM hc3
        rw [ehc3]
        dsimp only
        by_cases q4 : v24 = x1
        · rw [if_pos q4] at h
          rw [if_pos ((rp_eq hv24 hx1).mpr q4)]
          exact zJ155_47_r n _ _ hrec16 hx1 hx2 gM25 h
        · rw [if_neg q4] at h
          rw [if_neg (fun z => q4 ((rp_eq hv24 hx1).mp z))]
          exact zJ155_102_r n _ _ hrec16 hx1 hx2 gM25 h
    · rw [if_neg q2] at h
      rw [if_neg (fun z => q2 (Iff.rfl.mp z))]
      cases h
def zL155_16 (n : Nat) : Nat → Int → Int → ZM → Option (Unit × ZM)
  | 0, _, _, _ => none
  | k + 1, x1, x2, M => if (M.1 16 5) ≤ x2 then (match zF156 n M with | some (v11, M12) => (some ((), M12)) | none => none) else (match M.2.1 16 1 with | some p14 => (if isT p14 then (match zF188 n p14 x2 M with | some (v17, M18) => (if v17 ≤ 0 then (zJ155_102 n (zL155_16 n k) x1 x2 M18) else (zJ155_35 n (zL155_16 n k) x1 x2 M18)) | none => none) else (none)) | none => (none))
set_option maxRecDepth 100000 in
set_option maxHeartbeats 4000000 in
theorem zL155_16_r (n : Nat) : ∀ (k : Nat) {X1_ : Int32} {x1 : Int} (hx1 : rp X1_ x1) {X2_ : Int32} {x2 : Int} (hx2 : rp X2_ x2) {M_ : Mem} {M : ZM} (gM : rm M_ M) {r : Unit} {m' : ZM} (_ : zL155_16 n k x1 x2 M = some (r, m')), sU (L155_16 n k X1_ X2_ M_) m' := by
  intro k
  induction k with
  | zero => intro X1_ x1 hx1 X2_ x2 hx2 M_ M gM r m' h; cases h
  | succ k ih =>
    intro X1_ x1 hx1 X2_ x2 hx2 M_ M gM r m' h
    rw [zL155_16] at h
    rw [L155_16]
    by_cases q1 : (M.1 16 5) ≤ x2
    · rw [if_pos q1] at h
      rw [if_pos ((rp_le (rm_rd gM 16 5) hx2).mpr q1)]
      cases hc2 : zF156 n M with
      | none => rw [hc2] at h; cases h
      | some w =>
        obtain ⟨v11, M12⟩ := w
        rw [hc2] at h
        dsimp only at h
        obtain ⟨NM12, ehc2, gM12⟩ := zF156_r n gM hc2
        rw [ehc2]
        dsimp only
        obtain ⟨_, rfl⟩ := Prod.mk.inj (Option.some.inj h)
        exact ⟨_, rfl, gM12⟩
    · rw [if_neg q1] at h
      rw [if_neg (fun z => q1 ((rp_le (rm_rd gM 16 5) hx2).mp z))]
      rw [rm_rf gM 16 1]
      cases hq3 : M.2.1 16 1 with
      | none =>
        rw [hq3] at h
        dsimp only at h ⊢
        cases h
      | some p14 =>
        rw [hq3] at h
        dsimp only at h ⊢
        by_cases q4 : isT p14
        · rw [if_pos q4] at h
          rw [if_pos (Iff.rfl.mpr q4)]
          cases hc5 : zF188 n p14 x2 M with
          | none => rw [hc5] at h; cases h
          | some w =>
            obtain ⟨v17, M18⟩ := w
            rw [hc5] at h
            dsimp only at h
            obtain ⟨V17, NM18, ehc5, hv17, gM18⟩ := zF188_r n p14 hx2 gM hc5
            rw [ehc5]
            dsimp only
            by_cases q6 : v17 ≤ 0
            · rw [if_pos q6] at h
              rw [if_pos ((rp_le hv17 (show rp 0 0 from rfl)).mpr q6)]
              exact zJ155_102_r n _ _ ih hx1 hx2 gM18 h
            · rw [if_neg q6] at h
              rw [if_neg (fun z => q6 ((rp_le hv17 (show rp 0 0 from rfl)).mp z))]
              exact zJ155_35_r n _ _ ih hx1 hx2 gM18 h
        · rw [if_neg q4] at h
          rw [if_neg (fun z => q4 (Iff.rfl.mp z))]
          cases h
def zJ155_11 (n : Nat) (x1 : Int) (M : ZM) : Option (Unit × ZM) :=
  zL155_16 n n x1 (M.1 16 4) M
set_option maxRecDepth 100000 in
set_option maxHeartbeats 4000000 in
theorem zJ155_11_r (n : Nat) {X1_ : Int32} {x1 : Int} (hx1 : rp X1_ x1) {M_ : Mem} {M : ZM} (gM : rm M_ M) {r : Unit} {m' : ZM} (h : zJ155_11 n x1 M = some (r, m')) : sU (J155_11 n X1_ M_) m' := by
  unfold zJ155_11 at h
  unfold J155_11
  exact zL155_16_r n n hx1 (rm_rd gM 16 4) gM h
/-- ArmExpander$Matcher.stepOver -/
def zF155 (n : Nat) (a0 : Int) (M : ZM) : Option (Unit × ZM) :=
  match M.2.1 16 2 with | some p1 => (if isT p1 then (match M.2.1 16 3 with | some p4 => (if isD p4 then (match zF187 n p1 p4 M with | some (v7, M8) => (zJ155_11 n a0 M8) | none => none) else (none)) | none => (none)) else (none)) | none => (none)
set_option maxRecDepth 100000 in
set_option maxHeartbeats 4000000 in
theorem zF155_r (n : Nat) {A0_ : Int32} {a0 : Int} (ha0 : rp A0_ a0) {M_ : Mem} {M : ZM} (gM : rm M_ M) {r : Unit} {m' : ZM} (h : zF155 n a0 M = some (r, m')) : sU (F155 n A0_ M_) m' := by
  unfold zF155 at h
  unfold F155
  rw [rm_rf gM 16 2]
  cases hq1 : M.2.1 16 2 with
  | none =>
    rw [hq1] at h
    dsimp only at h ⊢
    cases h
  | some p1 =>
    rw [hq1] at h
    dsimp only at h ⊢
    by_cases q2 : isT p1
    · rw [if_pos q2] at h
      rw [if_pos (Iff.rfl.mpr q2)]
      rw [rm_rf gM 16 3]
      cases hq3 : M.2.1 16 3 with
      | none =>
        rw [hq3] at h
        dsimp only at h ⊢
        cases h
      | some p4 =>
        rw [hq3] at h
        dsimp only at h ⊢
        by_cases q4 : isD p4
        · rw [if_pos q4] at h
          rw [if_pos (Iff.rfl.mpr q4)]
          cases hc5 : zF187 n p1 p4 M with
          | none => rw [hc5] at h; cases h
          | some w =>
            obtain ⟨v7, M8⟩ := w
            rw [hc5] at h
            dsimp only at h
            obtain ⟨NM8, ehc5, gM8⟩ := zF187_r n p1 p4 gM hc5
            rw [ehc5]
            dsimp only
            exact zJ155_11_r n ha0 gM8 h
        · rw [if_neg q4] at h
          rw [if_neg (fun z => q4 (Iff.rfl.mp z))]
          cases h
    · rw [if_neg q2] at h
      rw [if_neg (fun z => q2 (Iff.rfl.mp z))]
      cases h
def zJ95_57 (n : Nat) (g0 : Nat) (zrec13 : Int → Int → ZM → Option (Int × ZM)) (x3 : Int) (x4 : Int) (M : ZM) : Option (Int × ZM) :=
  if rg (x4 + 1) then (zrec13 x3 (x4 + 1) M) else none
set_option maxRecDepth 100000 in
set_option maxHeartbeats 4000000 in
theorem zJ95_57_r (n : Nat) (g0 : Nat) (rec13 : Int32 → Int32 → Mem → Option (Int32 × Mem)) (zrec13 : Int → Int → ZM → Option (Int × ZM)) (hrec13 : ∀ {Y1 : Int32} {y1 : Int} (_ : rp Y1 y1) {Y2 : Int32} {y2 : Int} (_ : rp Y2 y2) {M : Mem} {m : ZM} (_ : rm M m) {r : Int} {m' : ZM} (_ : zrec13 y1 y2 m = some (r, m')), sI (rec13 Y1 Y2 M) r m') {X3_ : Int32} {x3 : Int} (hx3 : rp X3_ x3) {X4_ : Int32} {x4 : Int} (hx4 : rp X4_ x4) {M_ : Mem} {M : ZM} (gM : rm M_ M) {r : Int} {m' : ZM} (h : zJ95_57 n g0 zrec13 x3 x4 M = some (r, m')) : sI (J95_57 n g0 rec13 X3_ X4_ M_) r m' := by
  unfold zJ95_57 at h
  unfold J95_57
  by_cases w1 : rg (x4 + 1)
  · rw [if_pos w1] at h
    exact hrec13 hx3 (rp_add (rp_iz hx4) (rp_iz (show rp 1 1 from rfl)) w1) gM h
  · rw [if_neg w1] at h
    cases h
def zJ95_42 (n : Nat) (g0 : Nat) (zrec13 : Int → Int → ZM → Option (Int × ZM)) (x3 : Int) (x4 : Int) (M : ZM) : Option (Int × ZM) :=
  if rg (x4 + 4) then (match zF96 n g0 (x4 + 4) x3 M with | some (v16, M17) => (if v16 = 0 then (some (1, M17)) else (zJ95_57 n g0 zrec13 x3 x4 M17)) | none => none) else none
set_option maxRecDepth 100000 in
set_option maxHeartbeats 4000000 in
theorem zJ95_42_r (n : Nat) (g0 : Nat) (rec13 : Int32 → Int32 → Mem → Option (Int32 × Mem)) (zrec13 : Int → Int → ZM → Option (Int × ZM)) (hrec13 : ∀ {Y1 : Int32} {y1 : Int} (_ : rp Y1 y1) {Y2 : Int32} {y2 : Int} (_ : rp Y2 y2) {M : Mem} {m : ZM} (_ : rm M m) {r : Int} {m' : ZM} (_ : zrec13 y1 y2 m = some (r, m')), sI (rec13 Y1 Y2 M) r m') {X3_ : Int32} {x3 : Int} (hx3 : rp X3_ x3) {X4_ : Int32} {x4 : Int} (hx4 : rp X4_ x4) {M_ : Mem} {M : ZM} (gM : rm M_ M) {r : Int} {m' : ZM} (h : zJ95_42 n g0 zrec13 x3 x4 M = some (r, m')) : sI (J95_42 n g0 rec13 X3_ X4_ M_) r m' := by
  unfold zJ95_42 at h
  unfold J95_42
  by_cases w1 : rg (x4 + 4)
  · rw [if_pos w1] at h
    cases hc2 : zF96 n g0 (x4 + 4) x3 M with
    | none => rw [hc2] at h; cases h
    | some w =>
      obtain ⟨v16, M17⟩ := w
      rw [hc2] at h
      dsimp only at h
      obtain ⟨V16, NM17, ehc2, hv16, gM17⟩ := zF96_r n g0 (rp_add (rp_iz hx4) (rp_iz (show rp 4 4 from rfl)) w1) hx3 gM hc2
      rw [ehc2]
      dsimp only
      by_cases q3 : v16 = 0
      · rw [if_pos q3] at h
        rw [if_pos ((rp_eq hv16 (show rp 0 0 from rfl)).mpr q3)]
        obtain ⟨rfl, rfl⟩ := Prod.mk.inj (Option.some.inj h)
        exact ⟨_, _, rfl, (show rp 1 1 from rfl), gM17⟩
      · rw [if_neg q3] at h
        rw [if_neg (fun z => q3 ((rp_eq hv16 (show rp 0 0 from rfl)).mp z))]
        exact zJ95_57_r n g0 _ _ hrec13 hx3 hx4 gM17 h
  · rw [if_neg w1] at h
    cases h
def zL95_13 (n : Nat) (g0 : Nat) : Nat → Int → Int → ZM → Option (Int × ZM)
  | 0, _, _, _ => none
  | k + 1, x3, x4, M => if x3 ≤ x4 then (some (0, M)) else (match zF115 n g0 x4 M with | some (v8, M9) => (if v8 = 0 then (zJ95_57 n g0 (zL95_13 n g0 k) x3 x4 M9) else (if rg (x4 + 3) then (match zF109 n g0 (x4 + 3) M9 with | some (v12, M13) => (if v12 = 1159 then (zJ95_42 n g0 (zL95_13 n g0 k) x3 x4 M13) else (zJ95_57 n g0 (zL95_13 n g0 k) x3 x4 M13)) | none => none) else none)) | none => none)
set_option maxRecDepth 100000 in
set_option maxHeartbeats 4000000 in
theorem zL95_13_r (n : Nat) (g0 : Nat) : ∀ (k : Nat) {X3_ : Int32} {x3 : Int} (hx3 : rp X3_ x3) {X4_ : Int32} {x4 : Int} (hx4 : rp X4_ x4) {M_ : Mem} {M : ZM} (gM : rm M_ M) {r : Int} {m' : ZM} (_ : zL95_13 n g0 k x3 x4 M = some (r, m')), sI (L95_13 n g0 k X3_ X4_ M_) r m' := by
  intro k
  induction k with
  | zero => intro X3_ x3 hx3 X4_ x4 hx4 M_ M gM r m' h; cases h
  | succ k ih =>
    intro X3_ x3 hx3 X4_ x4 hx4 M_ M gM r m' h
    rw [zL95_13] at h
    rw [L95_13]
    by_cases q1 : x3 ≤ x4
    · rw [if_pos q1] at h
      rw [if_pos ((rp_le hx3 hx4).mpr q1)]
      obtain ⟨rfl, rfl⟩ := Prod.mk.inj (Option.some.inj h)
      exact ⟨_, _, rfl, (show rp 0 0 from rfl), gM⟩
    · rw [if_neg q1] at h
      rw [if_neg (fun z => q1 ((rp_le hx3 hx4).mp z))]
      cases hc2 : zF115 n g0 x4 M with
      | none => rw [hc2] at h; cases h
      | some w =>
        obtain ⟨v8, M9⟩ := w
        rw [hc2] at h
        dsimp only at h
        obtain ⟨V8, NM9, ehc2, hv8, gM9⟩ := zF115_r n g0 hx4 gM hc2
        rw [ehc2]
        dsimp only
        by_cases q3 : v8 = 0
        · rw [if_pos q3] at h
          rw [if_pos ((rp_eq hv8 (show rp 0 0 from rfl)).mpr q3)]
          exact zJ95_57_r n g0 _ _ ih hx3 hx4 gM9 h
        · rw [if_neg q3] at h
          rw [if_neg (fun z => q3 ((rp_eq hv8 (show rp 0 0 from rfl)).mp z))]
          by_cases w4 : rg (x4 + 3)
          · rw [if_pos w4] at h
            cases hc5 : zF109 n g0 (x4 + 3) M9 with
            | none => rw [hc5] at h; cases h
            | some w =>
              obtain ⟨v12, M13⟩ := w
              rw [hc5] at h
              dsimp only at h
              obtain ⟨V12, NM13, ehc5, hv12, gM13⟩ := zF109_r n g0 (rp_add (rp_iz hx4) (rp_iz (show rp 3 3 from rfl)) w4) gM9 hc5
              rw [ehc5]
              dsimp only
              by_cases q6 : v12 = 1159
              · rw [if_pos q6] at h
                rw [if_pos ((rp_eq hv12 (show rp 1159 1159 from rfl)).mpr q6)]
                exact zJ95_42_r n g0 _ _ ih hx3 hx4 gM13 h
              · rw [if_neg q6] at h
                rw [if_neg (fun z => q6 ((rp_eq hv12 (show rp 1159 1159 from rfl)).mp z))]
                exact zJ95_57_r n g0 _ _ ih hx3 hx4 gM13 h
          · rw [if_neg w4] at h
            cases h
/-- ArmExpander$Checker.hasLooseExpression -/
def zF95 (n : Nat) (g0 : Nat) (a1 : Int) (M : ZM) : Option (Int × ZM) :=
  match zF112 n g0 a1 M with | some (v1, M2) => (match zF111 n g0 a1 M2 with | some (v4, M5) => (zL95_13 n g0 n v1 v4 M5) | none => none) | none => none
set_option maxRecDepth 100000 in
set_option maxHeartbeats 4000000 in
theorem zF95_r (n : Nat) (g0 : Nat) {A1_ : Int32} {a1 : Int} (ha1 : rp A1_ a1) {M_ : Mem} {M : ZM} (gM : rm M_ M) {r : Int} {m' : ZM} (h : zF95 n g0 a1 M = some (r, m')) : sI (F95 n g0 A1_ M_) r m' := by
  unfold zF95 at h
  unfold F95
  cases hc1 : zF112 n g0 a1 M with
  | none => rw [hc1] at h; cases h
  | some w =>
    obtain ⟨v1, M2⟩ := w
    rw [hc1] at h
    dsimp only at h
    obtain ⟨V1, NM2, ehc1, hv1, gM2⟩ := zF112_r n g0 ha1 gM hc1
    rw [ehc1]
    dsimp only
    cases hc2 : zF111 n g0 a1 M2 with
    | none => rw [hc2] at h; cases h
    | some w =>
      obtain ⟨v4, M5⟩ := w
      rw [hc2] at h
      dsimp only at h
      obtain ⟨V4, NM5, ehc2, hv4, gM5⟩ := zF111_r n g0 ha1 gM2 hc2
      rw [ehc2]
      dsimp only
      exact zL95_13_r n g0 n hv1 hv4 gM5 h
def zJ91_60 (n : Nat) (g0 : Nat) (s0 : Int) (M : ZM) : Option (Int × ZM) :=
  some (s0, M)
set_option maxRecDepth 100000 in
set_option maxHeartbeats 4000000 in
theorem zJ91_60_r (n : Nat) (g0 : Nat) {S0_ : Int32} {s0 : Int} (hs0 : rp S0_ s0) {M_ : Mem} {M : ZM} (gM : rm M_ M) {r : Int} {m' : ZM} (h : zJ91_60 n g0 s0 M = some (r, m')) : sI (J91_60 n g0 S0_ M_) r m' := by
  unfold zJ91_60 at h
  unfold J91_60
  obtain ⟨rfl, rfl⟩ := Prod.mk.inj (Option.some.inj h)
  exact ⟨_, _, rfl, hs0, gM⟩
def zJ91_53 (n : Nat) (g0 : Nat) (M : ZM) : Option (Int × ZM) :=
  zJ91_60 n g0 (-1003) M
set_option maxRecDepth 100000 in
set_option maxHeartbeats 4000000 in
theorem zJ91_53_r (n : Nat) (g0 : Nat) {M_ : Mem} {M : ZM} (gM : rm M_ M) {r : Int} {m' : ZM} (h : zJ91_53 n g0 M = some (r, m')) : sI (J91_53 n g0 M_) r m' := by
  unfold zJ91_53 at h
  unfold J91_53
  exact zJ91_60_r n g0 (show rp (-1003) (-1003) from rfl) gM h
def zJ91_45 (n : Nat) (g0 : Nat) (x2 : Int) (M : ZM) : Option (Int × ZM) :=
  match zF98 n g0 x2 M with | some (v17, M18) => (if v17 = 0 then (zJ91_60 n g0 0 M18) else (zJ91_53 n g0 M18)) | none => none
set_option maxRecDepth 100000 in
set_option maxHeartbeats 4000000 in
theorem zJ91_45_r (n : Nat) (g0 : Nat) {X2_ : Int32} {x2 : Int} (hx2 : rp X2_ x2) {M_ : Mem} {M : ZM} (gM : rm M_ M) {r : Int} {m' : ZM} (h : zJ91_45 n g0 x2 M = some (r, m')) : sI (J91_45 n g0 X2_ M_) r m' := by
  unfold zJ91_45 at h
  unfold J91_45
  cases hc1 : zF98 n g0 x2 M with
  | none => rw [hc1] at h; cases h
  | some w =>
    obtain ⟨v17, M18⟩ := w
    rw [hc1] at h
    dsimp only at h
    obtain ⟨V17, NM18, ehc1, hv17, gM18⟩ := zF98_r n g0 hx2 gM hc1
    rw [ehc1]
    dsimp only
    by_cases q2 : v17 = 0
    · rw [if_pos q2] at h
      rw [if_pos ((rp_eq hv17 (show rp 0 0 from rfl)).mpr q2)]
      exact zJ91_60_r n g0 (show rp 0 0 from rfl) gM18 h
    · rw [if_neg q2] at h
      rw [if_neg (fun z => q2 ((rp_eq hv17 (show rp 0 0 from rfl)).mp z))]
      exact zJ91_53_r n g0 gM18 h
def zJ91_24 (n : Nat) (g0 : Nat) (x2 : Int) (M : ZM) : Option (Int × ZM) :=
  match zF95 n g0 x2 M with | some (v9, M10) => (if v9 = 0 then (match zF97 n g0 x2 M10 with | some (v13, M14) => (if v13 = 0 then (zJ91_45 n g0 x2 M14) else (zJ91_53 n g0 M14)) | none => none) else (some ((-1002), M10))) | none => none
set_option maxRecDepth 100000 in
set_option maxHeartbeats 4000000 in
theorem zJ91_24_r (n : Nat) (g0 : Nat) {X2_ : Int32} {x2 : Int} (hx2 : rp X2_ x2) {M_ : Mem} {M : ZM} (gM : rm M_ M) {r : Int} {m' : ZM} (h : zJ91_24 n g0 x2 M = some (r, m')) : sI (J91_24 n g0 X2_ M_) r m' := by
  unfold zJ91_24 at h
  unfold J91_24
  cases hc1 : zF95 n g0 x2 M with
  | none => rw [hc1] at h; cases h
  | some w =>
    obtain ⟨v9, M10⟩ := w
    rw [hc1] at h
    dsimp only at h
    obtain ⟨V9, NM10, ehc1, hv9, gM10⟩ := zF95_r n g0 hx2 gM hc1
    rw [ehc1]
    dsimp only
    by_cases q2 : v9 = 0
    · rw [if_pos q2] at h
      rw [if_pos ((rp_eq hv9 (show rp 0 0 from rfl)).mpr q2)]
      cases hc3 : zF97 n g0 x2 M10 with
      | none => rw [hc3] at h; cases h
      | some w =>
        obtain ⟨v13, M14⟩ := w
        rw [hc3] at h
        dsimp only at h
        obtain ⟨V13, NM14, ehc3, hv13, gM14⟩ := zF97_r n g0 hx2 gM10 hc3
        rw [ehc3]
        dsimp only
        by_cases q4 : v13 = 0
        · rw [if_pos q4] at h
          rw [if_pos ((rp_eq hv13 (show rp 0 0 from rfl)).mpr q4)]
          exact zJ91_45_r n g0 hx2 gM14 h
        · rw [if_neg q4] at h
          rw [if_neg (fun z => q4 ((rp_eq hv13 (show rp 0 0 from rfl)).mp z))]
          exact zJ91_53_r n g0 gM14 h
    · rw [if_neg q2] at h
      rw [if_neg (fun z => q2 ((rp_eq hv9 (show rp 0 0 from rfl)).mp z))]
      obtain ⟨rfl, rfl⟩ := Prod.mk.inj (Option.some.inj h)
      exact ⟨_, _, rfl, (show rp (-1002) (-1002) from rfl), gM10⟩
def zJ91_20 (n : Nat) (g0 : Nat) (M : ZM) : Option (Int × ZM) :=
  some ((-1001), M)
set_option maxRecDepth 100000 in
set_option maxHeartbeats 4000000 in
theorem zJ91_20_r (n : Nat) (g0 : Nat) {M_ : Mem} {M : ZM} (gM : rm M_ M) {r : Int} {m' : ZM} (h : zJ91_20 n g0 M = some (r, m')) : sI (J91_20 n g0 M_) r m' := by
  unfold zJ91_20 at h
  unfold J91_20
  obtain ⟨rfl, rfl⟩ := Prod.mk.inj (Option.some.inj h)
  exact ⟨_, _, rfl, (show rp (-1001) (-1001) from rfl), gM⟩
/-- ArmExpander$Checker.checkArm -/
def zF91 (n : Nat) (g0 : Nat) (a1 : Int) (M : ZM) : Option (Int × ZM) :=
  match zF92 n g0 a1 M with | some (v1, M2) => (if v1 = 0 then (match zF93 n g0 a1 M2 with | some (v5, M6) => (if v5 = 0 then (zJ91_24 n g0 a1 M6) else (zJ91_20 n g0 M6)) | none => none) else (some ((-1000), M2))) | none => none
set_option maxRecDepth 100000 in
set_option maxHeartbeats 4000000 in
theorem zF91_r (n : Nat) (g0 : Nat) {A1_ : Int32} {a1 : Int} (ha1 : rp A1_ a1) {M_ : Mem} {M : ZM} (gM : rm M_ M) {r : Int} {m' : ZM} (h : zF91 n g0 a1 M = some (r, m')) : sI (F91 n g0 A1_ M_) r m' := by
  unfold zF91 at h
  unfold F91
  cases hc1 : zF92 n g0 a1 M with
  | none => rw [hc1] at h; cases h
  | some w =>
    obtain ⟨v1, M2⟩ := w
    rw [hc1] at h
    dsimp only at h
    obtain ⟨V1, NM2, ehc1, hv1, gM2⟩ := zF92_r n g0 ha1 gM hc1
    rw [ehc1]
    dsimp only
    by_cases q2 : v1 = 0
    · rw [if_pos q2] at h
      rw [if_pos ((rp_eq hv1 (show rp 0 0 from rfl)).mpr q2)]
      cases hc3 : zF93 n g0 a1 M2 with
      | none => rw [hc3] at h; cases h
      | some w =>
        obtain ⟨v5, M6⟩ := w
        rw [hc3] at h
        dsimp only at h
        obtain ⟨V5, NM6, ehc3, hv5, gM6⟩ := zF93_r n g0 ha1 gM2 hc3
        rw [ehc3]
        dsimp only
        by_cases q4 : v5 = 0
        · rw [if_pos q4] at h
          rw [if_pos ((rp_eq hv5 (show rp 0 0 from rfl)).mpr q4)]
          exact zJ91_24_r n g0 ha1 gM6 h
        · rw [if_neg q4] at h
          rw [if_neg (fun z => q4 ((rp_eq hv5 (show rp 0 0 from rfl)).mp z))]
          exact zJ91_20_r n g0 gM6 h
    · rw [if_neg q2] at h
      rw [if_neg (fun z => q2 ((rp_eq hv1 (show rp 0 0 from rfl)).mp z))]
      obtain ⟨rfl, rfl⟩ := Prod.mk.inj (Option.some.inj h)
      exact ⟨_, _, rfl, (show rp (-1000) (-1000) from rfl), gM2⟩
def zJ90_29 (n : Nat) (g0 : Nat) (x2 : Int) (M : ZM) : Option (Int × ZM) :=
  some (x2, M)
set_option maxRecDepth 100000 in
set_option maxHeartbeats 4000000 in
theorem zJ90_29_r (n : Nat) (g0 : Nat) {X2_ : Int32} {x2 : Int} (hx2 : rp X2_ x2) {M_ : Mem} {M : ZM} (gM : rm M_ M) {r : Int} {m' : ZM} (h : zJ90_29 n g0 x2 M = some (r, m')) : sI (J90_29 n g0 X2_ M_) r m' := by
  unfold zJ90_29 at h
  unfold J90_29
  obtain ⟨rfl, rfl⟩ := Prod.mk.inj (Option.some.inj h)
  exact ⟨_, _, rfl, hx2, gM⟩
def zJ90_23 (n : Nat) (g0 : Nat) (zrec4 : Int → Int → ZM → Option (Int × ZM)) (x2 : Int) (x3 : Int) (M : ZM) : Option (Int × ZM) :=
  if rg (x3 + 1) then (zrec4 x2 (x3 + 1) M) else none
set_option maxRecDepth 100000 in
set_option maxHeartbeats 4000000 in
theorem zJ90_23_r (n : Nat) (g0 : Nat) (rec4 : Int32 → Int32 → Mem → Option (Int32 × Mem)) (zrec4 : Int → Int → ZM → Option (Int × ZM)) (hrec4 : ∀ {Y1 : Int32} {y1 : Int} (_ : rp Y1 y1) {Y2 : Int32} {y2 : Int} (_ : rp Y2 y2) {M : Mem} {m : ZM} (_ : rm M m) {r : Int} {m' : ZM} (_ : zrec4 y1 y2 m = some (r, m')), sI (rec4 Y1 Y2 M) r m') {X2_ : Int32} {x2 : Int} (hx2 : rp X2_ x2) {X3_ : Int32} {x3 : Int} (hx3 : rp X3_ x3) {M_ : Mem} {M : ZM} (gM : rm M_ M) {r : Int} {m' : ZM} (h : zJ90_23 n g0 zrec4 x2 x3 M = some (r, m')) : sI (J90_23 n g0 rec4 X2_ X3_ M_) r m' := by
  unfold zJ90_23 at h
  unfold J90_23
  by_cases w1 : rg (x3 + 1)
  · rw [if_pos w1] at h
    exact hrec4 hx2 (rp_add (rp_iz hx3) (rp_iz (show rp 1 1 from rfl)) w1) gM h
  · rw [if_neg w1] at h
    cases h
def zL90_4 (n : Nat) (g0 : Nat) : Nat → Int → Int → ZM → Option (Int × ZM)
  | 0, _, _, _ => none
  | k + 1, x2, x3, M => match zF108 n g0 M with | some (v1, M2) => (if v1 ≤ x3 then (zJ90_29 n g0 x2 M2) else (if x2 = 0 then (match zF91 n g0 x3 M2 with | some (v6, M7) => (zJ90_23 n g0 (zL90_4 n g0 k) v6 x3 M7) | none => none) else (zJ90_29 n g0 x2 M2))) | none => none
set_option maxRecDepth 100000 in
set_option maxHeartbeats 4000000 in
theorem zL90_4_r (n : Nat) (g0 : Nat) : ∀ (k : Nat) {X2_ : Int32} {x2 : Int} (hx2 : rp X2_ x2) {X3_ : Int32} {x3 : Int} (hx3 : rp X3_ x3) {M_ : Mem} {M : ZM} (gM : rm M_ M) {r : Int} {m' : ZM} (_ : zL90_4 n g0 k x2 x3 M = some (r, m')), sI (L90_4 n g0 k X2_ X3_ M_) r m' := by
  intro k
  induction k with
  | zero => intro X2_ x2 hx2 X3_ x3 hx3 M_ M gM r m' h; cases h
  | succ k ih =>
    intro X2_ x2 hx2 X3_ x3 hx3 M_ M gM r m' h
    rw [zL90_4] at h
    rw [L90_4]
    cases hc1 : zF108 n g0 M with
    | none => rw [hc1] at h; cases h
    | some w =>
      obtain ⟨v1, M2⟩ := w
      rw [hc1] at h
      dsimp only at h
      obtain ⟨V1, NM2, ehc1, hv1, gM2⟩ := zF108_r n g0 gM hc1
      rw [ehc1]
      dsimp only
      by_cases q2 : v1 ≤ x3
      · rw [if_pos q2] at h
        rw [if_pos ((rp_le hv1 hx3).mpr q2)]
        exact zJ90_29_r n g0 hx2 gM2 h
      · rw [if_neg q2] at h
        rw [if_neg (fun z => q2 ((rp_le hv1 hx3).mp z))]
        by_cases q3 : x2 = 0
        · rw [if_pos q3] at h
          rw [if_pos ((rp_eq hx2 (show rp 0 0 from rfl)).mpr q3)]
          cases hc4 : zF91 n g0 x3 M2 with
          | none => rw [hc4] at h; cases h
          | some w =>
            obtain ⟨v6, M7⟩ := w
            rw [hc4] at h
            dsimp only at h
            obtain ⟨V6, NM7, ehc4, hv6, gM7⟩ := zF91_r n g0 hx3 gM2 hc4
            rw [ehc4]
            dsimp only
            exact zJ90_23_r n g0 _ _ ih hv6 hx3 gM7 h
        · rw [if_neg q3] at h
          rw [if_neg (fun z => q3 ((rp_eq hx2 (show rp 0 0 from rfl)).mp z))]
          exact zJ90_29_r n g0 hx2 gM2 h
/-- ArmExpander$Checker.check -/
def zF90 (n : Nat) (g0 : Nat) (M : ZM) : Option (Int × ZM) :=
  zL90_4 n g0 n 0 0 M
set_option maxRecDepth 100000 in
set_option maxHeartbeats 4000000 in
theorem zF90_r (n : Nat) (g0 : Nat) {M_ : Mem} {M : ZM} (gM : rm M_ M) {r : Int} {m' : ZM} (h : zF90 n g0 M = some (r, m')) : sI (F90 n g0 M_) r m' := by
  unfold zF90 at h
  unfold F90
  exact zL90_4_r n g0 n (show rp 0 0 from rfl) (show rp 0 0 from rfl) gM h
def zJ2_76 (n : Nat) (M : ZM) : Option (Int × ZM) :=
  some ((M.1 0 5), M)
set_option maxRecDepth 100000 in
set_option maxHeartbeats 4000000 in
theorem zJ2_76_r (n : Nat) {M_ : Mem} {M : ZM} (gM : rm M_ M) {r : Int} {m' : ZM} (h : zJ2_76 n M = some (r, m')) : sI (J2_76 n M_) r m' := by
  unfold zJ2_76 at h
  unfold J2_76
  obtain ⟨rfl, rfl⟩ := Prod.mk.inj (Option.some.inj h)
  exact ⟨_, _, rfl, (rm_rd gM 0 5), gM⟩
def zJ2_48 (n : Nat) (x3 : Int) (M : ZM) : Option (Int × ZM) :=
  if x3 = 0 then (if (M.1 0 5) < 5 then (if rg ((M.1 0 5) + 1) then (zlet (z_i M 0 5 ((M.1 0 5) + 1)) (fun M17 => zJ2_76 n M17)) else none) else (some ((-1004), M))) else (some (x3, M))
set_option maxRecDepth 100000 in
set_option maxHeartbeats 4000000 in
theorem zJ2_48_r (n : Nat) {X3_ : Int32} {x3 : Int} (hx3 : rp X3_ x3) {M_ : Mem} {M : ZM} (gM : rm M_ M) {r : Int} {m' : ZM} (h : zJ2_48 n x3 M = some (r, m')) : sI (J2_48 n X3_ M_) r m' := by
  unfold zJ2_48 at h
  unfold J2_48
  by_cases q1 : x3 = 0
  · rw [if_pos q1] at h
    rw [if_pos ((rp_eq hx3 (show rp 0 0 from rfl)).mpr q1)]
    by_cases q2 : (M.1 0 5) < 5
    · rw [if_pos q2] at h
      rw [if_pos ((rp_lt (rm_rd gM 0 5) (show rp 5 5 from rfl)).mpr q2)]
      by_cases w3 : rg ((M.1 0 5) + 1)
      · rw [if_pos w3] at h
        have gM17 : rm (m_i M_ 0 5 ((M_.1 0 5) + (1 : Int32))) (z_i M 0 5 ((M.1 0 5) + 1)) := rm_i gM 0 5 (rp_add (rp_iz (rm_rd gM 0 5)) (rp_iz (show rp 1 1 from rfl)) w3)
        rw [mlet]
        rw [zlet] at h
        generalize z_i M 0 5 ((M.1 0 5) + 1) = M17 at h gM17
        generalize m_i M_ 0 5 ((M_.1 0 5) + (1 : Int32)) = NM17 at gM17 ⊢
        exact zJ2_76_r n gM17 h
      · rw [if_neg w3] at h
        cases h
    · rw [if_neg q2] at h
      rw [if_neg (fun z => q2 ((rp_lt (rm_rd gM 0 5) (show rp 5 5 from rfl)).mp z))]
      obtain ⟨rfl, rfl⟩ := Prod.mk.inj (Option.some.inj h)
      exact ⟨_, _, rfl, (show rp (-1004) (-1004) from rfl), gM⟩
  · rw [if_neg q1] at h
    rw [if_neg (fun z => q1 ((rp_eq hx3 (show rp 0 0 from rfl)).mp z))]
    obtain ⟨rfl, rfl⟩ := Prod.mk.inj (Option.some.inj h)
    exact ⟨_, _, rfl, hx3, gM⟩
def zJ2_23 (n : Nat) (y1 : Nat) (x2 : Int) (M : ZM) : Option (Int × ZM) :=
  match zF198 n M with | some (v8, M9) => (if x2 = (-1) then (match zF90 n y1 M9 with | some (v12, M13) => (zJ2_48 n v12 M13) | none => none) else (if rg ((-1) - x2) then (some (((-1) - x2), M9)) else none)) | none => none
set_option maxRecDepth 100000 in
set_option maxHeartbeats 4000000 in
theorem zJ2_23_r (n : Nat) (y1 : Nat) {X2_ : Int32} {x2 : Int} (hx2 : rp X2_ x2) {M_ : Mem} {M : ZM} (gM : rm M_ M) {r : Int} {m' : ZM} (h : zJ2_23 n y1 x2 M = some (r, m')) : sI (J2_23 n y1 X2_ M_) r m' := by
  unfold zJ2_23 at h
  unfold J2_23
  cases hc1 : zF198 n M with
  | none => rw [hc1] at h; cases h
  | some w =>
    obtain ⟨v8, M9⟩ := w
    rw [hc1] at h
    dsimp only at h
    obtain ⟨NM9, ehc1, gM9⟩ := zF198_r n gM hc1
    rw [ehc1]
    dsimp only
    by_cases q2 : x2 = (-1)
    · rw [if_pos q2] at h
      rw [if_pos ((rp_eq hx2 (show rp (-1) (-1) from rfl)).mpr q2)]
      cases hc3 : zF90 n y1 M9 with
      | none => rw [hc3] at h; cases h
      | some w =>
        obtain ⟨v12, M13⟩ := w
        rw [hc3] at h
        dsimp only at h
        obtain ⟨V12, NM13, ehc3, hv12, gM13⟩ := zF90_r n y1 gM9 hc3
        rw [ehc3]
        dsimp only
        exact zJ2_48_r n hv12 gM13 h
    · rw [if_neg q2] at h
      rw [if_neg (fun z => q2 ((rp_eq hx2 (show rp (-1) (-1) from rfl)).mp z))]
      by_cases w4 : rg ((-1) - x2)
      · rw [if_pos w4] at h
        obtain ⟨rfl, rfl⟩ := Prod.mk.inj (Option.some.inj h)
        exact ⟨_, _, rfl, (rp_sub (rp_iz (show rp (-1) (-1) from rfl)) (rp_iz hx2) w4), gM9⟩
      · rw [if_neg w4] at h
        cases h
/-- ArmExpander.define -/
def zF2 (n : Nat) (M : ZM) : Option (Int × ZM) :=
  if (M.1 0 5) < 0 ∨ 6 ≤ (M.1 0 5) then (none) else (match m_pl (Int.toNat (M.1 0 5)) with | some p2 => (if isD p2 then (match zF127 n p2 M with | some (v5, M6) => (zJ2_23 n p2 v5 M6) | none => none) else (none)) | none => (none))
set_option maxRecDepth 100000 in
set_option maxHeartbeats 4000000 in
theorem zF2_r (n : Nat) {M_ : Mem} {M : ZM} (gM : rm M_ M) {r : Int} {m' : ZM} (h : zF2 n M = some (r, m')) : sI (F2 n M_) r m' := by
  unfold zF2 at h
  unfold F2
  by_cases q1 : (M.1 0 5) < 0 ∨ 6 ≤ (M.1 0 5)
  · rw [if_pos q1] at h
    rw [if_pos ((rp_ob (rm_rd gM 0 5) 6).mpr q1)]
    cases h
  · rw [if_neg q1] at h
    rw [if_neg (fun z => q1 ((rp_ob (rm_rd gM 0 5) 6).mp z))]
    rw [rm_pl (rm_rd gM 0 5)]
    cases hq2 : m_pl (Int.toNat (M.1 0 5)) with
    | none =>
      rw [hq2] at h
      dsimp only at h ⊢
      cases h
    | some p2 =>
      rw [hq2] at h
      dsimp only at h ⊢
      by_cases q3 : isD p2
      · rw [if_pos q3] at h
        rw [if_pos (Iff.rfl.mpr q3)]
        cases hc4 : zF127 n p2 M with
        | none => rw [hc4] at h; cases h
        | some w =>
          obtain ⟨v5, M6⟩ := w
          rw [hc4] at h
          dsimp only at h
          obtain ⟨V5, NM6, ehc4, hv5, gM6⟩ := zF127_r n p2 gM hc4
          rw [ehc4]
          dsimp only
          exact zJ2_23_r n p2 hv5 gM6 h
      · rw [if_neg q3] at h
        rw [if_neg (fun z => q3 (Iff.rfl.mp z))]
        cases h
def zJ211_125 (n : Nat) (zgg : Int → Int → Int → ZM → Option (Int × ZM)) (x2 : Int) (x6 : Int) (M : ZM) : Option (Int × ZM) :=
  if x2 < 0 ∨ 2 ≤ x2 then (none) else (zlet (z_i M 32 (Int.toNat x2) 0) (fun M20 => if x6 = 0 ∨ x6 = 1 then (some (x6, M20)) else (none)))
set_option maxRecDepth 100000 in
set_option maxHeartbeats 4000000 in
theorem zJ211_125_r (n : Nat) (gg : Int32 → Int32 → Int32 → Mem → Option (Int32 × Mem)) (zgg : Int → Int → Int → ZM → Option (Int × ZM)) (hgg : ∀ {Y1 : Int32} {y1 : Int} (_ : rp Y1 y1) {Y2 : Int32} {y2 : Int} (_ : rp Y2 y2) {Y3 : Int32} {y3 : Int} (_ : rp Y3 y3) {M : Mem} {m : ZM} (_ : rm M m) {r : Int} {m' : ZM} (_ : zgg y1 y2 y3 m = some (r, m')), sI (gg Y1 Y2 Y3 M) r m') {X2_ : Int32} {x2 : Int} (hx2 : rp X2_ x2) {X6_ : Int32} {x6 : Int} (hx6 : rp X6_ x6) {M_ : Mem} {M : ZM} (gM : rm M_ M) {r : Int} {m' : ZM} (h : zJ211_125 n zgg x2 x6 M = some (r, m')) : sI (J211_125 n gg X2_ X6_ M_) r m' := by
  unfold zJ211_125 at h
  unfold J211_125
  by_cases q1 : x2 < 0 ∨ 2 ≤ x2
  · rw [if_pos q1] at h
    rw [if_pos ((rp_ob hx2 2).mpr q1)]
    cases h
  · rw [if_neg q1] at h
    rw [if_neg (fun z => q1 ((rp_ob hx2 2).mp z))]
    have gM20 : rm (m_i M_ 32 (X2_).toNatClampNeg (0 : Int32)) (z_i M 32 (Int.toNat x2) 0) := rm_ix gM 32 hx2 (show rp 0 0 from rfl)
    rw [mlet]
    rw [zlet] at h
    generalize z_i M 32 (Int.toNat x2) 0 = M20 at h gM20
    generalize m_i M_ 32 (X2_).toNatClampNeg (0 : Int32) = NM20 at gM20 ⊢
    by_cases q2 : x6 = 0 ∨ x6 = 1
    · rw [if_pos q2] at h
      rw [if_pos ((or_congr (rp_eq hx6 (show rp 0 0 from rfl)) (rp_eq hx6 (show rp 1 1 from rfl))).mpr q2)]
      obtain ⟨rfl, rfl⟩ := Prod.mk.inj (Option.some.inj h)
      exact ⟨_, _, rfl, hx6, gM20⟩
    · rw [if_neg q2] at h
      rw [if_neg (fun z => q2 ((or_congr (rp_eq hx6 (show rp 0 0 from rfl)) (rp_eq hx6 (show rp 1 1 from rfl))).mp z))]
      cases h
def zJ211_97 (n : Nat) (zgg : Int → Int → Int → ZM → Option (Int × ZM)) (zrec55 : Int → Int → Int → Int → Int → Int → Int → ZM → Option (Int × ZM)) (x1 : Int) (x2 : Int) (x3 : Int) (x4 : Int) (x5 : Int) (x7 : Int) (M : ZM) : Option (Int × ZM) :=
  if x2 < 0 ∨ 2 ≤ x2 then (none) else (zlet (z_i M 32 (Int.toNat x2) x7) (fun M25 => if rg (x1 + 2) ∧ rg (x2 + 1) then (match zgg (x1 + 2) x5 (x2 + 1) M25 with | some (v26, M27) => (if rg (x7 + 1) then (zrec55 x1 x2 x3 x4 x5 v26 (x7 + 1) M27) else none) | none => none) else none))
set_option maxRecDepth 100000 in
set_option maxHeartbeats 4000000 in
theorem zJ211_97_r (n : Nat) (gg : Int32 → Int32 → Int32 → Mem → Option (Int32 × Mem)) (zgg : Int → Int → Int → ZM → Option (Int × ZM)) (hgg : ∀ {Y1 : Int32} {y1 : Int} (_ : rp Y1 y1) {Y2 : Int32} {y2 : Int} (_ : rp Y2 y2) {Y3 : Int32} {y3 : Int} (_ : rp Y3 y3) {M : Mem} {m : ZM} (_ : rm M m) {r : Int} {m' : ZM} (_ : zgg y1 y2 y3 m = some (r, m')), sI (gg Y1 Y2 Y3 M) r m') (rec55 : Int32 → Int32 → Int32 → Int32 → Int32 → Int32 → Int32 → Mem → Option (Int32 × Mem)) (zrec55 : Int → Int → Int → Int → Int → Int → Int → ZM → Option (Int × ZM)) (hrec55 : ∀ {Y1 : Int32} {y1 : Int} (_ : rp Y1 y1) {Y2 : Int32} {y2 : Int} (_ : rp Y2 y2) {Y3 : Int32} {y3 : Int} (_ : rp Y3 y3) {Y4 : Int32} {y4 : Int} (_ : rp Y4 y4) {Y5 : Int32} {y5 : Int} (_ : rp Y5 y5) {Y6 : Int32} {y6 : Int} (_ : rp Y6 y6) {Y7 : Int32} {y7 : Int} (_ : rp Y7 y7) {M : Mem} {m : ZM} (_ : rm M m) {r : Int} {m' : ZM} (_ : zrec55 y1 y2 y3 y4 y5 y6 y7 m = some (r, m')), sI (rec55 Y1 Y2 Y3 Y4 Y5 Y6 Y7 M) r m') {X1_ : Int32} {x1 : Int} (hx1 : rp X1_ x1) {X2_ : Int32} {x2 : Int} (hx2 : rp X2_ x2) {X3_ : Int32} {x3 : Int} (hx3 : rp X3_ x3) {X4_ : Int32} {x4 : Int} (hx4 : rp X4_ x4) {X5_ : Int32} {x5 : Int} (hx5 : rp X5_ x5) {X7_ : Int32} {x7 : Int} (hx7 : rp X7_ x7) {M_ : Mem} {M : ZM} (gM : rm M_ M) {r : Int} {m' : ZM} (h : zJ211_97 n zgg zrec55 x1 x2 x3 x4 x5 x7 M = some (r, m')) : sI (J211_97 n gg rec55 X1_ X2_ X3_ X4_ X5_ X7_ M_) r m' := by
  unfold zJ211_97 at h
  unfold J211_97
  by_cases q1 : x2 < 0 ∨ 2 ≤ x2
  · rw [if_pos q1] at h
    rw [if_pos ((rp_ob hx2 2).mpr q1)]
    cases h
  · rw [if_neg q1] at h
    rw [if_neg (fun z => q1 ((rp_ob hx2 2).mp z))]
    have gM25 : rm (m_i M_ 32 (X2_).toNatClampNeg X7_) (z_i M 32 (Int.toNat x2) x7) := rm_ix gM 32 hx2 hx7
    rw [mlet]
    rw [zlet] at h
    generalize z_i M 32 (Int.toNat x2) x7 = M25 at h gM25
    generalize m_i M_ 32 (X2_).toNatClampNeg X7_ = NM25 at gM25 ⊢
    by_cases w2 : rg (x1 + 2) ∧ rg (x2 + 1)
    · rw [if_pos w2] at h
      cases hc3 : zgg (x1 + 2) x5 (x2 + 1) M25 with
      | none => rw [hc3] at h; cases h
      | some w =>
        obtain ⟨v26, M27⟩ := w
        rw [hc3] at h
        dsimp only at h
        obtain ⟨V26, NM27, ehc3, hv26, gM27⟩ := hgg (rp_add (rp_iz hx1) (rp_iz (show rp 2 2 from rfl)) w2.1) hx5 (rp_add (rp_iz hx2) (rp_iz (show rp 1 1 from rfl)) w2.2) gM25 hc3
        rw [ehc3]
        dsimp only
        by_cases w4 : rg (x7 + 1)
        · rw [if_pos w4] at h
          exact hrec55 hx1 hx2 hx3 hx4 hx5 hv26 (rp_add (rp_iz hx7) (rp_iz (show rp 1 1 from rfl)) w4) gM27 h
        · rw [if_neg w4] at h
          cases h
    · rw [if_neg w2] at h
      cases h
def zL211_55 (n : Nat) (zgg : Int → Int → Int → ZM → Option (Int × ZM)) : Nat → Int → Int → Int → Int → Int → Int → Int → ZM → Option (Int × ZM)
  | 0, _, _, _, _, _, _, _, _ => none
  | k + 1, x1, x2, x3, x4, x5, x6, x7, M => if x3 ≤ x7 then (zJ211_125 n zgg x2 x6 M) else (if x6 = 0 then (zJ211_125 n zgg x2 x6 M) else (if x7 ≤ 0 then (zJ211_97 n zgg (zL211_55 n zgg k) x1 x2 x3 x4 x5 x7 M) else (if x4 = (-1) then (zJ211_97 n zgg (zL211_55 n zgg k) x1 x2 x3 x4 x5 x7 M) else (match M.2.1 31 6 with | some p30 => (if isR p30 then (match M.2.1 31 1 with | some p33 => (if isD p33 then (match zF109 n p33 x4 M with | some (v36, M37) => (match zF168 n p30 v36 (M37.1 31 3) M37 with | some (v39, M40) => (zJ211_97 n zgg (zL211_55 n zgg k) x1 x2 x3 x4 x5 x7 M40) | none => none) | none => none) else (none)) | none => (none)) else (none)) | none => (none)))))
set_option maxRecDepth 100000 in
set_option maxHeartbeats 4000000 in
theorem zL211_55_r (n : Nat) (gg : Int32 → Int32 → Int32 → Mem → Option (Int32 × Mem)) (zgg : Int → Int → Int → ZM → Option (Int × ZM)) (hgg : ∀ {Y1 : Int32} {y1 : Int} (_ : rp Y1 y1) {Y2 : Int32} {y2 : Int} (_ : rp Y2 y2) {Y3 : Int32} {y3 : Int} (_ : rp Y3 y3) {M : Mem} {m : ZM} (_ : rm M m) {r : Int} {m' : ZM} (_ : zgg y1 y2 y3 m = some (r, m')), sI (gg Y1 Y2 Y3 M) r m') : ∀ (k : Nat) {X1_ : Int32} {x1 : Int} (hx1 : rp X1_ x1) {X2_ : Int32} {x2 : Int} (hx2 : rp X2_ x2) {X3_ : Int32} {x3 : Int} (hx3 : rp X3_ x3) {X4_ : Int32} {x4 : Int} (hx4 : rp X4_ x4) {X5_ : Int32} {x5 : Int} (hx5 : rp X5_ x5) {X6_ : Int32} {x6 : Int} (hx6 : rp X6_ x6) {X7_ : Int32} {x7 : Int} (hx7 : rp X7_ x7) {M_ : Mem} {M : ZM} (gM : rm M_ M) {r : Int} {m' : ZM} (_ : zL211_55 n zgg k x1 x2 x3 x4 x5 x6 x7 M = some (r, m')), sI (L211_55 n gg k X1_ X2_ X3_ X4_ X5_ X6_ X7_ M_) r m' := by
  intro k
  induction k with
  | zero => intro X1_ x1 hx1 X2_ x2 hx2 X3_ x3 hx3 X4_ x4 hx4 X5_ x5 hx5 X6_ x6 hx6 X7_ x7 hx7 M_ M gM r m' h; cases h
  | succ k ih =>
    intro X1_ x1 hx1 X2_ x2 hx2 X3_ x3 hx3 X4_ x4 hx4 X5_ x5 hx5 X6_ x6 hx6 X7_ x7 hx7 M_ M gM r m' h
    rw [zL211_55] at h
    rw [L211_55]
    by_cases q1 : x3 ≤ x7
    · rw [if_pos q1] at h
      rw [if_pos ((rp_le hx3 hx7).mpr q1)]
      exact zJ211_125_r n _ _ hgg hx2 hx6 gM h
    · rw [if_neg q1] at h
      rw [if_neg (fun z => q1 ((rp_le hx3 hx7).mp z))]
      by_cases q2 : x6 = 0
      · rw [if_pos q2] at h
        rw [if_pos ((rp_eq hx6 (show rp 0 0 from rfl)).mpr q2)]
        exact zJ211_125_r n _ _ hgg hx2 hx6 gM h
      · rw [if_neg q2] at h
        rw [if_neg (fun z => q2 ((rp_eq hx6 (show rp 0 0 from rfl)).mp z))]
        by_cases q3 : x7 ≤ 0
        · rw [if_pos q3] at h
          rw [if_pos ((rp_le hx7 (show rp 0 0 from rfl)).mpr q3)]
          exact zJ211_97_r n _ _ hgg _ _ ih hx1 hx2 hx3 hx4 hx5 hx7 gM h
        · rw [if_neg q3] at h
          rw [if_neg (fun z => q3 ((rp_le hx7 (show rp 0 0 from rfl)).mp z))]
          by_cases q4 : x4 = (-1)
          · rw [if_pos q4] at h
            rw [if_pos ((rp_eq hx4 (show rp (-1) (-1) from rfl)).mpr q4)]
            exact zJ211_97_r n _ _ hgg _ _ ih hx1 hx2 hx3 hx4 hx5 hx7 gM h
          · rw [if_neg q4] at h
            rw [if_neg (fun z => q4 ((rp_eq hx4 (show rp (-1) (-1) from rfl)).mp z))]
            rw [rm_rf gM 31 6]
            cases hq5 : M.2.1 31 6 with
            | none =>
              rw [hq5] at h
              dsimp only at h ⊢
              cases h
            | some p30 =>
              rw [hq5] at h
              dsimp only at h ⊢
              by_cases q6 : isR p30
              · rw [if_pos q6] at h
                rw [if_pos (Iff.rfl.mpr q6)]
                rw [rm_rf gM 31 1]
                cases hq7 : M.2.1 31 1 with
                | none =>
                  rw [hq7] at h
                  dsimp only at h ⊢
                  cases h
                | some p33 =>
                  rw [hq7] at h
                  dsimp only at h ⊢
                  by_cases q8 : isD p33
                  · rw [if_pos q8] at h
                    rw [if_pos (Iff.rfl.mpr q8)]
                    cases hc9 : zF109 n p33 x4 M with
                    | none => rw [hc9] at h; cases h
                    | some w =>
                      obtain ⟨v36, M37⟩ := w
                      rw [hc9] at h
                      dsimp only at h
                      obtain ⟨V36, NM37, ehc9, hv36, gM37⟩ := zF109_r n p33 hx4 gM hc9
                      rw [ehc9]
                      dsimp only
                      cases hc10 : zF168 n p30 v36 (M37.1 31 3) M37 with
                      | none => rw [hc10] at h; cases h
                      | some w =>
                        obtain ⟨v39, M40⟩ := w
                        rw [hc10] at h
                        dsimp only at h
                        obtain ⟨NM40, ehc10, gM40⟩ := zF168_r n p30 hv36 (rm_rd gM37 31 3) gM37 hc10
                        rw [ehc10]
                        dsimp only
                        exact zJ211_97_r n _ _ hgg _ _ ih hx1 hx2 hx3 hx4 hx5 hx7 gM40 h
                  · rw [if_neg q8] at h
                    rw [if_neg (fun z => q8 (Iff.rfl.mp z))]
                    cases h
              · rw [if_neg q6] at h
                rw [if_neg (fun z => q6 (Iff.rfl.mp z))]
                cases h
def zJ211_50 (n : Nat) (zgg : Int → Int → Int → ZM → Option (Int × ZM)) (x1 : Int) (x2 : Int) (x3 : Int) (x4 : Int) (x5 : Int) (s0 : Int) (M : ZM) : Option (Int × ZM) :=
  zL211_55 n zgg n x1 x2 x3 x4 x5 s0 0 M
set_option maxRecDepth 100000 in
set_option maxHeartbeats 4000000 in
theorem zJ211_50_r (n : Nat) (gg : Int32 → Int32 → Int32 → Mem → Option (Int32 × Mem)) (zgg : Int → Int → Int → ZM → Option (Int × ZM)) (hgg : ∀ {Y1 : Int32} {y1 : Int} (_ : rp Y1 y1) {Y2 : Int32} {y2 : Int} (_ : rp Y2 y2) {Y3 : Int32} {y3 : Int} (_ : rp Y3 y3) {M : Mem} {m : ZM} (_ : rm M m) {r : Int} {m' : ZM} (_ : zgg y1 y2 y3 m = some (r, m')), sI (gg Y1 Y2 Y3 M) r m') {X1_ : Int32} {x1 : Int} (hx1 : rp X1_ x1) {X2_ : Int32} {x2 : Int} (hx2 : rp X2_ x2) {X3_ : Int32} {x3 : Int} (hx3 : rp X3_ x3) {X4_ : Int32} {x4 : Int} (hx4 : rp X4_ x4) {X5_ : Int32} {x5 : Int} (hx5 : rp X5_ x5) {S0_ : Int32} {s0 : Int} (hs0 : rp S0_ s0) {M_ : Mem} {M : ZM} (gM : rm M_ M) {r : Int} {m' : ZM} (h : zJ211_50 n zgg x1 x2 x3 x4 x5 s0 M = some (r, m')) : sI (J211_50 n gg X1_ X2_ X3_ X4_ X5_ S0_ M_) r m' := by
  unfold zJ211_50 at h
  unfold J211_50
  exact zL211_55_r n _ _ hgg n hx1 hx2 hx3 hx4 hx5 hs0 (show rp 0 0 from rfl) gM h
def zJ211_49 (n : Nat) (zgg : Int → Int → Int → ZM → Option (Int × ZM)) (x1 : Int) (x2 : Int) (x3 : Int) (x4 : Int) (x5 : Int) (M : ZM) : Option (Int × ZM) :=
  zJ211_50 n zgg x1 x2 x3 x4 x5 0 M
set_option maxRecDepth 100000 in
set_option maxHeartbeats 4000000 in
theorem zJ211_49_r (n : Nat) (gg : Int32 → Int32 → Int32 → Mem → Option (Int32 × Mem)) (zgg : Int → Int → Int → ZM → Option (Int × ZM)) (hgg : ∀ {Y1 : Int32} {y1 : Int} (_ : rp Y1 y1) {Y2 : Int32} {y2 : Int} (_ : rp Y2 y2) {Y3 : Int32} {y3 : Int} (_ : rp Y3 y3) {M : Mem} {m : ZM} (_ : rm M m) {r : Int} {m' : ZM} (_ : zgg y1 y2 y3 m = some (r, m')), sI (gg Y1 Y2 Y3 M) r m') {X1_ : Int32} {x1 : Int} (hx1 : rp X1_ x1) {X2_ : Int32} {x2 : Int} (hx2 : rp X2_ x2) {X3_ : Int32} {x3 : Int} (hx3 : rp X3_ x3) {X4_ : Int32} {x4 : Int} (hx4 : rp X4_ x4) {X5_ : Int32} {x5 : Int} (hx5 : rp X5_ x5) {M_ : Mem} {M : ZM} (gM : rm M_ M) {r : Int} {m' : ZM} (h : zJ211_49 n zgg x1 x2 x3 x4 x5 M = some (r, m')) : sI (J211_49 n gg X1_ X2_ X3_ X4_ X5_ M_) r m' := by
  unfold zJ211_49 at h
  unfold J211_49
  exact zJ211_50_r n _ _ hgg hx1 hx2 hx3 hx4 hx5 (show rp 0 0 from rfl) gM h
def zJ211_45 (n : Nat) (zgg : Int → Int → Int → ZM → Option (Int × ZM)) (x1 : Int) (x2 : Int) (x3 : Int) (x4 : Int) (x5 : Int) (M : ZM) : Option (Int × ZM) :=
  zJ211_50 n zgg x1 x2 x3 x4 x5 1 M
set_option maxRecDepth 100000 in
set_option maxHeartbeats 4000000 in
theorem zJ211_45_r (n : Nat) (gg : Int32 → Int32 → Int32 → Mem → Option (Int32 × Mem)) (zgg : Int → Int → Int → ZM → Option (Int × ZM)) (hgg : ∀ {Y1 : Int32} {y1 : Int} (_ : rp Y1 y1) {Y2 : Int32} {y2 : Int} (_ : rp Y2 y2) {Y3 : Int32} {y3 : Int} (_ : rp Y3 y3) {M : Mem} {m : ZM} (_ : rm M m) {r : Int} {m' : ZM} (_ : zgg y1 y2 y3 m = some (r, m')), sI (gg Y1 Y2 Y3 M) r m') {X1_ : Int32} {x1 : Int} (hx1 : rp X1_ x1) {X2_ : Int32} {x2 : Int} (hx2 : rp X2_ x2) {X3_ : Int32} {x3 : Int} (hx3 : rp X3_ x3) {X4_ : Int32} {x4 : Int} (hx4 : rp X4_ x4) {X5_ : Int32} {x5 : Int} (hx5 : rp X5_ x5) {M_ : Mem} {M : ZM} (gM : rm M_ M) {r : Int} {m' : ZM} (h : zJ211_45 n zgg x1 x2 x3 x4 x5 M = some (r, m')) : sI (J211_45 n gg X1_ X2_ X3_ X4_ X5_ M_) r m' := by
  unfold zJ211_45 at h
  unfold J211_45
  exact zJ211_50_r n _ _ hgg hx1 hx2 hx3 hx4 hx5 (show rp 1 1 from rfl) gM h
def zJ211_28 (n : Nat) (zgg : Int → Int → Int → ZM → Option (Int × ZM)) (x1 : Int) (x2 : Int) (x3 : Int) (x4 : Int) (M : ZM) : Option (Int × ZM) :=
  match M.2.1 31 1 with | some p11 => (if isD p11 then (if rg (x1 + 1) then (match zF110 n p11 (x1 + 1) M with | some (v14, M15) => (if x3 = (-1) then (zJ211_49 n zgg x1 x2 x3 x4 v14 M15) else (zJ211_45 n zgg x1 x2 x3 x4 v14 M15)) | none => none) else none) else (none)) | none => (none)
set_option maxRecDepth 100000 in
set_option maxHeartbeats 4000000 in
theorem zJ211_28_r (n : Nat) (gg : Int32 → Int32 → Int32 → Mem → Option (Int32 × Mem)) (zgg : Int → Int → Int → ZM → Option (Int × ZM)) (hgg : ∀ {Y1 : Int32} {y1 : Int} (_ : rp Y1 y1) {Y2 : Int32} {y2 : Int} (_ : rp Y2 y2) {Y3 : Int32} {y3 : Int} (_ : rp Y3 y3) {M : Mem} {m : ZM} (_ : rm M m) {r : Int} {m' : ZM} (_ : zgg y1 y2 y3 m = some (r, m')), sI (gg Y1 Y2 Y3 M) r m') {X1_ : Int32} {x1 : Int} (hx1 : rp X1_ x1) {X2_ : Int32} {x2 : Int} (hx2 : rp X2_ x2) {X3_ : Int32} {x3 : Int} (hx3 : rp X3_ x3) {X4_ : Int32} {x4 : Int} (hx4 : rp X4_ x4) {M_ : Mem} {M : ZM} (gM : rm M_ M) {r : Int} {m' : ZM} (h : zJ211_28 n zgg x1 x2 x3 x4 M = some (r, m')) : sI (J211_28 n gg X1_ X2_ X3_ X4_ M_) r m' := by
  unfold zJ211_28 at h
  unfold J211_28
  rw [rm_rf gM 31 1]
  cases hq1 : M.2.1 31 1 with
  | none =>
    rw [hq1] at h
    dsimp only at h ⊢
    cases h
  | some p11 =>
    rw [hq1] at h
    dsimp only at h ⊢
    by_cases q2 : isD p11
    · rw [if_pos q2] at h
      rw [if_pos (Iff.rfl.mpr q2)]
      by_cases w3 : rg (x1 + 1)
      · rw [if_pos w3] at h
        cases hc4 : zF110 n p11 (x1 + 1) M with
        | none => rw [hc4] at h; cases h
        | some w =>
          obtain ⟨v14, M15⟩ := w
          rw [hc4] at h
          dsimp only at h
          obtain ⟨V14, NM15, ehc4, hv14, gM15⟩ := zF110_r n p11 (rp_add (rp_iz hx1) (rp_iz (show rp 1 1 from rfl)) w3) gM hc4
          rw [ehc4]
          dsimp only
          by_cases q5 : x3 = (-1)
          · rw [if_pos q5] at h
            rw [if_pos ((rp_eq hx3 (show rp (-1) (-1) from rfl)).mpr q5)]
            exact zJ211_49_r n _ _ hgg hx1 hx2 hx3 hx4 hv14 gM15 h
          · rw [if_neg q5] at h
            rw [if_neg (fun z => q5 ((rp_eq hx3 (show rp (-1) (-1) from rfl)).mp z))]
            exact zJ211_45_r n _ _ hgg hx1 hx2 hx3 hx4 hv14 gM15 h
      · rw [if_neg w3] at h
        cases h
    · rw [if_neg q2] at h
      rw [if_neg (fun z => q2 (Iff.rfl.mp z))]
      cases h
/-- ArmExpander$Writer.writeRepetition -/
def zG211 (n : Nat) (zgg : Int → Int → Int → ZM → Option (Int × ZM)) (a0 : Int) (a1 : Int) (M : ZM) : Option (Int × ZM) :=
  if a1 < 2 then (match zF212 n a0 a1 M with | some (v2, M3) => (match M3.2.1 31 1 with | some p5 => (if isD p5 then (match zF120 n p5 a0 M3 with | some (v8, M9) => (zJ211_28 n zgg a0 a1 v2 v8 M9) | none => none) else (none)) | none => (none)) | none => none) else (some (0, M))
set_option maxRecDepth 100000 in
set_option maxHeartbeats 4000000 in
theorem zG211_r (n : Nat) (gg : Int32 → Int32 → Int32 → Mem → Option (Int32 × Mem)) (zgg : Int → Int → Int → ZM → Option (Int × ZM)) (hgg : ∀ {Y1 : Int32} {y1 : Int} (_ : rp Y1 y1) {Y2 : Int32} {y2 : Int} (_ : rp Y2 y2) {Y3 : Int32} {y3 : Int} (_ : rp Y3 y3) {M : Mem} {m : ZM} (_ : rm M m) {r : Int} {m' : ZM} (_ : zgg y1 y2 y3 m = some (r, m')), sI (gg Y1 Y2 Y3 M) r m') {A0_ : Int32} {a0 : Int} (ha0 : rp A0_ a0) {A1_ : Int32} {a1 : Int} (ha1 : rp A1_ a1) {M_ : Mem} {M : ZM} (gM : rm M_ M) {r : Int} {m' : ZM} (h : zG211 n zgg a0 a1 M = some (r, m')) : sI (G211 n gg A0_ A1_ M_) r m' := by
  unfold zG211 at h
  unfold G211
  by_cases q1 : a1 < 2
  · rw [if_pos q1] at h
    rw [if_pos ((rp_lt ha1 (show rp 2 2 from rfl)).mpr q1)]
    cases hc2 : zF212 n a0 a1 M with
    | none => rw [hc2] at h; cases h
    | some w =>
      obtain ⟨v2, M3⟩ := w
      rw [hc2] at h
      dsimp only at h
      obtain ⟨V2, NM3, ehc2, hv2, gM3⟩ := zF212_r n ha0 ha1 gM hc2
      rw [ehc2]
      dsimp only
      rw [rm_rf gM3 31 1]
      cases hq3 : M3.2.1 31 1 with
      | none =>
        rw [hq3] at h
        dsimp only at h ⊢
        cases h
      | some p5 =>
        rw [hq3] at h
        dsimp only at h ⊢
        by_cases q4 : isD p5
        · rw [if_pos q4] at h
          rw [if_pos (Iff.rfl.mpr q4)]
          cases hc5 : zF120 n p5 a0 M3 with
          | none => rw [hc5] at h; cases h
          | some w =>
            obtain ⟨v8, M9⟩ := w
            rw [hc5] at h
            dsimp only at h
            obtain ⟨V8, NM9, ehc5, hv8, gM9⟩ := zF120_r n p5 ha0 gM3 hc5
            rw [ehc5]
            dsimp only
            exact zJ211_28_r n _ _ hgg ha0 ha1 hv2 hv8 gM9 h
        · rw [if_neg q4] at h
          rw [if_neg (fun z => q4 (Iff.rfl.mp z))]
          cases h
  · rw [if_neg q1] at h
    rw [if_neg (fun z => q1 ((rp_lt ha1 (show rp 2 2 from rfl)).mp z))]
    obtain ⟨rfl, rfl⟩ := Prod.mk.inj (Option.some.inj h)
    exact ⟨_, _, rfl, (show rp 0 0 from rfl), gM⟩
def zJ210_130 (n : Nat) (zgg : Int → Int → Int → ZM → Option (Int × ZM)) (M : ZM) : Option (Int × ZM) :=
  some (1, M)
set_option maxRecDepth 100000 in
set_option maxHeartbeats 4000000 in
theorem zJ210_130_r (n : Nat) (gg : Int32 → Int32 → Int32 → Mem → Option (Int32 × Mem)) (zgg : Int → Int → Int → ZM → Option (Int × ZM)) (hgg : ∀ {Y1 : Int32} {y1 : Int} (_ : rp Y1 y1) {Y2 : Int32} {y2 : Int} (_ : rp Y2 y2) {Y3 : Int32} {y3 : Int} (_ : rp Y3 y3) {M : Mem} {m : ZM} (_ : rm M m) {r : Int} {m' : ZM} (_ : zgg y1 y2 y3 m = some (r, m')), sI (gg Y1 Y2 Y3 M) r m') {M_ : Mem} {M : ZM} (gM : rm M_ M) {r : Int} {m' : ZM} (h : zJ210_130 n zgg M = some (r, m')) : sI (J210_130 n gg M_) r m' := by
  unfold zJ210_130 at h
  unfold J210_130
  obtain ⟨rfl, rfl⟩ := Prod.mk.inj (Option.some.inj h)
  exact ⟨_, _, rfl, (show rp 1 1 from rfl), gM⟩
def zJ210_124 (n : Nat) (zgg : Int → Int → Int → ZM → Option (Int × ZM)) (zrec6 : Int → Int → Int → Int → ZM → Option (Int × ZM)) (x2 : Int) (x3 : Int) (x4 : Int) (x5 : Int) (M : ZM) : Option (Int × ZM) :=
  if rg (x5 + 1) then (zrec6 x2 x3 x4 (x5 + 1) M) else none
set_option maxRecDepth 100000 in
set_option maxHeartbeats 4000000 in
theorem zJ210_124_r (n : Nat) (gg : Int32 → Int32 → Int32 → Mem → Option (Int32 × Mem)) (zgg : Int → Int → Int → ZM → Option (Int × ZM)) (hgg : ∀ {Y1 : Int32} {y1 : Int} (_ : rp Y1 y1) {Y2 : Int32} {y2 : Int} (_ : rp Y2 y2) {Y3 : Int32} {y3 : Int} (_ : rp Y3 y3) {M : Mem} {m : ZM} (_ : rm M m) {r : Int} {m' : ZM} (_ : zgg y1 y2 y3 m = some (r, m')), sI (gg Y1 Y2 Y3 M) r m') (rec6 : Int32 → Int32 → Int32 → Int32 → Mem → Option (Int32 × Mem)) (zrec6 : Int → Int → Int → Int → ZM → Option (Int × ZM)) (hrec6 : ∀ {Y1 : Int32} {y1 : Int} (_ : rp Y1 y1) {Y2 : Int32} {y2 : Int} (_ : rp Y2 y2) {Y3 : Int32} {y3 : Int} (_ : rp Y3 y3) {Y4 : Int32} {y4 : Int} (_ : rp Y4 y4) {M : Mem} {m : ZM} (_ : rm M m) {r : Int} {m' : ZM} (_ : zrec6 y1 y2 y3 y4 m = some (r, m')), sI (rec6 Y1 Y2 Y3 Y4 M) r m') {X2_ : Int32} {x2 : Int} (hx2 : rp X2_ x2) {X3_ : Int32} {x3 : Int} (hx3 : rp X3_ x3) {X4_ : Int32} {x4 : Int} (hx4 : rp X4_ x4) {X5_ : Int32} {x5 : Int} (hx5 : rp X5_ x5) {M_ : Mem} {M : ZM} (gM : rm M_ M) {r : Int} {m' : ZM} (h : zJ210_124 n zgg zrec6 x2 x3 x4 x5 M = some (r, m')) : sI (J210_124 n gg rec6 X2_ X3_ X4_ X5_ M_) r m' := by
  unfold zJ210_124 at h
  unfold J210_124
  by_cases w1 : rg (x5 + 1)
  · rw [if_pos w1] at h
    exact hrec6 hx2 hx3 hx4 (rp_add (rp_iz hx5) (rp_iz (show rp 1 1 from rfl)) w1) gM h
  · rw [if_neg w1] at h
    cases h
def zJ210_121 (n : Nat) (zgg : Int → Int → Int → ZM → Option (Int × ZM)) (zrec6 : Int → Int → Int → Int → ZM → Option (Int × ZM)) (x2 : Int) (x3 : Int) (x4 : Int) (x5 : Int) (M : ZM) : Option (Int × ZM) :=
  if rg (x4 + 1) then (zJ210_124 n zgg zrec6 x2 x3 (x4 + 1) x5 M) else none
set_option maxRecDepth 100000 in
set_option maxHeartbeats 4000000 in
theorem zJ210_121_r (n : Nat) (gg : Int32 → Int32 → Int32 → Mem → Option (Int32 × Mem)) (zgg : Int → Int → Int → ZM → Option (Int × ZM)) (hgg : ∀ {Y1 : Int32} {y1 : Int} (_ : rp Y1 y1) {Y2 : Int32} {y2 : Int} (_ : rp Y2 y2) {Y3 : Int32} {y3 : Int} (_ : rp Y3 y3) {M : Mem} {m : ZM} (_ : rm M m) {r : Int} {m' : ZM} (_ : zgg y1 y2 y3 m = some (r, m')), sI (gg Y1 Y2 Y3 M) r m') (rec6 : Int32 → Int32 → Int32 → Int32 → Mem → Option (Int32 × Mem)) (zrec6 : Int → Int → Int → Int → ZM → Option (Int × ZM)) (hrec6 : ∀ {Y1 : Int32} {y1 : Int} (_ : rp Y1 y1) {Y2 : Int32} {y2 : Int} (_ : rp Y2 y2) {Y3 : Int32} {y3 : Int} (_ : rp Y3 y3) {Y4 : Int32} {y4 : Int} (_ : rp Y4 y4) {M : Mem} {m : ZM} (_ : rm M m) {r : Int} {m' : ZM} (_ : zrec6 y1 y2 y3 y4 m = some (r, m')), sI (rec6 Y1 Y2 Y3 Y4 M) r m') {X2_ : Int32} {x2 : Int} (hx2 : rp X2_ x2) {X3_ : Int32} {x3 : Int} (hx3 : rp X3_ x3) {X4_ : Int32} {x4 : Int} (hx4 : rp X4_ x4) {X5_ : Int32} {x5 : Int} (hx5 : rp X5_ x5) {M_ : Mem} {M : ZM} (gM : rm M_ M) {r : Int} {m' : ZM} (h : zJ210_121 n zgg zrec6 x2 x3 x4 x5 M = some (r, m')) : sI (J210_121 n gg rec6 X2_ X3_ X4_ X5_ M_) r m' := by
  unfold zJ210_121 at h
  unfold J210_121
  by_cases w1 : rg (x4 + 1)
  · rw [if_pos w1] at h
    exact zJ210_124_r n _ _ hgg _ _ hrec6 hx2 hx3 (rp_add (rp_iz hx4) (rp_iz (show rp 1 1 from rfl)) w1) hx5 gM h
  · rw [if_neg w1] at h
    cases h
def zJ210_101 (n : Nat) (zgg : Int → Int → Int → ZM → Option (Int × ZM)) (zrec6 : Int → Int → Int → Int → ZM → Option (Int × ZM)) (x2 : Int) (x3 : Int) (x4 : Int) (x5 : Int) (M : ZM) : Option (Int × ZM) :=
  match M.2.1 31 6 with | some p17 => (if isR p17 then (match M.2.1 31 1 with | some p20 => (if isD p20 then (match zF109 n p20 x4 M with | some (v23, M24) => (match zF168 n p17 v23 (M24.1 31 3) M24 with | some (v26, M27) => (zJ210_121 n zgg zrec6 x2 x3 x4 x5 M27) | none => none) | none => none) else (none)) | none => (none)) else (none)) | none => (none)
set_option maxRecDepth 100000 in
set_option maxHeartbeats 4000000 in
theorem zJ210_101_r (n : Nat) (gg : Int32 → Int32 → Int32 → Mem → Option (Int32 × Mem)) (zgg : Int → Int → Int → ZM → Option (Int × ZM)) (hgg : ∀ {Y1 : Int32} {y1 : Int} (_ : rp Y1 y1) {Y2 : Int32} {y2 : Int} (_ : rp Y2 y2) {Y3 : Int32} {y3 : Int} (_ : rp Y3 y3) {M : Mem} {m : ZM} (_ : rm M m) {r : Int} {m' : ZM} (_ : zgg y1 y2 y3 m = some (r, m')), sI (gg Y1 Y2 Y3 M) r m') (rec6 : Int32 → Int32 → Int32 → Int32 → Mem → Option (Int32 × Mem)) (zrec6 : Int → Int → Int → Int → ZM → Option (Int × ZM)) (hrec6 : ∀ {Y1 : Int32} {y1 : Int} (_ : rp Y1 y1) {Y2 : Int32} {y2 : Int} (_ : rp Y2 y2) {Y3 : Int32} {y3 : Int} (_ : rp Y3 y3) {Y4 : Int32} {y4 : Int} (_ : rp Y4 y4) {M : Mem} {m : ZM} (_ : rm M m) {r : Int} {m' : ZM} (_ : zrec6 y1 y2 y3 y4 m = some (r, m')), sI (rec6 Y1 Y2 Y3 Y4 M) r m') {X2_ : Int32} {x2 : Int} (hx2 : rp X2_ x2) {X3_ : Int32} {x3 : Int} (hx3 : rp X3_ x3) {X4_ : Int32} {x4 : Int} (hx4 : rp X4_ x4) {X5_ : Int32} {x5 : Int} (hx5 : rp X5_ x5) {M_ : Mem} {M : ZM} (gM : rm M_ M) {r : Int} {m' : ZM} (h : zJ210_101 n zgg zrec6 x2 x3 x4 x5 M = some (r, m')) : sI (J210_101 n gg rec6 X2_ X3_ X4_ X5_ M_) r m' := by
  unfold zJ210_101 at h
  unfold J210_101
  rw [rm_rf gM 31 6]
  cases hq1 : M.2.1 31 6 with
  | none =>
    rw [hq1] at h
    dsimp only at h ⊢
    cases h
  | some p17 =>
    rw [hq1] at h
    dsimp only at h ⊢
    by_cases q2 : isR p17
    · rw [if_pos q2] at h
      rw [if_pos (Iff.rfl.mpr q2)]
      rw [rm_rf gM 31 1]
      cases hq3 : M.2.1 31 1 with
      | none =>
        rw [hq3] at h
        dsimp only at h ⊢
        cases h
      | some p20 =>
        rw [hq3] at h
        dsimp only at h ⊢
        by_cases q4 : isD p20
        · rw [if_pos q4] at h
          rw [if_pos (Iff.rfl.mpr q4)]
          cases hc5 : zF109 n p20 x4 M with
          | none => rw [hc5] at h; cases h
          | some w =>
            obtain ⟨v23, M24⟩ := w
            rw [hc5] at h
            dsimp only at h
            obtain ⟨V23, NM24, ehc5, hv23, gM24⟩ := zF109_r n p20 hx4 gM hc5
            rw [ehc5]
            dsimp only
            cases hc6 : zF168 n p17 v23 (M24.1 31 3) M24 with
            | none => rw [hc6] at h; cases h
            | some w =>
              obtain ⟨v26, M27⟩ := w
              rw [hc6] at h
              dsimp only at h
              obtain ⟨NM27, ehc6, gM27⟩ := zF168_r n p17 hv23 (rm_rd gM24 31 3) gM24 hc6
              rw [ehc6]
              dsimp only
              exact zJ210_121_r n _ _ hgg _ _ hrec6 hx2 hx3 hx4 hx5 gM27 h
        · rw [if_neg q4] at h
          rw [if_neg (fun z => q4 (Iff.rfl.mp z))]
          cases h
    · rw [if_neg q2] at h
      rw [if_neg (fun z => q2 (Iff.rfl.mp z))]
      cases h
def zJ210_95 (n : Nat) (zgg : Int → Int → Int → ZM → Option (Int × ZM)) (zrec6 : Int → Int → Int → Int → ZM → Option (Int × ZM)) (x2 : Int) (x3 : Int) (x4 : Int) (x5 : Int) (M : ZM) : Option (Int × ZM) :=
  if rg (x4 + 2) then (zJ210_124 n zgg zrec6 x2 x3 (x4 + 2) x5 M) else none
set_option maxRecDepth 100000 in
set_option maxHeartbeats 4000000 in
theorem zJ210_95_r (n : Nat) (gg : Int32 → Int32 → Int32 → Mem → Option (Int32 × Mem)) (zgg : Int → Int → Int → ZM → Option (Int × ZM)) (hgg : ∀ {Y1 : Int32} {y1 : Int} (_ : rp Y1 y1) {Y2 : Int32} {y2 : Int} (_ : rp Y2 y2) {Y3 : Int32} {y3 : Int} (_ : rp Y3 y3) {M : Mem} {m : ZM} (_ : rm M m) {r : Int} {m' : ZM} (_ : zgg y1 y2 y3 m = some (r, m')), sI (gg Y1 Y2 Y3 M) r m') (rec6 : Int32 → Int32 → Int32 → Int32 → Mem → Option (Int32 × Mem)) (zrec6 : Int → Int → Int → Int → ZM → Option (Int × ZM)) (hrec6 : ∀ {Y1 : Int32} {y1 : Int} (_ : rp Y1 y1) {Y2 : Int32} {y2 : Int} (_ : rp Y2 y2) {Y3 : Int32} {y3 : Int} (_ : rp Y3 y3) {Y4 : Int32} {y4 : Int} (_ : rp Y4 y4) {M : Mem} {m : ZM} (_ : rm M m) {r : Int} {m' : ZM} (_ : zrec6 y1 y2 y3 y4 m = some (r, m')), sI (rec6 Y1 Y2 Y3 Y4 M) r m') {X2_ : Int32} {x2 : Int} (hx2 : rp X2_ x2) {X3_ : Int32} {x3 : Int} (hx3 : rp X3_ x3) {X4_ : Int32} {x4 : Int} (hx4 : rp X4_ x4) {X5_ : Int32} {x5 : Int} (hx5 : rp X5_ x5) {M_ : Mem} {M : ZM} (gM : rm M_ M) {r : Int} {m' : ZM} (h : zJ210_95 n zgg zrec6 x2 x3 x4 x5 M = some (r, m')) : sI (J210_95 n gg rec6 X2_ X3_ X4_ X5_ M_) r m' := by
  unfold zJ210_95 at h
  unfold J210_95
  by_cases w1 : rg (x4 + 2)
  · rw [if_pos w1] at h
    exact zJ210_124_r n _ _ hgg _ _ hrec6 hx2 hx3 (rp_add (rp_iz hx4) (rp_iz (show rp 2 2 from rfl)) w1) hx5 gM h
  · rw [if_neg w1] at h
    cases h
def zJ210_69 (n : Nat) (zgg : Int → Int → Int → ZM → Option (Int × ZM)) (zrec6 : Int → Int → Int → Int → ZM → Option (Int × ZM)) (x2 : Int) (x3 : Int) (x4 : Int) (x5 : Int) (M : ZM) : Option (Int × ZM) :=
  match M.2.1 31 1 with | some p29 => (if isD p29 then (if rg (x4 + 1) then (match zF109 n p29 (x4 + 1) M with | some (v32, M33) => (match zF125 n p29 (M.1 31 2) v32 M33 with | some (v35, M36) => (match zF213 n v35 M36 with | some (v38, M39) => (zJ210_95 n zgg zrec6 x2 x3 x4 x5 M39) | none => none) | none => none) | none => none) else none) else (none)) | none => (none)
set_option maxRecDepth 100000 in
set_option maxHeartbeats 4000000 in
theorem zJ210_69_r (n : Nat) (gg : Int32 → Int32 → Int32 → Mem → Option (Int32 × Mem)) (zgg : Int → Int → Int → ZM → Option (Int × ZM)) (hgg : ∀ {Y1 : Int32} {y1 : Int} (_ : rp Y1 y1) {Y2 : Int32} {y2 : Int} (_ : rp Y2 y2) {Y3 : Int32} {y3 : Int} (_ : rp Y3 y3) {M : Mem} {m : ZM} (_ : rm M m) {r : Int} {m' : ZM} (_ : zgg y1 y2 y3 m = some (r, m')), sI (gg Y1 Y2 Y3 M) r m') (rec6 : Int32 → Int32 → Int32 → Int32 → Mem → Option (Int32 × Mem)) (zrec6 : Int → Int → Int → Int → ZM → Option (Int × ZM)) (hrec6 : ∀ {Y1 : Int32} {y1 : Int} (_ : rp Y1 y1) {Y2 : Int32} {y2 : Int} (_ : rp Y2 y2) {Y3 : Int32} {y3 : Int} (_ : rp Y3 y3) {Y4 : Int32} {y4 : Int} (_ : rp Y4 y4) {M : Mem} {m : ZM} (_ : rm M m) {r : Int} {m' : ZM} (_ : zrec6 y1 y2 y3 y4 m = some (r, m')), sI (rec6 Y1 Y2 Y3 Y4 M) r m') {X2_ : Int32} {x2 : Int} (hx2 : rp X2_ x2) {X3_ : Int32} {x3 : Int} (hx3 : rp X3_ x3) {X4_ : Int32} {x4 : Int} (hx4 : rp X4_ x4) {X5_ : Int32} {x5 : Int} (hx5 : rp X5_ x5) {M_ : Mem} {M : ZM} (gM : rm M_ M) {r : Int} {m' : ZM} (h : zJ210_69 n zgg zrec6 x2 x3 x4 x5 M = some (r, m')) : sI (J210_69 n gg rec6 X2_ X3_ X4_ X5_ M_) r m' := by
  unfold zJ210_69 at h
  unfold J210_69
  rw [rm_rf gM 31 1]
  cases hq1 : M.2.1 31 1 with
  | none =>
    rw [hq1] at h
    dsimp only at h ⊢
    cases h
  | some p29 =>
    rw [hq1] at h
    dsimp only at h ⊢
    by_cases q2 : isD p29
    · rw [if_pos q2] at h
      rw [if_pos (Iff.rfl.mpr q2)]
      by_cases w3 : rg (x4 + 1)
      · rw [if_pos w3] at h
        cases hc4 : zF109 n p29 (x4 + 1) M with
        | none => rw [hc4] at h; cases h
        | some w =>
          obtain ⟨v32, M33⟩ := w
          rw [hc4] at h
          dsimp only at h
          obtain ⟨V32, NM33, ehc4, hv32, gM33⟩ := zF109_r n p29 (rp_add (rp_iz hx4) (rp_iz (show rp 1 1 from rfl)) w3) gM hc4
          rw [ehc4]
          dsimp only
          cases hc5 : zF125 n p29 (M.1 31 2) v32 M33 with
          | none => rw [hc5] at h; cases h
          | some w =>
            obtain ⟨v35, M36⟩ := w
            rw [hc5] at h
            dsimp only at h
            obtain ⟨V35, NM36, ehc5, hv35, gM36⟩ := zF125_r n p29 (rm_rd gM 31 2) hv32 gM33 hc5
            rw [ehc5]
            dsimp only
            cases hc6 : zF213 n v35 M36 with
            | none => rw [hc6] at h; cases h
            | some w =>
              obtain ⟨v38, M39⟩ := w
              rw [hc6] at h
              dsimp only at h
              obtain ⟨NM39, ehc6, gM39⟩ := zF213_r n hv35 gM36 hc6
              rw [ehc6]
              dsimp only
              exact zJ210_95_r n _ _ hgg _ _ hrec6 hx2 hx3 hx4 hx5 gM39 h
      · rw [if_neg w3] at h
        cases h
    · rw [if_neg q2] at h
      rw [if_neg (fun z => q2 (Iff.rfl.mp z))]
      cases h
def zJ210_57 (n : Nat) (zgg : Int → Int → Int → ZM → Option (Int × ZM)) (zrec6 : Int → Int → Int → Int → ZM → Option (Int × ZM)) (x2 : Int) (x3 : Int) (x4 : Int) (x5 : Int) (M : ZM) : Option (Int × ZM) :=
  match M.2.1 31 1 with | some p10 => (if isD p10 then (match zF115 n p10 x4 M with | some (v13, M14) => (if v13 = 0 then (zJ210_101 n zgg zrec6 x2 x3 x4 x5 M14) else (zJ210_69 n zgg zrec6 x2 x3 x4 x5 M14)) | none => none) else (none)) | none => (none)
set_option maxRecDepth 100000 in
set_option maxHeartbeats 4000000 in
theorem zJ210_57_r (n : Nat) (gg : Int32 → Int32 → Int32 → Mem → Option (Int32 × Mem)) (zgg : Int → Int → Int → ZM → Option (Int × ZM)) (hgg : ∀ {Y1 : Int32} {y1 : Int} (_ : rp Y1 y1) {Y2 : Int32} {y2 : Int} (_ : rp Y2 y2) {Y3 : Int32} {y3 : Int} (_ : rp Y3 y3) {M : Mem} {m : ZM} (_ : rm M m) {r : Int} {m' : ZM} (_ : zgg y1 y2 y3 m = some (r, m')), sI (gg Y1 Y2 Y3 M) r m') (rec6 : Int32 → Int32 → Int32 → Int32 → Mem → Option (Int32 × Mem)) (zrec6 : Int → Int → Int → Int → ZM → Option (Int × ZM)) (hrec6 : ∀ {Y1 : Int32} {y1 : Int} (_ : rp Y1 y1) {Y2 : Int32} {y2 : Int} (_ : rp Y2 y2) {Y3 : Int32} {y3 : Int} (_ : rp Y3 y3) {Y4 : Int32} {y4 : Int} (_ : rp Y4 y4) {M : Mem} {m : ZM} (_ : rm M m) {r : Int} {m' : ZM} (_ : zrec6 y1 y2 y3 y4 m = some (r, m')), sI (rec6 Y1 Y2 Y3 Y4 M) r m') {X2_ : Int32} {x2 : Int} (hx2 : rp X2_ x2) {X3_ : Int32} {x3 : Int} (hx3 : rp X3_ x3) {X4_ : Int32} {x4 : Int} (hx4 : rp X4_ x4) {X5_ : Int32} {x5 : Int} (hx5 : rp X5_ x5) {M_ : Mem} {M : ZM} (gM : rm M_ M) {r : Int} {m' : ZM} (h : zJ210_57 n zgg zrec6 x2 x3 x4 x5 M = some (r, m')) : sI (J210_57 n gg rec6 X2_ X3_ X4_ X5_ M_) r m' := by
  unfold zJ210_57 at h
  unfold J210_57
  rw [rm_rf gM 31 1]
  cases hq1 : M.2.1 31 1 with
  | none =>
    rw [hq1] at h
    dsimp only at h ⊢
    cases h
  | some p10 =>
    rw [hq1] at h
    dsimp only at h ⊢
    by_cases q2 : isD p10
    · rw [if_pos q2] at h
      rw [if_pos (Iff.rfl.mpr q2)]
      cases hc3 : zF115 n p10 x4 M with
      | none => rw [hc3] at h; cases h
      | some w =>
        obtain ⟨v13, M14⟩ := w
        rw [hc3] at h
        dsimp only at h
        obtain ⟨V13, NM14, ehc3, hv13, gM14⟩ := zF115_r n p10 hx4 gM hc3
        rw [ehc3]
        dsimp only
        by_cases q4 : v13 = 0
        · rw [if_pos q4] at h
          rw [if_pos ((rp_eq hv13 (show rp 0 0 from rfl)).mpr q4)]
          exact zJ210_101_r n _ _ hgg _ _ hrec6 hx2 hx3 hx4 hx5 gM14 h
        · rw [if_neg q4] at h
          rw [if_neg (fun z => q4 ((rp_eq hv13 (show rp 0 0 from rfl)).mp z))]
          exact zJ210_69_r n _ _ hgg _ _ hrec6 hx2 hx3 hx4 hx5 gM14 h
    · rw [if_neg q2] at h
      rw [if_neg (fun z => q2 (Iff.rfl.mp z))]
      cases h
def zJ210_31 (n : Nat) (zgg : Int → Int → Int → ZM → Option (Int × ZM)) (zrec6 : Int → Int → Int → Int → ZM → Option (Int × ZM)) (x2 : Int) (x3 : Int) (x4 : Int) (x5 : Int) (M : ZM) : Option (Int × ZM) :=
  match zG211 n zgg x4 x3 M with | some (v41, M42) => (if v41 = 0 then (some (0, M42)) else (match M42.2.1 31 1 with | some p45 => (if isD p45 then (match zF119 n p45 x4 M42 with | some (v48, M49) => (zJ210_124 n zgg zrec6 x2 x3 v48 x5 M49) | none => none) else (none)) | none => (none))) | none => none
set_option maxRecDepth 100000 in
set_option maxHeartbeats 4000000 in
theorem zJ210_31_r (n : Nat) (gg : Int32 → Int32 → Int32 → Mem → Option (Int32 × Mem)) (zgg : Int → Int → Int → ZM → Option (Int × ZM)) (hgg : ∀ {Y1 : Int32} {y1 : Int} (_ : rp Y1 y1) {Y2 : Int32} {y2 : Int} (_ : rp Y2 y2) {Y3 : Int32} {y3 : Int} (_ : rp Y3 y3) {M : Mem} {m : ZM} (_ : rm M m) {r : Int} {m' : ZM} (_ : zgg y1 y2 y3 m = some (r, m')), sI (gg Y1 Y2 Y3 M) r m') (rec6 : Int32 → Int32 → Int32 → Int32 → Mem → Option (Int32 × Mem)) (zrec6 : Int → Int → Int → Int → ZM → Option (Int × ZM)) (hrec6 : ∀ {Y1 : Int32} {y1 : Int} (_ : rp Y1 y1) {Y2 : Int32} {y2 : Int} (_ : rp Y2 y2) {Y3 : Int32} {y3 : Int} (_ : rp Y3 y3) {Y4 : Int32} {y4 : Int} (_ : rp Y4 y4) {M : Mem} {m : ZM} (_ : rm M m) {r : Int} {m' : ZM} (_ : zrec6 y1 y2 y3 y4 m = some (r, m')), sI (rec6 Y1 Y2 Y3 Y4 M) r m') {X2_ : Int32} {x2 : Int} (hx2 : rp X2_ x2) {X3_ : Int32} {x3 : Int} (hx3 : rp X3_ x3) {X4_ : Int32} {x4 : Int} (hx4 : rp X4_ x4) {X5_ : Int32} {x5 : Int} (hx5 : rp X5_ x5) {M_ : Mem} {M : ZM} (gM : rm M_ M) {r : Int} {m' : ZM} (h : zJ210_31 n zgg zrec6 x2 x3 x4 x5 M = some (r, m')) : sI (J210_31 n gg rec6 X2_ X3_ X4_ X5_ M_) r m' := by
  unfold zJ210_31 at h
  unfold J210_31
  cases hc1 : zG211 n zgg x4 x3 M with
  | none => rw [hc1] at h; cases h
  | some w =>
    obtain ⟨v41, M42⟩ := w
    rw [hc1] at h
    dsimp only at h
    obtain ⟨V41, NM42, ehc1, hv41, gM42⟩ := zG211_r n _ _ hgg hx4 hx3 gM hc1
    rw [ehc1]
    dsimp only
    by_cases q2 : v41 = 0
    · rw [if_pos q2] at h
      rw [if_pos ((rp_eq hv41 (show rp 0 0 from rfl)).mpr q2)]
      obtain ⟨rfl, rfl⟩ := Prod.mk.inj (Option.some.inj h)
      exact ⟨_, _, rfl, (show rp 0 0 from rfl), gM42⟩
    · rw [if_neg q2] at h
      rw [if_neg (fun z => q2 ((rp_eq hv41 (show rp 0 0 from rfl)).mp z))]
      rw [rm_rf gM42 31 1]
      cases hq3 : M42.2.1 31 1 with
      | none =>
        rw [hq3] at h
        dsimp only at h ⊢
        cases h
      | some p45 =>
        rw [hq3] at h
        dsimp only at h ⊢
        by_cases q4 : isD p45
        · rw [if_pos q4] at h
          rw [if_pos (Iff.rfl.mpr q4)]
          cases hc5 : zF119 n p45 x4 M42 with
          | none => rw [hc5] at h; cases h
          | some w =>
            obtain ⟨v48, M49⟩ := w
            rw [hc5] at h
            dsimp only at h
            obtain ⟨V48, NM49, ehc5, hv48, gM49⟩ := zF119_r n p45 hx4 gM42 hc5
            rw [ehc5]
            dsimp only
            exact zJ210_124_r n _ _ hgg _ _ hrec6 hx2 hx3 hv48 hx5 gM49 h
        · rw [if_neg q4] at h
          rw [if_neg (fun z => q4 (Iff.rfl.mp z))]
          cases h
def zL210_6 (n : Nat) (zgg : Int → Int → Int → ZM → Option (Int × ZM)) : Nat → Int → Int → Int → Int → ZM → Option (Int × ZM)
  | 0, _, _, _, _, _ => none
  | k + 1, x2, x3, x4, x5, M => if 120 ≤ x5 then (zJ210_130 n zgg M) else (if x2 ≤ x4 then (zJ210_130 n zgg M) else (match M.2.1 31 1 with | some p3 => (if isD p3 then (match zF116 n p3 x4 M with | some (v6, M7) => (if v6 = 0 then (zJ210_57 n zgg (zL210_6 n zgg k) x2 x3 x4 x5 M7) else (zJ210_31 n zgg (zL210_6 n zgg k) x2 x3 x4 x5 M7)) | none => none) else (none)) | none => (none)))
set_option maxRecDepth 100000 in
set_option maxHeartbeats 4000000 in
theorem zL210_6_r (n : Nat) (gg : Int32 → Int32 → Int32 → Mem → Option (Int32 × Mem)) (zgg : Int → Int → Int → ZM → Option (Int × ZM)) (hgg : ∀ {Y1 : Int32} {y1 : Int} (_ : rp Y1 y1) {Y2 : Int32} {y2 : Int} (_ : rp Y2 y2) {Y3 : Int32} {y3 : Int} (_ : rp Y3 y3) {M : Mem} {m : ZM} (_ : rm M m) {r : Int} {m' : ZM} (_ : zgg y1 y2 y3 m = some (r, m')), sI (gg Y1 Y2 Y3 M) r m') : ∀ (k : Nat) {X2_ : Int32} {x2 : Int} (hx2 : rp X2_ x2) {X3_ : Int32} {x3 : Int} (hx3 : rp X3_ x3) {X4_ : Int32} {x4 : Int} (hx4 : rp X4_ x4) {X5_ : Int32} {x5 : Int} (hx5 : rp X5_ x5) {M_ : Mem} {M : ZM} (gM : rm M_ M) {r : Int} {m' : ZM} (_ : zL210_6 n zgg k x2 x3 x4 x5 M = some (r, m')), sI (L210_6 n gg k X2_ X3_ X4_ X5_ M_) r m' := by
  intro k
  induction k with
  | zero => intro X2_ x2 hx2 X3_ x3 hx3 X4_ x4 hx4 X5_ x5 hx5 M_ M gM r m' h; cases h
  | succ k ih =>
    intro X2_ x2 hx2 X3_ x3 hx3 X4_ x4 hx4 X5_ x5 hx5 M_ M gM r m' h
    rw [zL210_6] at h
    rw [L210_6]
    by_cases q1 : 120 ≤ x5
    · rw [if_pos q1] at h
      rw [if_pos ((rp_le (show rp 120 120 from rfl) hx5).mpr q1)]
      exact zJ210_130_r n _ _ hgg gM h
    · rw [if_neg q1] at h
      rw [if_neg (fun z => q1 ((rp_le (show rp 120 120 from rfl) hx5).mp z))]
      by_cases q2 : x2 ≤ x4
      · rw [if_pos q2] at h
        rw [if_pos ((rp_le hx2 hx4).mpr q2)]
        exact zJ210_130_r n _ _ hgg gM h
      · rw [if_neg q2] at h
        rw [if_neg (fun z => q2 ((rp_le hx2 hx4).mp z))]
        rw [rm_rf gM 31 1]
        cases hq3 : M.2.1 31 1 with
        | none =>
          rw [hq3] at h
          dsimp only at h ⊢
          cases h
        | some p3 =>
          rw [hq3] at h
          dsimp only at h ⊢
          by_cases q4 : isD p3
          · rw [if_pos q4] at h
            rw [if_pos (Iff.rfl.mpr q4)]
            cases hc5 : zF116 n p3 x4 M with
            | none => rw [hc5] at h; cases h
            | some w =>
              obtain ⟨v6, M7⟩ := w
              rw [hc5] at h
              dsimp only at h
              obtain ⟨V6, NM7, ehc5, hv6, gM7⟩ := zF116_r n p3 hx4 gM hc5
              rw [ehc5]
              dsimp only
              by_cases q6 : v6 = 0
              · rw [if_pos q6] at h
                rw [if_pos ((rp_eq hv6 (show rp 0 0 from rfl)).mpr q6)]
                exact zJ210_57_r n _ _ hgg _ _ ih hx2 hx3 hx4 hx5 gM7 h
              · rw [if_neg q6] at h
                rw [if_neg (fun z => q6 ((rp_eq hv6 (show rp 0 0 from rfl)).mp z))]
                exact zJ210_31_r n _ _ hgg _ _ ih hx2 hx3 hx4 hx5 gM7 h
          · rw [if_neg q4] at h
            rw [if_neg (fun z => q4 (Iff.rfl.mp z))]
            cases h
/-- ArmExpander$Writer.writeParts -/
def zG210 (n : Nat) (zgg : Int → Int → Int → ZM → Option (Int × ZM)) (a0 : Int) (a1 : Int) (a2 : Int) (M : ZM) : Option (Int × ZM) :=
  zL210_6 n zgg n a1 a2 a0 0 M
set_option maxRecDepth 100000 in
set_option maxHeartbeats 4000000 in
theorem zG210_r (n : Nat) (gg : Int32 → Int32 → Int32 → Mem → Option (Int32 × Mem)) (zgg : Int → Int → Int → ZM → Option (Int × ZM)) (hgg : ∀ {Y1 : Int32} {y1 : Int} (_ : rp Y1 y1) {Y2 : Int32} {y2 : Int} (_ : rp Y2 y2) {Y3 : Int32} {y3 : Int} (_ : rp Y3 y3) {M : Mem} {m : ZM} (_ : rm M m) {r : Int} {m' : ZM} (_ : zgg y1 y2 y3 m = some (r, m')), sI (gg Y1 Y2 Y3 M) r m') {A0_ : Int32} {a0 : Int} (ha0 : rp A0_ a0) {A1_ : Int32} {a1 : Int} (ha1 : rp A1_ a1) {A2_ : Int32} {a2 : Int} (ha2 : rp A2_ a2) {M_ : Mem} {M : ZM} (gM : rm M_ M) {r : Int} {m' : ZM} (h : zG210 n zgg a0 a1 a2 M = some (r, m')) : sI (G210 n gg A0_ A1_ A2_ M_) r m' := by
  unfold zG210 at h
  unfold G210
  exact zL210_6_r n _ _ hgg n ha1 ha2 ha0 (show rp 0 0 from rfl) gM h
def zK210 (n : Nat) : Nat → Int → Int → Int → ZM → Option (Int × ZM)
  | 0, _, _, _, _ => none
  | k + 1, a0, a1, a2, M => zG210 n (zK210 n k) a0 a1 a2 M
set_option maxRecDepth 100000 in
set_option maxHeartbeats 4000000 in
theorem zK210_r (n : Nat) : ∀ (k : Nat) {A0_ : Int32} {a0 : Int} (ha0 : rp A0_ a0) {A1_ : Int32} {a1 : Int} (ha1 : rp A1_ a1) {A2_ : Int32} {a2 : Int} (ha2 : rp A2_ a2) {M_ : Mem} {M : ZM} (gM : rm M_ M) {r : Int} {m' : ZM} (_ : zK210 n k a0 a1 a2 M = some (r, m')), sI (K210 n k A0_ A1_ A2_ M_) r m' := by
  intro k
  induction k with
  | zero => intro A0_ a0 ha0 A1_ a1 ha1 A2_ a2 ha2 M_ M gM r m' h; cases h
  | succ k ih =>
    intro A0_ a0 ha0 A1_ a1 ha1 A2_ a2 ha2 M_ M gM r m' h
    rw [zK210] at h
    rw [K210]
    exact zG210_r n _ _ ih ha0 ha1 ha2 gM h
/-- ArmExpander$Writer.writeParts -/
def zF210 (n : Nat) (a0 : Int) (a1 : Int) (a2 : Int) (M : ZM) : Option (Int × ZM) :=
  zK210 n 4 a0 a1 a2 M
set_option maxRecDepth 100000 in
set_option maxHeartbeats 4000000 in
theorem zF210_r (n : Nat) {A0_ : Int32} {a0 : Int} (ha0 : rp A0_ a0) {A1_ : Int32} {a1 : Int} (ha1 : rp A1_ a1) {A2_ : Int32} {a2 : Int} (ha2 : rp A2_ a2) {M_ : Mem} {M : ZM} (gM : rm M_ M) {r : Int} {m' : ZM} (h : zF210 n a0 a1 a2 M = some (r, m')) : sI (F210 n A0_ A1_ A2_ M_) r m' := by
  unfold zF210 at h
  unfold F210
  exact zK210_r n 4 ha0 ha1 ha2 gM h
def zJ209_15 (n : Nat) (g0 : Nat) (M : ZM) : Option (Int × ZM) :=
  zlet (z_f M 32 0 2) (fun M4 => match zF113 n g0 (M4.1 31 2) M4 with | some (v5, M6) => (match zF114 n g0 (M6.1 31 2) M6 with | some (v8, M9) => (match zF210 n v5 v8 0 M9 with | some (v11, M12) => (if v11 = 0 ∨ v11 = 1 then (some (v11, M12)) else (none)) | none => none) | none => none) | none => none)
set_option maxRecDepth 100000 in
set_option maxHeartbeats 4000000 in
theorem zJ209_15_r (n : Nat) (g0 : Nat) {M_ : Mem} {M : ZM} (gM : rm M_ M) {r : Int} {m' : ZM} (h : zJ209_15 n g0 M = some (r, m')) : sI (J209_15 n g0 M_) r m' := by
  unfold zJ209_15 at h
  unfold J209_15
  have gM4 : rm (m_fill 32 (0 : Int32) 2 0 M_) (z_f M 32 0 2) := rm_f gM 32 (show rp 0 0 from rfl) 2
  rw [mlet]
  rw [zlet] at h
  generalize z_f M 32 0 2 = M4 at h gM4
  generalize m_fill 32 (0 : Int32) 2 0 M_ = NM4 at gM4 ⊢
  cases hc1 : zF113 n g0 (M4.1 31 2) M4 with
  | none => rw [hc1] at h; cases h
  | some w =>
    obtain ⟨v5, M6⟩ := w
    rw [hc1] at h
    dsimp only at h
    obtain ⟨V5, NM6, ehc1, hv5, gM6⟩ := zF113_r n g0 (rm_rd gM4 31 2) gM4 hc1
    rw [ehc1]
    dsimp only
    cases hc2 : zF114 n g0 (M6.1 31 2) M6 with
    | none => rw [hc2] at h; cases h
    | some w =>
      obtain ⟨v8, M9⟩ := w
      rw [hc2] at h
      dsimp only at h
      obtain ⟨V8, NM9, ehc2, hv8, gM9⟩ := zF114_r n g0 (rm_rd gM6 31 2) gM6 hc2
      rw [ehc2]
      dsimp only
      cases hc3 : zF210 n v5 v8 0 M9 with
      | none => rw [hc3] at h; cases h
      | some w =>
        obtain ⟨v11, M12⟩ := w
        rw [hc3] at h
        dsimp only at h
        obtain ⟨V11, NM12, ehc3, hv11, gM12⟩ := zF210_r n hv5 hv8 (show rp 0 0 from rfl) gM9 hc3
        rw [ehc3]
        dsimp only
        by_cases q4 : v11 = 0 ∨ v11 = 1
        · rw [if_pos q4] at h
          rw [if_pos ((or_congr (rp_eq hv11 (show rp 0 0 from rfl)) (rp_eq hv11 (show rp 1 1 from rfl))).mpr q4)]
          obtain ⟨rfl, rfl⟩ := Prod.mk.inj (Option.some.inj h)
          exact ⟨_, _, rfl, hv11, gM12⟩
        · rw [if_neg q4] at h
          rw [if_neg (fun z => q4 ((or_congr (rp_eq hv11 (show rp 0 0 from rfl)) (rp_eq hv11 (show rp 1 1 from rfl))).mp z))]
          cases h
/-- ArmExpander$Writer.write -/
def zF209 (n : Nat) (g0 : Nat) (a1 : Int) (a2 : Int) (M : ZM) : Option (Int × ZM) :=
  zlet (z_r M 31 1 (some g0)) (fun M1 => zlet (z_i M1 31 2 a1) (fun M2 => zlet (z_i M2 31 3 a2) (fun M3 => zJ209_15 n g0 M3)))
set_option maxRecDepth 100000 in
set_option maxHeartbeats 4000000 in
theorem zF209_r (n : Nat) (g0 : Nat) {A1_ : Int32} {a1 : Int} (ha1 : rp A1_ a1) {A2_ : Int32} {a2 : Int} (ha2 : rp A2_ a2) {M_ : Mem} {M : ZM} (gM : rm M_ M) {r : Int} {m' : ZM} (h : zF209 n g0 a1 a2 M = some (r, m')) : sI (F209 n g0 A1_ A2_ M_) r m' := by
  unfold zF209 at h
  unfold F209
  have gM1 : rm (m_r M_ 31 1 (some g0)) (z_r M 31 1 (some g0)) := rm_r gM 31 1 (some g0)
  rw [mlet]
  rw [zlet] at h
  generalize z_r M 31 1 (some g0) = M1 at h gM1
  generalize m_r M_ 31 1 (some g0) = NM1 at gM1 ⊢
  have gM2 : rm (m_i NM1 31 2 A1_) (z_i M1 31 2 a1) := rm_i gM1 31 2 ha1
  rw [mlet]
  rw [zlet] at h
  generalize z_i M1 31 2 a1 = M2 at h gM2
  generalize m_i NM1 31 2 A1_ = NM2 at gM2 ⊢
  have gM3 : rm (m_i NM2 31 3 A2_) (z_i M2 31 3 a2) := rm_i gM2 31 3 ha2
  rw [mlet]
  rw [zlet] at h
  generalize z_i M2 31 3 a2 = M3 at h gM3
  generalize m_i NM2 31 3 A2_ = NM3 at gM3 ⊢
  exact zJ209_15_r n g0 gM3 h
def zJ144_123 (n : Nat) (g0 : Nat) (M : ZM) : Option (Int × ZM) :=
  if rg ((M.1 12 6) + 1) then (zlet (z_i M 12 6 ((M.1 12 6) + 1)) (fun M57 => match zF146 n M57 with | some (v58, M59) => (some (0, M59)) | none => none)) else none
set_option maxRecDepth 100000 in
set_option maxHeartbeats 4000000 in
theorem zJ144_123_r (n : Nat) (g0 : Nat) {M_ : Mem} {M : ZM} (gM : rm M_ M) {r : Int} {m' : ZM} (h : zJ144_123 n g0 M = some (r, m')) : sI (J144_123 n g0 M_) r m' := by
  unfold zJ144_123 at h
  unfold J144_123
  by_cases w1 : rg ((M.1 12 6) + 1)
  · rw [if_pos w1] at h
    have gM57 : rm (m_i M_ 12 6 ((M_.1 12 6) + (1 : Int32))) (z_i M 12 6 ((M.1 12 6) + 1)) := rm_i gM 12 6 (rp_add (rp_iz (rm_rd gM 12 6)) (rp_iz (show rp 1 1 from rfl)) w1)
    rw [mlet]
    rw [zlet] at h
    generalize z_i M 12 6 ((M.1 12 6) + 1) = M57 at h gM57
    generalize m_i M_ 12 6 ((M_.1 12 6) + (1 : Int32)) = NM57 at gM57 ⊢
    cases hc2 : zF146 n M57 with
    | none => rw [hc2] at h; cases h
    | some w =>
      obtain ⟨v58, M59⟩ := w
      rw [hc2] at h
      dsimp only at h
      obtain ⟨NM59, ehc2, gM59⟩ := zF146_r n gM57 hc2
      rw [ehc2]
      dsimp only
      obtain ⟨rfl, rfl⟩ := Prod.mk.inj (Option.some.inj h)
      exact ⟨_, _, rfl, (show rp 0 0 from rfl), gM59⟩
  · rw [if_neg w1] at h
    cases h
def zJ144_99 (n : Nat) (g0 : Nat) (x2 : Int) (M : ZM) : Option (Int × ZM) :=
  match M.2.1 12 5 with | some p48 => (if isR p48 then (match zF167 n p48 M with | some (v51, M52) => (if v51 = 0 then (if (M52.1 12 6) < 0 ∨ 10 ≤ (M52.1 12 6) then (none) else (zlet (z_i M52 33 (Int.toNat (M52.1 12 6)) x2) (fun M56 => zJ144_123 n g0 M56))) else (some ((-2005), M52))) | none => none) else (none)) | none => (none)
set_option maxRecDepth 100000 in
set_option maxHeartbeats 4000000 in
theorem zJ144_99_r (n : Nat) (g0 : Nat) {X2_ : Int32} {x2 : Int} (hx2 : rp X2_ x2) {M_ : Mem} {M : ZM} (gM : rm M_ M) {r : Int} {m' : ZM} (h : zJ144_99 n g0 x2 M = some (r, m')) : sI (J144_99 n g0 X2_ M_) r m' := by
  unfold zJ144_99 at h
  unfold J144_99
  rw [rm_rf gM 12 5]
  cases hq1 : M.2.1 12 5 with
  | none =>
    rw [hq1] at h
    dsimp only at h ⊢
    cases h
  | some p48 =>
    rw [hq1] at h
    dsimp only at h ⊢
    by_cases q2 : isR p48
    · rw [if_pos q2] at h
      rw [if_pos (Iff.rfl.mpr q2)]
      cases hc3 : zF167 n p48 M with
      | none => rw [hc3] at h; cases h
      | some w =>
        obtain ⟨v51, M52⟩ := w
        rw [hc3] at h
        dsimp only at h
        obtain ⟨V51, NM52, ehc3, hv51, gM52⟩ := zF167_r n p48 gM hc3
        rw [ehc3]
        dsimp only
        by_cases q4 : v51 = 0
        · rw [if_pos q4] at h
          rw [if_pos ((rp_eq hv51 (show rp 0 0 from rfl)).mpr q4)]
          by_cases q5 : (M52.1 12 6) < 0 ∨ 10 ≤ (M52.1 12 6)
          · rw [if_pos q5] at h
            rw [if_pos ((rp_ob (rm_rd gM52 12 6) 10).mpr q5)]
            cases h
          · rw [if_neg q5] at h
            rw [if_neg (fun z => q5 ((rp_ob (rm_rd gM52 12 6) 10).mp z))]
            have gM56 : rm (m_i NM52 33 ((NM52.1 12 6)).toNatClampNeg X2_) (z_i M52 33 (Int.toNat (M52.1 12 6)) x2) := rm_ix gM52 33 (rm_rd gM52 12 6) hx2
            rw [mlet]
            rw [zlet] at h
            generalize z_i M52 33 (Int.toNat (M52.1 12 6)) x2 = M56 at h gM56
            generalize m_i NM52 33 ((NM52.1 12 6)).toNatClampNeg X2_ = NM56 at gM56 ⊢
            exact zJ144_123_r n g0 gM56 h
        · rw [if_neg q4] at h
          rw [if_neg (fun z => q4 ((rp_eq hv51 (show rp 0 0 from rfl)).mp z))]
          obtain ⟨rfl, rfl⟩ := Prod.mk.inj (Option.some.inj h)
          exact ⟨_, _, rfl, (show rp (-2005) (-2005) from rfl), gM52⟩
    · rw [if_neg q2] at h
      rw [if_neg (fun z => q2 (Iff.rfl.mp z))]
      cases h
def zJ144_55 (n : Nat) (g0 : Nat) (x2 : Int) (x4 : Int) (M : ZM) : Option (Int × ZM) :=
  if rg ((M.1 12 6) + 1) then (match zF209 n g0 x2 ((M.1 12 6) + 1) M with | some (v32, M33) => (if v32 = 0 then (some ((-2003), M33)) else (match M33.2.1 12 5 with | some p36 => (if isR p36 then (match M33.2.1 12 4 with | some p39 => (if isR p39 then (match zF166 n p39 M33 with | some (v42, M43) => (if rg (x4 + 1) then (match zF169 n p36 p39 (x4 + 1) v42 M43 with | some (v45, M46) => (zJ144_99 n g0 x2 M46) | none => none) else none) | none => none) else (none)) | none => (none)) else (none)) | none => (none))) | none => none) else none
set_option maxRecDepth 100000 in
set_option maxHeartbeats 4000000 in
theorem zJ144_55_r (n : Nat) (g0 : Nat) {X2_ : Int32} {x2 : Int} (hx2 : rp X2_ x2) {X4_ : Int32} {x4 : Int} (hx4 : rp X4_ x4) {M_ : Mem} {M : ZM} (gM : rm M_ M) {r : Int} {m' : ZM} (h : zJ144_55 n g0 x2 x4 M = some (r, m')) : sI (J144_55 n g0 X2_ X4_ M_) r m' := by
  unfold zJ144_55 at h
  unfold J144_55
  by_cases w1 : rg ((M.1 12 6) + 1)
  · rw [if_pos w1] at h
    cases hc2 : zF209 n g0 x2 ((M.1 12 6) + 1) M with
    | none => rw [hc2] at h; cases h
    | some w =>
      obtain ⟨v32, M33⟩ := w
      rw [hc2] at h
      dsimp only at h
      obtain ⟨V32, NM33, ehc2, hv32, gM33⟩ := zF209_r n g0 hx2 (rp_add (rp_iz (rm_rd gM 12 6)) (rp_iz (show rp 1 1 from rfl)) w1) gM hc2
      rw [ehc2]
      dsimp only
      by_cases q3 : v32 = 0
      · rw [if_pos q3] at h
        rw [if_pos ((rp_eq hv32 (show rp 0 0 from rfl)).mpr q3)]
        obtain ⟨rfl, rfl⟩ := Prod.mk.inj (Option.some.inj h)
        exact ⟨_, _, rfl, (show rp (-2003) (-2003) from rfl), gM33⟩
      · rw [if_neg q3] at h
        rw [if_neg (fun z => q3 ((rp_eq hv32 (show rp 0 0 from rfl)).mp z))]
        rw [rm_rf gM33 12 5]
        cases hq4 : M33.2.1 12 5 with
        | none =>
          rw [hq4] at h
          dsimp only at h ⊢
          cases h
        | some p36 =>
          rw [hq4] at h
          dsimp only at h ⊢
          by_cases q5 : isR p36
          · rw [if_pos q5] at h
            rw [if_pos (Iff.rfl.mpr q5)]
            rw [rm_rf gM33 12 4]
            cases hq6 : M33.2.1 12 4 with
            | none =>
              rw [hq6] at h
              dsimp only at h ⊢
              cases h
            | some p39 =>
              rw [hq6] at h
              dsimp only at h ⊢
              by_cases q7 : isR p39
              · rw [if_pos q7] at h
                rw [if_pos (Iff.rfl.mpr q7)]
                cases hc8 : zF166 n p39 M33 with
                | none => rw [hc8] at h; cases h
                | some w =>
                  obtain ⟨v42, M43⟩ := w
                  rw [hc8] at h
                  dsimp only at h
                  obtain ⟨V42, NM43, ehc8, hv42, gM43⟩ := zF166_r n p39 gM33 hc8
                  rw [ehc8]
                  dsimp only
                  by_cases w9 : rg (x4 + 1)
                  · rw [if_pos w9] at h
                    cases hc10 : zF169 n p36 p39 (x4 + 1) v42 M43 with
                    | none => rw [hc10] at h; cases h
                    | some w =>
                      obtain ⟨v45, M46⟩ := w
                      rw [hc10] at h
                      dsimp only at h
                      obtain ⟨NM46, ehc10, gM46⟩ := zF169_r n p36 p39 (rp_add (rp_iz hx4) (rp_iz (show rp 1 1 from rfl)) w9) hv42 gM43 hc10
                      rw [ehc10]
                      dsimp only
                      exact zJ144_99_r n g0 hx2 gM46 h
                  · rw [if_neg w9] at h
                    cases h
              · rw [if_neg q7] at h
                rw [if_neg (fun z => q7 (Iff.rfl.mp z))]
                cases h
          · rw [if_neg q5] at h
            rw [if_neg (fun z => q5 (Iff.rfl.mp z))]
            cases h
  · rw [if_neg w1] at h
    cases h
def zJ144_33 (n : Nat) (g0 : Nat) (x2 : Int) (x4 : Int) (M : ZM) : Option (Int × ZM) :=
  match zF148 n M with | some (v17, M18) => (match v17 with | some p20 => (if p20 = 17 then (match M18.2.1 12 4 with | some p23 => (if isR p23 then (match M18.2.1 12 5 with | some p26 => (if isR p26 then (match zF208 n p23 p26 M18 with | some (v29, M30) => (zJ144_55 n g0 x2 x4 M30) | none => none) else (none)) | none => (none)) else (none)) | none => (none)) else (none)) | none => (none)) | none => none
set_option maxRecDepth 100000 in
set_option maxHeartbeats 4000000 in
theorem zJ144_33_r (n : Nat) (g0 : Nat) {X2_ : Int32} {x2 : Int} (hx2 : rp X2_ x2) {X4_ : Int32} {x4 : Int} (hx4 : rp X4_ x4) {M_ : Mem} {M : ZM} (gM : rm M_ M) {r : Int} {m' : ZM} (h : zJ144_33 n g0 x2 x4 M = some (r, m')) : sI (J144_33 n g0 X2_ X4_ M_) r m' := by
  unfold zJ144_33 at h
  unfold J144_33
  cases hc1 : zF148 n M with
  | none => rw [hc1] at h; cases h
  | some w =>
    obtain ⟨v17, M18⟩ := w
    rw [hc1] at h
    dsimp only at h
    obtain ⟨NM18, ehc1, gM18⟩ := zF148_r n gM hc1
    rw [ehc1]
    dsimp only
    cases hq2 : v17 with
    | none =>
      rw [hq2] at h
      dsimp only at h ⊢
      cases h
    | some p20 =>
      rw [hq2] at h
      dsimp only at h ⊢
      by_cases q3 : p20 = 17
      · rw [if_pos q3] at h
        rw [if_pos (Iff.rfl.mpr q3)]
        rw [rm_rf gM18 12 4]
        cases hq4 : M18.2.1 12 4 with
        | none =>
          rw [hq4] at h
          dsimp only at h ⊢
          cases h
        | some p23 =>
          rw [hq4] at h
          dsimp only at h ⊢
          by_cases q5 : isR p23
          · rw [if_pos q5] at h
            rw [if_pos (Iff.rfl.mpr q5)]
            rw [rm_rf gM18 12 5]
            cases hq6 : M18.2.1 12 5 with
            | none =>
              rw [hq6] at h
              dsimp only at h ⊢
              cases h
            | some p26 =>
              rw [hq6] at h
              dsimp only at h ⊢
              by_cases q7 : isR p26
              · rw [if_pos q7] at h
                rw [if_pos (Iff.rfl.mpr q7)]
                cases hc8 : zF208 n p23 p26 M18 with
                | none => rw [hc8] at h; cases h
                | some w =>
                  obtain ⟨v29, M30⟩ := w
                  rw [hc8] at h
                  dsimp only at h
                  obtain ⟨NM30, ehc8, gM30⟩ := zF208_r n p23 p26 gM18 hc8
                  rw [ehc8]
                  dsimp only
                  exact zJ144_55_r n g0 hx2 hx4 gM30 h
              · rw [if_neg q7] at h
                rw [if_neg (fun z => q7 (Iff.rfl.mp z))]
                cases h
          · rw [if_neg q5] at h
            rw [if_neg (fun z => q5 (Iff.rfl.mp z))]
            cases h
      · rw [if_neg q3] at h
        rw [if_neg (fun z => q3 (Iff.rfl.mp z))]
        cases h
def zJ144_20 (n : Nat) (g0 : Nat) (x2 : Int) (x3 : Int) (x4 : Int) (M : ZM) : Option (Int × ZM) :=
  match M.2.1 12 5 with | some p8 => (if isR p8 then (match M.2.1 12 4 with | some p11 => (if isR p11 then (match zF169 n p8 p11 0 x3 M with | some (v14, M15) => (zJ144_33 n g0 x2 x4 M15) | none => none) else (none)) | none => (none)) else (none)) | none => (none)
set_option maxRecDepth 100000 in
set_option maxHeartbeats 4000000 in
theorem zJ144_20_r (n : Nat) (g0 : Nat) {X2_ : Int32} {x2 : Int} (hx2 : rp X2_ x2) {X3_ : Int32} {x3 : Int} (hx3 : rp X3_ x3) {X4_ : Int32} {x4 : Int} (hx4 : rp X4_ x4) {M_ : Mem} {M : ZM} (gM : rm M_ M) {r : Int} {m' : ZM} (h : zJ144_20 n g0 x2 x3 x4 M = some (r, m')) : sI (J144_20 n g0 X2_ X3_ X4_ M_) r m' := by
  unfold zJ144_20 at h
  unfold J144_20
  rw [rm_rf gM 12 5]
  cases hq1 : M.2.1 12 5 with
  | none =>
    rw [hq1] at h
    dsimp only at h ⊢
    cases h
  | some p8 =>
    rw [hq1] at h
    dsimp only at h ⊢
    by_cases q2 : isR p8
    · rw [if_pos q2] at h
      rw [if_pos (Iff.rfl.mpr q2)]
      rw [rm_rf gM 12 4]
      cases hq3 : M.2.1 12 4 with
      | none =>
        rw [hq3] at h
        dsimp only at h ⊢
        cases h
      | some p11 =>
        rw [hq3] at h
        dsimp only at h ⊢
        by_cases q4 : isR p11
        · rw [if_pos q4] at h
          rw [if_pos (Iff.rfl.mpr q4)]
          cases hc5 : zF169 n p8 p11 0 x3 M with
          | none => rw [hc5] at h; cases h
          | some w =>
            obtain ⟨v14, M15⟩ := w
            rw [hc5] at h
            dsimp only at h
            obtain ⟨NM15, ehc5, gM15⟩ := zF169_r n p8 p11 (show rp 0 0 from rfl) hx3 gM hc5
            rw [ehc5]
            dsimp only
            exact zJ144_33_r n g0 hx2 hx4 gM15 h
        · rw [if_neg q4] at h
          rw [if_neg (fun z => q4 (Iff.rfl.mp z))]
          cases h
    · rw [if_neg q2] at h
      rw [if_neg (fun z => q2 (Iff.rfl.mp z))]
      cases h
/-- ArmExpander$Expander.replace -/
def zF144 (n : Nat) (g0 : Nat) (a1 : Int) (a2 : Int) (a3 : Int) (M : ZM) : Option (Int × ZM) :=
  if (M.1 12 6) < 10 then (match M.2.1 12 5 with | some p2 => (if isR p2 then (match zF165 n p2 M with | some (v5, M6) => (zJ144_20 n g0 a1 a2 a3 M6) | none => none) else (none)) | none => (none)) else (some ((-2004), M))
set_option maxRecDepth 100000 in
set_option maxHeartbeats 4000000 in
theorem zF144_r (n : Nat) (g0 : Nat) {A1_ : Int32} {a1 : Int} (ha1 : rp A1_ a1) {A2_ : Int32} {a2 : Int} (ha2 : rp A2_ a2) {A3_ : Int32} {a3 : Int} (ha3 : rp A3_ a3) {M_ : Mem} {M : ZM} (gM : rm M_ M) {r : Int} {m' : ZM} (h : zF144 n g0 a1 a2 a3 M = some (r, m')) : sI (F144 n g0 A1_ A2_ A3_ M_) r m' := by
  unfold zF144 at h
  unfold F144
  by_cases q1 : (M.1 12 6) < 10
  · rw [if_pos q1] at h
    rw [if_pos ((rp_lt (rm_rd gM 12 6) (show rp 10 10 from rfl)).mpr q1)]
    rw [rm_rf gM 12 5]
    cases hq2 : M.2.1 12 5 with
    | none =>
      rw [hq2] at h
      dsimp only at h ⊢
      cases h
    | some p2 =>
      rw [hq2] at h
      dsimp only at h ⊢
      by_cases q3 : isR p2
      · rw [if_pos q3] at h
        rw [if_pos (Iff.rfl.mpr q3)]
        cases hc4 : zF165 n p2 M with
        | none => rw [hc4] at h; cases h
        | some w =>
          obtain ⟨v5, M6⟩ := w
          rw [hc4] at h
          dsimp only at h
          obtain ⟨NM6, ehc4, gM6⟩ := zF165_r n p2 gM hc4
          rw [ehc4]
          dsimp only
          exact zJ144_20_r n g0 ha1 ha2 ha3 gM6 h
      · rw [if_neg q3] at h
        rw [if_neg (fun z => q3 (Iff.rfl.mp z))]
        cases h
  · rw [if_neg q1] at h
    rw [if_neg (fun z => q1 ((rp_lt (rm_rd gM 12 6) (show rp 10 10 from rfl)).mp z))]
    obtain ⟨rfl, rfl⟩ := Prod.mk.inj (Option.some.inj h)
    exact ⟨_, _, rfl, (show rp (-2004) (-2004) from rfl), gM⟩
def zJ158_81 (n : Nat) (zgg : Int → Int → ZM → Option (Int × ZM)) (s0 : Int) (M : ZM) : Option (Int × ZM) :=
  some (s0, M)
set_option maxRecDepth 100000 in
set_option maxHeartbeats 4000000 in
theorem zJ158_81_r (n : Nat) (gg : Int32 → Int32 → Mem → Option (Int32 × Mem)) (zgg : Int → Int → ZM → Option (Int × ZM)) (hgg : ∀ {Y1 : Int32} {y1 : Int} (_ : rp Y1 y1) {Y2 : Int32} {y2 : Int} (_ : rp Y2 y2) {M : Mem} {m : ZM} (_ : rm M m) {r : Int} {m' : ZM} (_ : zgg y1 y2 m = some (r, m')), sI (gg Y1 Y2 M) r m') {S0_ : Int32} {s0 : Int} (hs0 : rp S0_ s0) {M_ : Mem} {M : ZM} (gM : rm M_ M) {r : Int} {m' : ZM} (h : zJ158_81 n zgg s0 M = some (r, m')) : sI (J158_81 n gg S0_ M_) r m' := by
  unfold zJ158_81 at h
  unfold J158_81
  obtain ⟨rfl, rfl⟩ := Prod.mk.inj (Option.some.inj h)
  exact ⟨_, _, rfl, hs0, gM⟩
def zJ158_80 (n : Nat) (zgg : Int → Int → ZM → Option (Int × ZM)) (M : ZM) : Option (Int × ZM) :=
  zJ158_81 n zgg (-1) M
set_option maxRecDepth 100000 in
set_option maxHeartbeats 4000000 in
theorem zJ158_80_r (n : Nat) (gg : Int32 → Int32 → Mem → Option (Int32 × Mem)) (zgg : Int → Int → ZM → Option (Int × ZM)) (hgg : ∀ {Y1 : Int32} {y1 : Int} (_ : rp Y1 y1) {Y2 : Int32} {y2 : Int} (_ : rp Y2 y2) {M : Mem} {m : ZM} (_ : rm M m) {r : Int} {m' : ZM} (_ : zgg y1 y2 m = some (r, m')), sI (gg Y1 Y2 M) r m') {M_ : Mem} {M : ZM} (gM : rm M_ M) {r : Int} {m' : ZM} (h : zJ158_80 n zgg M = some (r, m')) : sI (J158_80 n gg M_) r m' := by
  unfold zJ158_80 at h
  unfold J158_80
  exact zJ158_81_r n _ _ hgg (show rp (-1) (-1) from rfl) gM h
