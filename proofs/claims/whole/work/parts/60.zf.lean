/-! The methods over whole numbers; written by program. -/
def zJ173_28 (n : Nat) (b : Nat) (zrec6 : Int → ZM → Option (Int × ZM)) (x2 : Int) (M : ZM) : Option (Int × ZM) :=
  if rg (x2 + 1) then (if (x2 + 1) < 0 ∨ 150 ≤ (x2 + 1) then (none) else (if (M.1 (b + 1) (Int.toNat (x2 + 1))) = 33 then (if rg (x2 + 2) then (if (x2 + 2) < 0 ∨ 150 ≤ (x2 + 2) then (none) else (match zF13 n (M.1 (b + 1) (Int.toNat (x2 + 2))) M with | some (v10, M11) => (if v10 = 0 then (zJ173_57 n b zrec6 x2 M11) else (zJ173_55 n b x2 M11)) | none => none)) else none) else (zJ173_57 n b zrec6 x2 M))) else none
set_option maxRecDepth 100000 in
set_option maxHeartbeats 4000000 in
theorem zJ173_28_r (n : Nat) (b : Nat) (rec6 : Int32 → Mem → Option (Int32 × Mem)) (zrec6 : Int → ZM → Option (Int × ZM)) (hrec6 : ∀ {Y1 : Int32} {y1 : Int} (_ : rp Y1 y1) {M : Mem} {m : ZM} (_ : rm M m) {r : Int} {m' : ZM} (_ : zrec6 y1 m = some (r, m')), sI (rec6 Y1 M) r m') {X2_ : Int32} {x2 : Int} (hx2 : rp X2_ x2) {M_ : Mem} {M : ZM} (gM : rm M_ M) {r : Int} {m' : ZM} (h : zJ173_28 n b zrec6 x2 M = some (r, m')) : sI (J173_28 n b rec6 X2_ M_) r m' := by
  unfold zJ173_28 at h
  unfold J173_28
  by_cases w1 : rg (x2 + 1)
  · rw [if_pos w1] at h
    by_cases q2 : (x2 + 1) < 0 ∨ 150 ≤ (x2 + 1)
    · rw [if_pos q2] at h
      rw [if_pos ((rp_ob (rp_add (rp_iz hx2) (rp_iz (show rp 1 1 from rfl)) w1) 150).mpr q2)]
      cases h
    · rw [if_neg q2] at h
      rw [if_neg (fun z => q2 ((rp_ob (rp_add (rp_iz hx2) (rp_iz (show rp 1 1 from rfl)) w1) 150).mp z))]
      by_cases q3 : (M.1 (b + 1) (Int.toNat (x2 + 1))) = 33
      · rw [if_pos q3] at h
        rw [if_pos ((rp_eq (rm_rdx gM (b + 1) (rp_add (rp_iz hx2) (rp_iz (show rp 1 1 from rfl)) w1)) (show rp 33 33 from rfl)).mpr q3)]
        by_cases w4 : rg (x2 + 2)
        · rw [if_pos w4] at h
          by_cases q5 : (x2 + 2) < 0 ∨ 150 ≤ (x2 + 2)
          · rw [if_pos q5] at h
            rw [if_pos ((rp_ob (rp_add (rp_iz hx2) (rp_iz (show rp 2 2 from rfl)) w4) 150).mpr q5)]
            cases h
          · rw [if_neg q5] at h
            rw [if_neg (fun z => q5 ((rp_ob (rp_add (rp_iz hx2) (rp_iz (show rp 2 2 from rfl)) w4) 150).mp z))]
            cases hc6 : zF13 n (M.1 (b + 1) (Int.toNat (x2 + 2))) M with
            | none => rw [hc6] at h; cases h
            | some w =>
              obtain ⟨v10, M11⟩ := w
              rw [hc6] at h
              dsimp only at h
              obtain ⟨V10, NM11, ehc6, hv10, gM11⟩ := zF13_r n (rm_rdx gM (b + 1) (rp_add (rp_iz hx2) (rp_iz (show rp 2 2 from rfl)) w4)) gM hc6
              rw [ehc6]
              dsimp only
              by_cases q7 : v10 = 0
              · rw [if_pos q7] at h
                rw [if_pos ((rp_eq hv10 (show rp 0 0 from rfl)).mpr q7)]
                exact zJ173_57_r n b _ _ hrec6 hx2 gM11 h
              · rw [if_neg q7] at h
                rw [if_neg (fun z => q7 ((rp_eq hv10 (show rp 0 0 from rfl)).mp z))]
                exact zJ173_55_r n b hx2 gM11 h
        · rw [if_neg w4] at h
          cases h
      · rw [if_neg q3] at h
        rw [if_neg (fun z => q3 ((rp_eq (rm_rdx gM (b + 1) (rp_add (rp_iz hx2) (rp_iz (show rp 1 1 from rfl)) w1)) (show rp 33 33 from rfl)).mp z))]
        exact zJ173_57_r n b _ _ hrec6 hx2 gM h
  · rw [if_neg w1] at h
    cases h
def zL173_6 (n : Nat) (b : Nat) : Nat → Int → ZM → Option (Int × ZM)
  | 0, _, _ => none
  | k + 1, x2, M => if rg (x2 + 2) then (if (M.1 b 2) ≤ (x2 + 2) then (some ((-1), M)) else (if x2 < 0 ∨ 150 ≤ x2 then (none) else (match zF11 n (M.1 (b + 1) (Int.toNat x2)) M with | some (v3, M4) => (if v3 = 0 then (zJ173_57 n b (zL173_6 n b k) x2 M4) else (zJ173_28 n b (zL173_6 n b k) x2 M4)) | none => none))) else none
set_option maxRecDepth 100000 in
set_option maxHeartbeats 4000000 in
theorem zL173_6_r (n : Nat) (b : Nat) : ∀ (k : Nat) {X2_ : Int32} {x2 : Int} (hx2 : rp X2_ x2) {M_ : Mem} {M : ZM} (gM : rm M_ M) {r : Int} {m' : ZM} (_ : zL173_6 n b k x2 M = some (r, m')), sI (L173_6 n b k X2_ M_) r m' := by
  intro k
  induction k with
  | zero => intro X2_ x2 hx2 M_ M gM r m' h; cases h
  | succ k ih =>
    intro X2_ x2 hx2 M_ M gM r m' h
    rw [zL173_6] at h
    rw [L173_6]
    by_cases w1 : rg (x2 + 2)
    · rw [if_pos w1] at h
      by_cases q2 : (M.1 b 2) ≤ (x2 + 2)
      · rw [if_pos q2] at h
        rw [if_pos ((rp_le (rm_rd gM b 2) (rp_add (rp_iz hx2) (rp_iz (show rp 2 2 from rfl)) w1)).mpr q2)]
        obtain ⟨rfl, rfl⟩ := Prod.mk.inj (Option.some.inj h)
        exact ⟨_, _, rfl, (show rp (-1) (-1) from rfl), gM⟩
      · rw [if_neg q2] at h
        rw [if_neg (fun z => q2 ((rp_le (rm_rd gM b 2) (rp_add (rp_iz hx2) (rp_iz (show rp 2 2 from rfl)) w1)).mp z))]
        by_cases q3 : x2 < 0 ∨ 150 ≤ x2
        · rw [if_pos q3] at h
          rw [if_pos ((rp_ob hx2 150).mpr q3)]
          cases h
        · rw [if_neg q3] at h
          rw [if_neg (fun z => q3 ((rp_ob hx2 150).mp z))]
          cases hc4 : zF11 n (M.1 (b + 1) (Int.toNat x2)) M with
          | none => rw [hc4] at h; cases h
          | some w =>
            obtain ⟨v3, M4⟩ := w
            rw [hc4] at h
            dsimp only at h
            obtain ⟨V3, NM4, ehc4, hv3, gM4⟩ := zF11_r n (rm_rdx gM (b + 1) hx2) gM hc4
            rw [ehc4]
            dsimp only
            by_cases q5 : v3 = 0
            · rw [if_pos q5] at h
              rw [if_pos ((rp_eq hv3 (show rp 0 0 from rfl)).mpr q5)]
              exact zJ173_57_r n b _ _ ih hx2 gM4 h
            · rw [if_neg q5] at h
              rw [if_neg (fun z => q5 ((rp_eq hv3 (show rp 0 0 from rfl)).mp z))]
              exact zJ173_28_r n b _ _ ih hx2 gM4 h
    · rw [if_neg w1] at h
      cases h
/-- ArmExpander$Row.callFrom -/
def zF173 (n : Nat) (b : Nat) (a0 : Int) (M : ZM) : Option (Int × ZM) :=
  zL173_6 n b n (if 0 < a0 then a0 else 0) M
set_option maxRecDepth 100000 in
set_option maxHeartbeats 4000000 in
theorem zF173_r (n : Nat) (b : Nat) {A0_ : Int32} {a0 : Int} (ha0 : rp A0_ a0) {M_ : Mem} {M : ZM} (gM : rm M_ M) {r : Int} {m' : ZM} (h : zF173 n b a0 M = some (r, m')) : sI (F173 n b A0_ M_) r m' := by
  unfold zF173 at h
  unfold F173
  exact zL173_6_r n b n (rp_ite (rp_lt (show rp 0 0 from rfl) ha0) ha0 (show rp 0 0 from rfl)) gM h
def zJ175_29 (n : Nat) (b : Nat) (s0 : Int) (M : ZM) : Option (Int × ZM) :=
  if s0 = 0 ∨ s0 = 1 then (some (s0, M)) else (none)
set_option maxRecDepth 100000 in
set_option maxHeartbeats 4000000 in
theorem zJ175_29_r (n : Nat) (b : Nat) {S0_ : Int32} {s0 : Int} (hs0 : rp S0_ s0) {M_ : Mem} {M : ZM} (gM : rm M_ M) {r : Int} {m' : ZM} (h : zJ175_29 n b s0 M = some (r, m')) : sI (J175_29 n b S0_ M_) r m' := by
  unfold zJ175_29 at h
  unfold J175_29
  by_cases q1 : s0 = 0 ∨ s0 = 1
  · rw [if_pos q1] at h
    rw [if_pos ((or_congr (rp_eq hs0 (show rp 0 0 from rfl)) (rp_eq hs0 (show rp 1 1 from rfl))).mpr q1)]
    obtain ⟨rfl, rfl⟩ := Prod.mk.inj (Option.some.inj h)
    exact ⟨_, _, rfl, hs0, gM⟩
  · rw [if_neg q1] at h
    rw [if_neg (fun z => q1 ((or_congr (rp_eq hs0 (show rp 0 0 from rfl)) (rp_eq hs0 (show rp 1 1 from rfl))).mp z))]
    cases h
def zJ175_28 (n : Nat) (b : Nat) (M : ZM) : Option (Int × ZM) :=
  zJ175_29 n b 0 M
set_option maxRecDepth 100000 in
set_option maxHeartbeats 4000000 in
theorem zJ175_28_r (n : Nat) (b : Nat) {M_ : Mem} {M : ZM} (gM : rm M_ M) {r : Int} {m' : ZM} (h : zJ175_28 n b M = some (r, m')) : sI (J175_28 n b M_) r m' := by
  unfold zJ175_28 at h
  unfold J175_28
  exact zJ175_29_r n b (show rp 0 0 from rfl) gM h
def zJ175_24 (n : Nat) (b : Nat) (M : ZM) : Option (Int × ZM) :=
  zJ175_29 n b 1 M
set_option maxRecDepth 100000 in
set_option maxHeartbeats 4000000 in
theorem zJ175_24_r (n : Nat) (b : Nat) {M_ : Mem} {M : ZM} (gM : rm M_ M) {r : Int} {m' : ZM} (h : zJ175_24 n b M = some (r, m')) : sI (J175_24 n b M_) r m' := by
  unfold zJ175_24 at h
  unfold J175_24
  exact zJ175_29_r n b (show rp 1 1 from rfl) gM h
/-- ArmExpander$Row.isBinder -/
def zF175 (n : Nat) (b : Nat) (a0 : Int) (M : ZM) : Option (Int × ZM) :=
  match zF170 n b a0 M with | some (v1, M2) => (match zF11 n v1 M2 with | some (v4, M5) => (if v4 = 0 then (zJ175_28 n b M5) else (if rg (a0 - 1) then (match zF170 n b (a0 - 1) M5 with | some (v9, M10) => (if v9 = 9903 then (zJ175_24 n b M10) else (zJ175_28 n b M10)) | none => none) else none)) | none => none) | none => none
set_option maxRecDepth 100000 in
set_option maxHeartbeats 4000000 in
theorem zF175_r (n : Nat) (b : Nat) {A0_ : Int32} {a0 : Int} (ha0 : rp A0_ a0) {M_ : Mem} {M : ZM} (gM : rm M_ M) {r : Int} {m' : ZM} (h : zF175 n b a0 M = some (r, m')) : sI (F175 n b A0_ M_) r m' := by
  unfold zF175 at h
  unfold F175
  cases hc1 : zF170 n b a0 M with
  | none => rw [hc1] at h; cases h
  | some w =>
    obtain ⟨v1, M2⟩ := w
    rw [hc1] at h
    dsimp only at h
    obtain ⟨V1, NM2, ehc1, hv1, gM2⟩ := zF170_r n b ha0 gM hc1
    rw [ehc1]
    dsimp only
    cases hc2 : zF11 n v1 M2 with
    | none => rw [hc2] at h; cases h
    | some w =>
      obtain ⟨v4, M5⟩ := w
      rw [hc2] at h
      dsimp only at h
      obtain ⟨V4, NM5, ehc2, hv4, gM5⟩ := zF11_r n hv1 gM2 hc2
      rw [ehc2]
      dsimp only
      by_cases q3 : v4 = 0
      · rw [if_pos q3] at h
        rw [if_pos ((rp_eq hv4 (show rp 0 0 from rfl)).mpr q3)]
        exact zJ175_28_r n b gM5 h
      · rw [if_neg q3] at h
        rw [if_neg (fun z => q3 ((rp_eq hv4 (show rp 0 0 from rfl)).mp z))]
        by_cases w4 : rg (a0 - 1)
        · rw [if_pos w4] at h
          cases hc5 : zF170 n b (a0 - 1) M5 with
          | none => rw [hc5] at h; cases h
          | some w =>
            obtain ⟨v9, M10⟩ := w
            rw [hc5] at h
            dsimp only at h
            obtain ⟨V9, NM10, ehc5, hv9, gM10⟩ := zF170_r n b (rp_sub (rp_iz ha0) (rp_iz (show rp 1 1 from rfl)) w4) gM5 hc5
            rw [ehc5]
            dsimp only
            by_cases q6 : v9 = 9903
            · rw [if_pos q6] at h
              rw [if_pos ((rp_eq hv9 (show rp 9903 9903 from rfl)).mpr q6)]
              exact zJ175_24_r n b gM10 h
            · rw [if_neg q6] at h
              rw [if_neg (fun z => q6 ((rp_eq hv9 (show rp 9903 9903 from rfl)).mp z))]
              exact zJ175_28_r n b gM10 h
        · rw [if_neg w4] at h
          cases h
def zJ176_31 (n : Nat) (b : Nat) (s0 : Int) (M : ZM) : Option (Int × ZM) :=
  if s0 = 0 ∨ s0 = 1 then (some (s0, M)) else (none)
set_option maxRecDepth 100000 in
set_option maxHeartbeats 4000000 in
theorem zJ176_31_r (n : Nat) (b : Nat) {S0_ : Int32} {s0 : Int} (hs0 : rp S0_ s0) {M_ : Mem} {M : ZM} (gM : rm M_ M) {r : Int} {m' : ZM} (h : zJ176_31 n b s0 M = some (r, m')) : sI (J176_31 n b S0_ M_) r m' := by
  unfold zJ176_31 at h
  unfold J176_31
  by_cases q1 : s0 = 0 ∨ s0 = 1
  · rw [if_pos q1] at h
    rw [if_pos ((or_congr (rp_eq hs0 (show rp 0 0 from rfl)) (rp_eq hs0 (show rp 1 1 from rfl))).mpr q1)]
    obtain ⟨rfl, rfl⟩ := Prod.mk.inj (Option.some.inj h)
    exact ⟨_, _, rfl, hs0, gM⟩
  · rw [if_neg q1] at h
    rw [if_neg (fun z => q1 ((or_congr (rp_eq hs0 (show rp 0 0 from rfl)) (rp_eq hs0 (show rp 1 1 from rfl))).mp z))]
    cases h
def zJ176_26 (n : Nat) (b : Nat) (M : ZM) : Option (Int × ZM) :=
  zJ176_31 n b 1 M
set_option maxRecDepth 100000 in
set_option maxHeartbeats 4000000 in
theorem zJ176_26_r (n : Nat) (b : Nat) {M_ : Mem} {M : ZM} (gM : rm M_ M) {r : Int} {m' : ZM} (h : zJ176_26 n b M = some (r, m')) : sI (J176_26 n b M_) r m' := by
  unfold zJ176_26 at h
  unfold J176_26
  exact zJ176_31_r n b (show rp 1 1 from rfl) gM h
def zJ176_30 (n : Nat) (b : Nat) (M : ZM) : Option (Int × ZM) :=
  zJ176_31 n b 0 M
set_option maxRecDepth 100000 in
set_option maxHeartbeats 4000000 in
theorem zJ176_30_r (n : Nat) (b : Nat) {M_ : Mem} {M : ZM} (gM : rm M_ M) {r : Int} {m' : ZM} (h : zJ176_30 n b M = some (r, m')) : sI (J176_30 n b M_) r m' := by
  unfold zJ176_30 at h
  unfold J176_30
  exact zJ176_31_r n b (show rp 0 0 from rfl) gM h
def zJ176_13 (n : Nat) (b : Nat) (x1 : Int) (x2 : Int) (M : ZM) : Option (Int × ZM) :=
  match zF171 n b x1 M with | some (v8, M9) => (match zF171 n b x2 M9 with | some (v11, M12) => (if v8 = v11 then (zJ176_26 n b M12) else (zJ176_30 n b M12)) | none => none) | none => none
set_option maxRecDepth 100000 in
set_option maxHeartbeats 4000000 in
theorem zJ176_13_r (n : Nat) (b : Nat) {X1_ : Int32} {x1 : Int} (hx1 : rp X1_ x1) {X2_ : Int32} {x2 : Int} (hx2 : rp X2_ x2) {M_ : Mem} {M : ZM} (gM : rm M_ M) {r : Int} {m' : ZM} (h : zJ176_13 n b x1 x2 M = some (r, m')) : sI (J176_13 n b X1_ X2_ M_) r m' := by
  unfold zJ176_13 at h
  unfold J176_13
  cases hc1 : zF171 n b x1 M with
  | none => rw [hc1] at h; cases h
  | some w =>
    obtain ⟨v8, M9⟩ := w
    rw [hc1] at h
    dsimp only at h
    obtain ⟨V8, NM9, ehc1, hv8, gM9⟩ := zF171_r n b hx1 gM hc1
    rw [ehc1]
    dsimp only
    cases hc2 : zF171 n b x2 M9 with
    | none => rw [hc2] at h; cases h
    | some w =>
      obtain ⟨v11, M12⟩ := w
      rw [hc2] at h
      dsimp only at h
      obtain ⟨V11, NM12, ehc2, hv11, gM12⟩ := zF171_r n b hx2 gM9 hc2
      rw [ehc2]
      dsimp only
      by_cases q3 : v8 = v11
      · rw [if_pos q3] at h
        rw [if_pos ((rp_eq hv8 hv11).mpr q3)]
        exact zJ176_26_r n b gM12 h
      · rw [if_neg q3] at h
        rw [if_neg (fun z => q3 ((rp_eq hv8 hv11).mp z))]
        exact zJ176_30_r n b gM12 h
/-- ArmExpander$Row.isSameName -/
def zF176 (n : Nat) (b : Nat) (a0 : Int) (a1 : Int) (M : ZM) : Option (Int × ZM) :=
  match zF170 n b a0 M with | some (v1, M2) => (match zF170 n b a1 M2 with | some (v4, M5) => (if v1 = v4 then (zJ176_13 n b a0 a1 M5) else (zJ176_30 n b M5)) | none => none) | none => none
set_option maxRecDepth 100000 in
set_option maxHeartbeats 4000000 in
theorem zF176_r (n : Nat) (b : Nat) {A0_ : Int32} {a0 : Int} (ha0 : rp A0_ a0) {A1_ : Int32} {a1 : Int} (ha1 : rp A1_ a1) {M_ : Mem} {M : ZM} (gM : rm M_ M) {r : Int} {m' : ZM} (h : zF176 n b a0 a1 M = some (r, m')) : sI (F176 n b A0_ A1_ M_) r m' := by
  unfold zF176 at h
  unfold F176
  cases hc1 : zF170 n b a0 M with
  | none => rw [hc1] at h; cases h
  | some w =>
    obtain ⟨v1, M2⟩ := w
    rw [hc1] at h
    dsimp only at h
    obtain ⟨V1, NM2, ehc1, hv1, gM2⟩ := zF170_r n b ha0 gM hc1
    rw [ehc1]
    dsimp only
    cases hc2 : zF170 n b a1 M2 with
    | none => rw [hc2] at h; cases h
    | some w =>
      obtain ⟨v4, M5⟩ := w
      rw [hc2] at h
      dsimp only at h
      obtain ⟨V4, NM5, ehc2, hv4, gM5⟩ := zF170_r n b ha1 gM2 hc2
      rw [ehc2]
      dsimp only
      by_cases q3 : v1 = v4
      · rw [if_pos q3] at h
        rw [if_pos ((rp_eq hv1 hv4).mpr q3)]
        exact zJ176_13_r n b ha0 ha1 gM5 h
      · rw [if_neg q3] at h
        rw [if_neg (fun z => q3 ((rp_eq hv1 hv4).mp z))]
        exact zJ176_30_r n b gM5 h
/-- ArmExpander$Takings.clear -/
def zF178 (n : Nat) (M : ZM) : Option (Unit × ZM) :=
  zlet (z_i M 17 5 0) (fun M1 => some ((), M1))
set_option maxRecDepth 100000 in
set_option maxHeartbeats 4000000 in
theorem zF178_r (n : Nat) {M_ : Mem} {M : ZM} (gM : rm M_ M) {r : Unit} {m' : ZM} (h : zF178 n M = some (r, m')) : sU (F178 n M_) m' := by
  unfold zF178 at h
  unfold F178
  have gM1 : rm (m_i M_ 17 5 (0 : Int32)) (z_i M 17 5 0) := rm_i gM 17 5 (show rp 0 0 from rfl)
  rw [mlet]
  rw [zlet] at h
  generalize z_i M 17 5 0 = M1 at h gM1
  generalize m_i M_ 17 5 (0 : Int32) = NM1 at gM1 ⊢
  obtain ⟨_, rfl⟩ := Prod.mk.inj (Option.some.inj h)
  exact ⟨_, rfl, gM1⟩
def zJ179_61 (n : Nat) (M : ZM) : Option (Unit × ZM) :=
  some ((), M)
set_option maxRecDepth 100000 in
set_option maxHeartbeats 4000000 in
theorem zJ179_61_r (n : Nat) {M_ : Mem} {M : ZM} (gM : rm M_ M) {r : Unit} {m' : ZM} (h : zJ179_61 n M = some (r, m')) : sU (J179_61 n M_) m' := by
  unfold zJ179_61 at h
  unfold J179_61
  obtain ⟨_, rfl⟩ := Prod.mk.inj (Option.some.inj h)
  exact ⟨_, rfl, gM⟩
def zJ179_40 (n : Nat) (x4 : Int) (M : ZM) : Option (Unit × ZM) :=
  if (M.1 17 5) < 0 ∨ 150 ≤ (M.1 17 5) then (none) else (zlet (z_i M 21 (Int.toNat (M.1 17 5)) x4) (fun M9 => if rg ((M9.1 17 5) + 1) then (zlet (z_i M9 17 5 ((M9.1 17 5) + 1)) (fun M10 => zJ179_61 n M10)) else none))
set_option maxRecDepth 100000 in
set_option maxHeartbeats 4000000 in
theorem zJ179_40_r (n : Nat) {X4_ : Int32} {x4 : Int} (hx4 : rp X4_ x4) {M_ : Mem} {M : ZM} (gM : rm M_ M) {r : Unit} {m' : ZM} (h : zJ179_40 n x4 M = some (r, m')) : sU (J179_40 n X4_ M_) m' := by
  unfold zJ179_40 at h
  unfold J179_40
  by_cases q1 : (M.1 17 5) < 0 ∨ 150 ≤ (M.1 17 5)
  · rw [if_pos q1] at h
    rw [if_pos ((rp_ob (rm_rd gM 17 5) 150).mpr q1)]
    cases h
  · rw [if_neg q1] at h
    rw [if_neg (fun z => q1 ((rp_ob (rm_rd gM 17 5) 150).mp z))]
    have gM9 : rm (m_i M_ 21 ((M_.1 17 5)).toNatClampNeg X4_) (z_i M 21 (Int.toNat (M.1 17 5)) x4) := rm_ix gM 21 (rm_rd gM 17 5) hx4
    rw [mlet]
    rw [zlet] at h
    generalize z_i M 21 (Int.toNat (M.1 17 5)) x4 = M9 at h gM9
    generalize m_i M_ 21 ((M_.1 17 5)).toNatClampNeg X4_ = NM9 at gM9 ⊢
    by_cases w2 : rg ((M9.1 17 5) + 1)
    · rw [if_pos w2] at h
      have gM10 : rm (m_i NM9 17 5 ((NM9.1 17 5) + (1 : Int32))) (z_i M9 17 5 ((M9.1 17 5) + 1)) := rm_i gM9 17 5 (rp_add (rp_iz (rm_rd gM9 17 5)) (rp_iz (show rp 1 1 from rfl)) w2)
      rw [mlet]
      rw [zlet] at h
      generalize z_i M9 17 5 ((M9.1 17 5) + 1) = M10 at h gM10
      generalize m_i NM9 17 5 ((NM9.1 17 5) + (1 : Int32)) = NM10 at gM10 ⊢
      exact zJ179_61_r n gM10 h
    · rw [if_neg w2] at h
      cases h
def zJ179_20 (n : Nat) (x2 : Int) (x3 : Int) (x4 : Int) (M : ZM) : Option (Unit × ZM) :=
  if (M.1 17 5) < 0 ∨ 150 ≤ (M.1 17 5) then (none) else (zlet (z_i M 19 (Int.toNat (M.1 17 5)) x2) (fun M5 => if (M5.1 17 5) < 0 ∨ 150 ≤ (M5.1 17 5) then (none) else (zlet (z_i M5 20 (Int.toNat (M5.1 17 5)) x3) (fun M7 => zJ179_40 n x4 M7))))
set_option maxRecDepth 100000 in
set_option maxHeartbeats 4000000 in
theorem zJ179_20_r (n : Nat) {X2_ : Int32} {x2 : Int} (hx2 : rp X2_ x2) {X3_ : Int32} {x3 : Int} (hx3 : rp X3_ x3) {X4_ : Int32} {x4 : Int} (hx4 : rp X4_ x4) {M_ : Mem} {M : ZM} (gM : rm M_ M) {r : Unit} {m' : ZM} (h : zJ179_20 n x2 x3 x4 M = some (r, m')) : sU (J179_20 n X2_ X3_ X4_ M_) m' := by
  unfold zJ179_20 at h
  unfold J179_20
  by_cases q1 : (M.1 17 5) < 0 ∨ 150 ≤ (M.1 17 5)
  · rw [if_pos q1] at h
    rw [if_pos ((rp_ob (rm_rd gM 17 5) 150).mpr q1)]
    cases h
  · rw [if_neg q1] at h
    rw [if_neg (fun z => q1 ((rp_ob (rm_rd gM 17 5) 150).mp z))]
    have gM5 : rm (m_i M_ 19 ((M_.1 17 5)).toNatClampNeg X2_) (z_i M 19 (Int.toNat (M.1 17 5)) x2) := rm_ix gM 19 (rm_rd gM 17 5) hx2
    rw [mlet]
    rw [zlet] at h
    generalize z_i M 19 (Int.toNat (M.1 17 5)) x2 = M5 at h gM5
    generalize m_i M_ 19 ((M_.1 17 5)).toNatClampNeg X2_ = NM5 at gM5 ⊢
    by_cases q2 : (M5.1 17 5) < 0 ∨ 150 ≤ (M5.1 17 5)
    · rw [if_pos q2] at h
      rw [if_pos ((rp_ob (rm_rd gM5 17 5) 150).mpr q2)]
      cases h
    · rw [if_neg q2] at h
      rw [if_neg (fun z => q2 ((rp_ob (rm_rd gM5 17 5) 150).mp z))]
      have gM7 : rm (m_i NM5 20 ((NM5.1 17 5)).toNatClampNeg X3_) (z_i M5 20 (Int.toNat (M5.1 17 5)) x3) := rm_ix gM5 20 (rm_rd gM5 17 5) hx3
      rw [mlet]
      rw [zlet] at h
      generalize z_i M5 20 (Int.toNat (M5.1 17 5)) x3 = M7 at h gM7
      generalize m_i NM5 20 ((NM5.1 17 5)).toNatClampNeg X3_ = NM7 at gM7 ⊢
      exact zJ179_40_r n hx4 gM7 h
/-- ArmExpander$Takings.add -/
def zF179 (n : Nat) (a0 : Int) (a1 : Int) (a2 : Int) (a3 : Int) (M : ZM) : Option (Unit × ZM) :=
  if 150 ≤ (M.1 17 5) then (zJ179_61 n M) else (if (M.1 17 5) < 0 ∨ 150 ≤ (M.1 17 5) then (none) else (zlet (z_i M 18 (Int.toNat (M.1 17 5)) a0) (fun M3 => zJ179_20 n a1 a2 a3 M3)))
set_option maxRecDepth 100000 in
set_option maxHeartbeats 4000000 in
theorem zF179_r (n : Nat) {A0_ : Int32} {a0 : Int} (ha0 : rp A0_ a0) {A1_ : Int32} {a1 : Int} (ha1 : rp A1_ a1) {A2_ : Int32} {a2 : Int} (ha2 : rp A2_ a2) {A3_ : Int32} {a3 : Int} (ha3 : rp A3_ a3) {M_ : Mem} {M : ZM} (gM : rm M_ M) {r : Unit} {m' : ZM} (h : zF179 n a0 a1 a2 a3 M = some (r, m')) : sU (F179 n A0_ A1_ A2_ A3_ M_) m' := by
  unfold zF179 at h
  unfold F179
  by_cases q1 : 150 ≤ (M.1 17 5)
  · rw [if_pos q1] at h
    rw [if_pos ((rp_le (show rp 150 150 from rfl) (rm_rd gM 17 5)).mpr q1)]
    exact zJ179_61_r n gM h
  · rw [if_neg q1] at h
    rw [if_neg (fun z => q1 ((rp_le (show rp 150 150 from rfl) (rm_rd gM 17 5)).mp z))]
    by_cases q2 : (M.1 17 5) < 0 ∨ 150 ≤ (M.1 17 5)
    · rw [if_pos q2] at h
      rw [if_pos ((rp_ob (rm_rd gM 17 5) 150).mpr q2)]
      cases h
    · rw [if_neg q2] at h
      rw [if_neg (fun z => q2 ((rp_ob (rm_rd gM 17 5) 150).mp z))]
      have gM3 : rm (m_i M_ 18 ((M_.1 17 5)).toNatClampNeg A0_) (z_i M 18 (Int.toNat (M.1 17 5)) a0) := rm_ix gM 18 (rm_rd gM 17 5) ha0
      rw [mlet]
      rw [zlet] at h
      generalize z_i M 18 (Int.toNat (M.1 17 5)) a0 = M3 at h gM3
      generalize m_i M_ 18 ((M_.1 17 5)).toNatClampNeg A0_ = NM3 at gM3 ⊢
      exact zJ179_20_r n ha1 ha2 ha3 gM3 h
def zJ180_16 (n : Nat) (M : ZM) : Option (Unit × ZM) :=
  some ((), M)
set_option maxRecDepth 100000 in
set_option maxHeartbeats 4000000 in
theorem zJ180_16_r (n : Nat) {M_ : Mem} {M : ZM} (gM : rm M_ M) {r : Unit} {m' : ZM} (h : zJ180_16 n M = some (r, m')) : sU (J180_16 n M_) m' := by
  unfold zJ180_16 at h
  unfold J180_16
  obtain ⟨_, rfl⟩ := Prod.mk.inj (Option.some.inj h)
  exact ⟨_, rfl, gM⟩
/-- ArmExpander$Takings.setRounds -/
def zF180 (n : Nat) (a0 : Int) (a1 : Int) (M : ZM) : Option (Unit × ZM) :=
  if a0 < 0 then (zJ180_16 n M) else (if 4 ≤ a0 then (zJ180_16 n M) else (if a0 < 0 ∨ 4 ≤ a0 then (none) else (zlet (z_i M 22 (Int.toNat a0) a1) (fun M4 => zJ180_16 n M4))))
set_option maxRecDepth 100000 in
set_option maxHeartbeats 4000000 in
theorem zF180_r (n : Nat) {A0_ : Int32} {a0 : Int} (ha0 : rp A0_ a0) {A1_ : Int32} {a1 : Int} (ha1 : rp A1_ a1) {M_ : Mem} {M : ZM} (gM : rm M_ M) {r : Unit} {m' : ZM} (h : zF180 n a0 a1 M = some (r, m')) : sU (F180 n A0_ A1_ M_) m' := by
  unfold zF180 at h
  unfold F180
  by_cases q1 : a0 < 0
  · rw [if_pos q1] at h
    rw [if_pos ((rp_lt ha0 (show rp 0 0 from rfl)).mpr q1)]
    exact zJ180_16_r n gM h
  · rw [if_neg q1] at h
    rw [if_neg (fun z => q1 ((rp_lt ha0 (show rp 0 0 from rfl)).mp z))]
    by_cases q2 : 4 ≤ a0
    · rw [if_pos q2] at h
      rw [if_pos ((rp_le (show rp 4 4 from rfl) ha0).mpr q2)]
      exact zJ180_16_r n gM h
    · rw [if_neg q2] at h
      rw [if_neg (fun z => q2 ((rp_le (show rp 4 4 from rfl) ha0).mp z))]
      by_cases q3 : a0 < 0 ∨ 4 ≤ a0
      · rw [if_pos q3] at h
        rw [if_pos ((rp_ob ha0 4).mpr q3)]
        cases h
      · rw [if_neg q3] at h
        rw [if_neg (fun z => q3 ((rp_ob ha0 4).mp z))]
        have gM4 : rm (m_i M_ 22 (A0_).toNatClampNeg A1_) (z_i M 22 (Int.toNat a0) a1) := rm_ix gM 22 ha0 ha1
        rw [mlet]
        rw [zlet] at h
        generalize z_i M 22 (Int.toNat a0) a1 = M4 at h gM4
        generalize m_i M_ 22 (A0_).toNatClampNeg A1_ = NM4 at gM4 ⊢
        exact zJ180_16_r n gM4 h
def zJ181_19 (n : Nat) (s0 : Int) (M : ZM) : Option (Int × ZM) :=
  some (s0, M)
set_option maxRecDepth 100000 in
set_option maxHeartbeats 4000000 in
theorem zJ181_19_r (n : Nat) {S0_ : Int32} {s0 : Int} (hs0 : rp S0_ s0) {M_ : Mem} {M : ZM} (gM : rm M_ M) {r : Int} {m' : ZM} (h : zJ181_19 n s0 M = some (r, m')) : sI (J181_19 n S0_ M_) r m' := by
  unfold zJ181_19 at h
  unfold J181_19
  obtain ⟨rfl, rfl⟩ := Prod.mk.inj (Option.some.inj h)
  exact ⟨_, _, rfl, hs0, gM⟩
def zJ181_18 (n : Nat) (M : ZM) : Option (Int × ZM) :=
  zJ181_19 n 0 M
set_option maxRecDepth 100000 in
set_option maxHeartbeats 4000000 in
theorem zJ181_18_r (n : Nat) {M_ : Mem} {M : ZM} (gM : rm M_ M) {r : Int} {m' : ZM} (h : zJ181_18 n M = some (r, m')) : sI (J181_18 n M_) r m' := by
  unfold zJ181_18 at h
  unfold J181_18
  exact zJ181_19_r n (show rp 0 0 from rfl) gM h
/-- ArmExpander$Takings.roundsOf -/
def zF181 (n : Nat) (a0 : Int) (M : ZM) : Option (Int × ZM) :=
  if a0 < 0 then (zJ181_18 n M) else (if 4 ≤ a0 then (zJ181_18 n M) else (if a0 < 0 ∨ 4 ≤ a0 then (none) else (zJ181_19 n (M.1 22 (Int.toNat a0)) M)))
set_option maxRecDepth 100000 in
set_option maxHeartbeats 4000000 in
theorem zF181_r (n : Nat) {A0_ : Int32} {a0 : Int} (ha0 : rp A0_ a0) {M_ : Mem} {M : ZM} (gM : rm M_ M) {r : Int} {m' : ZM} (h : zF181 n a0 M = some (r, m')) : sI (F181 n A0_ M_) r m' := by
  unfold zF181 at h
  unfold F181
  by_cases q1 : a0 < 0
  · rw [if_pos q1] at h
    rw [if_pos ((rp_lt ha0 (show rp 0 0 from rfl)).mpr q1)]
    exact zJ181_18_r n gM h
  · rw [if_neg q1] at h
    rw [if_neg (fun z => q1 ((rp_lt ha0 (show rp 0 0 from rfl)).mp z))]
    by_cases q2 : 4 ≤ a0
    · rw [if_pos q2] at h
      rw [if_pos ((rp_le (show rp 4 4 from rfl) ha0).mpr q2)]
      exact zJ181_18_r n gM h
    · rw [if_neg q2] at h
      rw [if_neg (fun z => q2 ((rp_le (show rp 4 4 from rfl) ha0).mp z))]
      by_cases q3 : a0 < 0 ∨ 4 ≤ a0
      · rw [if_pos q3] at h
        rw [if_pos ((rp_ob ha0 4).mpr q3)]
        cases h
      · rw [if_neg q3] at h
        rw [if_neg (fun z => q3 ((rp_ob ha0 4).mp z))]
        exact zJ181_19_r n (rm_rdx gM 22 ha0) gM h
def zJ182_39 (n : Nat) (zrec5 : Int → Int → Int → Int → ZM → Option (Int × ZM)) (x1 : Int) (x2 : Int) (x3 : Int) (x4 : Int) (M : ZM) : Option (Int × ZM) :=
  if rg (x4 + 1) then (zrec5 x1 x2 x3 (x4 + 1) M) else none
set_option maxRecDepth 100000 in
set_option maxHeartbeats 4000000 in
theorem zJ182_39_r (n : Nat) (rec5 : Int32 → Int32 → Int32 → Int32 → Mem → Option (Int32 × Mem)) (zrec5 : Int → Int → Int → Int → ZM → Option (Int × ZM)) (hrec5 : ∀ {Y1 : Int32} {y1 : Int} (_ : rp Y1 y1) {Y2 : Int32} {y2 : Int} (_ : rp Y2 y2) {Y3 : Int32} {y3 : Int} (_ : rp Y3 y3) {Y4 : Int32} {y4 : Int} (_ : rp Y4 y4) {M : Mem} {m : ZM} (_ : rm M m) {r : Int} {m' : ZM} (_ : zrec5 y1 y2 y3 y4 m = some (r, m')), sI (rec5 Y1 Y2 Y3 Y4 M) r m') {X1_ : Int32} {x1 : Int} (hx1 : rp X1_ x1) {X2_ : Int32} {x2 : Int} (hx2 : rp X2_ x2) {X3_ : Int32} {x3 : Int} (hx3 : rp X3_ x3) {X4_ : Int32} {x4 : Int} (hx4 : rp X4_ x4) {M_ : Mem} {M : ZM} (gM : rm M_ M) {r : Int} {m' : ZM} (h : zJ182_39 n zrec5 x1 x2 x3 x4 M = some (r, m')) : sI (J182_39 n rec5 X1_ X2_ X3_ X4_ M_) r m' := by
  unfold zJ182_39 at h
  unfold J182_39
  by_cases w1 : rg (x4 + 1)
  · rw [if_pos w1] at h
    exact hrec5 hx1 hx2 hx3 (rp_add (rp_iz hx4) (rp_iz (show rp 1 1 from rfl)) w1) gM h
  · rw [if_neg w1] at h
    cases h
def zJ182_36 (n : Nat) (zrec5 : Int → Int → Int → Int → ZM → Option (Int × ZM)) (x1 : Int) (x2 : Int) (x3 : Int) (x4 : Int) (M : ZM) : Option (Int × ZM) :=
  if rg (x3 + 1) then (zJ182_39 n zrec5 x1 x2 (x3 + 1) x4 M) else none
set_option maxRecDepth 100000 in
set_option maxHeartbeats 4000000 in
theorem zJ182_36_r (n : Nat) (rec5 : Int32 → Int32 → Int32 → Int32 → Mem → Option (Int32 × Mem)) (zrec5 : Int → Int → Int → Int → ZM → Option (Int × ZM)) (hrec5 : ∀ {Y1 : Int32} {y1 : Int} (_ : rp Y1 y1) {Y2 : Int32} {y2 : Int} (_ : rp Y2 y2) {Y3 : Int32} {y3 : Int} (_ : rp Y3 y3) {Y4 : Int32} {y4 : Int} (_ : rp Y4 y4) {M : Mem} {m : ZM} (_ : rm M m) {r : Int} {m' : ZM} (_ : zrec5 y1 y2 y3 y4 m = some (r, m')), sI (rec5 Y1 Y2 Y3 Y4 M) r m') {X1_ : Int32} {x1 : Int} (hx1 : rp X1_ x1) {X2_ : Int32} {x2 : Int} (hx2 : rp X2_ x2) {X3_ : Int32} {x3 : Int} (hx3 : rp X3_ x3) {X4_ : Int32} {x4 : Int} (hx4 : rp X4_ x4) {M_ : Mem} {M : ZM} (gM : rm M_ M) {r : Int} {m' : ZM} (h : zJ182_36 n zrec5 x1 x2 x3 x4 M = some (r, m')) : sI (J182_36 n rec5 X1_ X2_ X3_ X4_ M_) r m' := by
  unfold zJ182_36 at h
  unfold J182_36
  by_cases w1 : rg (x3 + 1)
  · rw [if_pos w1] at h
    exact zJ182_39_r n _ _ hrec5 hx1 hx2 (rp_add (rp_iz hx3) (rp_iz (show rp 1 1 from rfl)) w1) hx4 gM h
  · rw [if_neg w1] at h
    cases h
def zL182_5 (n : Nat) : Nat → Int → Int → Int → Int → ZM → Option (Int × ZM)
  | 0, _, _, _, _, _ => none
  | k + 1, x1, x2, x3, x4, M => if (M.1 17 5) ≤ x4 then (some (x3, M)) else (if x4 < 0 ∨ 150 ≤ x4 then (none) else (if (M.1 18 (Int.toNat x4)) = x1 then (if (M.1 19 (Int.toNat x4)) = x2 then (zJ182_36 n (zL182_5 n k) x1 x2 x3 x4 M) else (zJ182_39 n (zL182_5 n k) x1 x2 x3 x4 M)) else (zJ182_39 n (zL182_5 n k) x1 x2 x3 x4 M)))
set_option maxRecDepth 100000 in
set_option maxHeartbeats 4000000 in
theorem zL182_5_r (n : Nat) : ∀ (k : Nat) {X1_ : Int32} {x1 : Int} (hx1 : rp X1_ x1) {X2_ : Int32} {x2 : Int} (hx2 : rp X2_ x2) {X3_ : Int32} {x3 : Int} (hx3 : rp X3_ x3) {X4_ : Int32} {x4 : Int} (hx4 : rp X4_ x4) {M_ : Mem} {M : ZM} (gM : rm M_ M) {r : Int} {m' : ZM} (_ : zL182_5 n k x1 x2 x3 x4 M = some (r, m')), sI (L182_5 n k X1_ X2_ X3_ X4_ M_) r m' := by
  intro k
  induction k with
  | zero => intro X1_ x1 hx1 X2_ x2 hx2 X3_ x3 hx3 X4_ x4 hx4 M_ M gM r m' h; cases h
  | succ k ih =>
    intro X1_ x1 hx1 X2_ x2 hx2 X3_ x3 hx3 X4_ x4 hx4 M_ M gM r m' h
    rw [zL182_5] at h
    rw [L182_5]
    by_cases q1 : (M.1 17 5) ≤ x4
    · rw [if_pos q1] at h
      rw [if_pos ((rp_le (rm_rd gM 17 5) hx4).mpr q1)]
      obtain ⟨rfl, rfl⟩ := Prod.mk.inj (Option.some.inj h)
      exact ⟨_, _, rfl, hx3, gM⟩
    · rw [if_neg q1] at h
      rw [if_neg (fun z => q1 ((rp_le (rm_rd gM 17 5) hx4).mp z))]
      by_cases q2 : x4 < 0 ∨ 150 ≤ x4
      · rw [if_pos q2] at h
        rw [if_pos ((rp_ob hx4 150).mpr q2)]
        cases h
      · rw [if_neg q2] at h
        rw [if_neg (fun z => q2 ((rp_ob hx4 150).mp z))]
        by_cases q3 : (M.1 18 (Int.toNat x4)) = x1
        · rw [if_pos q3] at h
          rw [if_pos ((rp_eq (rm_rdx gM 18 hx4) hx1).mpr q3)]
          rw [if_neg (fun z => q2 ((rp_ob hx4 150).mp z))]
          by_cases q4 : (M.1 19 (Int.toNat x4)) = x2
          · rw [if_pos q4] at h
            rw [if_pos ((rp_eq (rm_rdx gM 19 hx4) hx2).mpr q4)]
            exact zJ182_36_r n _ _ ih hx1 hx2 hx3 hx4 gM h
          · rw [if_neg q4] at h
            rw [if_neg (fun z => q4 ((rp_eq (rm_rdx gM 19 hx4) hx2).mp z))]
            exact zJ182_39_r n _ _ ih hx1 hx2 hx3 hx4 gM h
        · rw [if_neg q3] at h
          rw [if_neg (fun z => q3 ((rp_eq (rm_rdx gM 18 hx4) hx1).mp z))]
          exact zJ182_39_r n _ _ ih hx1 hx2 hx3 hx4 gM h
/-- ArmExpander$Takings.timesTaken -/
def zF182 (n : Nat) (a0 : Int) (a1 : Int) (M : ZM) : Option (Int × ZM) :=
  zL182_5 n n a0 a1 0 0 M
set_option maxRecDepth 100000 in
set_option maxHeartbeats 4000000 in
theorem zF182_r (n : Nat) {A0_ : Int32} {a0 : Int} (ha0 : rp A0_ a0) {A1_ : Int32} {a1 : Int} (ha1 : rp A1_ a1) {M_ : Mem} {M : ZM} (gM : rm M_ M) {r : Int} {m' : ZM} (h : zF182 n a0 a1 M = some (r, m')) : sI (F182 n A0_ A1_ M_) r m' := by
  unfold zF182 at h
  unfold F182
  exact zL182_5_r n n ha0 ha1 (show rp 0 0 from rfl) (show rp 0 0 from rfl) gM h
def zJ183_49 (n : Nat) (zrec6 : Int → Int → Int → Int → Int → ZM → Option (Int × ZM)) (x1 : Int) (x2 : Int) (x3 : Int) (x4 : Int) (x5 : Int) (M : ZM) : Option (Int × ZM) :=
  if rg (x5 + 1) then (zrec6 x1 x2 x3 x4 (x5 + 1) M) else none
set_option maxRecDepth 100000 in
set_option maxHeartbeats 4000000 in
theorem zJ183_49_r (n : Nat) (rec6 : Int32 → Int32 → Int32 → Int32 → Int32 → Mem → Option (Int32 × Mem)) (zrec6 : Int → Int → Int → Int → Int → ZM → Option (Int × ZM)) (hrec6 : ∀ {Y1 : Int32} {y1 : Int} (_ : rp Y1 y1) {Y2 : Int32} {y2 : Int} (_ : rp Y2 y2) {Y3 : Int32} {y3 : Int} (_ : rp Y3 y3) {Y4 : Int32} {y4 : Int} (_ : rp Y4 y4) {Y5 : Int32} {y5 : Int} (_ : rp Y5 y5) {M : Mem} {m : ZM} (_ : rm M m) {r : Int} {m' : ZM} (_ : zrec6 y1 y2 y3 y4 y5 m = some (r, m')), sI (rec6 Y1 Y2 Y3 Y4 Y5 M) r m') {X1_ : Int32} {x1 : Int} (hx1 : rp X1_ x1) {X2_ : Int32} {x2 : Int} (hx2 : rp X2_ x2) {X3_ : Int32} {x3 : Int} (hx3 : rp X3_ x3) {X4_ : Int32} {x4 : Int} (hx4 : rp X4_ x4) {X5_ : Int32} {x5 : Int} (hx5 : rp X5_ x5) {M_ : Mem} {M : ZM} (gM : rm M_ M) {r : Int} {m' : ZM} (h : zJ183_49 n zrec6 x1 x2 x3 x4 x5 M = some (r, m')) : sI (J183_49 n rec6 X1_ X2_ X3_ X4_ X5_ M_) r m' := by
  unfold zJ183_49 at h
  unfold J183_49
  by_cases w1 : rg (x5 + 1)
  · rw [if_pos w1] at h
    exact hrec6 hx1 hx2 hx3 hx4 (rp_add (rp_iz hx5) (rp_iz (show rp 1 1 from rfl)) w1) gM h
  · rw [if_neg w1] at h
    cases h
def zJ183_37 (n : Nat) (zrec6 : Int → Int → Int → Int → Int → ZM → Option (Int × ZM)) (x1 : Int) (x2 : Int) (x3 : Int) (x4 : Int) (x5 : Int) (M : ZM) : Option (Int × ZM) :=
  if x4 = x3 then (some (x5, M)) else (if rg (x4 + 1) then (zJ183_49 n zrec6 x1 x2 x3 (x4 + 1) x5 M) else none)
set_option maxRecDepth 100000 in
set_option maxHeartbeats 4000000 in
theorem zJ183_37_r (n : Nat) (rec6 : Int32 → Int32 → Int32 → Int32 → Int32 → Mem → Option (Int32 × Mem)) (zrec6 : Int → Int → Int → Int → Int → ZM → Option (Int × ZM)) (hrec6 : ∀ {Y1 : Int32} {y1 : Int} (_ : rp Y1 y1) {Y2 : Int32} {y2 : Int} (_ : rp Y2 y2) {Y3 : Int32} {y3 : Int} (_ : rp Y3 y3) {Y4 : Int32} {y4 : Int} (_ : rp Y4 y4) {Y5 : Int32} {y5 : Int} (_ : rp Y5 y5) {M : Mem} {m : ZM} (_ : rm M m) {r : Int} {m' : ZM} (_ : zrec6 y1 y2 y3 y4 y5 m = some (r, m')), sI (rec6 Y1 Y2 Y3 Y4 Y5 M) r m') {X1_ : Int32} {x1 : Int} (hx1 : rp X1_ x1) {X2_ : Int32} {x2 : Int} (hx2 : rp X2_ x2) {X3_ : Int32} {x3 : Int} (hx3 : rp X3_ x3) {X4_ : Int32} {x4 : Int} (hx4 : rp X4_ x4) {X5_ : Int32} {x5 : Int} (hx5 : rp X5_ x5) {M_ : Mem} {M : ZM} (gM : rm M_ M) {r : Int} {m' : ZM} (h : zJ183_37 n zrec6 x1 x2 x3 x4 x5 M = some (r, m')) : sI (J183_37 n rec6 X1_ X2_ X3_ X4_ X5_ M_) r m' := by
  unfold zJ183_37 at h
  unfold J183_37
  by_cases q1 : x4 = x3
  · rw [if_pos q1] at h
    rw [if_pos ((rp_eq hx4 hx3).mpr q1)]
    obtain ⟨rfl, rfl⟩ := Prod.mk.inj (Option.some.inj h)
    exact ⟨_, _, rfl, hx5, gM⟩
  · rw [if_neg q1] at h
    rw [if_neg (fun z => q1 ((rp_eq hx4 hx3).mp z))]
    by_cases w2 : rg (x4 + 1)
    · rw [if_pos w2] at h
      exact zJ183_49_r n _ _ hrec6 hx1 hx2 hx3 (rp_add (rp_iz hx4) (rp_iz (show rp 1 1 from rfl)) w2) hx5 gM h
    · rw [if_neg w2] at h
      cases h
def zL183_6 (n : Nat) : Nat → Int → Int → Int → Int → Int → ZM → Option (Int × ZM)
  | 0, _, _, _, _, _, _ => none
  | k + 1, x1, x2, x3, x4, x5, M => if (M.1 17 5) ≤ x5 then (some ((-1), M)) else (if x5 < 0 ∨ 150 ≤ x5 then (none) else (if (M.1 18 (Int.toNat x5)) = x1 then (if (M.1 19 (Int.toNat x5)) = x2 then (zJ183_37 n (zL183_6 n k) x1 x2 x3 x4 x5 M) else (zJ183_49 n (zL183_6 n k) x1 x2 x3 x4 x5 M)) else (zJ183_49 n (zL183_6 n k) x1 x2 x3 x4 x5 M)))
set_option maxRecDepth 100000 in
set_option maxHeartbeats 4000000 in
theorem zL183_6_r (n : Nat) : ∀ (k : Nat) {X1_ : Int32} {x1 : Int} (hx1 : rp X1_ x1) {X2_ : Int32} {x2 : Int} (hx2 : rp X2_ x2) {X3_ : Int32} {x3 : Int} (hx3 : rp X3_ x3) {X4_ : Int32} {x4 : Int} (hx4 : rp X4_ x4) {X5_ : Int32} {x5 : Int} (hx5 : rp X5_ x5) {M_ : Mem} {M : ZM} (gM : rm M_ M) {r : Int} {m' : ZM} (_ : zL183_6 n k x1 x2 x3 x4 x5 M = some (r, m')), sI (L183_6 n k X1_ X2_ X3_ X4_ X5_ M_) r m' := by
  intro k
  induction k with
  | zero => intro X1_ x1 hx1 X2_ x2 hx2 X3_ x3 hx3 X4_ x4 hx4 X5_ x5 hx5 M_ M gM r m' h; cases h
  | succ k ih =>
    intro X1_ x1 hx1 X2_ x2 hx2 X3_ x3 hx3 X4_ x4 hx4 X5_ x5 hx5 M_ M gM r m' h
    rw [zL183_6] at h
    rw [L183_6]
    by_cases q1 : (M.1 17 5) ≤ x5
    · rw [if_pos q1] at h
      rw [if_pos ((rp_le (rm_rd gM 17 5) hx5).mpr q1)]
      obtain ⟨rfl, rfl⟩ := Prod.mk.inj (Option.some.inj h)
      exact ⟨_, _, rfl, (show rp (-1) (-1) from rfl), gM⟩
    · rw [if_neg q1] at h
      rw [if_neg (fun z => q1 ((rp_le (rm_rd gM 17 5) hx5).mp z))]
      by_cases q2 : x5 < 0 ∨ 150 ≤ x5
      · rw [if_pos q2] at h
        rw [if_pos ((rp_ob hx5 150).mpr q2)]
        cases h
      · rw [if_neg q2] at h
        rw [if_neg (fun z => q2 ((rp_ob hx5 150).mp z))]
        by_cases q3 : (M.1 18 (Int.toNat x5)) = x1
        · rw [if_pos q3] at h
          rw [if_pos ((rp_eq (rm_rdx gM 18 hx5) hx1).mpr q3)]
          rw [if_neg (fun z => q2 ((rp_ob hx5 150).mp z))]
          by_cases q4 : (M.1 19 (Int.toNat x5)) = x2
          · rw [if_pos q4] at h
            rw [if_pos ((rp_eq (rm_rdx gM 19 hx5) hx2).mpr q4)]
            exact zJ183_37_r n _ _ ih hx1 hx2 hx3 hx4 hx5 gM h
          · rw [if_neg q4] at h
            rw [if_neg (fun z => q4 ((rp_eq (rm_rdx gM 19 hx5) hx2).mp z))]
            exact zJ183_49_r n _ _ ih hx1 hx2 hx3 hx4 hx5 gM h
        · rw [if_neg q3] at h
          rw [if_neg (fun z => q3 ((rp_eq (rm_rdx gM 18 hx5) hx1).mp z))]
          exact zJ183_49_r n _ _ ih hx1 hx2 hx3 hx4 hx5 gM h
/-- ArmExpander$Takings.find -/
def zF183 (n : Nat) (a0 : Int) (a1 : Int) (a2 : Int) (M : ZM) : Option (Int × ZM) :=
  zL183_6 n n a0 a1 a2 0 0 M
set_option maxRecDepth 100000 in
set_option maxHeartbeats 4000000 in
theorem zF183_r (n : Nat) {A0_ : Int32} {a0 : Int} (ha0 : rp A0_ a0) {A1_ : Int32} {a1 : Int} (ha1 : rp A1_ a1) {A2_ : Int32} {a2 : Int} (ha2 : rp A2_ a2) {M_ : Mem} {M : ZM} (gM : rm M_ M) {r : Int} {m' : ZM} (h : zF183 n a0 a1 a2 M = some (r, m')) : sI (F183 n A0_ A1_ A2_ M_) r m' := by
  unfold zF183 at h
  unfold F183
  exact zL183_6_r n n ha0 ha1 ha2 (show rp 0 0 from rfl) (show rp 0 0 from rfl) gM h
def zJ184_22 (n : Nat) (s0 : Int) (M : ZM) : Option (Int × ZM) :=
  some (s0, M)
set_option maxRecDepth 100000 in
set_option maxHeartbeats 4000000 in
theorem zJ184_22_r (n : Nat) {S0_ : Int32} {s0 : Int} (hs0 : rp S0_ s0) {M_ : Mem} {M : ZM} (gM : rm M_ M) {r : Int} {m' : ZM} (h : zJ184_22 n s0 M = some (r, m')) : sI (J184_22 n S0_ M_) r m' := by
  unfold zJ184_22 at h
  unfold J184_22
  obtain ⟨rfl, rfl⟩ := Prod.mk.inj (Option.some.inj h)
  exact ⟨_, _, rfl, hs0, gM⟩
def zJ184_21 (n : Nat) (M : ZM) : Option (Int × ZM) :=
  zJ184_22 n 0 M
set_option maxRecDepth 100000 in
set_option maxHeartbeats 4000000 in
theorem zJ184_21_r (n : Nat) {M_ : Mem} {M : ZM} (gM : rm M_ M) {r : Int} {m' : ZM} (h : zJ184_21 n M = some (r, m')) : sI (J184_21 n M_) r m' := by
  unfold zJ184_21 at h
  unfold J184_21
  exact zJ184_22_r n (show rp 0 0 from rfl) gM h
/-- ArmExpander$Takings.fromOf -/
def zF184 (n : Nat) (a0 : Int) (M : ZM) : Option (Int × ZM) :=
  if a0 < 0 then (zJ184_21 n M) else (if (M.1 17 5) ≤ a0 then (zJ184_21 n M) else (if a0 < 0 ∨ 150 ≤ a0 then (none) else (zJ184_22 n (M.1 20 (Int.toNat a0)) M)))
set_option maxRecDepth 100000 in
set_option maxHeartbeats 4000000 in
theorem zF184_r (n : Nat) {A0_ : Int32} {a0 : Int} (ha0 : rp A0_ a0) {M_ : Mem} {M : ZM} (gM : rm M_ M) {r : Int} {m' : ZM} (h : zF184 n a0 M = some (r, m')) : sI (F184 n A0_ M_) r m' := by
  unfold zF184 at h
  unfold F184
  by_cases q1 : a0 < 0
  · rw [if_pos q1] at h
    rw [if_pos ((rp_lt ha0 (show rp 0 0 from rfl)).mpr q1)]
    exact zJ184_21_r n gM h
  · rw [if_neg q1] at h
    rw [if_neg (fun z => q1 ((rp_lt ha0 (show rp 0 0 from rfl)).mp z))]
    by_cases q2 : (M.1 17 5) ≤ a0
    · rw [if_pos q2] at h
      rw [if_pos ((rp_le (rm_rd gM 17 5) ha0).mpr q2)]
      exact zJ184_21_r n gM h
    · rw [if_neg q2] at h
      rw [if_neg (fun z => q2 ((rp_le (rm_rd gM 17 5) ha0).mp z))]
      by_cases q3 : a0 < 0 ∨ 150 ≤ a0
      · rw [if_pos q3] at h
        rw [if_pos ((rp_ob ha0 150).mpr q3)]
        cases h
      · rw [if_neg q3] at h
        rw [if_neg (fun z => q3 ((rp_ob ha0 150).mp z))]
        exact zJ184_22_r n (rm_rdx gM 20 ha0) gM h
def zJ185_22 (n : Nat) (s0 : Int) (M : ZM) : Option (Int × ZM) :=
  some (s0, M)
set_option maxRecDepth 100000 in
set_option maxHeartbeats 4000000 in
theorem zJ185_22_r (n : Nat) {S0_ : Int32} {s0 : Int} (hs0 : rp S0_ s0) {M_ : Mem} {M : ZM} (gM : rm M_ M) {r : Int} {m' : ZM} (h : zJ185_22 n s0 M = some (r, m')) : sI (J185_22 n S0_ M_) r m' := by
  unfold zJ185_22 at h
  unfold J185_22
  obtain ⟨rfl, rfl⟩ := Prod.mk.inj (Option.some.inj h)
  exact ⟨_, _, rfl, hs0, gM⟩
def zJ185_21 (n : Nat) (M : ZM) : Option (Int × ZM) :=
  zJ185_22 n 0 M
set_option maxRecDepth 100000 in
set_option maxHeartbeats 4000000 in
theorem zJ185_21_r (n : Nat) {M_ : Mem} {M : ZM} (gM : rm M_ M) {r : Int} {m' : ZM} (h : zJ185_21 n M = some (r, m')) : sI (J185_21 n M_) r m' := by
  unfold zJ185_21 at h
  unfold J185_21
  exact zJ185_22_r n (show rp 0 0 from rfl) gM h
/-- ArmExpander$Takings.toOf -/
def zF185 (n : Nat) (a0 : Int) (M : ZM) : Option (Int × ZM) :=
  if a0 < 0 then (zJ185_21 n M) else (if (M.1 17 5) ≤ a0 then (zJ185_21 n M) else (if a0 < 0 ∨ 150 ≤ a0 then (none) else (zJ185_22 n (M.1 21 (Int.toNat a0)) M)))
set_option maxRecDepth 100000 in
set_option maxHeartbeats 4000000 in
theorem zF185_r (n : Nat) {A0_ : Int32} {a0 : Int} (ha0 : rp A0_ a0) {M_ : Mem} {M : ZM} (gM : rm M_ M) {r : Int} {m' : ZM} (h : zF185 n a0 M = some (r, m')) : sI (F185 n A0_ M_) r m' := by
  unfold zF185 at h
  unfold F185
  by_cases q1 : a0 < 0
  · rw [if_pos q1] at h
    rw [if_pos ((rp_lt ha0 (show rp 0 0 from rfl)).mpr q1)]
    exact zJ185_21_r n gM h
  · rw [if_neg q1] at h
    rw [if_neg (fun z => q1 ((rp_lt ha0 (show rp 0 0 from rfl)).mp z))]
    by_cases q2 : (M.1 17 5) ≤ a0
    · rw [if_pos q2] at h
      rw [if_pos ((rp_le (rm_rd gM 17 5) ha0).mpr q2)]
      exact zJ185_21_r n gM h
    · rw [if_neg q2] at h
      rw [if_neg (fun z => q2 ((rp_le (rm_rd gM 17 5) ha0).mp z))]
      by_cases q3 : a0 < 0 ∨ 150 ≤ a0
      · rw [if_pos q3] at h
        rw [if_pos ((rp_ob ha0 150).mpr q3)]
        cases h
      · rw [if_neg q3] at h
        rw [if_neg (fun z => q3 ((rp_ob ha0 150).mp z))]
        exact zJ185_22_r n (rm_rdx gM 21 ha0) gM h
def zJ188_20 (n : Nat) (b : Nat) (s0 : Int) (M : ZM) : Option (Int × ZM) :=
  some (s0, M)
set_option maxRecDepth 100000 in
set_option maxHeartbeats 4000000 in
theorem zJ188_20_r (n : Nat) (b : Nat) {S0_ : Int32} {s0 : Int} (hs0 : rp S0_ s0) {M_ : Mem} {M : ZM} (gM : rm M_ M) {r : Int} {m' : ZM} (h : zJ188_20 n b s0 M = some (r, m')) : sI (J188_20 n b S0_ M_) r m' := by
  unfold zJ188_20 at h
  unfold J188_20
  obtain ⟨rfl, rfl⟩ := Prod.mk.inj (Option.some.inj h)
  exact ⟨_, _, rfl, hs0, gM⟩
def zJ188_19 (n : Nat) (b : Nat) (M : ZM) : Option (Int × ZM) :=
  zJ188_20 n b 0 M
set_option maxRecDepth 100000 in
set_option maxHeartbeats 4000000 in
theorem zJ188_19_r (n : Nat) (b : Nat) {M_ : Mem} {M : ZM} (gM : rm M_ M) {r : Int} {m' : ZM} (h : zJ188_19 n b M = some (r, m')) : sI (J188_19 n b M_) r m' := by
  unfold zJ188_19 at h
  unfold J188_19
  exact zJ188_20_r n b (show rp 0 0 from rfl) gM h
/-- ArmExpander$Threads.manyAt -/
def zF188 (n : Nat) (b : Nat) (a0 : Int) (M : ZM) : Option (Int × ZM) :=
  if a0 < 0 then (zJ188_19 n b M) else (if 120 ≤ a0 then (zJ188_19 n b M) else (if a0 < 0 ∨ 120 ≤ a0 then (none) else (zJ188_20 n b (M.1 (b + 1) (Int.toNat a0)) M)))
set_option maxRecDepth 100000 in
set_option maxHeartbeats 4000000 in
theorem zF188_r (n : Nat) (b : Nat) {A0_ : Int32} {a0 : Int} (ha0 : rp A0_ a0) {M_ : Mem} {M : ZM} (gM : rm M_ M) {r : Int} {m' : ZM} (h : zF188 n b a0 M = some (r, m')) : sI (F188 n b A0_ M_) r m' := by
  unfold zF188 at h
  unfold F188
  by_cases q1 : a0 < 0
  · rw [if_pos q1] at h
    rw [if_pos ((rp_lt ha0 (show rp 0 0 from rfl)).mpr q1)]
    exact zJ188_19_r n b gM h
  · rw [if_neg q1] at h
    rw [if_neg (fun z => q1 ((rp_lt ha0 (show rp 0 0 from rfl)).mp z))]
    by_cases q2 : 120 ≤ a0
    · rw [if_pos q2] at h
      rw [if_pos ((rp_le (show rp 120 120 from rfl) ha0).mpr q2)]
      exact zJ188_19_r n b gM h
    · rw [if_neg q2] at h
      rw [if_neg (fun z => q2 ((rp_le (show rp 120 120 from rfl) ha0).mp z))]
      by_cases q3 : a0 < 0 ∨ 120 ≤ a0
      · rw [if_pos q3] at h
        rw [if_pos ((rp_ob ha0 120).mpr q3)]
        cases h
      · rw [if_neg q3] at h
        rw [if_neg (fun z => q3 ((rp_ob ha0 120).mp z))]
        exact zJ188_20_r n b (rm_rdx gM (b + 1) ha0) gM h
def zJ189_19 (n : Nat) (b : Nat) (M : ZM) : Option (Int × ZM) :=
  some (0, M)
set_option maxRecDepth 100000 in
set_option maxHeartbeats 4000000 in
theorem zJ189_19_r (n : Nat) (b : Nat) {M_ : Mem} {M : ZM} (gM : rm M_ M) {r : Int} {m' : ZM} (h : zJ189_19 n b M = some (r, m')) : sI (J189_19 n b M_) r m' := by
  unfold zJ189_19 at h
  unfold J189_19
  obtain ⟨rfl, rfl⟩ := Prod.mk.inj (Option.some.inj h)
  exact ⟨_, _, rfl, (show rp 0 0 from rfl), gM⟩
/-- ArmExpander$Threads.roundsAt -/
def zF189 (n : Nat) (b : Nat) (a0 : Int) (a1 : Int) (M : ZM) : Option (Int × ZM) :=
  if a0 < 0 then (zJ189_19 n b M) else (if 120 ≤ a0 then (zJ189_19 n b M) else (if a1 < 0 then (zJ189_19 n b M) else (if a1 < 4 then (if rg ((a0 * 4) + a1) then (if ((a0 * 4) + a1) < 0 ∨ 480 ≤ ((a0 * 4) + a1) then (none) else (some ((M.1 (b + 2) (Int.toNat ((a0 * 4) + a1))), M))) else none) else (zJ189_19 n b M))))
set_option maxRecDepth 100000 in
set_option maxHeartbeats 4000000 in
theorem zF189_r (n : Nat) (b : Nat) {A0_ : Int32} {a0 : Int} (ha0 : rp A0_ a0) {A1_ : Int32} {a1 : Int} (ha1 : rp A1_ a1) {M_ : Mem} {M : ZM} (gM : rm M_ M) {r : Int} {m' : ZM} (h : zF189 n b a0 a1 M = some (r, m')) : sI (F189 n b A0_ A1_ M_) r m' := by
  unfold zF189 at h
  unfold F189
  by_cases q1 : a0 < 0
  · rw [if_pos q1] at h
    rw [if_pos ((rp_lt ha0 (show rp 0 0 from rfl)).mpr q1)]
    exact zJ189_19_r n b gM h
  · rw [if_neg q1] at h
    rw [if_neg (fun z => q1 ((rp_lt ha0 (show rp 0 0 from rfl)).mp z))]
    by_cases q2 : 120 ≤ a0
    · rw [if_pos q2] at h
      rw [if_pos ((rp_le (show rp 120 120 from rfl) ha0).mpr q2)]
      exact zJ189_19_r n b gM h
    · rw [if_neg q2] at h
      rw [if_neg (fun z => q2 ((rp_le (show rp 120 120 from rfl) ha0).mp z))]
      by_cases q3 : a1 < 0
      · rw [if_pos q3] at h
        rw [if_pos ((rp_lt ha1 (show rp 0 0 from rfl)).mpr q3)]
        exact zJ189_19_r n b gM h
      · rw [if_neg q3] at h
        rw [if_neg (fun z => q3 ((rp_lt ha1 (show rp 0 0 from rfl)).mp z))]
        by_cases q4 : a1 < 4
        · rw [if_pos q4] at h
          rw [if_pos ((rp_lt ha1 (show rp 4 4 from rfl)).mpr q4)]
          by_cases w5 : rg ((a0 * 4) + a1)
          · rw [if_pos w5] at h
            by_cases q6 : ((a0 * 4) + a1) < 0 ∨ 480 ≤ ((a0 * 4) + a1)
            · rw [if_pos q6] at h
              rw [if_pos ((rp_ob (rp_add (rw_mul (rp_iz ha0) (rp_iz (show rp 4 4 from rfl))) (rp_iz ha1) w5) 480).mpr q6)]
              cases h
            · rw [if_neg q6] at h
              rw [if_neg (fun z => q6 ((rp_ob (rp_add (rw_mul (rp_iz ha0) (rp_iz (show rp 4 4 from rfl))) (rp_iz ha1) w5) 480).mp z))]
              obtain ⟨rfl, rfl⟩ := Prod.mk.inj (Option.some.inj h)
              exact ⟨_, _, rfl, (rm_rdx gM (b + 2) (rp_add (rw_mul (rp_iz ha0) (rp_iz (show rp 4 4 from rfl))) (rp_iz ha1) w5)), gM⟩
          · rw [if_neg w5] at h
            cases h
        · rw [if_neg q4] at h
          rw [if_neg (fun z => q4 ((rp_lt ha1 (show rp 4 4 from rfl)).mp z))]
          exact zJ189_19_r n b gM h
def zJ191_19 (n : Nat) (b : Nat) (g0 : Nat) (zrec2 : Int → Int → ZM → Option (Unit × ZM)) (x2 : Int) (x3 : Int) (M : ZM) : Option (Unit × ZM) :=
  if rg (x3 + 1) then (zrec2 x2 (x3 + 1) M) else none
set_option maxRecDepth 100000 in
set_option maxHeartbeats 4000000 in
theorem zJ191_19_r (n : Nat) (b : Nat) (g0 : Nat) (rec2 : Int32 → Int32 → Mem → Option (Unit × Mem)) (zrec2 : Int → Int → ZM → Option (Unit × ZM)) (hrec2 : ∀ {Y1 : Int32} {y1 : Int} (_ : rp Y1 y1) {Y2 : Int32} {y2 : Int} (_ : rp Y2 y2) {M : Mem} {m : ZM} (_ : rm M m) {r : Unit} {m' : ZM} (_ : zrec2 y1 y2 m = some (r, m')), sU (rec2 Y1 Y2 M) m') {X2_ : Int32} {x2 : Int} (hx2 : rp X2_ x2) {X3_ : Int32} {x3 : Int} (hx3 : rp X3_ x3) {M_ : Mem} {M : ZM} (gM : rm M_ M) {r : Unit} {m' : ZM} (h : zJ191_19 n b g0 zrec2 x2 x3 M = some (r, m')) : sU (J191_19 n b g0 rec2 X2_ X3_ M_) m' := by
  unfold zJ191_19 at h
  unfold J191_19
  by_cases w1 : rg (x3 + 1)
  · rw [if_pos w1] at h
    exact hrec2 hx2 (rp_add (rp_iz hx3) (rp_iz (show rp 1 1 from rfl)) w1) gM h
  · rw [if_neg w1] at h
    cases h
def zL191_2 (n : Nat) (b : Nat) (g0 : Nat) : Nat → Int → Int → ZM → Option (Unit × ZM)
  | 0, _, _, _ => none
  | k + 1, x2, x3, M => if 4 ≤ x3 then (match zF188 n g0 x2 M with | some (v2, M3) => (zlet (z_i M3 b 3 v2) (fun M5 => some ((), M5))) | none => none) else (match zF189 n g0 x2 x3 M with | some (v6, M7) => (if x3 < 0 ∨ 4 ≤ x3 then (none) else (zlet (z_i M7 (b + 3) (Int.toNat x3) v6) (fun M10 => zJ191_19 n b g0 (zL191_2 n b g0 k) x2 x3 M10))) | none => none)
set_option maxRecDepth 100000 in
set_option maxHeartbeats 4000000 in
theorem zL191_2_r (n : Nat) (b : Nat) (g0 : Nat) : ∀ (k : Nat) {X2_ : Int32} {x2 : Int} (hx2 : rp X2_ x2) {X3_ : Int32} {x3 : Int} (hx3 : rp X3_ x3) {M_ : Mem} {M : ZM} (gM : rm M_ M) {r : Unit} {m' : ZM} (_ : zL191_2 n b g0 k x2 x3 M = some (r, m')), sU (L191_2 n b g0 k X2_ X3_ M_) m' := by
  intro k
  induction k with
  | zero => intro X2_ x2 hx2 X3_ x3 hx3 M_ M gM r m' h; cases h
  | succ k ih =>
    intro X2_ x2 hx2 X3_ x3 hx3 M_ M gM r m' h
    rw [zL191_2] at h
    rw [L191_2]
    by_cases q1 : 4 ≤ x3
    · rw [if_pos q1] at h
      rw [if_pos ((rp_le (show rp 4 4 from rfl) hx3).mpr q1)]
      cases hc2 : zF188 n g0 x2 M with
      | none => rw [hc2] at h; cases h
      | some w =>
        obtain ⟨v2, M3⟩ := w
        rw [hc2] at h
        dsimp only at h
        obtain ⟨V2, NM3, ehc2, hv2, gM3⟩ := zF188_r n g0 hx2 gM hc2
        rw [ehc2]
        dsimp only
        have gM5 : rm (m_i NM3 b 3 V2) (z_i M3 b 3 v2) := rm_i gM3 b 3 hv2
        rw [mlet]
        rw [zlet] at h
        generalize z_i M3 b 3 v2 = M5 at h gM5
        generalize m_i NM3 b 3 V2 = NM5 at gM5 ⊢
        obtain ⟨_, rfl⟩ := Prod.mk.inj (Option.some.inj h)
        exact ⟨_, rfl, gM5⟩
    · rw [if_neg q1] at h
      rw [if_neg (fun z => q1 ((rp_le (show rp 4 4 from rfl) hx3).mp z))]
      cases hc3 : zF189 n g0 x2 x3 M with
      | none => rw [hc3] at h; cases h
      | some w =>
        obtain ⟨v6, M7⟩ := w
        rw [hc3] at h
        dsimp only at h
        obtain ⟨V6, NM7, ehc3, hv6, gM7⟩ := zF189_r n g0 hx2 hx3 gM hc3
        rw [ehc3]
        dsimp only
        by_cases q4 : x3 < 0 ∨ 4 ≤ x3
        · rw [if_pos q4] at h
          rw [if_pos ((rp_ob hx3 4).mpr q4)]
          cases h
        · rw [if_neg q4] at h
          rw [if_neg (fun z => q4 ((rp_ob hx3 4).mp z))]
          have gM10 : rm (m_i NM7 (b + 3) (X3_).toNatClampNeg V6) (z_i M7 (b + 3) (Int.toNat x3) v6) := rm_ix gM7 (b + 3) hx3 hv6
          rw [mlet]
          rw [zlet] at h
          generalize z_i M7 (b + 3) (Int.toNat x3) v6 = M10 at h gM10
          generalize m_i NM7 (b + 3) (X3_).toNatClampNeg V6 = NM10 at gM10 ⊢
          exact zJ191_19_r n b g0 _ _ ih hx2 hx3 gM10 h
/-- ArmExpander$Threads.setOutFrom -/
def zF191 (n : Nat) (b : Nat) (g0 : Nat) (a1 : Int) (M : ZM) : Option (Unit × ZM) :=
  zL191_2 n b g0 n a1 0 M
set_option maxRecDepth 100000 in
set_option maxHeartbeats 4000000 in
theorem zF191_r (n : Nat) (b : Nat) (g0 : Nat) {A1_ : Int32} {a1 : Int} (ha1 : rp A1_ a1) {M_ : Mem} {M : ZM} (gM : rm M_ M) {r : Unit} {m' : ZM} (h : zF191 n b g0 a1 M = some (r, m')) : sU (F191 n b g0 A1_ M_) m' := by
  unfold zF191 at h
  unfold F191
  exact zL191_2_r n b g0 n ha1 (show rp 0 0 from rfl) gM h
def zJ195_10 (n : Nat) (b : Nat) (M : ZM) : Option (Unit × ZM) :=
  some ((), M)
set_option maxRecDepth 100000 in
set_option maxHeartbeats 4000000 in
theorem zJ195_10_r (n : Nat) (b : Nat) {M_ : Mem} {M : ZM} (gM : rm M_ M) {r : Unit} {m' : ZM} (h : zJ195_10 n b M = some (r, m')) : sU (J195_10 n b M_) m' := by
  unfold zJ195_10 at h
  unfold J195_10
  obtain ⟨_, rfl⟩ := Prod.mk.inj (Option.some.inj h)
  exact ⟨_, rfl, gM⟩
def zJ195_62 (n : Nat) (b : Nat) (zrec41 : Int → Int → ZM → Option (Unit × ZM)) (x1 : Int) (x3 : Int) (M : ZM) : Option (Unit × ZM) :=
  if rg (x3 + 1) then (zrec41 x1 (x3 + 1) M) else none
set_option maxRecDepth 100000 in
set_option maxHeartbeats 4000000 in
theorem zJ195_62_r (n : Nat) (b : Nat) (rec41 : Int32 → Int32 → Mem → Option (Unit × Mem)) (zrec41 : Int → Int → ZM → Option (Unit × ZM)) (hrec41 : ∀ {Y1 : Int32} {y1 : Int} (_ : rp Y1 y1) {Y2 : Int32} {y2 : Int} (_ : rp Y2 y2) {M : Mem} {m : ZM} (_ : rm M m) {r : Unit} {m' : ZM} (_ : zrec41 y1 y2 m = some (r, m')), sU (rec41 Y1 Y2 M) m') {X1_ : Int32} {x1 : Int} (hx1 : rp X1_ x1) {X3_ : Int32} {x3 : Int} (hx3 : rp X3_ x3) {M_ : Mem} {M : ZM} (gM : rm M_ M) {r : Unit} {m' : ZM} (h : zJ195_62 n b zrec41 x1 x3 M = some (r, m')) : sU (J195_62 n b rec41 X1_ X3_ M_) m' := by
  unfold zJ195_62 at h
  unfold J195_62
  by_cases w1 : rg (x3 + 1)
  · rw [if_pos w1] at h
    exact hrec41 hx1 (rp_add (rp_iz hx3) (rp_iz (show rp 1 1 from rfl)) w1) gM h
  · rw [if_neg w1] at h
    cases h
def zL195_41 (n : Nat) (b : Nat) : Nat → Int → Int → ZM → Option (Unit × ZM)
  | 0, _, _, _ => none
  | k + 1, x1, x3, M => if 4 ≤ x3 then (some ((), M)) else (if x3 < 0 ∨ 4 ≤ x3 then (none) else (if rg ((x1 * 4) + x3) then (if ((x1 * 4) + x3) < 0 ∨ 480 ≤ ((x1 * 4) + x3) then (none) else (zlet (z_i M (b + 2) (Int.toNat ((x1 * 4) + x3)) (M.1 (b + 3) (Int.toNat x3))) (fun M10 => zJ195_62 n b (zL195_41 n b k) x1 x3 M10))) else none))
set_option maxRecDepth 100000 in
set_option maxHeartbeats 4000000 in
theorem zL195_41_r (n : Nat) (b : Nat) : ∀ (k : Nat) {X1_ : Int32} {x1 : Int} (hx1 : rp X1_ x1) {X3_ : Int32} {x3 : Int} (hx3 : rp X3_ x3) {M_ : Mem} {M : ZM} (gM : rm M_ M) {r : Unit} {m' : ZM} (_ : zL195_41 n b k x1 x3 M = some (r, m')), sU (L195_41 n b k X1_ X3_ M_) m' := by
  intro k
  induction k with
  | zero => intro X1_ x1 hx1 X3_ x3 hx3 M_ M gM r m' h; cases h
  | succ k ih =>
    intro X1_ x1 hx1 X3_ x3 hx3 M_ M gM r m' h
    rw [zL195_41] at h
    rw [L195_41]
    by_cases q1 : 4 ≤ x3
    · rw [if_pos q1] at h
      rw [if_pos ((rp_le (show rp 4 4 from rfl) hx3).mpr q1)]
      obtain ⟨_, rfl⟩ := Prod.mk.inj (Option.some.inj h)
      exact ⟨_, rfl, gM⟩
    · rw [if_neg q1] at h
      rw [if_neg (fun z => q1 ((rp_le (show rp 4 4 from rfl) hx3).mp z))]
      by_cases q2 : x3 < 0 ∨ 4 ≤ x3
      · rw [if_pos q2] at h
        rw [if_pos ((rp_ob hx3 4).mpr q2)]
        cases h
      · rw [if_neg q2] at h
        rw [if_neg (fun z => q2 ((rp_ob hx3 4).mp z))]
        by_cases w3 : rg ((x1 * 4) + x3)
        · rw [if_pos w3] at h
          by_cases q4 : ((x1 * 4) + x3) < 0 ∨ 480 ≤ ((x1 * 4) + x3)
          · rw [if_pos q4] at h
            rw [if_pos ((rp_ob (rp_add (rw_mul (rp_iz hx1) (rp_iz (show rp 4 4 from rfl))) (rp_iz hx3) w3) 480).mpr q4)]
            cases h
          · rw [if_neg q4] at h
            rw [if_neg (fun z => q4 ((rp_ob (rp_add (rw_mul (rp_iz hx1) (rp_iz (show rp 4 4 from rfl))) (rp_iz hx3) w3) 480).mp z))]
            have gM10 : rm (m_i M_ (b + 2) (((X1_ * (4 : Int32)) + X3_)).toNatClampNeg (M_.1 (b + 3) (X3_).toNatClampNeg)) (z_i M (b + 2) (Int.toNat ((x1 * 4) + x3)) (M.1 (b + 3) (Int.toNat x3))) := rm_ix gM (b + 2) (rp_add (rw_mul (rp_iz hx1) (rp_iz (show rp 4 4 from rfl))) (rp_iz hx3) w3) (rm_rdx gM (b + 3) hx3)
            rw [mlet]
            rw [zlet] at h
            generalize z_i M (b + 2) (Int.toNat ((x1 * 4) + x3)) (M.1 (b + 3) (Int.toNat x3)) = M10 at h gM10
            generalize m_i M_ (b + 2) (((X1_ * (4 : Int32)) + X3_)).toNatClampNeg (M_.1 (b + 3) (X3_).toNatClampNeg) = NM10 at gM10 ⊢
            exact zJ195_62_r n b _ _ ih hx1 hx3 gM10 h
        · rw [if_neg w3] at h
          cases h
def zJ195_38 (n : Nat) (b : Nat) (x1 : Int) (s0 : Int) (s1 : Int) (M : ZM) : Option (Unit × ZM) :=
  if s1 < 0 ∨ 120 ≤ s1 then (none) else (zlet (z_i M (b + 1) (Int.toNat s1) s0) (fun M6 => zL195_41 n b n x1 0 M6))
set_option maxRecDepth 100000 in
set_option maxHeartbeats 4000000 in
theorem zJ195_38_r (n : Nat) (b : Nat) {X1_ : Int32} {x1 : Int} (hx1 : rp X1_ x1) {S0_ : Int32} {s0 : Int} (hs0 : rp S0_ s0) {S1_ : Int32} {s1 : Int} (hs1 : rp S1_ s1) {M_ : Mem} {M : ZM} (gM : rm M_ M) {r : Unit} {m' : ZM} (h : zJ195_38 n b x1 s0 s1 M = some (r, m')) : sU (J195_38 n b X1_ S0_ S1_ M_) m' := by
  unfold zJ195_38 at h
  unfold J195_38
  by_cases q1 : s1 < 0 ∨ 120 ≤ s1
  · rw [if_pos q1] at h
    rw [if_pos ((rp_ob hs1 120).mpr q1)]
    cases h
  · rw [if_neg q1] at h
    rw [if_neg (fun z => q1 ((rp_ob hs1 120).mp z))]
    have gM6 : rm (m_i M_ (b + 1) (S1_).toNatClampNeg S0_) (z_i M (b + 1) (Int.toNat s1) s0) := rm_ix gM (b + 1) hs1 hs0
    rw [mlet]
    rw [zlet] at h
    generalize z_i M (b + 1) (Int.toNat s1) s0 = M6 at h gM6
    generalize m_i M_ (b + 1) (S1_).toNatClampNeg S0_ = NM6 at gM6 ⊢
    exact zL195_41_r n b n hx1 (show rp 0 0 from rfl) gM6 h
/-- ArmExpander$Threads.stand -/
def zF195 (n : Nat) (b : Nat) (a0 : Int) (M : ZM) : Option (Unit × ZM) :=
  if a0 < 0 then (zJ195_10 n b M) else (if a0 < 120 then (if a0 < 0 ∨ 120 ≤ a0 then (none) else (if rg ((M.1 (b + 1) (Int.toNat a0)) + (M.1 b 3)) then (if 2 ≤ ((M.1 (b + 1) (Int.toNat a0)) + (M.1 b 3)) then (zJ195_38 n b a0 2 a0 M) else (zJ195_38 n b a0 ((M.1 (b + 1) (Int.toNat a0)) + (M.1 b 3)) a0 M)) else none)) else (zJ195_10 n b M))
set_option maxRecDepth 100000 in
set_option maxHeartbeats 4000000 in
theorem zF195_r (n : Nat) (b : Nat) {A0_ : Int32} {a0 : Int} (ha0 : rp A0_ a0) {M_ : Mem} {M : ZM} (gM : rm M_ M) {r : Unit} {m' : ZM} (h : zF195 n b a0 M = some (r, m')) : sU (F195 n b A0_ M_) m' := by
  unfold zF195 at h
  unfold F195
  by_cases q1 : a0 < 0
  · rw [if_pos q1] at h
    rw [if_pos ((rp_lt ha0 (show rp 0 0 from rfl)).mpr q1)]
    exact zJ195_10_r n b gM h
  · rw [if_neg q1] at h
    rw [if_neg (fun z => q1 ((rp_lt ha0 (show rp 0 0 from rfl)).mp z))]
    by_cases q2 : a0 < 120
    · rw [if_pos q2] at h
      rw [if_pos ((rp_lt ha0 (show rp 120 120 from rfl)).mpr q2)]
      by_cases q3 : a0 < 0 ∨ 120 ≤ a0
      · rw [if_pos q3] at h
        rw [if_pos ((rp_ob ha0 120).mpr q3)]
        cases h
      · rw [if_neg q3] at h
        rw [if_neg (fun z => q3 ((rp_ob ha0 120).mp z))]
        by_cases w4 : rg ((M.1 (b + 1) (Int.toNat a0)) + (M.1 b 3))
        · rw [if_pos w4] at h
          by_cases q5 : 2 ≤ ((M.1 (b + 1) (Int.toNat a0)) + (M.1 b 3))
          · rw [if_pos q5] at h
            rw [if_pos ((rp_le (show rp 2 2 from rfl) (rp_add (rp_iz (rm_rdx gM (b + 1) ha0)) (rp_iz (rm_rd gM b 3)) w4)).mpr q5)]
            exact zJ195_38_r n b ha0 (show rp 2 2 from rfl) ha0 gM h
          · rw [if_neg q5] at h
            rw [if_neg (fun z => q5 ((rp_le (show rp 2 2 from rfl) (rp_add (rp_iz (rm_rdx gM (b + 1) ha0)) (rp_iz (rm_rd gM b 3)) w4)).mp z))]
            exact zJ195_38_r n b ha0 (rp_add (rp_iz (rm_rdx gM (b + 1) ha0)) (rp_iz (rm_rd gM b 3)) w4) ha0 gM h
        · rw [if_neg w4] at h
          cases h
    · rw [if_neg q2] at h
      rw [if_neg (fun z => q2 ((rp_lt ha0 (show rp 120 120 from rfl)).mp z))]
      exact zJ195_10_r n b gM h
/-- ArmExpander$TypedText.clear -/
def zF198 (n : Nat) (M : ZM) : Option (Unit × ZM) :=
  zlet (z_i M 1 1 0) (fun M1 => zlet (z_i M1 1 2 0) (fun M2 => zlet (z_i M2 1 3 0) (fun M3 => some ((), M3))))
set_option maxRecDepth 100000 in
set_option maxHeartbeats 4000000 in
theorem zF198_r (n : Nat) {M_ : Mem} {M : ZM} (gM : rm M_ M) {r : Unit} {m' : ZM} (h : zF198 n M = some (r, m')) : sU (F198 n M_) m' := by
  unfold zF198 at h
  unfold F198
  have gM1 : rm (m_i M_ 1 1 (0 : Int32)) (z_i M 1 1 0) := rm_i gM 1 1 (show rp 0 0 from rfl)
  rw [mlet]
  rw [zlet] at h
  generalize z_i M 1 1 0 = M1 at h gM1
  generalize m_i M_ 1 1 (0 : Int32) = NM1 at gM1 ⊢
  have gM2 : rm (m_i NM1 1 2 (0 : Int32)) (z_i M1 1 2 0) := rm_i gM1 1 2 (show rp 0 0 from rfl)
  rw [mlet]
  rw [zlet] at h
  generalize z_i M1 1 2 0 = M2 at h gM2
  generalize m_i NM1 1 2 (0 : Int32) = NM2 at gM2 ⊢
  have gM3 : rm (m_i NM2 1 3 (0 : Int32)) (z_i M2 1 3 0) := rm_i gM2 1 3 (show rp 0 0 from rfl)
  rw [mlet]
  rw [zlet] at h
  generalize z_i M2 1 3 0 = M3 at h gM3
  generalize m_i NM2 1 3 (0 : Int32) = NM3 at gM3 ⊢
  obtain ⟨_, rfl⟩ := Prod.mk.inj (Option.some.inj h)
  exact ⟨_, rfl, gM3⟩
/-- ArmExpander$TypedText.length -/
def zF199 (n : Nat) (M : ZM) : Option (Int × ZM) :=
  some ((M.1 1 1), M)
set_option maxRecDepth 100000 in
set_option maxHeartbeats 4000000 in
theorem zF199_r (n : Nat) {M_ : Mem} {M : ZM} (gM : rm M_ M) {r : Int} {m' : ZM} (h : zF199 n M = some (r, m')) : sI (F199 n M_) r m' := by
  unfold zF199 at h
  unfold F199
  obtain ⟨rfl, rfl⟩ := Prod.mk.inj (Option.some.inj h)
  exact ⟨_, _, rfl, (rm_rd gM 1 1), gM⟩
/-- ArmExpander$TypedText.start -/
def zF200 (n : Nat) (M : ZM) : Option (Int × ZM) :=
  some ((M.1 1 3), M)
set_option maxRecDepth 100000 in
set_option maxHeartbeats 4000000 in
theorem zF200_r (n : Nat) {M_ : Mem} {M : ZM} (gM : rm M_ M) {r : Int} {m' : ZM} (h : zF200 n M = some (r, m')) : sI (F200 n M_) r m' := by
  unfold zF200 at h
  unfold F200
  obtain ⟨rfl, rfl⟩ := Prod.mk.inj (Option.some.inj h)
  exact ⟨_, _, rfl, (rm_rd gM 1 3), gM⟩
/-- ArmExpander$TypedText.byteOf -/
def zF204 (n : Nat) (a0 : Int) (a1 : Int) (M : ZM) : Option (Int × ZM) :=
  if rg (8 * a1) then (some ((((((((iz a0) : Int32).toUInt32 >>> (((iz (8 * a1)) : Int32).toUInt32 &&& (31 : Int32).toUInt32))).toInt32 &&& 255) : Int32).toInt), M)) else none
set_option maxRecDepth 100000 in
set_option maxHeartbeats 4000000 in
theorem zF204_r (n : Nat) {A0_ : Int32} {a0 : Int} (ha0 : rp A0_ a0) {A1_ : Int32} {a1 : Int} (ha1 : rp A1_ a1) {M_ : Mem} {M : ZM} (gM : rm M_ M) {r : Int} {m' : ZM} (h : zF204 n a0 a1 M = some (r, m')) : sI (F204 n A0_ A1_ M_) r m' := by
  unfold zF204 at h
  unfold F204
  by_cases w1 : rg (8 * a1)
  · rw [if_pos w1] at h
    obtain ⟨rfl, rfl⟩ := Prod.mk.inj (Option.some.inj h)
    exact ⟨_, _, rfl, (show rp ((((A0_).toUInt32 >>> ((((8 : Int32) * A1_)).toUInt32 &&& ((31 : Int32)).toUInt32))).toInt32 &&& (255 : Int32)) (((((((iz a0) : Int32).toUInt32 >>> (((iz (8 * a1)) : Int32).toUInt32 &&& (31 : Int32).toUInt32))).toInt32 &&& 255) : Int32).toInt) from congrArg Int32.toInt (by rw [rp_iz ha0, (rw_mul (rp_iz (show rp 8 8 from rfl)) (rp_iz ha1))])), gM⟩
  · rw [if_neg w1] at h
    cases h
def zJ205_17 (n : Nat) (s0 : Int) (M : ZM) : Option (Int × ZM) :=
  if s0 = 0 ∨ s0 = 1 then (some (s0, M)) else (none)
set_option maxRecDepth 100000 in
set_option maxHeartbeats 4000000 in
theorem zJ205_17_r (n : Nat) {S0_ : Int32} {s0 : Int} (hs0 : rp S0_ s0) {M_ : Mem} {M : ZM} (gM : rm M_ M) {r : Int} {m' : ZM} (h : zJ205_17 n s0 M = some (r, m')) : sI (J205_17 n S0_ M_) r m' := by
  unfold zJ205_17 at h
  unfold J205_17
  by_cases q1 : s0 = 0 ∨ s0 = 1
  · rw [if_pos q1] at h
    rw [if_pos ((or_congr (rp_eq hs0 (show rp 0 0 from rfl)) (rp_eq hs0 (show rp 1 1 from rfl))).mpr q1)]
    obtain ⟨rfl, rfl⟩ := Prod.mk.inj (Option.some.inj h)
    exact ⟨_, _, rfl, hs0, gM⟩
  · rw [if_neg q1] at h
    rw [if_neg (fun z => q1 ((or_congr (rp_eq hs0 (show rp 0 0 from rfl)) (rp_eq hs0 (show rp 1 1 from rfl))).mp z))]
    cases h
def zJ205_16 (n : Nat) (M : ZM) : Option (Int × ZM) :=
  zJ205_17 n 0 M
set_option maxRecDepth 100000 in
set_option maxHeartbeats 4000000 in
theorem zJ205_16_r (n : Nat) {M_ : Mem} {M : ZM} (gM : rm M_ M) {r : Int} {m' : ZM} (h : zJ205_16 n M = some (r, m')) : sI (J205_16 n M_) r m' := by
  unfold zJ205_16 at h
  unfold J205_16
  exact zJ205_17_r n (show rp 0 0 from rfl) gM h
/-- ArmExpander$TypedText.isLetter -/
def zF205 (n : Nat) (a0 : Int) (M : ZM) : Option (Int × ZM) :=
  if a0 < 97 then (zJ205_16 n M) else (if 122 < a0 then (zJ205_16 n M) else (zJ205_17 n 1 M))
set_option maxRecDepth 100000 in
set_option maxHeartbeats 4000000 in
theorem zF205_r (n : Nat) {A0_ : Int32} {a0 : Int} (ha0 : rp A0_ a0) {M_ : Mem} {M : ZM} (gM : rm M_ M) {r : Int} {m' : ZM} (h : zF205 n a0 M = some (r, m')) : sI (F205 n A0_ M_) r m' := by
  unfold zF205 at h
  unfold F205
  by_cases q1 : a0 < 97
  · rw [if_pos q1] at h
    rw [if_pos ((rp_lt ha0 (show rp 97 97 from rfl)).mpr q1)]
    exact zJ205_16_r n gM h
  · rw [if_neg q1] at h
    rw [if_neg (fun z => q1 ((rp_lt ha0 (show rp 97 97 from rfl)).mp z))]
    by_cases q2 : 122 < a0
    · rw [if_pos q2] at h
      rw [if_pos ((rp_lt (show rp 122 122 from rfl) ha0).mpr q2)]
      exact zJ205_16_r n gM h
    · rw [if_neg q2] at h
      rw [if_neg (fun z => q2 ((rp_lt (show rp 122 122 from rfl) ha0).mp z))]
      exact zJ205_17_r n (show rp 1 1 from rfl) gM h
def zJ206_17 (n : Nat) (s0 : Int) (M : ZM) : Option (Int × ZM) :=
  if s0 = 0 ∨ s0 = 1 then (some (s0, M)) else (none)
set_option maxRecDepth 100000 in
set_option maxHeartbeats 4000000 in
theorem zJ206_17_r (n : Nat) {S0_ : Int32} {s0 : Int} (hs0 : rp S0_ s0) {M_ : Mem} {M : ZM} (gM : rm M_ M) {r : Int} {m' : ZM} (h : zJ206_17 n s0 M = some (r, m')) : sI (J206_17 n S0_ M_) r m' := by
  unfold zJ206_17 at h
  unfold J206_17
  by_cases q1 : s0 = 0 ∨ s0 = 1
  · rw [if_pos q1] at h
    rw [if_pos ((or_congr (rp_eq hs0 (show rp 0 0 from rfl)) (rp_eq hs0 (show rp 1 1 from rfl))).mpr q1)]
    obtain ⟨rfl, rfl⟩ := Prod.mk.inj (Option.some.inj h)
    exact ⟨_, _, rfl, hs0, gM⟩
  · rw [if_neg q1] at h
    rw [if_neg (fun z => q1 ((or_congr (rp_eq hs0 (show rp 0 0 from rfl)) (rp_eq hs0 (show rp 1 1 from rfl))).mp z))]
    cases h
def zJ206_16 (n : Nat) (M : ZM) : Option (Int × ZM) :=
  zJ206_17 n 0 M
set_option maxRecDepth 100000 in
set_option maxHeartbeats 4000000 in
theorem zJ206_16_r (n : Nat) {M_ : Mem} {M : ZM} (gM : rm M_ M) {r : Int} {m' : ZM} (h : zJ206_16 n M = some (r, m')) : sI (J206_16 n M_) r m' := by
  unfold zJ206_16 at h
  unfold J206_16
  exact zJ206_17_r n (show rp 0 0 from rfl) gM h
/-- ArmExpander$TypedText.isDigit -/
def zF206 (n : Nat) (a0 : Int) (M : ZM) : Option (Int × ZM) :=
  if a0 < 48 then (zJ206_16 n M) else (if 57 < a0 then (zJ206_16 n M) else (zJ206_17 n 1 M))
set_option maxRecDepth 100000 in
set_option maxHeartbeats 4000000 in
theorem zF206_r (n : Nat) {A0_ : Int32} {a0 : Int} (ha0 : rp A0_ a0) {M_ : Mem} {M : ZM} (gM : rm M_ M) {r : Int} {m' : ZM} (h : zF206 n a0 M = some (r, m')) : sI (F206 n A0_ M_) r m' := by
  unfold zF206 at h
  unfold F206
  by_cases q1 : a0 < 48
  · rw [if_pos q1] at h
    rw [if_pos ((rp_lt ha0 (show rp 48 48 from rfl)).mpr q1)]
    exact zJ206_16_r n gM h
  · rw [if_neg q1] at h
    rw [if_neg (fun z => q1 ((rp_lt ha0 (show rp 48 48 from rfl)).mp z))]
    by_cases q2 : 57 < a0
    · rw [if_pos q2] at h
      rw [if_pos ((rp_lt (show rp 57 57 from rfl) ha0).mpr q2)]
      exact zJ206_16_r n gM h
    · rw [if_neg q2] at h
      rw [if_neg (fun z => q2 ((rp_lt (show rp 57 57 from rfl) ha0).mp z))]
      exact zJ206_17_r n (show rp 1 1 from rfl) gM h
/-- ArmExpander.expansions -/
def zF9 (n : Nat) (M : ZM) : Option (Int × ZM) :=
  match zF137 n M with | some (v1, M2) => (some (v1, M2)) | none => none
set_option maxRecDepth 100000 in
set_option maxHeartbeats 4000000 in
theorem zF9_r (n : Nat) {M_ : Mem} {M : ZM} (gM : rm M_ M) {r : Int} {m' : ZM} (h : zF9 n M = some (r, m')) : sI (F9 n M_) r m' := by
  unfold zF9 at h
  unfold F9
  cases hc1 : zF137 n M with
  | none => rw [hc1] at h; cases h
  | some w =>
    obtain ⟨v1, M2⟩ := w
    rw [hc1] at h
    dsimp only at h
    obtain ⟨V1, NM2, ehc1, hv1, gM2⟩ := zF137_r n gM hc1
    rw [ehc1]
    dsimp only
    obtain ⟨rfl, rfl⟩ := Prod.mk.inj (Option.some.inj h)
    exact ⟨_, _, rfl, hv1, gM2⟩
/-- ArmExpander.used -/
def zF10 (n : Nat) (a0 : Int) (M : ZM) : Option (Int × ZM) :=
  match zF138 n a0 M with | some (v1, M2) => (some (v1, M2)) | none => none
set_option maxRecDepth 100000 in
set_option maxHeartbeats 4000000 in
theorem zF10_r (n : Nat) {A0_ : Int32} {a0 : Int} (ha0 : rp A0_ a0) {M_ : Mem} {M : ZM} (gM : rm M_ M) {r : Int} {m' : ZM} (h : zF10 n a0 M = some (r, m')) : sI (F10 n A0_ M_) r m' := by
  unfold zF10 at h
  unfold F10
  cases hc1 : zF138 n a0 M with
  | none => rw [hc1] at h; cases h
  | some w =>
    obtain ⟨v1, M2⟩ := w
    rw [hc1] at h
    dsimp only at h
    obtain ⟨V1, NM2, ehc1, hv1, gM2⟩ := zF138_r n ha0 gM hc1
    rw [ehc1]
    dsimp only
    obtain ⟨rfl, rfl⟩ := Prod.mk.inj (Option.some.inj h)
    exact ⟨_, _, rfl, hv1, gM2⟩
/-- ArmExpanderModel.readAgain -/
def zF34 (n : Nat) (a0 : Int) (M : ZM) : Option (Int × ZM) :=
  zlet (z_i M 83 7 0) (fun M1 => match zF28 n M1 with | some (v2, M3) => (match zF45 n 5 a0 M3 with | some (v5, M6) => (if v5 = 0 ∨ v5 = 1 then (some (v5, M6)) else (none)) | none => none) | none => none)
set_option maxRecDepth 100000 in
set_option maxHeartbeats 4000000 in
theorem zF34_r (n : Nat) {A0_ : Int32} {a0 : Int} (ha0 : rp A0_ a0) {M_ : Mem} {M : ZM} (gM : rm M_ M) {r : Int} {m' : ZM} (h : zF34 n a0 M = some (r, m')) : sI (F34 n A0_ M_) r m' := by
  unfold zF34 at h
  unfold F34
  have gM1 : rm (m_i M_ 83 7 (0 : Int32)) (z_i M 83 7 0) := rm_i gM 83 7 (show rp 0 0 from rfl)
  rw [mlet]
  rw [zlet] at h
  generalize z_i M 83 7 0 = M1 at h gM1
  generalize m_i M_ 83 7 (0 : Int32) = NM1 at gM1 ⊢
  cases hc1 : zF28 n M1 with
  | none => rw [hc1] at h; cases h
  | some w =>
    obtain ⟨v2, M3⟩ := w
    rw [hc1] at h
    dsimp only at h
    obtain ⟨NM3, ehc1, gM3⟩ := zF28_r n gM1 hc1
    rw [ehc1]
    dsimp only
    cases hc2 : zF45 n 5 a0 M3 with
    | none => rw [hc2] at h; cases h
    | some w =>
      obtain ⟨v5, M6⟩ := w
      rw [hc2] at h
      dsimp only at h
      obtain ⟨V5, NM6, ehc2, hv5, gM6⟩ := zF45_r n (show rp 5 5 from rfl) ha0 gM3 hc2
      rw [ehc2]
      dsimp only
      by_cases q3 : v5 = 0 ∨ v5 = 1
      · rw [if_pos q3] at h
        rw [if_pos ((or_congr (rp_eq hv5 (show rp 0 0 from rfl)) (rp_eq hv5 (show rp 1 1 from rfl))).mpr q3)]
        obtain ⟨rfl, rfl⟩ := Prod.mk.inj (Option.some.inj h)
        exact ⟨_, _, rfl, hv5, gM6⟩
      · rw [if_neg q3] at h
        rw [if_neg (fun z => q3 ((or_congr (rp_eq hv5 (show rp 0 0 from rfl)) (rp_eq hv5 (show rp 1 1 from rfl))).mp z))]
        cases h
def zJ58_13 (n : Nat) (M : ZM) : Option (Int × ZM) :=
  if rg ((-1) - (M.1 83 8)) then (some (((-1) - (M.1 83 8)), M)) else none
set_option maxRecDepth 100000 in
set_option maxHeartbeats 4000000 in
theorem zJ58_13_r (n : Nat) {M_ : Mem} {M : ZM} (gM : rm M_ M) {r : Int} {m' : ZM} (h : zJ58_13 n M = some (r, m')) : sI (J58_13 n M_) r m' := by
  unfold zJ58_13 at h
  unfold J58_13
  by_cases w1 : rg ((-1) - (M.1 83 8))
  · rw [if_pos w1] at h
    obtain ⟨rfl, rfl⟩ := Prod.mk.inj (Option.some.inj h)
    exact ⟨_, _, rfl, (rp_sub (rp_iz (show rp (-1) (-1) from rfl)) (rp_iz (rm_rd gM 83 8)) w1), gM⟩
  · rw [if_neg w1] at h
    cases h
def zJ58_172 (n : Nat) (zrec144 : Int → ZM → Option (Int × ZM)) (x3 : Int) (M : ZM) : Option (Int × ZM) :=
  if rg (x3 + 1) then (zrec144 (x3 + 1) M) else none
set_option maxRecDepth 100000 in
set_option maxHeartbeats 4000000 in
theorem zJ58_172_r (n : Nat) (rec144 : Int32 → Mem → Option (Int32 × Mem)) (zrec144 : Int → ZM → Option (Int × ZM)) (hrec144 : ∀ {Y1 : Int32} {y1 : Int} (_ : rp Y1 y1) {M : Mem} {m : ZM} (_ : rm M m) {r : Int} {m' : ZM} (_ : zrec144 y1 m = some (r, m')), sI (rec144 Y1 M) r m') {X3_ : Int32} {x3 : Int} (hx3 : rp X3_ x3) {M_ : Mem} {M : ZM} (gM : rm M_ M) {r : Int} {m' : ZM} (h : zJ58_172 n zrec144 x3 M = some (r, m')) : sI (J58_172 n rec144 X3_ M_) r m' := by
  unfold zJ58_172 at h
  unfold J58_172
  by_cases w1 : rg (x3 + 1)
  · rw [if_pos w1] at h
    exact hrec144 (rp_add (rp_iz hx3) (rp_iz (show rp 1 1 from rfl)) w1) gM h
  · rw [if_neg w1] at h
    cases h
def zL58_144 (n : Nat) : Nat → Int → ZM → Option (Int × ZM)
  | 0, _, _ => none
  | k + 1, x3, M => if (M.1 83 3) ≤ x3 then (if rg ((M.1 83 9) + 1) then (zlet (z_i M 83 9 ((M.1 83 9) + 1)) (fun M17 => some ((M17.1 83 9), M17))) else none) else (if x3 < 0 ∨ 120 ≤ x3 then (none) else (if rg ((120 * (M.1 83 9)) + x3) then (if ((120 * (M.1 83 9)) + x3) < 0 ∨ 600 ≤ ((120 * (M.1 83 9)) + x3) then (none) else (zlet (z_i M 86 (Int.toNat ((120 * (M.1 83 9)) + x3)) (M.1 85 (Int.toNat x3))) (fun M20 => zJ58_172 n (zL58_144 n k) x3 M20))) else none))
set_option maxRecDepth 100000 in
set_option maxHeartbeats 4000000 in
theorem zL58_144_r (n : Nat) : ∀ (k : Nat) {X3_ : Int32} {x3 : Int} (hx3 : rp X3_ x3) {M_ : Mem} {M : ZM} (gM : rm M_ M) {r : Int} {m' : ZM} (_ : zL58_144 n k x3 M = some (r, m')), sI (L58_144 n k X3_ M_) r m' := by
  intro k
  induction k with
  | zero => intro X3_ x3 hx3 M_ M gM r m' h; cases h
  | succ k ih =>
    intro X3_ x3 hx3 M_ M gM r m' h
    rw [zL58_144] at h
    rw [L58_144]
    by_cases q1 : (M.1 83 3) ≤ x3
    · rw [if_pos q1] at h
      rw [if_pos ((rp_le (rm_rd gM 83 3) hx3).mpr q1)]
      by_cases w2 : rg ((M.1 83 9) + 1)
      · rw [if_pos w2] at h
        have gM17 : rm (m_i M_ 83 9 ((M_.1 83 9) + (1 : Int32))) (z_i M 83 9 ((M.1 83 9) + 1)) := rm_i gM 83 9 (rp_add (rp_iz (rm_rd gM 83 9)) (rp_iz (show rp 1 1 from rfl)) w2)
        rw [mlet]
        rw [zlet] at h
        generalize z_i M 83 9 ((M.1 83 9) + 1) = M17 at h gM17
        generalize m_i M_ 83 9 ((M_.1 83 9) + (1 : Int32)) = NM17 at gM17 ⊢
        obtain ⟨rfl, rfl⟩ := Prod.mk.inj (Option.some.inj h)
        exact ⟨_, _, rfl, (rm_rd gM17 83 9), gM17⟩
      · rw [if_neg w2] at h
        cases h
    · rw [if_neg q1] at h
      rw [if_neg (fun z => q1 ((rp_le (rm_rd gM 83 3) hx3).mp z))]
      by_cases q3 : x3 < 0 ∨ 120 ≤ x3
      · rw [if_pos q3] at h
        rw [if_pos ((rp_ob hx3 120).mpr q3)]
        cases h
      · rw [if_neg q3] at h
        rw [if_neg (fun z => q3 ((rp_ob hx3 120).mp z))]
        by_cases w4 : rg ((120 * (M.1 83 9)) + x3)
        · rw [if_pos w4] at h
          by_cases q5 : ((120 * (M.1 83 9)) + x3) < 0 ∨ 600 ≤ ((120 * (M.1 83 9)) + x3)
          · rw [if_pos q5] at h
            rw [if_pos ((rp_ob (rp_add (rw_mul (rp_iz (show rp 120 120 from rfl)) (rp_iz (rm_rd gM 83 9))) (rp_iz hx3) w4) 600).mpr q5)]
            cases h
          · rw [if_neg q5] at h
            rw [if_neg (fun z => q5 ((rp_ob (rp_add (rw_mul (rp_iz (show rp 120 120 from rfl)) (rp_iz (rm_rd gM 83 9))) (rp_iz hx3) w4) 600).mp z))]
            have gM20 : rm (m_i M_ 86 ((((120 : Int32) * (M_.1 83 9)) + X3_)).toNatClampNeg (M_.1 85 (X3_).toNatClampNeg)) (z_i M 86 (Int.toNat ((120 * (M.1 83 9)) + x3)) (M.1 85 (Int.toNat x3))) := rm_ix gM 86 (rp_add (rw_mul (rp_iz (show rp 120 120 from rfl)) (rp_iz (rm_rd gM 83 9))) (rp_iz hx3) w4) (rm_rdx gM 85 hx3)
            rw [mlet]
            rw [zlet] at h
            generalize z_i M 86 (Int.toNat ((120 * (M.1 83 9)) + x3)) (M.1 85 (Int.toNat x3)) = M20 at h gM20
            generalize m_i M_ 86 ((((120 : Int32) * (M_.1 83 9)) + X3_)).toNatClampNeg (M_.1 85 (X3_).toNatClampNeg) = NM20 at gM20 ⊢
            exact zJ58_172_r n _ _ ih hx3 gM20 h
        · rw [if_neg w4] at h
          cases h
def zJ58_142 (n : Nat) (M : ZM) : Option (Int × ZM) :=
  zL58_144 n n 0 M
set_option maxRecDepth 100000 in
set_option maxHeartbeats 4000000 in
theorem zJ58_142_r (n : Nat) {M_ : Mem} {M : ZM} (gM : rm M_ M) {r : Int} {m' : ZM} (h : zJ58_142 n M = some (r, m')) : sI (J58_142 n M_) r m' := by
  unfold zJ58_142 at h
  unfold J58_142
  exact zL58_144_r n n (show rp 0 0 from rfl) gM h
def zJ58_119 (n : Nat) (x1 : Int) (M : ZM) : Option (Int × ZM) :=
  if (M.1 83 9) < 0 ∨ 6 ≤ (M.1 83 9) then (none) else (zlet (z_i M 89 (Int.toNat (M.1 83 9)) x1) (fun M13 => if (M13.1 83 9) < 0 ∨ 5 ≤ (M13.1 83 9) then (none) else (zlet (z_i M13 87 (Int.toNat (M13.1 83 9)) (M13.1 83 3)) (fun M15 => zJ58_142 n M15))))
set_option maxRecDepth 100000 in
set_option maxHeartbeats 4000000 in
theorem zJ58_119_r (n : Nat) {X1_ : Int32} {x1 : Int} (hx1 : rp X1_ x1) {M_ : Mem} {M : ZM} (gM : rm M_ M) {r : Int} {m' : ZM} (h : zJ58_119 n x1 M = some (r, m')) : sI (J58_119 n X1_ M_) r m' := by
  unfold zJ58_119 at h
  unfold J58_119
  by_cases q1 : (M.1 83 9) < 0 ∨ 6 ≤ (M.1 83 9)
  · rw [if_pos q1] at h
    rw [if_pos ((rp_ob (rm_rd gM 83 9) 6).mpr q1)]
    cases h
  · rw [if_neg q1] at h
    rw [if_neg (fun z => q1 ((rp_ob (rm_rd gM 83 9) 6).mp z))]
    have gM13 : rm (m_i M_ 89 ((M_.1 83 9)).toNatClampNeg X1_) (z_i M 89 (Int.toNat (M.1 83 9)) x1) := rm_ix gM 89 (rm_rd gM 83 9) hx1
    rw [mlet]
    rw [zlet] at h
    generalize z_i M 89 (Int.toNat (M.1 83 9)) x1 = M13 at h gM13
    generalize m_i M_ 89 ((M_.1 83 9)).toNatClampNeg X1_ = NM13 at gM13 ⊢
    by_cases q2 : (M13.1 83 9) < 0 ∨ 5 ≤ (M13.1 83 9)
    · rw [if_pos q2] at h
      rw [if_pos ((rp_ob (rm_rd gM13 83 9) 5).mpr q2)]
      cases h
    · rw [if_neg q2] at h
      rw [if_neg (fun z => q2 ((rp_ob (rm_rd gM13 83 9) 5).mp z))]
      have gM15 : rm (m_i NM13 87 ((NM13.1 83 9)).toNatClampNeg (NM13.1 83 3)) (z_i M13 87 (Int.toNat (M13.1 83 9)) (M13.1 83 3)) := rm_ix gM13 87 (rm_rd gM13 83 9) (rm_rd gM13 83 3)
      rw [mlet]
      rw [zlet] at h
      generalize z_i M13 87 (Int.toNat (M13.1 83 9)) (M13.1 83 3) = M15 at h gM15
      generalize m_i NM13 87 ((NM13.1 83 9)).toNatClampNeg (NM13.1 83 3) = NM15 at gM15 ⊢
      exact zJ58_142_r n gM15 h
def zJ58_76 (n : Nat) (M : ZM) : Option (Int × ZM) :=
  some ((-1002), M)
set_option maxRecDepth 100000 in
set_option maxHeartbeats 4000000 in
theorem zJ58_76_r (n : Nat) {M_ : Mem} {M : ZM} (gM : rm M_ M) {r : Int} {m' : ZM} (h : zJ58_76 n M = some (r, m')) : sI (J58_76 n M_) r m' := by
  unfold zJ58_76 at h
  unfold J58_76
  obtain ⟨rfl, rfl⟩ := Prod.mk.inj (Option.some.inj h)
  exact ⟨_, _, rfl, (show rp (-1002) (-1002) from rfl), gM⟩
def zJ58_80 (n : Nat) (zrec36 : Int → Int → Int → ZM → Option (Int × ZM)) (x1 : Int) (x2 : Int) (x3 : Int) (M : ZM) : Option (Int × ZM) :=
  match zF57 n M with | some (v36, M37) => (if v36 = 0 then (some ((-1003), M37)) else (if rg (x3 + 1) then (zrec36 x1 x2 (x3 + 1) M37) else none)) | none => none
set_option maxRecDepth 100000 in
set_option maxHeartbeats 4000000 in
theorem zJ58_80_r (n : Nat) (rec36 : Int32 → Int32 → Int32 → Mem → Option (Int32 × Mem)) (zrec36 : Int → Int → Int → ZM → Option (Int × ZM)) (hrec36 : ∀ {Y1 : Int32} {y1 : Int} (_ : rp Y1 y1) {Y2 : Int32} {y2 : Int} (_ : rp Y2 y2) {Y3 : Int32} {y3 : Int} (_ : rp Y3 y3) {M : Mem} {m : ZM} (_ : rm M m) {r : Int} {m' : ZM} (_ : zrec36 y1 y2 y3 m = some (r, m')), sI (rec36 Y1 Y2 Y3 M) r m') {X1_ : Int32} {x1 : Int} (hx1 : rp X1_ x1) {X2_ : Int32} {x2 : Int} (hx2 : rp X2_ x2) {X3_ : Int32} {x3 : Int} (hx3 : rp X3_ x3) {M_ : Mem} {M : ZM} (gM : rm M_ M) {r : Int} {m' : ZM} (h : zJ58_80 n zrec36 x1 x2 x3 M = some (r, m')) : sI (J58_80 n rec36 X1_ X2_ X3_ M_) r m' := by
  unfold zJ58_80 at h
  unfold J58_80
  cases hc1 : zF57 n M with
  | none => rw [hc1] at h; cases h
  | some w =>
    obtain ⟨v36, M37⟩ := w
    rw [hc1] at h
    dsimp only at h
    obtain ⟨V36, NM37, ehc1, hv36, gM37⟩ := zF57_r n gM hc1
    rw [ehc1]
    dsimp only
    by_cases q2 : v36 = 0
    · rw [if_pos q2] at h
      rw [if_pos ((rp_eq hv36 (show rp 0 0 from rfl)).mpr q2)]
      obtain ⟨rfl, rfl⟩ := Prod.mk.inj (Option.some.inj h)
      exact ⟨_, _, rfl, (show rp (-1003) (-1003) from rfl), gM37⟩
    · rw [if_neg q2] at h
      rw [if_neg (fun z => q2 ((rp_eq hv36 (show rp 0 0 from rfl)).mp z))]
      by_cases w3 : rg (x3 + 1)
      · rw [if_pos w3] at h
        exact hrec36 hx1 hx2 (rp_add (rp_iz hx3) (rp_iz (show rp 1 1 from rfl)) w3) gM37 h
      · rw [if_neg w3] at h
        cases h
def zJ58_58 (n : Nat) (zrec36 : Int → Int → Int → ZM → Option (Int × ZM)) (x1 : Int) (x2 : Int) (x3 : Int) (M : ZM) : Option (Int × ZM) :=
  match zF48 n M with | some (v28, M29) => (if v28 = 0 then (match zF54 n M29 with | some (v32, M33) => (if v32 = 0 then (zJ58_76 n M33) else (zJ58_80 n zrec36 x1 x2 x3 M33)) | none => none) else (some ((-1001), M29))) | none => none
set_option maxRecDepth 100000 in
set_option maxHeartbeats 4000000 in
theorem zJ58_58_r (n : Nat) (rec36 : Int32 → Int32 → Int32 → Mem → Option (Int32 × Mem)) (zrec36 : Int → Int → Int → ZM → Option (Int × ZM)) (hrec36 : ∀ {Y1 : Int32} {y1 : Int} (_ : rp Y1 y1) {Y2 : Int32} {y2 : Int} (_ : rp Y2 y2) {Y3 : Int32} {y3 : Int} (_ : rp Y3 y3) {M : Mem} {m : ZM} (_ : rm M m) {r : Int} {m' : ZM} (_ : zrec36 y1 y2 y3 m = some (r, m')), sI (rec36 Y1 Y2 Y3 M) r m') {X1_ : Int32} {x1 : Int} (hx1 : rp X1_ x1) {X2_ : Int32} {x2 : Int} (hx2 : rp X2_ x2) {X3_ : Int32} {x3 : Int} (hx3 : rp X3_ x3) {M_ : Mem} {M : ZM} (gM : rm M_ M) {r : Int} {m' : ZM} (h : zJ58_58 n zrec36 x1 x2 x3 M = some (r, m')) : sI (J58_58 n rec36 X1_ X2_ X3_ M_) r m' := by
  unfold zJ58_58 at h
  unfold J58_58
  cases hc1 : zF48 n M with
  | none => rw [hc1] at h; cases h
  | some w =>
    obtain ⟨v28, M29⟩ := w
    rw [hc1] at h
    dsimp only at h
    obtain ⟨V28, NM29, ehc1, hv28, gM29⟩ := zF48_r n gM hc1
    rw [ehc1]
    dsimp only
    by_cases q2 : v28 = 0
    · rw [if_pos q2] at h
      rw [if_pos ((rp_eq hv28 (show rp 0 0 from rfl)).mpr q2)]
      cases hc3 : zF54 n M29 with
      | none => rw [hc3] at h; cases h
      | some w =>
        obtain ⟨v32, M33⟩ := w
        rw [hc3] at h
        dsimp only at h
        obtain ⟨V32, NM33, ehc3, hv32, gM33⟩ := zF54_r n gM29 hc3
        rw [ehc3]
        dsimp only
        by_cases q4 : v32 = 0
        · rw [if_pos q4] at h
          rw [if_pos ((rp_eq hv32 (show rp 0 0 from rfl)).mpr q4)]
          exact zJ58_76_r n gM33 h
        · rw [if_neg q4] at h
          rw [if_neg (fun z => q4 ((rp_eq hv32 (show rp 0 0 from rfl)).mp z))]
          exact zJ58_80_r n _ _ hrec36 hx1 hx2 hx3 gM33 h
    · rw [if_neg q2] at h
      rw [if_neg (fun z => q2 ((rp_eq hv28 (show rp 0 0 from rfl)).mp z))]
      obtain ⟨rfl, rfl⟩ := Prod.mk.inj (Option.some.inj h)
      exact ⟨_, _, rfl, (show rp (-1001) (-1001) from rfl), gM29⟩
def zJ58_54 (n : Nat) (M : ZM) : Option (Int × ZM) :=
  some ((-1000), M)
set_option maxRecDepth 100000 in
set_option maxHeartbeats 4000000 in
theorem zJ58_54_r (n : Nat) {M_ : Mem} {M : ZM} (gM : rm M_ M) {r : Int} {m' : ZM} (h : zJ58_54 n M = some (r, m')) : sI (J58_54 n M_) r m' := by
  unfold zJ58_54 at h
  unfold J58_54
  obtain ⟨rfl, rfl⟩ := Prod.mk.inj (Option.some.inj h)
  exact ⟨_, _, rfl, (show rp (-1000) (-1000) from rfl), gM⟩
def zL58_36 (n : Nat) : Nat → Int → Int → Int → ZM → Option (Int × ZM)
  | 0, _, _, _, _ => none
  | k + 1, x1, x2, x3, M => if x1 ≤ x3 then (if (M.1 83 9) < 5 then (if (M.1 83 9) < 0 ∨ 6 ≤ (M.1 83 9) then (none) else (zlet (z_i M 88 (Int.toNat (M.1 83 9)) x2) (fun M11 => zJ58_119 n x1 M11))) else (some ((-1004), M))) else (match zF34 n x3 M with | some (v21, M22) => (match zF47 n M22 with | some (v24, M25) => (if v24 = 0 then (zJ58_58 n (zL58_36 n k) x1 x2 x3 M25) else (zJ58_54 n M25)) | none => none) | none => none)
set_option maxRecDepth 100000 in
set_option maxHeartbeats 4000000 in
theorem zL58_36_r (n : Nat) : ∀ (k : Nat) {X1_ : Int32} {x1 : Int} (hx1 : rp X1_ x1) {X2_ : Int32} {x2 : Int} (hx2 : rp X2_ x2) {X3_ : Int32} {x3 : Int} (hx3 : rp X3_ x3) {M_ : Mem} {M : ZM} (gM : rm M_ M) {r : Int} {m' : ZM} (_ : zL58_36 n k x1 x2 x3 M = some (r, m')), sI (L58_36 n k X1_ X2_ X3_ M_) r m' := by
  intro k
  induction k with
  | zero => intro X1_ x1 hx1 X2_ x2 hx2 X3_ x3 hx3 M_ M gM r m' h; cases h
  | succ k ih =>
    intro X1_ x1 hx1 X2_ x2 hx2 X3_ x3 hx3 M_ M gM r m' h
    rw [zL58_36] at h
    rw [L58_36]
    by_cases q1 : x1 ≤ x3
    · rw [if_pos q1] at h
      rw [if_pos ((rp_le hx1 hx3).mpr q1)]
      by_cases q2 : (M.1 83 9) < 5
      · rw [if_pos q2] at h
        rw [if_pos ((rp_lt (rm_rd gM 83 9) (show rp 5 5 from rfl)).mpr q2)]
        by_cases q3 : (M.1 83 9) < 0 ∨ 6 ≤ (M.1 83 9)
        · rw [if_pos q3] at h
          rw [if_pos ((rp_ob (rm_rd gM 83 9) 6).mpr q3)]
          cases h
        · rw [if_neg q3] at h
          rw [if_neg (fun z => q3 ((rp_ob (rm_rd gM 83 9) 6).mp z))]
          have gM11 : rm (m_i M_ 88 ((M_.1 83 9)).toNatClampNeg X2_) (z_i M 88 (Int.toNat (M.1 83 9)) x2) := rm_ix gM 88 (rm_rd gM 83 9) hx2
          rw [mlet]
          rw [zlet] at h
          generalize z_i M 88 (Int.toNat (M.1 83 9)) x2 = M11 at h gM11
          generalize m_i M_ 88 ((M_.1 83 9)).toNatClampNeg X2_ = NM11 at gM11 ⊢
          exact zJ58_119_r n hx1 gM11 h
      · rw [if_neg q2] at h
        rw [if_neg (fun z => q2 ((rp_lt (rm_rd gM 83 9) (show rp 5 5 from rfl)).mp z))]
        obtain ⟨rfl, rfl⟩ := Prod.mk.inj (Option.some.inj h)
        exact ⟨_, _, rfl, (show rp (-1004) (-1004) from rfl), gM⟩
    · rw [if_neg q1] at h
      rw [if_neg (fun z => q1 ((rp_le hx1 hx3).mp z))]
      cases hc4 : zF34 n x3 M with
      | none => rw [hc4] at h; cases h
      | some w =>
        obtain ⟨v21, M22⟩ := w
        rw [hc4] at h
        dsimp only at h
        obtain ⟨V21, NM22, ehc4, hv21, gM22⟩ := zF34_r n hx3 gM hc4
        rw [ehc4]
        dsimp only
        cases hc5 : zF47 n M22 with
        | none => rw [hc5] at h; cases h
        | some w =>
          obtain ⟨v24, M25⟩ := w
          rw [hc5] at h
          dsimp only at h
          obtain ⟨V24, NM25, ehc5, hv24, gM25⟩ := zF47_r n gM22 hc5
          rw [ehc5]
          dsimp only
          by_cases q6 : v24 = 0
          · rw [if_pos q6] at h
            rw [if_pos ((rp_eq hv24 (show rp 0 0 from rfl)).mpr q6)]
            exact zJ58_58_r n _ _ ih hx1 hx2 hx3 gM25 h
          · rw [if_neg q6] at h
            rw [if_neg (fun z => q6 ((rp_eq hv24 (show rp 0 0 from rfl)).mp z))]
            exact zJ58_54_r n gM25 h
def zJ58_20 (n : Nat) (M : ZM) : Option (Int × ZM) :=
  zL58_36 n n (M.1 89 5) (M.1 88 5) 0 M
set_option maxRecDepth 100000 in
set_option maxHeartbeats 4000000 in
theorem zJ58_20_r (n : Nat) {M_ : Mem} {M : ZM} (gM : rm M_ M) {r : Int} {m' : ZM} (h : zJ58_20 n M = some (r, m')) : sI (J58_20 n M_) r m' := by
  unfold zJ58_20 at h
  unfold J58_20
  exact zL58_36_r n n (rm_rd gM 89 5) (rm_rd gM 88 5) (show rp 0 0 from rfl) gM h
/-- ArmExpanderModel.define -/
def zF58 (n : Nat) (M : ZM) : Option (Int × ZM) :=
  match zF32 n M with | some (v1, M2) => (match zF45 n 5 (-1) M2 with | some (v4, M5) => (if v4 = 0 then (zJ58_13 n M5) else (zJ58_20 n M5)) | none => none) | none => none
set_option maxRecDepth 100000 in
set_option maxHeartbeats 4000000 in
theorem zF58_r (n : Nat) {M_ : Mem} {M : ZM} (gM : rm M_ M) {r : Int} {m' : ZM} (h : zF58 n M = some (r, m')) : sI (F58 n M_) r m' := by
  unfold zF58 at h
  unfold F58
  cases hc1 : zF32 n M with
  | none => rw [hc1] at h; cases h
  | some w =>
    obtain ⟨v1, M2⟩ := w
    rw [hc1] at h
    dsimp only at h
    obtain ⟨NM2, ehc1, gM2⟩ := zF32_r n gM hc1
    rw [ehc1]
    dsimp only
    cases hc2 : zF45 n 5 (-1) M2 with
    | none => rw [hc2] at h; cases h
    | some w =>
      obtain ⟨v4, M5⟩ := w
      rw [hc2] at h
      dsimp only at h
      obtain ⟨V4, NM5, ehc2, hv4, gM5⟩ := zF45_r n (show rp 5 5 from rfl) (show rp (-1) (-1) from rfl) gM2 hc2
      rw [ehc2]
      dsimp only
      by_cases q3 : v4 = 0
      · rw [if_pos q3] at h
        rw [if_pos ((rp_eq hv4 (show rp 0 0 from rfl)).mpr q3)]
        exact zJ58_13_r n gM5 h
      · rw [if_neg q3] at h
        rw [if_neg (fun z => q3 ((rp_eq hv4 (show rp 0 0 from rfl)).mp z))]
        exact zJ58_20_r n gM5 h
def zJ92_43 (n : Nat) (g0 : Nat) (zrec12 : Int → Int → Int → ZM → Option (Int × ZM)) (x1 : Int) (x2 : Int) (x3 : Int) (M : ZM) : Option (Int × ZM) :=
  if rg (x3 + 1) then (zrec12 x1 x2 (x3 + 1) M) else none
set_option maxRecDepth 100000 in
set_option maxHeartbeats 4000000 in
theorem zJ92_43_r (n : Nat) (g0 : Nat) (rec12 : Int32 → Int32 → Int32 → Mem → Option (Int32 × Mem)) (zrec12 : Int → Int → Int → ZM → Option (Int × ZM)) (hrec12 : ∀ {Y1 : Int32} {y1 : Int} (_ : rp Y1 y1) {Y2 : Int32} {y2 : Int} (_ : rp Y2 y2) {Y3 : Int32} {y3 : Int} (_ : rp Y3 y3) {M : Mem} {m : ZM} (_ : rm M m) {r : Int} {m' : ZM} (_ : zrec12 y1 y2 y3 m = some (r, m')), sI (rec12 Y1 Y2 Y3 M) r m') {X1_ : Int32} {x1 : Int} (hx1 : rp X1_ x1) {X2_ : Int32} {x2 : Int} (hx2 : rp X2_ x2) {X3_ : Int32} {x3 : Int} (hx3 : rp X3_ x3) {M_ : Mem} {M : ZM} (gM : rm M_ M) {r : Int} {m' : ZM} (h : zJ92_43 n g0 zrec12 x1 x2 x3 M = some (r, m')) : sI (J92_43 n g0 rec12 X1_ X2_ X3_ M_) r m' := by
  unfold zJ92_43 at h
  unfold J92_43
  by_cases w1 : rg (x3 + 1)
  · rw [if_pos w1] at h
    exact hrec12 hx1 hx2 (rp_add (rp_iz hx3) (rp_iz (show rp 1 1 from rfl)) w1) gM h
  · rw [if_neg w1] at h
    cases h
def zJ92_41 (n : Nat) (g0 : Nat) (M : ZM) : Option (Int × ZM) :=
  some (1, M)
set_option maxRecDepth 100000 in
set_option maxHeartbeats 4000000 in
theorem zJ92_41_r (n : Nat) (g0 : Nat) {M_ : Mem} {M : ZM} (gM : rm M_ M) {r : Int} {m' : ZM} (h : zJ92_41 n g0 M = some (r, m')) : sI (J92_41 n g0 M_) r m' := by
  unfold zJ92_41 at h
  unfold J92_41
  obtain ⟨rfl, rfl⟩ := Prod.mk.inj (Option.some.inj h)
  exact ⟨_, _, rfl, (show rp 1 1 from rfl), gM⟩
def zL92_12 (n : Nat) (g0 : Nat) : Nat → Int → Int → Int → ZM → Option (Int × ZM)
  | 0, _, _, _, _ => none
  | k + 1, x1, x2, x3, M => if x2 ≤ x3 then (some (0, M)) else (match zF115 n g0 x3 M with | some (v8, M9) => (if v8 = 0 then (zJ92_43 n g0 (zL92_12 n g0 k) x1 x2 x3 M9) else (if rg (x3 + 1) then (match zF109 n g0 (x3 + 1) M9 with | some (v12, M13) => (match zF125 n g0 x1 v12 M13 with | some (v15, M16) => (if v15 = x3 then (zJ92_43 n g0 (zL92_12 n g0 k) x1 x2 x3 M16) else (zJ92_41 n g0 M16)) | none => none) | none => none) else none)) | none => none)
set_option maxRecDepth 100000 in
set_option maxHeartbeats 4000000 in
theorem zL92_12_r (n : Nat) (g0 : Nat) : ∀ (k : Nat) {X1_ : Int32} {x1 : Int} (hx1 : rp X1_ x1) {X2_ : Int32} {x2 : Int} (hx2 : rp X2_ x2) {X3_ : Int32} {x3 : Int} (hx3 : rp X3_ x3) {M_ : Mem} {M : ZM} (gM : rm M_ M) {r : Int} {m' : ZM} (_ : zL92_12 n g0 k x1 x2 x3 M = some (r, m')), sI (L92_12 n g0 k X1_ X2_ X3_ M_) r m' := by
  intro k
  induction k with
  | zero => intro X1_ x1 hx1 X2_ x2 hx2 X3_ x3 hx3 M_ M gM r m' h; cases h
  | succ k ih =>
    intro X1_ x1 hx1 X2_ x2 hx2 X3_ x3 hx3 M_ M gM r m' h
    rw [zL92_12] at h
    rw [L92_12]
    by_cases q1 : x2 ≤ x3
    · rw [if_pos q1] at h
      rw [if_pos ((rp_le hx2 hx3).mpr q1)]
      obtain ⟨rfl, rfl⟩ := Prod.mk.inj (Option.some.inj h)
      exact ⟨_, _, rfl, (show rp 0 0 from rfl), gM⟩
    · rw [if_neg q1] at h
      rw [if_neg (fun z => q1 ((rp_le hx2 hx3).mp z))]
      cases hc2 : zF115 n g0 x3 M with
      | none => rw [hc2] at h; cases h
      | some w =>
        obtain ⟨v8, M9⟩ := w
        rw [hc2] at h
        dsimp only at h
        obtain ⟨V8, NM9, ehc2, hv8, gM9⟩ := zF115_r n g0 hx3 gM hc2
        rw [ehc2]
        dsimp only
        by_cases q3 : v8 = 0
        · rw [if_pos q3] at h
          rw [if_pos ((rp_eq hv8 (show rp 0 0 from rfl)).mpr q3)]
          exact zJ92_43_r n g0 _ _ ih hx1 hx2 hx3 gM9 h
        · rw [if_neg q3] at h
          rw [if_neg (fun z => q3 ((rp_eq hv8 (show rp 0 0 from rfl)).mp z))]
          by_cases w4 : rg (x3 + 1)
          · rw [if_pos w4] at h
            cases hc5 : zF109 n g0 (x3 + 1) M9 with
            | none => rw [hc5] at h; cases h
            | some w =>
              obtain ⟨v12, M13⟩ := w
              rw [hc5] at h
              dsimp only at h
              obtain ⟨V12, NM13, ehc5, hv12, gM13⟩ := zF109_r n g0 (rp_add (rp_iz hx3) (rp_iz (show rp 1 1 from rfl)) w4) gM9 hc5
              rw [ehc5]
              dsimp only
              cases hc6 : zF125 n g0 x1 v12 M13 with
              | none => rw [hc6] at h; cases h
              | some w =>
                obtain ⟨v15, M16⟩ := w
                rw [hc6] at h
                dsimp only at h
                obtain ⟨V15, NM16, ehc6, hv15, gM16⟩ := zF125_r n g0 hx1 hv12 gM13 hc6
                rw [ehc6]
                dsimp only
                by_cases q7 : v15 = x3
                · rw [if_pos q7] at h
                  rw [if_pos ((rp_eq hv15 hx3).mpr q7)]
                  exact zJ92_43_r n g0 _ _ ih hx1 hx2 hx3 gM16 h
                · rw [if_neg q7] at h
                  rw [if_neg (fun z => q7 ((rp_eq hv15 hx3).mp z))]
                  exact zJ92_41_r n g0 gM16 h
          · rw [if_neg w4] at h
            cases h
/-- ArmExpander$Checker.hasWordTwice -/
def zF92 (n : Nat) (g0 : Nat) (a1 : Int) (M : ZM) : Option (Int × ZM) :=
  match zF112 n g0 a1 M with | some (v1, M2) => (match zF111 n g0 a1 M2 with | some (v4, M5) => (zL92_12 n g0 n a1 v1 v4 M5) | none => none) | none => none
set_option maxRecDepth 100000 in
set_option maxHeartbeats 4000000 in
theorem zF92_r (n : Nat) (g0 : Nat) {A1_ : Int32} {a1 : Int} (ha1 : rp A1_ a1) {M_ : Mem} {M : ZM} (gM : rm M_ M) {r : Int} {m' : ZM} (h : zF92 n g0 a1 M = some (r, m')) : sI (F92 n g0 A1_ M_) r m' := by
  unfold zF92 at h
  unfold F92
  cases hc1 : zF112 n g0 a1 M with
  | none => rw [hc1] at h; cases h
  | some w =>
    obtain ⟨v1, M2⟩ := w
    rw [hc1] at h
    dsimp only at h
    obtain ⟨V1, NM2, ehc1, hv1, gM2⟩ := zF112_r n g0 ha1 gM hc1
    rw [ehc1]
    dsimp only
    cases hc2 : zF111 n g0 a1 M2 with
    | none => rw [hc2] at h; cases h
    | some w =>
      obtain ⟨v4, M5⟩ := w
      rw [hc2] at h
      dsimp only at h
      obtain ⟨V4, NM5, ehc2, hv4, gM5⟩ := zF111_r n g0 ha1 gM2 hc2
      rw [ehc2]
      dsimp only
      exact zL92_12_r n g0 n ha1 hv1 hv4 gM5 h
def zJ94_58 (n : Nat) (g0 : Nat) (M : ZM) : Option (Int × ZM) :=
  some (1, M)
set_option maxRecDepth 100000 in
set_option maxHeartbeats 4000000 in
theorem zJ94_58_r (n : Nat) (g0 : Nat) {M_ : Mem} {M : ZM} (gM : rm M_ M) {r : Int} {m' : ZM} (h : zJ94_58 n g0 M = some (r, m')) : sI (J94_58 n g0 M_) r m' := by
  unfold zJ94_58 at h
  unfold J94_58
  obtain ⟨rfl, rfl⟩ := Prod.mk.inj (Option.some.inj h)
  exact ⟨_, _, rfl, (show rp 1 1 from rfl), gM⟩
def zJ94_44 (n : Nat) (g0 : Nat) (M : ZM) : Option (Int × ZM) :=
  some (0, M)
set_option maxRecDepth 100000 in
set_option maxHeartbeats 4000000 in
theorem zJ94_44_r (n : Nat) (g0 : Nat) {M_ : Mem} {M : ZM} (gM : rm M_ M) {r : Int} {m' : ZM} (h : zJ94_44 n g0 M = some (r, m')) : sI (J94_44 n g0 M_) r m' := by
  unfold zJ94_44 at h
  unfold J94_44
  obtain ⟨rfl, rfl⟩ := Prod.mk.inj (Option.some.inj h)
  exact ⟨_, _, rfl, (show rp 0 0 from rfl), gM⟩
def zJ94_52 (n : Nat) (g0 : Nat) (zrec15 : Int → Int → Int → ZM → Option (Int × ZM)) (x2 : Int) (x3 : Int) (x4 : Int) (M : ZM) : Option (Int × ZM) :=
  if rg (x4 + 1) then (zrec15 x2 x3 (x4 + 1) M) else none
set_option maxRecDepth 100000 in
set_option maxHeartbeats 4000000 in
theorem zJ94_52_r (n : Nat) (g0 : Nat) (rec15 : Int32 → Int32 → Int32 → Mem → Option (Int32 × Mem)) (zrec15 : Int → Int → Int → ZM → Option (Int × ZM)) (hrec15 : ∀ {Y1 : Int32} {y1 : Int} (_ : rp Y1 y1) {Y2 : Int32} {y2 : Int} (_ : rp Y2 y2) {Y3 : Int32} {y3 : Int} (_ : rp Y3 y3) {M : Mem} {m : ZM} (_ : rm M m) {r : Int} {m' : ZM} (_ : zrec15 y1 y2 y3 m = some (r, m')), sI (rec15 Y1 Y2 Y3 M) r m') {X2_ : Int32} {x2 : Int} (hx2 : rp X2_ x2) {X3_ : Int32} {x3 : Int} (hx3 : rp X3_ x3) {X4_ : Int32} {x4 : Int} (hx4 : rp X4_ x4) {M_ : Mem} {M : ZM} (gM : rm M_ M) {r : Int} {m' : ZM} (h : zJ94_52 n g0 zrec15 x2 x3 x4 M = some (r, m')) : sI (J94_52 n g0 rec15 X2_ X3_ X4_ M_) r m' := by
  unfold zJ94_52 at h
  unfold J94_52
  by_cases w1 : rg (x4 + 1)
  · rw [if_pos w1] at h
    exact hrec15 hx2 hx3 (rp_add (rp_iz hx4) (rp_iz (show rp 1 1 from rfl)) w1) gM h
  · rw [if_neg w1] at h
    cases h
def zJ94_34 (n : Nat) (g0 : Nat) (zrec15 : Int → Int → Int → ZM → Option (Int × ZM)) (x2 : Int) (x3 : Int) (x4 : Int) (M : ZM) : Option (Int × ZM) :=
  match zF118 n g0 x3 M with | some (v10, M11) => (if v10 = 43 then (zJ94_44 n g0 M11) else (match zF119 n g0 x3 M11 with | some (v14, M15) => (zJ94_52 n g0 zrec15 x2 v14 x4 M15) | none => none)) | none => none
set_option maxRecDepth 100000 in
set_option maxHeartbeats 4000000 in
theorem zJ94_34_r (n : Nat) (g0 : Nat) (rec15 : Int32 → Int32 → Int32 → Mem → Option (Int32 × Mem)) (zrec15 : Int → Int → Int → ZM → Option (Int × ZM)) (hrec15 : ∀ {Y1 : Int32} {y1 : Int} (_ : rp Y1 y1) {Y2 : Int32} {y2 : Int} (_ : rp Y2 y2) {Y3 : Int32} {y3 : Int} (_ : rp Y3 y3) {M : Mem} {m : ZM} (_ : rm M m) {r : Int} {m' : ZM} (_ : zrec15 y1 y2 y3 m = some (r, m')), sI (rec15 Y1 Y2 Y3 M) r m') {X2_ : Int32} {x2 : Int} (hx2 : rp X2_ x2) {X3_ : Int32} {x3 : Int} (hx3 : rp X3_ x3) {X4_ : Int32} {x4 : Int} (hx4 : rp X4_ x4) {M_ : Mem} {M : ZM} (gM : rm M_ M) {r : Int} {m' : ZM} (h : zJ94_34 n g0 zrec15 x2 x3 x4 M = some (r, m')) : sI (J94_34 n g0 rec15 X2_ X3_ X4_ M_) r m' := by
  unfold zJ94_34 at h
  unfold J94_34
  cases hc1 : zF118 n g0 x3 M with
  | none => rw [hc1] at h; cases h
  | some w =>
    obtain ⟨v10, M11⟩ := w
    rw [hc1] at h
    dsimp only at h
    obtain ⟨V10, NM11, ehc1, hv10, gM11⟩ := zF118_r n g0 hx3 gM hc1
    rw [ehc1]
    dsimp only
    by_cases q2 : v10 = 43
    · rw [if_pos q2] at h
      rw [if_pos ((rp_eq hv10 (show rp 43 43 from rfl)).mpr q2)]
      exact zJ94_44_r n g0 gM11 h
    · rw [if_neg q2] at h
      rw [if_neg (fun z => q2 ((rp_eq hv10 (show rp 43 43 from rfl)).mp z))]
      cases hc3 : zF119 n g0 x3 M11 with
      | none => rw [hc3] at h; cases h
      | some w =>
        obtain ⟨v14, M15⟩ := w
        rw [hc3] at h
        dsimp only at h
        obtain ⟨V14, NM15, ehc3, hv14, gM15⟩ := zF119_r n g0 hx3 gM11 hc3
        rw [ehc3]
        dsimp only
        exact zJ94_52_r n g0 _ _ hrec15 hx2 hv14 hx4 gM15 h
def zL94_15 (n : Nat) (g0 : Nat) : Nat → Int → Int → Int → ZM → Option (Int × ZM)
  | 0, _, _, _, _ => none
  | k + 1, x2, x3, x4, M => if 4 ≤ x4 then (zJ94_58 n g0 M) else (if x2 ≤ x3 then (zJ94_58 n g0 M) else (match zF116 n g0 x3 M with | some (v6, M7) => (if v6 = 0 then (zJ94_44 n g0 M7) else (zJ94_34 n g0 (zL94_15 n g0 k) x2 x3 x4 M7)) | none => none))
set_option maxRecDepth 100000 in
set_option maxHeartbeats 4000000 in
theorem zL94_15_r (n : Nat) (g0 : Nat) : ∀ (k : Nat) {X2_ : Int32} {x2 : Int} (hx2 : rp X2_ x2) {X3_ : Int32} {x3 : Int} (hx3 : rp X3_ x3) {X4_ : Int32} {x4 : Int} (hx4 : rp X4_ x4) {M_ : Mem} {M : ZM} (gM : rm M_ M) {r : Int} {m' : ZM} (_ : zL94_15 n g0 k x2 x3 x4 M = some (r, m')), sI (L94_15 n g0 k X2_ X3_ X4_ M_) r m' := by
  intro k
  induction k with
  | zero => intro X2_ x2 hx2 X3_ x3 hx3 X4_ x4 hx4 M_ M gM r m' h; cases h
  | succ k ih =>
    intro X2_ x2 hx2 X3_ x3 hx3 X4_ x4 hx4 M_ M gM r m' h
    rw [zL94_15] at h
    rw [L94_15]
    by_cases q1 : 4 ≤ x4
    · rw [if_pos q1] at h
      rw [if_pos ((rp_le (show rp 4 4 from rfl) hx4).mpr q1)]
      exact zJ94_58_r n g0 gM h
    · rw [if_neg q1] at h
      rw [if_neg (fun z => q1 ((rp_le (show rp 4 4 from rfl) hx4).mp z))]
      by_cases q2 : x2 ≤ x3
      · rw [if_pos q2] at h
        rw [if_pos ((rp_le hx2 hx3).mpr q2)]
        exact zJ94_58_r n g0 gM h
      · rw [if_neg q2] at h
        rw [if_neg (fun z => q2 ((rp_le hx2 hx3).mp z))]
        cases hc3 : zF116 n g0 x3 M with
        | none => rw [hc3] at h; cases h
        | some w =>
          obtain ⟨v6, M7⟩ := w
          rw [hc3] at h
          dsimp only at h
          obtain ⟨V6, NM7, ehc3, hv6, gM7⟩ := zF116_r n g0 hx3 gM hc3
          rw [ehc3]
          dsimp only
          by_cases q4 : v6 = 0
          · rw [if_pos q4] at h
            rw [if_pos ((rp_eq hv6 (show rp 0 0 from rfl)).mpr q4)]
            exact zJ94_44_r n g0 gM7 h
          · rw [if_neg q4] at h
            rw [if_neg (fun z => q4 ((rp_eq hv6 (show rp 0 0 from rfl)).mp z))]
            exact zJ94_34_r n g0 _ _ ih hx2 hx3 hx4 gM7 h
/-- ArmExpander$Checker.canMatchNothing -/
def zF94 (n : Nat) (g0 : Nat) (a1 : Int) (M : ZM) : Option (Int × ZM) :=
  if rg (a1 + 1) then (match zF110 n g0 (a1 + 1) M with | some (v1, M2) => (if rg (a1 + 2) then (zL94_15 n g0 n v1 (a1 + 2) 0 M2) else none) | none => none) else none
set_option maxRecDepth 100000 in
set_option maxHeartbeats 4000000 in
theorem zF94_r (n : Nat) (g0 : Nat) {A1_ : Int32} {a1 : Int} (ha1 : rp A1_ a1) {M_ : Mem} {M : ZM} (gM : rm M_ M) {r : Int} {m' : ZM} (h : zF94 n g0 a1 M = some (r, m')) : sI (F94 n g0 A1_ M_) r m' := by
  unfold zF94 at h
  unfold F94
  by_cases w1 : rg (a1 + 1)
  · rw [if_pos w1] at h
    cases hc2 : zF110 n g0 (a1 + 1) M with
    | none => rw [hc2] at h; cases h
    | some w =>
      obtain ⟨v1, M2⟩ := w
      rw [hc2] at h
      dsimp only at h
      obtain ⟨V1, NM2, ehc2, hv1, gM2⟩ := zF110_r n g0 (rp_add (rp_iz ha1) (rp_iz (show rp 1 1 from rfl)) w1) gM hc2
      rw [ehc2]
      dsimp only
      by_cases w3 : rg (a1 + 2)
      · rw [if_pos w3] at h
        exact zL94_15_r n g0 n hv1 (rp_add (rp_iz ha1) (rp_iz (show rp 2 2 from rfl)) w3) (show rp 0 0 from rfl) gM2 h
      · rw [if_neg w3] at h
        cases h
  · rw [if_neg w1] at h
    cases h
def zJ97_61 (n : Nat) (g0 : Nat) (zrec12 : Int → Int → Int → ZM → Option (Int × ZM)) (x1 : Int) (x2 : Int) (x3 : Int) (M : ZM) : Option (Int × ZM) :=
  if rg (x3 + 1) then (zrec12 x1 x2 (x3 + 1) M) else none
set_option maxRecDepth 100000 in
set_option maxHeartbeats 4000000 in
theorem zJ97_61_r (n : Nat) (g0 : Nat) (rec12 : Int32 → Int32 → Int32 → Mem → Option (Int32 × Mem)) (zrec12 : Int → Int → Int → ZM → Option (Int × ZM)) (hrec12 : ∀ {Y1 : Int32} {y1 : Int} (_ : rp Y1 y1) {Y2 : Int32} {y2 : Int} (_ : rp Y2 y2) {Y3 : Int32} {y3 : Int} (_ : rp Y3 y3) {M : Mem} {m : ZM} (_ : rm M m) {r : Int} {m' : ZM} (_ : zrec12 y1 y2 y3 m = some (r, m')), sI (rec12 Y1 Y2 Y3 M) r m') {X1_ : Int32} {x1 : Int} (hx1 : rp X1_ x1) {X2_ : Int32} {x2 : Int} (hx2 : rp X2_ x2) {X3_ : Int32} {x3 : Int} (hx3 : rp X3_ x3) {M_ : Mem} {M : ZM} (gM : rm M_ M) {r : Int} {m' : ZM} (h : zJ97_61 n g0 zrec12 x1 x2 x3 M = some (r, m')) : sI (J97_61 n g0 rec12 X1_ X2_ X3_ M_) r m' := by
  unfold zJ97_61 at h
  unfold J97_61
  by_cases w1 : rg (x3 + 1)
  · rw [if_pos w1] at h
    exact hrec12 hx1 hx2 (rp_add (rp_iz hx3) (rp_iz (show rp 1 1 from rfl)) w1) gM h
  · rw [if_neg w1] at h
    cases h
def zJ97_59 (n : Nat) (g0 : Nat) (M : ZM) : Option (Int × ZM) :=
  some (1, M)
set_option maxRecDepth 100000 in
set_option maxHeartbeats 4000000 in
theorem zJ97_59_r (n : Nat) (g0 : Nat) {M_ : Mem} {M : ZM} (gM : rm M_ M) {r : Int} {m' : ZM} (h : zJ97_59 n g0 M = some (r, m')) : sI (J97_59 n g0 M_) r m' := by
  unfold zJ97_59 at h
  unfold J97_59
  obtain ⟨rfl, rfl⟩ := Prod.mk.inj (Option.some.inj h)
  exact ⟨_, _, rfl, (show rp 1 1 from rfl), gM⟩
def zJ97_39 (n : Nat) (g0 : Nat) (zrec12 : Int → Int → Int → ZM → Option (Int × ZM)) (x1 : Int) (x2 : Int) (x3 : Int) (x4 : Int) (M : ZM) : Option (Int × ZM) :=
  if x4 = (-1) then (zJ97_59 n g0 M) else (match zF122 n g0 x4 M with | some (v19, M20) => (match zF122 n g0 x3 M20 with | some (v22, M23) => (if v19 = v22 then (zJ97_61 n g0 zrec12 x1 x2 x3 M23) else (zJ97_59 n g0 M23)) | none => none) | none => none)
set_option maxRecDepth 100000 in
set_option maxHeartbeats 4000000 in
theorem zJ97_39_r (n : Nat) (g0 : Nat) (rec12 : Int32 → Int32 → Int32 → Mem → Option (Int32 × Mem)) (zrec12 : Int → Int → Int → ZM → Option (Int × ZM)) (hrec12 : ∀ {Y1 : Int32} {y1 : Int} (_ : rp Y1 y1) {Y2 : Int32} {y2 : Int} (_ : rp Y2 y2) {Y3 : Int32} {y3 : Int} (_ : rp Y3 y3) {M : Mem} {m : ZM} (_ : rm M m) {r : Int} {m' : ZM} (_ : zrec12 y1 y2 y3 m = some (r, m')), sI (rec12 Y1 Y2 Y3 M) r m') {X1_ : Int32} {x1 : Int} (hx1 : rp X1_ x1) {X2_ : Int32} {x2 : Int} (hx2 : rp X2_ x2) {X3_ : Int32} {x3 : Int} (hx3 : rp X3_ x3) {X4_ : Int32} {x4 : Int} (hx4 : rp X4_ x4) {M_ : Mem} {M : ZM} (gM : rm M_ M) {r : Int} {m' : ZM} (h : zJ97_39 n g0 zrec12 x1 x2 x3 x4 M = some (r, m')) : sI (J97_39 n g0 rec12 X1_ X2_ X3_ X4_ M_) r m' := by
  unfold zJ97_39 at h
  unfold J97_39
  by_cases q1 : x4 = (-1)
  · rw [if_pos q1] at h
    rw [if_pos ((rp_eq hx4 (show rp (-1) (-1) from rfl)).mpr q1)]
    exact zJ97_59_r n g0 gM h
  · rw [if_neg q1] at h
    rw [if_neg (fun z => q1 ((rp_eq hx4 (show rp (-1) (-1) from rfl)).mp z))]
    cases hc2 : zF122 n g0 x4 M with
    | none => rw [hc2] at h; cases h
    | some w =>
      obtain ⟨v19, M20⟩ := w
      rw [hc2] at h
      dsimp only at h
      obtain ⟨V19, NM20, ehc2, hv19, gM20⟩ := zF122_r n g0 hx4 gM hc2
      rw [ehc2]
      dsimp only
      cases hc3 : zF122 n g0 x3 M20 with
      | none => rw [hc3] at h; cases h
      | some w =>
        obtain ⟨v22, M23⟩ := w
        rw [hc3] at h
        dsimp only at h
        obtain ⟨V22, NM23, ehc3, hv22, gM23⟩ := zF122_r n g0 hx3 gM20 hc3
        rw [ehc3]
        dsimp only
        by_cases q4 : v19 = v22
        · rw [if_pos q4] at h
          rw [if_pos ((rp_eq hv19 hv22).mpr q4)]
          exact zJ97_61_r n g0 _ _ hrec12 hx1 hx2 hx3 gM23 h
        · rw [if_neg q4] at h
          rw [if_neg (fun z => q4 ((rp_eq hv19 hv22).mp z))]
          exact zJ97_59_r n g0 gM23 h
def zL97_12 (n : Nat) (g0 : Nat) : Nat → Int → Int → Int → ZM → Option (Int × ZM)
  | 0, _, _, _, _ => none
  | k + 1, x1, x2, x3, M => if x2 ≤ x3 then (some (0, M)) else (match zF115 n g0 x3 M with | some (v8, M9) => (if v8 = 0 then (zJ97_61 n g0 (zL97_12 n g0 k) x1 x2 x3 M9) else (if rg (x3 + 1) then (match zF109 n g0 (x3 + 1) M9 with | some (v12, M13) => (match zF125 n g0 x1 v12 M13 with | some (v15, M16) => (zJ97_39 n g0 (zL97_12 n g0 k) x1 x2 x3 v15 M16) | none => none) | none => none) else none)) | none => none)
set_option maxRecDepth 100000 in
set_option maxHeartbeats 4000000 in
theorem zL97_12_r (n : Nat) (g0 : Nat) : ∀ (k : Nat) {X1_ : Int32} {x1 : Int} (hx1 : rp X1_ x1) {X2_ : Int32} {x2 : Int} (hx2 : rp X2_ x2) {X3_ : Int32} {x3 : Int} (hx3 : rp X3_ x3) {M_ : Mem} {M : ZM} (gM : rm M_ M) {r : Int} {m' : ZM} (_ : zL97_12 n g0 k x1 x2 x3 M = some (r, m')), sI (L97_12 n g0 k X1_ X2_ X3_ M_) r m' := by
  intro k
  induction k with
  | zero => intro X1_ x1 hx1 X2_ x2 hx2 X3_ x3 hx3 M_ M gM r m' h; cases h
  | succ k ih =>
    intro X1_ x1 hx1 X2_ x2 hx2 X3_ x3 hx3 M_ M gM r m' h
    rw [zL97_12] at h
    rw [L97_12]
    by_cases q1 : x2 ≤ x3
    · rw [if_pos q1] at h
      rw [if_pos ((rp_le hx2 hx3).mpr q1)]
      obtain ⟨rfl, rfl⟩ := Prod.mk.inj (Option.some.inj h)
      exact ⟨_, _, rfl, (show rp 0 0 from rfl), gM⟩
    · rw [if_neg q1] at h
      rw [if_neg (fun z => q1 ((rp_le hx2 hx3).mp z))]
      cases hc2 : zF115 n g0 x3 M with
      | none => rw [hc2] at h; cases h
      | some w =>
        obtain ⟨v8, M9⟩ := w
        rw [hc2] at h
        dsimp only at h
        obtain ⟨V8, NM9, ehc2, hv8, gM9⟩ := zF115_r n g0 hx3 gM hc2
        rw [ehc2]
        dsimp only
        by_cases q3 : v8 = 0
        · rw [if_pos q3] at h
          rw [if_pos ((rp_eq hv8 (show rp 0 0 from rfl)).mpr q3)]
          exact zJ97_61_r n g0 _ _ ih hx1 hx2 hx3 gM9 h
        · rw [if_neg q3] at h
          rw [if_neg (fun z => q3 ((rp_eq hv8 (show rp 0 0 from rfl)).mp z))]
          by_cases w4 : rg (x3 + 1)
          · rw [if_pos w4] at h
            cases hc5 : zF109 n g0 (x3 + 1) M9 with
            | none => rw [hc5] at h; cases h
            | some w =>
              obtain ⟨v12, M13⟩ := w
              rw [hc5] at h
              dsimp only at h
              obtain ⟨V12, NM13, ehc5, hv12, gM13⟩ := zF109_r n g0 (rp_add (rp_iz hx3) (rp_iz (show rp 1 1 from rfl)) w4) gM9 hc5
              rw [ehc5]
              dsimp only
              cases hc6 : zF125 n g0 x1 v12 M13 with
              | none => rw [hc6] at h; cases h
              | some w =>
                obtain ⟨v15, M16⟩ := w
                rw [hc6] at h
                dsimp only at h
                obtain ⟨V15, NM16, ehc6, hv15, gM16⟩ := zF125_r n g0 hx1 hv12 gM13 hc6
                rw [ehc6]
                dsimp only
                exact zJ97_39_r n g0 _ _ ih hx1 hx2 hx3 hv15 gM16 h
          · rw [if_neg w4] at h
            cases h
/-- ArmExpander$Checker.hasWrongUse -/
def zF97 (n : Nat) (g0 : Nat) (a1 : Int) (M : ZM) : Option (Int × ZM) :=
  match zF114 n g0 a1 M with | some (v1, M2) => (match zF113 n g0 a1 M2 with | some (v4, M5) => (zL97_12 n g0 n a1 v1 v4 M5) | none => none) | none => none
set_option maxRecDepth 100000 in
set_option maxHeartbeats 4000000 in
theorem zF97_r (n : Nat) (g0 : Nat) {A1_ : Int32} {a1 : Int} (ha1 : rp A1_ a1) {M_ : Mem} {M : ZM} (gM : rm M_ M) {r : Int} {m' : ZM} (h : zF97 n g0 a1 M = some (r, m')) : sI (F97 n g0 A1_ M_) r m' := by
  unfold zF97 at h
  unfold F97
  cases hc1 : zF114 n g0 a1 M with
  | none => rw [hc1] at h; cases h
  | some w =>
    obtain ⟨v1, M2⟩ := w
    rw [hc1] at h
    dsimp only at h
    obtain ⟨V1, NM2, ehc1, hv1, gM2⟩ := zF114_r n g0 ha1 gM hc1
    rw [ehc1]
    dsimp only
    cases hc2 : zF113 n g0 a1 M2 with
    | none => rw [hc2] at h; cases h
    | some w =>
      obtain ⟨v4, M5⟩ := w
      rw [hc2] at h
      dsimp only at h
      obtain ⟨V4, NM5, ehc2, hv4, gM5⟩ := zF113_r n g0 ha1 gM2 hc2
      rw [ehc2]
      dsimp only
      exact zL97_12_r n g0 n ha1 hv1 hv4 gM5 h
def zL99_12 (n : Nat) (g0 : Nat) : Nat → Int → Int → ZM → Option (Int × ZM)
  | 0, _, _, _ => none
  | k + 1, x2, x3, M => if x2 ≤ x3 then (some (0, M)) else (match zF115 n g0 x3 M with | some (v5, M6) => (if v5 = 0 then (if rg (x3 + 1) then ((zL99_12 n g0 k) x2 (x3 + 1) M6) else none) else (some (1, M6))) | none => none)
set_option maxRecDepth 100000 in
set_option maxHeartbeats 4000000 in
theorem zL99_12_r (n : Nat) (g0 : Nat) : ∀ (k : Nat) {X2_ : Int32} {x2 : Int} (hx2 : rp X2_ x2) {X3_ : Int32} {x3 : Int} (hx3 : rp X3_ x3) {M_ : Mem} {M : ZM} (gM : rm M_ M) {r : Int} {m' : ZM} (_ : zL99_12 n g0 k x2 x3 M = some (r, m')), sI (L99_12 n g0 k X2_ X3_ M_) r m' := by
  intro k
  induction k with
  | zero => intro X2_ x2 hx2 X3_ x3 hx3 M_ M gM r m' h; cases h
  | succ k ih =>
    intro X2_ x2 hx2 X3_ x3 hx3 M_ M gM r m' h
    rw [zL99_12] at h
    rw [L99_12]
    by_cases q1 : x2 ≤ x3
    · rw [if_pos q1] at h
      rw [if_pos ((rp_le hx2 hx3).mpr q1)]
      obtain ⟨rfl, rfl⟩ := Prod.mk.inj (Option.some.inj h)
      exact ⟨_, _, rfl, (show rp 0 0 from rfl), gM⟩
    · rw [if_neg q1] at h
      rw [if_neg (fun z => q1 ((rp_le hx2 hx3).mp z))]
      cases hc2 : zF115 n g0 x3 M with
      | none => rw [hc2] at h; cases h
      | some w =>
        obtain ⟨v5, M6⟩ := w
        rw [hc2] at h
        dsimp only at h
        obtain ⟨V5, NM6, ehc2, hv5, gM6⟩ := zF115_r n g0 hx3 gM hc2
        rw [ehc2]
        dsimp only
        by_cases q3 : v5 = 0
        · rw [if_pos q3] at h
          rw [if_pos ((rp_eq hv5 (show rp 0 0 from rfl)).mpr q3)]
          by_cases w4 : rg (x3 + 1)
          · rw [if_pos w4] at h
            exact ih hx2 (rp_add (rp_iz hx3) (rp_iz (show rp 1 1 from rfl)) w4) gM6 h
          · rw [if_neg w4] at h
            cases h
        · rw [if_neg q3] at h
          rw [if_neg (fun z => q3 ((rp_eq hv5 (show rp 0 0 from rfl)).mp z))]
          obtain ⟨rfl, rfl⟩ := Prod.mk.inj (Option.some.inj h)
          exact ⟨_, _, rfl, (show rp 1 1 from rfl), gM6⟩
/-- ArmExpander$Checker.hasUse -/
def zF99 (n : Nat) (g0 : Nat) (a1 : Int) (M : ZM) : Option (Int × ZM) :=
  if rg (a1 + 1) then (match zF110 n g0 (a1 + 1) M with | some (v1, M2) => (if rg (a1 + 2) then (zL99_12 n g0 n v1 (a1 + 2) M2) else none) | none => none) else none
set_option maxRecDepth 100000 in
set_option maxHeartbeats 4000000 in
theorem zF99_r (n : Nat) (g0 : Nat) {A1_ : Int32} {a1 : Int} (ha1 : rp A1_ a1) {M_ : Mem} {M : ZM} (gM : rm M_ M) {r : Int} {m' : ZM} (h : zF99 n g0 a1 M = some (r, m')) : sI (F99 n g0 A1_ M_) r m' := by
  unfold zF99 at h
  unfold F99
  by_cases w1 : rg (a1 + 1)
  · rw [if_pos w1] at h
    cases hc2 : zF110 n g0 (a1 + 1) M with
    | none => rw [hc2] at h; cases h
    | some w =>
      obtain ⟨v1, M2⟩ := w
      rw [hc2] at h
      dsimp only at h
      obtain ⟨V1, NM2, ehc2, hv1, gM2⟩ := zF110_r n g0 (rp_add (rp_iz ha1) (rp_iz (show rp 1 1 from rfl)) w1) gM hc2
      rw [ehc2]
      dsimp only
      by_cases w3 : rg (a1 + 2)
      · rw [if_pos w3] at h
        exact zL99_12_r n g0 n hv1 (rp_add (rp_iz ha1) (rp_iz (show rp 2 2 from rfl)) w3) gM2 h
      · rw [if_neg w3] at h
        cases h
  · rw [if_neg w1] at h
    cases h
def zJ141_41 (n : Nat) (s0 : Int) (M : ZM) : Option (Int × ZM) :=
  if s0 = 0 ∨ s0 = 1 then (some (s0, M)) else (none)
set_option maxRecDepth 100000 in
set_option maxHeartbeats 4000000 in
theorem zJ141_41_r (n : Nat) {S0_ : Int32} {s0 : Int} (hs0 : rp S0_ s0) {M_ : Mem} {M : ZM} (gM : rm M_ M) {r : Int} {m' : ZM} (h : zJ141_41 n s0 M = some (r, m')) : sI (J141_41 n S0_ M_) r m' := by
  unfold zJ141_41 at h
  unfold J141_41
  by_cases q1 : s0 = 0 ∨ s0 = 1
  · rw [if_pos q1] at h
    rw [if_pos ((or_congr (rp_eq hs0 (show rp 0 0 from rfl)) (rp_eq hs0 (show rp 1 1 from rfl))).mpr q1)]
    obtain ⟨rfl, rfl⟩ := Prod.mk.inj (Option.some.inj h)
    exact ⟨_, _, rfl, hs0, gM⟩
  · rw [if_neg q1] at h
    rw [if_neg (fun z => q1 ((or_congr (rp_eq hs0 (show rp 0 0 from rfl)) (rp_eq hs0 (show rp 1 1 from rfl))).mp z))]
    cases h
def zJ141_36 (n : Nat) (M : ZM) : Option (Int × ZM) :=
  zJ141_41 n 1 M
set_option maxRecDepth 100000 in
set_option maxHeartbeats 4000000 in
theorem zJ141_36_r (n : Nat) {M_ : Mem} {M : ZM} (gM : rm M_ M) {r : Int} {m' : ZM} (h : zJ141_36 n M = some (r, m')) : sI (J141_36 n M_) r m' := by
  unfold zJ141_36 at h
  unfold J141_36
  exact zJ141_41_r n (show rp 1 1 from rfl) gM h
def zJ141_24 (n : Nat) (x1 : Int) (M : ZM) : Option (Int × ZM) :=
  match zF163 n 13 x1 M with | some (v10, M11) => (if v10 = (-1) then (zJ141_41 n 0 M11) else (zJ141_36 n M11)) | none => none
set_option maxRecDepth 100000 in
set_option maxHeartbeats 4000000 in
theorem zJ141_24_r (n : Nat) {X1_ : Int32} {x1 : Int} (hx1 : rp X1_ x1) {M_ : Mem} {M : ZM} (gM : rm M_ M) {r : Int} {m' : ZM} (h : zJ141_24 n x1 M = some (r, m')) : sI (J141_24 n X1_ M_) r m' := by
  unfold zJ141_24 at h
  unfold J141_24
  cases hc1 : zF163 n 13 x1 M with
  | none => rw [hc1] at h; cases h
  | some w =>
    obtain ⟨v10, M11⟩ := w
    rw [hc1] at h
    dsimp only at h
    obtain ⟨V10, NM11, ehc1, hv10, gM11⟩ := zF163_r n 13 hx1 gM hc1
    rw [ehc1]
    dsimp only
    by_cases q2 : v10 = (-1)
    · rw [if_pos q2] at h
      rw [if_pos ((rp_eq hv10 (show rp (-1) (-1) from rfl)).mpr q2)]
      exact zJ141_41_r n (show rp 0 0 from rfl) gM11 h
    · rw [if_neg q2] at h
      rw [if_neg (fun z => q2 ((rp_eq hv10 (show rp (-1) (-1) from rfl)).mp z))]
      exact zJ141_36_r n gM11 h
/-- ArmExpander$Expander.isBalanced -/
def zF141 (n : Nat) (a0 : Int) (a1 : Int) (M : ZM) : Option (Int × ZM) :=
  match zF13 n a0 M with | some (v1, M2) => (if v1 = 0 then (match zF14 n a0 M2 with | some (v5, M6) => (if v5 = 0 then (zJ141_36 n M6) else (zJ141_24 n a0 M6)) | none => none) else (match zF162 n 13 a1 a0 M2 with | some (v14, M15) => (if v14 = 0 ∨ v14 = 1 then (some (v14, M15)) else (none)) | none => none)) | none => none
set_option maxRecDepth 100000 in
set_option maxHeartbeats 4000000 in
theorem zF141_r (n : Nat) {A0_ : Int32} {a0 : Int} (ha0 : rp A0_ a0) {A1_ : Int32} {a1 : Int} (ha1 : rp A1_ a1) {M_ : Mem} {M : ZM} (gM : rm M_ M) {r : Int} {m' : ZM} (h : zF141 n a0 a1 M = some (r, m')) : sI (F141 n A0_ A1_ M_) r m' := by
  unfold zF141 at h
  unfold F141
  cases hc1 : zF13 n a0 M with
  | none => rw [hc1] at h; cases h
  | some w =>
    obtain ⟨v1, M2⟩ := w
    rw [hc1] at h
    dsimp only at h
    obtain ⟨V1, NM2, ehc1, hv1, gM2⟩ := zF13_r n ha0 gM hc1
    rw [ehc1]
    dsimp only
    by_cases q2 : v1 = 0
    · rw [if_pos q2] at h
      rw [if_pos ((rp_eq hv1 (show rp 0 0 from rfl)).mpr q2)]
      cases hc3 : zF14 n a0 M2 with
      | none => rw [hc3] at h; cases h
      | some w =>
        obtain ⟨v5, M6⟩ := w
        rw [hc3] at h
        dsimp only at h
        obtain ⟨V5, NM6, ehc3, hv5, gM6⟩ := zF14_r n ha0 gM2 hc3
        rw [ehc3]
        dsimp only
        by_cases q4 : v5 = 0
        · rw [if_pos q4] at h
          rw [if_pos ((rp_eq hv5 (show rp 0 0 from rfl)).mpr q4)]
          exact zJ141_36_r n gM6 h
        · rw [if_neg q4] at h
          rw [if_neg (fun z => q4 ((rp_eq hv5 (show rp 0 0 from rfl)).mp z))]
          exact zJ141_24_r n ha0 gM6 h
    · rw [if_neg q2] at h
      rw [if_neg (fun z => q2 ((rp_eq hv1 (show rp 0 0 from rfl)).mp z))]
      cases hc5 : zF162 n 13 a1 a0 M2 with
      | none => rw [hc5] at h; cases h
      | some w =>
        obtain ⟨v14, M15⟩ := w
        rw [hc5] at h
        dsimp only at h
        obtain ⟨V14, NM15, ehc5, hv14, gM15⟩ := zF162_r n 13 ha1 ha0 gM2 hc5
        rw [ehc5]
        dsimp only
        by_cases q6 : v14 = 0 ∨ v14 = 1
        · rw [if_pos q6] at h
          rw [if_pos ((or_congr (rp_eq hv14 (show rp 0 0 from rfl)) (rp_eq hv14 (show rp 1 1 from rfl))).mpr q6)]
          obtain ⟨rfl, rfl⟩ := Prod.mk.inj (Option.some.inj h)
          exact ⟨_, _, rfl, hv14, gM15⟩
        · rw [if_neg q6] at h
          rw [if_neg (fun z => q6 ((or_congr (rp_eq hv14 (show rp 0 0 from rfl)) (rp_eq hv14 (show rp 1 1 from rfl))).mp z))]
          cases h
def zJ169_25 (n : Nat) (b : Nat) (g0 : Nat) (zrec3 : Int → Int → ZM → Option (Unit × ZM)) (x3 : Int) (x4 : Int) (M : ZM) : Option (Unit × ZM) :=
  if rg (x4 + 1) then (zrec3 x3 (x4 + 1) M) else none
set_option maxRecDepth 100000 in
set_option maxHeartbeats 4000000 in
theorem zJ169_25_r (n : Nat) (b : Nat) (g0 : Nat) (rec3 : Int32 → Int32 → Mem → Option (Unit × Mem)) (zrec3 : Int → Int → ZM → Option (Unit × ZM)) (hrec3 : ∀ {Y1 : Int32} {y1 : Int} (_ : rp Y1 y1) {Y2 : Int32} {y2 : Int} (_ : rp Y2 y2) {M : Mem} {m : ZM} (_ : rm M m) {r : Unit} {m' : ZM} (_ : zrec3 y1 y2 m = some (r, m')), sU (rec3 Y1 Y2 M) m') {X3_ : Int32} {x3 : Int} (hx3 : rp X3_ x3) {X4_ : Int32} {x4 : Int} (hx4 : rp X4_ x4) {M_ : Mem} {M : ZM} (gM : rm M_ M) {r : Unit} {m' : ZM} (h : zJ169_25 n b g0 zrec3 x3 x4 M = some (r, m')) : sU (J169_25 n b g0 rec3 X3_ X4_ M_) m' := by
  unfold zJ169_25 at h
  unfold J169_25
  by_cases w1 : rg (x4 + 1)
  · rw [if_pos w1] at h
    exact hrec3 hx3 (rp_add (rp_iz hx4) (rp_iz (show rp 1 1 from rfl)) w1) gM h
  · rw [if_neg w1] at h
    cases h
def zL169_3 (n : Nat) (b : Nat) (g0 : Nat) : Nat → Int → Int → ZM → Option (Unit × ZM)
  | 0, _, _, _ => none
  | k + 1, x3, x4, M => if x3 ≤ x4 then (some ((), M)) else (match zF170 n g0 x4 M with | some (v2, M3) => (match zF171 n g0 x4 M3 with | some (v5, M6) => (match zF168 n b v2 v5 M6 with | some (v8, M9) => (zJ169_25 n b g0 (zL169_3 n b g0 k) x3 x4 M9) | none => none) | none => none) | none => none)
set_option maxRecDepth 100000 in
set_option maxHeartbeats 4000000 in
theorem zL169_3_r (n : Nat) (b : Nat) (g0 : Nat) : ∀ (k : Nat) {X3_ : Int32} {x3 : Int} (hx3 : rp X3_ x3) {X4_ : Int32} {x4 : Int} (hx4 : rp X4_ x4) {M_ : Mem} {M : ZM} (gM : rm M_ M) {r : Unit} {m' : ZM} (_ : zL169_3 n b g0 k x3 x4 M = some (r, m')), sU (L169_3 n b g0 k X3_ X4_ M_) m' := by
  intro k
  induction k with
  | zero => intro X3_ x3 hx3 X4_ x4 hx4 M_ M gM r m' h; cases h
  | succ k ih =>
    intro X3_ x3 hx3 X4_ x4 hx4 M_ M gM r m' h
    rw [zL169_3] at h
    rw [L169_3]
    by_cases q1 : x3 ≤ x4
    · rw [if_pos q1] at h
      rw [if_pos ((rp_le hx3 hx4).mpr q1)]
      obtain ⟨_, rfl⟩ := Prod.mk.inj (Option.some.inj h)
      exact ⟨_, rfl, gM⟩
    · rw [if_neg q1] at h
      rw [if_neg (fun z => q1 ((rp_le hx3 hx4).mp z))]
      cases hc2 : zF170 n g0 x4 M with
      | none => rw [hc2] at h; cases h
      | some w =>
        obtain ⟨v2, M3⟩ := w
        rw [hc2] at h
        dsimp only at h
        obtain ⟨V2, NM3, ehc2, hv2, gM3⟩ := zF170_r n g0 hx4 gM hc2
        rw [ehc2]
        dsimp only
        cases hc3 : zF171 n g0 x4 M3 with
        | none => rw [hc3] at h; cases h
        | some w =>
          obtain ⟨v5, M6⟩ := w
          rw [hc3] at h
          dsimp only at h
          obtain ⟨V5, NM6, ehc3, hv5, gM6⟩ := zF171_r n g0 hx4 gM3 hc3
          rw [ehc3]
          dsimp only
          cases hc4 : zF168 n b v2 v5 M6 with
          | none => rw [hc4] at h; cases h
          | some w =>
            obtain ⟨v8, M9⟩ := w
            rw [hc4] at h
            dsimp only at h
            obtain ⟨NM9, ehc4, gM9⟩ := zF168_r n b hv2 hv5 gM6 hc4
            rw [ehc4]
            dsimp only
            exact zJ169_25_r n b g0 _ _ ih hx3 hx4 gM9 h
/-- ArmExpander$Row.addAll -/
def zF169 (n : Nat) (b : Nat) (g0 : Nat) (a1 : Int) (a2 : Int) (M : ZM) : Option (Unit × ZM) :=
  zL169_3 n b g0 n a2 a1 M
set_option maxRecDepth 100000 in
set_option maxHeartbeats 4000000 in
theorem zF169_r (n : Nat) (b : Nat) (g0 : Nat) {A1_ : Int32} {a1 : Int} (ha1 : rp A1_ a1) {A2_ : Int32} {a2 : Int} (ha2 : rp A2_ a2) {M_ : Mem} {M : ZM} (gM : rm M_ M) {r : Unit} {m' : ZM} (h : zF169 n b g0 a1 a2 M = some (r, m')) : sU (F169 n b g0 A1_ A2_ M_) m' := by
  unfold zF169 at h
  unfold F169
  exact zL169_3_r n b g0 n ha2 ha1 gM h
def zJ174_97 (n : Nat) (b : Nat) (zrec29 : Int → Int → Int → ZM → Option (Int × ZM)) (x1 : Int) (x2 : Int) (x3 : Int) (M : ZM) : Option (Int × ZM) :=
  if rg (x3 + (-1)) then (zrec29 x1 x2 (x3 + (-1)) M) else none
set_option maxRecDepth 100000 in
set_option maxHeartbeats 4000000 in
theorem zJ174_97_r (n : Nat) (b : Nat) (rec29 : Int32 → Int32 → Int32 → Mem → Option (Int32 × Mem)) (zrec29 : Int → Int → Int → ZM → Option (Int × ZM)) (hrec29 : ∀ {Y1 : Int32} {y1 : Int} (_ : rp Y1 y1) {Y2 : Int32} {y2 : Int} (_ : rp Y2 y2) {Y3 : Int32} {y3 : Int} (_ : rp Y3 y3) {M : Mem} {m : ZM} (_ : rm M m) {r : Int} {m' : ZM} (_ : zrec29 y1 y2 y3 m = some (r, m')), sI (rec29 Y1 Y2 Y3 M) r m') {X1_ : Int32} {x1 : Int} (hx1 : rp X1_ x1) {X2_ : Int32} {x2 : Int} (hx2 : rp X2_ x2) {X3_ : Int32} {x3 : Int} (hx3 : rp X3_ x3) {M_ : Mem} {M : ZM} (gM : rm M_ M) {r : Int} {m' : ZM} (h : zJ174_97 n b zrec29 x1 x2 x3 M = some (r, m')) : sI (J174_97 n b rec29 X1_ X2_ X3_ M_) r m' := by
  unfold zJ174_97 at h
  unfold J174_97
  by_cases w1 : rg (x3 + (-1))
  · rw [if_pos w1] at h
    exact hrec29 hx1 hx2 (rp_add (rp_iz hx3) (rp_iz (show rp (-1) (-1) from rfl)) w1) gM h
  · rw [if_neg w1] at h
    cases h
def zJ174_95 (n : Nat) (b : Nat) (x3 : Int) (M : ZM) : Option (Int × ZM) :=
  some (x3, M)
set_option maxRecDepth 100000 in
set_option maxHeartbeats 4000000 in
theorem zJ174_95_r (n : Nat) (b : Nat) {X3_ : Int32} {x3 : Int} (hx3 : rp X3_ x3) {M_ : Mem} {M : ZM} (gM : rm M_ M) {r : Int} {m' : ZM} (h : zJ174_95 n b x3 M = some (r, m')) : sI (J174_95 n b X3_ M_) r m' := by
  unfold zJ174_95 at h
  unfold J174_95
  obtain ⟨rfl, rfl⟩ := Prod.mk.inj (Option.some.inj h)
  exact ⟨_, _, rfl, hx3, gM⟩
def zJ174_78 (n : Nat) (b : Nat) (zrec29 : Int → Int → Int → ZM → Option (Int × ZM)) (x1 : Int) (x2 : Int) (x3 : Int) (M : ZM) : Option (Int × ZM) :=
  match zF176 n b x3 x1 M with | some (v24, M25) => (if v24 = 0 then (zJ174_97 n b zrec29 x1 x2 x3 M25) else (match zF175 n b x3 M25 with | some (v28, M29) => (if v28 = 0 then (zJ174_97 n b zrec29 x1 x2 x3 M29) else (zJ174_95 n b x3 M29)) | none => none)) | none => none
set_option maxRecDepth 100000 in
set_option maxHeartbeats 4000000 in
theorem zJ174_78_r (n : Nat) (b : Nat) (rec29 : Int32 → Int32 → Int32 → Mem → Option (Int32 × Mem)) (zrec29 : Int → Int → Int → ZM → Option (Int × ZM)) (hrec29 : ∀ {Y1 : Int32} {y1 : Int} (_ : rp Y1 y1) {Y2 : Int32} {y2 : Int} (_ : rp Y2 y2) {Y3 : Int32} {y3 : Int} (_ : rp Y3 y3) {M : Mem} {m : ZM} (_ : rm M m) {r : Int} {m' : ZM} (_ : zrec29 y1 y2 y3 m = some (r, m')), sI (rec29 Y1 Y2 Y3 M) r m') {X1_ : Int32} {x1 : Int} (hx1 : rp X1_ x1) {X2_ : Int32} {x2 : Int} (hx2 : rp X2_ x2) {X3_ : Int32} {x3 : Int} (hx3 : rp X3_ x3) {M_ : Mem} {M : ZM} (gM : rm M_ M) {r : Int} {m' : ZM} (h : zJ174_78 n b zrec29 x1 x2 x3 M = some (r, m')) : sI (J174_78 n b rec29 X1_ X2_ X3_ M_) r m' := by
  unfold zJ174_78 at h
  unfold J174_78
  cases hc1 : zF176 n b x3 x1 M with
  | none => rw [hc1] at h; cases h
  | some w =>
    obtain ⟨v24, M25⟩ := w
    rw [hc1] at h
    dsimp only at h
    obtain ⟨V24, NM25, ehc1, hv24, gM25⟩ := zF176_r n b hx3 hx1 gM hc1
    rw [ehc1]
    dsimp only
    by_cases q2 : v24 = 0
    · rw [if_pos q2] at h
      rw [if_pos ((rp_eq hv24 (show rp 0 0 from rfl)).mpr q2)]
      exact zJ174_97_r n b _ _ hrec29 hx1 hx2 hx3 gM25 h
    · rw [if_neg q2] at h
      rw [if_neg (fun z => q2 ((rp_eq hv24 (show rp 0 0 from rfl)).mp z))]
      cases hc3 : zF175 n b x3 M25 with
      | none => rw [hc3] at h; cases h
      | some w =>
        obtain ⟨v28, M29⟩ := w
        rw [hc3] at h
        dsimp only at h
        obtain ⟨V28, NM29, ehc3, hv28, gM29⟩ := zF175_r n b hx3 gM25 hc3
        rw [ehc3]
        dsimp only
        by_cases q4 : v28 = 0
        · rw [if_pos q4] at h
          rw [if_pos ((rp_eq hv28 (show rp 0 0 from rfl)).mpr q4)]
          exact zJ174_97_r n b _ _ hrec29 hx1 hx2 hx3 gM29 h
        · rw [if_neg q4] at h
          rw [if_neg (fun z => q4 ((rp_eq hv28 (show rp 0 0 from rfl)).mp z))]
          exact zJ174_95_r n b hx3 gM29 h
def zJ174_51 (n : Nat) (b : Nat) (zrec29 : Int → Int → Int → ZM → Option (Int × ZM)) (x1 : Int) (x2 : Int) (x3 : Int) (M : ZM) : Option (Int × ZM) :=
  if x3 < 0 ∨ 150 ≤ x3 then (none) else (match zF13 n (M.1 (b + 1) (Int.toNat x3)) M with | some (v19, M20) => (if v19 = 0 then (if x2 = 0 then (zJ174_78 n b zrec29 x1 x2 x3 M20) else (zJ174_97 n b zrec29 x1 x2 x3 M20)) else (if rg (x2 - 1) then (zJ174_97 n b zrec29 x1 (if 0 < (x2 - 1) then (x2 - 1) else 0) x3 M20) else none)) | none => none)
set_option maxRecDepth 100000 in
set_option maxHeartbeats 4000000 in
theorem zJ174_51_r (n : Nat) (b : Nat) (rec29 : Int32 → Int32 → Int32 → Mem → Option (Int32 × Mem)) (zrec29 : Int → Int → Int → ZM → Option (Int × ZM)) (hrec29 : ∀ {Y1 : Int32} {y1 : Int} (_ : rp Y1 y1) {Y2 : Int32} {y2 : Int} (_ : rp Y2 y2) {Y3 : Int32} {y3 : Int} (_ : rp Y3 y3) {M : Mem} {m : ZM} (_ : rm M m) {r : Int} {m' : ZM} (_ : zrec29 y1 y2 y3 m = some (r, m')), sI (rec29 Y1 Y2 Y3 M) r m') {X1_ : Int32} {x1 : Int} (hx1 : rp X1_ x1) {X2_ : Int32} {x2 : Int} (hx2 : rp X2_ x2) {X3_ : Int32} {x3 : Int} (hx3 : rp X3_ x3) {M_ : Mem} {M : ZM} (gM : rm M_ M) {r : Int} {m' : ZM} (h : zJ174_51 n b zrec29 x1 x2 x3 M = some (r, m')) : sI (J174_51 n b rec29 X1_ X2_ X3_ M_) r m' := by
  unfold zJ174_51 at h
  unfold J174_51
  by_cases q1 : x3 < 0 ∨ 150 ≤ x3
  · rw [if_pos q1] at h
    rw [if_pos ((rp_ob hx3 150).mpr q1)]
    cases h
  · rw [if_neg q1] at h
    rw [if_neg (fun z => q1 ((rp_ob hx3 150).mp z))]
    cases hc2 : zF13 n (M.1 (b + 1) (Int.toNat x3)) M with
    | none => rw [hc2] at h; cases h
    | some w =>
      obtain ⟨v19, M20⟩ := w
      rw [hc2] at h
      dsimp only at h
      obtain ⟨V19, NM20, ehc2, hv19, gM20⟩ := zF13_r n (rm_rdx gM (b + 1) hx3) gM hc2
      rw [ehc2]
      dsimp only
      by_cases q3 : v19 = 0
      · rw [if_pos q3] at h
        rw [if_pos ((rp_eq hv19 (show rp 0 0 from rfl)).mpr q3)]
        by_cases q4 : x2 = 0
        · rw [if_pos q4] at h
          rw [if_pos ((rp_eq hx2 (show rp 0 0 from rfl)).mpr q4)]
          exact zJ174_78_r n b _ _ hrec29 hx1 hx2 hx3 gM20 h
        · rw [if_neg q4] at h
          rw [if_neg (fun z => q4 ((rp_eq hx2 (show rp 0 0 from rfl)).mp z))]
          exact zJ174_97_r n b _ _ hrec29 hx1 hx2 hx3 gM20 h
      · rw [if_neg q3] at h
        rw [if_neg (fun z => q3 ((rp_eq hv19 (show rp 0 0 from rfl)).mp z))]
        by_cases w5 : rg (x2 - 1)
        · rw [if_pos w5] at h
          exact zJ174_97_r n b _ _ hrec29 hx1 (rp_ite (rp_lt (show rp 0 0 from rfl) (rp_sub (rp_iz hx2) (rp_iz (show rp 1 1 from rfl)) w5)) (rp_sub (rp_iz hx2) (rp_iz (show rp 1 1 from rfl)) w5) (show rp 0 0 from rfl)) hx3 gM20 h
        · rw [if_neg w5] at h
          cases h
def zJ174_45 (n : Nat) (b : Nat) (zrec29 : Int → Int → Int → ZM → Option (Int × ZM)) (x1 : Int) (x2 : Int) (x3 : Int) (M : ZM) : Option (Int × ZM) :=
  if rg (x2 + 1) then (zJ174_97 n b zrec29 x1 (x2 + 1) x3 M) else none
set_option maxRecDepth 100000 in
set_option maxHeartbeats 4000000 in
theorem zJ174_45_r (n : Nat) (b : Nat) (rec29 : Int32 → Int32 → Int32 → Mem → Option (Int32 × Mem)) (zrec29 : Int → Int → Int → ZM → Option (Int × ZM)) (hrec29 : ∀ {Y1 : Int32} {y1 : Int} (_ : rp Y1 y1) {Y2 : Int32} {y2 : Int} (_ : rp Y2 y2) {Y3 : Int32} {y3 : Int} (_ : rp Y3 y3) {M : Mem} {m : ZM} (_ : rm M m) {r : Int} {m' : ZM} (_ : zrec29 y1 y2 y3 m = some (r, m')), sI (rec29 Y1 Y2 Y3 M) r m') {X1_ : Int32} {x1 : Int} (hx1 : rp X1_ x1) {X2_ : Int32} {x2 : Int} (hx2 : rp X2_ x2) {X3_ : Int32} {x3 : Int} (hx3 : rp X3_ x3) {M_ : Mem} {M : ZM} (gM : rm M_ M) {r : Int} {m' : ZM} (h : zJ174_45 n b zrec29 x1 x2 x3 M = some (r, m')) : sI (J174_45 n b rec29 X1_ X2_ X3_ M_) r m' := by
  unfold zJ174_45 at h
  unfold J174_45
  by_cases w1 : rg (x2 + 1)
  · rw [if_pos w1] at h
    exact zJ174_97_r n b _ _ hrec29 hx1 (rp_add (rp_iz hx2) (rp_iz (show rp 1 1 from rfl)) w1) hx3 gM h
  · rw [if_neg w1] at h
    cases h
def zL174_29 (n : Nat) (b : Nat) : Nat → Int → Int → Int → ZM → Option (Int × ZM)
  | 0, _, _, _, _ => none
  | k + 1, x1, x2, x3, M => if x3 < 0 then (some ((-1), M)) else (if x3 < 0 ∨ 150 ≤ x3 then (none) else (match zF14 n (M.1 (b + 1) (Int.toNat x3)) M with | some (v14, M15) => (if v14 = 0 then (zJ174_51 n b (zL174_29 n b k) x1 x2 x3 M15) else (zJ174_45 n b (zL174_29 n b k) x1 x2 x3 M15)) | none => none))
set_option maxRecDepth 100000 in
set_option maxHeartbeats 4000000 in
theorem zL174_29_r (n : Nat) (b : Nat) : ∀ (k : Nat) {X1_ : Int32} {x1 : Int} (hx1 : rp X1_ x1) {X2_ : Int32} {x2 : Int} (hx2 : rp X2_ x2) {X3_ : Int32} {x3 : Int} (hx3 : rp X3_ x3) {M_ : Mem} {M : ZM} (gM : rm M_ M) {r : Int} {m' : ZM} (_ : zL174_29 n b k x1 x2 x3 M = some (r, m')), sI (L174_29 n b k X1_ X2_ X3_ M_) r m' := by
  intro k
  induction k with
  | zero => intro X1_ x1 hx1 X2_ x2 hx2 X3_ x3 hx3 M_ M gM r m' h; cases h
  | succ k ih =>
    intro X1_ x1 hx1 X2_ x2 hx2 X3_ x3 hx3 M_ M gM r m' h
    rw [zL174_29] at h
    rw [L174_29]
    by_cases q1 : x3 < 0
    · rw [if_pos q1] at h
      rw [if_pos ((rp_lt hx3 (show rp 0 0 from rfl)).mpr q1)]
      obtain ⟨rfl, rfl⟩ := Prod.mk.inj (Option.some.inj h)
      exact ⟨_, _, rfl, (show rp (-1) (-1) from rfl), gM⟩
    · rw [if_neg q1] at h
      rw [if_neg (fun z => q1 ((rp_lt hx3 (show rp 0 0 from rfl)).mp z))]
      by_cases q2 : x3 < 0 ∨ 150 ≤ x3
      · rw [if_pos q2] at h
        rw [if_pos ((rp_ob hx3 150).mpr q2)]
        cases h
      · rw [if_neg q2] at h
        rw [if_neg (fun z => q2 ((rp_ob hx3 150).mp z))]
        cases hc3 : zF14 n (M.1 (b + 1) (Int.toNat x3)) M with
        | none => rw [hc3] at h; cases h
        | some w =>
          obtain ⟨v14, M15⟩ := w
          rw [hc3] at h
          dsimp only at h
          obtain ⟨V14, NM15, ehc3, hv14, gM15⟩ := zF14_r n (rm_rdx gM (b + 1) hx3) gM hc3
          rw [ehc3]
          dsimp only
          by_cases q4 : v14 = 0
          · rw [if_pos q4] at h
            rw [if_pos ((rp_eq hv14 (show rp 0 0 from rfl)).mpr q4)]
            exact zJ174_51_r n b _ _ ih hx1 hx2 hx3 gM15 h
          · rw [if_neg q4] at h
            rw [if_neg (fun z => q4 ((rp_eq hv14 (show rp 0 0 from rfl)).mp z))]
            exact zJ174_45_r n b _ _ ih hx1 hx2 hx3 gM15 h
def zJ174_23 (n : Nat) (b : Nat) (x1 : Int) (M : ZM) : Option (Int × ZM) :=
  if rg (x1 - 1) then (zL174_29 n b n x1 0 (x1 - 1) M) else none
set_option maxRecDepth 100000 in
set_option maxHeartbeats 4000000 in
theorem zJ174_23_r (n : Nat) (b : Nat) {X1_ : Int32} {x1 : Int} (hx1 : rp X1_ x1) {M_ : Mem} {M : ZM} (gM : rm M_ M) {r : Int} {m' : ZM} (h : zJ174_23 n b x1 M = some (r, m')) : sI (J174_23 n b X1_ M_) r m' := by
  unfold zJ174_23 at h
  unfold J174_23
  by_cases w1 : rg (x1 - 1)
  · rw [if_pos w1] at h
    exact zL174_29_r n b n hx1 (show rp 0 0 from rfl) (rp_sub (rp_iz hx1) (rp_iz (show rp 1 1 from rfl)) w1) gM h
  · rw [if_neg w1] at h
    cases h
def zJ174_21 (n : Nat) (b : Nat) (x1 : Int) (M : ZM) : Option (Int × ZM) :=
  some (x1, M)
set_option maxRecDepth 100000 in
set_option maxHeartbeats 4000000 in
theorem zJ174_21_r (n : Nat) (b : Nat) {X1_ : Int32} {x1 : Int} (hx1 : rp X1_ x1) {M_ : Mem} {M : ZM} (gM : rm M_ M) {r : Int} {m' : ZM} (h : zJ174_21 n b x1 M = some (r, m')) : sI (J174_21 n b X1_ M_) r m' := by
  unfold zJ174_21 at h
  unfold J174_21
  obtain ⟨rfl, rfl⟩ := Prod.mk.inj (Option.some.inj h)
  exact ⟨_, _, rfl, hx1, gM⟩
/-- ArmExpander$Row.binderOf -/
def zF174 (n : Nat) (b : Nat) (a0 : Int) (M : ZM) : Option (Int × ZM) :=
  match zF170 n b a0 M with | some (v1, M2) => (match zF11 n v1 M2 with | some (v4, M5) => (if v4 = 0 then (some ((-1), M5)) else (match zF175 n b a0 M5 with | some (v8, M9) => (if v8 = 0 then (zJ174_23 n b a0 M9) else (zJ174_21 n b a0 M9)) | none => none)) | none => none) | none => none
set_option maxRecDepth 100000 in
set_option maxHeartbeats 4000000 in
theorem zF174_r (n : Nat) (b : Nat) {A0_ : Int32} {a0 : Int} (ha0 : rp A0_ a0) {M_ : Mem} {M : ZM} (gM : rm M_ M) {r : Int} {m' : ZM} (h : zF174 n b a0 M = some (r, m')) : sI (F174 n b A0_ M_) r m' := by
  unfold zF174 at h
  unfold F174
  cases hc1 : zF170 n b a0 M with
  | none => rw [hc1] at h; cases h
  | some w =>
    obtain ⟨v1, M2⟩ := w
    rw [hc1] at h
    dsimp only at h
    obtain ⟨V1, NM2, ehc1, hv1, gM2⟩ := zF170_r n b ha0 gM hc1
    rw [ehc1]
    dsimp only
    cases hc2 : zF11 n v1 M2 with
    | none => rw [hc2] at h; cases h
    | some w =>
      obtain ⟨v4, M5⟩ := w
      rw [hc2] at h
      dsimp only at h
      obtain ⟨V4, NM5, ehc2, hv4, gM5⟩ := zF11_r n hv1 gM2 hc2
      rw [ehc2]
      dsimp only
      by_cases q3 : v4 = 0
      · rw [if_pos q3] at h
        rw [if_pos ((rp_eq hv4 (show rp 0 0 from rfl)).mpr q3)]
        obtain ⟨rfl, rfl⟩ := Prod.mk.inj (Option.some.inj h)
        exact ⟨_, _, rfl, (show rp (-1) (-1) from rfl), gM5⟩
      · rw [if_neg q3] at h
        rw [if_neg (fun z => q3 ((rp_eq hv4 (show rp 0 0 from rfl)).mp z))]
        cases hc4 : zF175 n b a0 M5 with
        | none => rw [hc4] at h; cases h
        | some w =>
          obtain ⟨v8, M9⟩ := w
          rw [hc4] at h
          dsimp only at h
          obtain ⟨V8, NM9, ehc4, hv8, gM9⟩ := zF175_r n b ha0 gM5 hc4
          rw [ehc4]
          dsimp only
          by_cases q5 : v8 = 0
          · rw [if_pos q5] at h
            rw [if_pos ((rp_eq hv8 (show rp 0 0 from rfl)).mpr q5)]
            exact zJ174_23_r n b ha0 gM9 h
          · rw [if_neg q5] at h
            rw [if_neg (fun z => q5 ((rp_eq hv8 (show rp 0 0 from rfl)).mp z))]
            exact zJ174_21_r n b ha0 gM9 h
def zJ197_21 (n : Nat) (M : ZM) : Option (Int × ZM) :=
  some (0, M)
set_option maxRecDepth 100000 in
set_option maxHeartbeats 4000000 in
theorem zJ197_21_r (n : Nat) {M_ : Mem} {M : ZM} (gM : rm M_ M) {r : Int} {m' : ZM} (h : zJ197_21 n M = some (r, m')) : sI (J197_21 n M_) r m' := by
  unfold zJ197_21 at h
  unfold J197_21
  obtain ⟨rfl, rfl⟩ := Prod.mk.inj (Option.some.inj h)
  exact ⟨_, _, rfl, (show rp 0 0 from rfl), gM⟩
def zJ197_81 (n : Nat) (zrec63 : Int → Int → ZM → Option (Int × ZM)) (x1 : Int) (x3 : Int) (M : ZM) : Option (Int × ZM) :=
  if rg ((M.1 1 1) + 1) then (zlet (z_i M 1 1 ((M.1 1 1) + 1)) (fun M11 => if rg (x3 + (-1)) then (zrec63 x1 (x3 + (-1)) M11) else none)) else none
set_option maxRecDepth 100000 in
set_option maxHeartbeats 4000000 in
theorem zJ197_81_r (n : Nat) (rec63 : Int32 → Int32 → Mem → Option (Int32 × Mem)) (zrec63 : Int → Int → ZM → Option (Int × ZM)) (hrec63 : ∀ {Y1 : Int32} {y1 : Int} (_ : rp Y1 y1) {Y2 : Int32} {y2 : Int} (_ : rp Y2 y2) {M : Mem} {m : ZM} (_ : rm M m) {r : Int} {m' : ZM} (_ : zrec63 y1 y2 m = some (r, m')), sI (rec63 Y1 Y2 M) r m') {X1_ : Int32} {x1 : Int} (hx1 : rp X1_ x1) {X3_ : Int32} {x3 : Int} (hx3 : rp X3_ x3) {M_ : Mem} {M : ZM} (gM : rm M_ M) {r : Int} {m' : ZM} (h : zJ197_81 n zrec63 x1 x3 M = some (r, m')) : sI (J197_81 n rec63 X1_ X3_ M_) r m' := by
  unfold zJ197_81 at h
  unfold J197_81
  by_cases w1 : rg ((M.1 1 1) + 1)
  · rw [if_pos w1] at h
    have gM11 : rm (m_i M_ 1 1 ((M_.1 1 1) + (1 : Int32))) (z_i M 1 1 ((M.1 1 1) + 1)) := rm_i gM 1 1 (rp_add (rp_iz (rm_rd gM 1 1)) (rp_iz (show rp 1 1 from rfl)) w1)
    rw [mlet]
    rw [zlet] at h
    generalize z_i M 1 1 ((M.1 1 1) + 1) = M11 at h gM11
    generalize m_i M_ 1 1 ((M_.1 1 1) + (1 : Int32)) = NM11 at gM11 ⊢
    by_cases w2 : rg (x3 + (-1))
    · rw [if_pos w2] at h
      exact hrec63 hx1 (rp_add (rp_iz hx3) (rp_iz (show rp (-1) (-1) from rfl)) w2) gM11 h
    · rw [if_neg w2] at h
      cases h
  · rw [if_neg w1] at h
    cases h
def zL197_63 (n : Nat) : Nat → Int → Int → ZM → Option (Int × ZM)
  | 0, _, _, _ => none
  | k + 1, x1, x3, M => if x3 < 0 then (some (1, M)) else (match zF204 n x1 x3 M with | some (v6, M7) => (if (M.1 1 1) < 0 ∨ 120 ≤ (M.1 1 1) then (none) else (zlet (z_i M7 2 (Int.toNat (M.1 1 1)) v6) (fun M10 => zJ197_81 n (zL197_63 n k) x1 x3 M10))) | none => none)
set_option maxRecDepth 100000 in
set_option maxHeartbeats 4000000 in
theorem zL197_63_r (n : Nat) : ∀ (k : Nat) {X1_ : Int32} {x1 : Int} (hx1 : rp X1_ x1) {X3_ : Int32} {x3 : Int} (hx3 : rp X3_ x3) {M_ : Mem} {M : ZM} (gM : rm M_ M) {r : Int} {m' : ZM} (_ : zL197_63 n k x1 x3 M = some (r, m')), sI (L197_63 n k X1_ X3_ M_) r m' := by
  intro k
  induction k with
  | zero => intro X1_ x1 hx1 X3_ x3 hx3 M_ M gM r m' h; cases h
  | succ k ih =>
    intro X1_ x1 hx1 X3_ x3 hx3 M_ M gM r m' h
    rw [zL197_63] at h
    rw [L197_63]
    by_cases q1 : x3 < 0
    · rw [if_pos q1] at h
      rw [if_pos ((rp_lt hx3 (show rp 0 0 from rfl)).mpr q1)]
      obtain ⟨rfl, rfl⟩ := Prod.mk.inj (Option.some.inj h)
      exact ⟨_, _, rfl, (show rp 1 1 from rfl), gM⟩
    · rw [if_neg q1] at h
      rw [if_neg (fun z => q1 ((rp_lt hx3 (show rp 0 0 from rfl)).mp z))]
      cases hc2 : zF204 n x1 x3 M with
      | none => rw [hc2] at h; cases h
      | some w =>
        obtain ⟨v6, M7⟩ := w
        rw [hc2] at h
        dsimp only at h
        obtain ⟨V6, NM7, ehc2, hv6, gM7⟩ := zF204_r n hx1 hx3 gM hc2
        rw [ehc2]
        dsimp only
        by_cases q3 : (M.1 1 1) < 0 ∨ 120 ≤ (M.1 1 1)
        · rw [if_pos q3] at h
          rw [if_pos ((rp_ob (rm_rd gM 1 1) 120).mpr q3)]
          cases h
        · rw [if_neg q3] at h
          rw [if_neg (fun z => q3 ((rp_ob (rm_rd gM 1 1) 120).mp z))]
          have gM10 : rm (m_i NM7 2 ((M_.1 1 1)).toNatClampNeg V6) (z_i M7 2 (Int.toNat (M.1 1 1)) v6) := rm_ix gM7 2 (rm_rd gM 1 1) hv6
          rw [mlet]
          rw [zlet] at h
          generalize z_i M7 2 (Int.toNat (M.1 1 1)) v6 = M10 at h gM10
          generalize m_i NM7 2 ((M_.1 1 1)).toNatClampNeg V6 = NM10 at gM10 ⊢
          exact zJ197_81_r n _ _ ih hx1 hx3 gM10 h
def zJ197_51 (n : Nat) (M : ZM) : Option (Int × ZM) :=
  some (0, M)
set_option maxRecDepth 100000 in
set_option maxHeartbeats 4000000 in
theorem zJ197_51_r (n : Nat) {M_ : Mem} {M : ZM} (gM : rm M_ M) {r : Int} {m' : ZM} (h : zJ197_51 n M = some (r, m')) : sI (J197_51 n M_) r m' := by
  unfold zJ197_51 at h
  unfold J197_51
  obtain ⟨rfl, rfl⟩ := Prod.mk.inj (Option.some.inj h)
  exact ⟨_, _, rfl, (show rp 0 0 from rfl), gM⟩
def zJ197_53 (n : Nat) (zrec25 : Int → Int → Int → ZM → Option (Int × ZM)) (x1 : Int) (x2 : Int) (x3 : Int) (M : ZM) : Option (Int × ZM) :=
  if rg (x3 + 1) then (zrec25 x1 x2 (x3 + 1) M) else none
set_option maxRecDepth 100000 in
set_option maxHeartbeats 4000000 in
theorem zJ197_53_r (n : Nat) (rec25 : Int32 → Int32 → Int32 → Mem → Option (Int32 × Mem)) (zrec25 : Int → Int → Int → ZM → Option (Int × ZM)) (hrec25 : ∀ {Y1 : Int32} {y1 : Int} (_ : rp Y1 y1) {Y2 : Int32} {y2 : Int} (_ : rp Y2 y2) {Y3 : Int32} {y3 : Int} (_ : rp Y3 y3) {M : Mem} {m : ZM} (_ : rm M m) {r : Int} {m' : ZM} (_ : zrec25 y1 y2 y3 m = some (r, m')), sI (rec25 Y1 Y2 Y3 M) r m') {X1_ : Int32} {x1 : Int} (hx1 : rp X1_ x1) {X2_ : Int32} {x2 : Int} (hx2 : rp X2_ x2) {X3_ : Int32} {x3 : Int} (hx3 : rp X3_ x3) {M_ : Mem} {M : ZM} (gM : rm M_ M) {r : Int} {m' : ZM} (h : zJ197_53 n zrec25 x1 x2 x3 M = some (r, m')) : sI (J197_53 n rec25 X1_ X2_ X3_ M_) r m' := by
  unfold zJ197_53 at h
  unfold J197_53
  by_cases w1 : rg (x3 + 1)
  · rw [if_pos w1] at h
    exact hrec25 hx1 hx2 (rp_add (rp_iz hx3) (rp_iz (show rp 1 1 from rfl)) w1) gM h
  · rw [if_neg w1] at h
    cases h
def zL197_25 (n : Nat) : Nat → Int → Int → Int → ZM → Option (Int × ZM)
  | 0, _, _, _, _ => none
  | k + 1, x1, x2, x3, M => if x2 ≤ x3 then (if rg (x2 - 1) then (zL197_63 n n x1 (x2 - 1) M) else none) else (match zF204 n x1 x3 M with | some (v12, M13) => (if v12 < 32 then (zJ197_51 n M13) else (if v12 ≤ 126 then (zJ197_53 n (zL197_25 n k) x1 x2 x3 M13) else (zJ197_51 n M13))) | none => none)
set_option maxRecDepth 100000 in
set_option maxHeartbeats 4000000 in
theorem zL197_25_r (n : Nat) : ∀ (k : Nat) {X1_ : Int32} {x1 : Int} (hx1 : rp X1_ x1) {X2_ : Int32} {x2 : Int} (hx2 : rp X2_ x2) {X3_ : Int32} {x3 : Int} (hx3 : rp X3_ x3) {M_ : Mem} {M : ZM} (gM : rm M_ M) {r : Int} {m' : ZM} (_ : zL197_25 n k x1 x2 x3 M = some (r, m')), sI (L197_25 n k X1_ X2_ X3_ M_) r m' := by
  intro k
  induction k with
  | zero => intro X1_ x1 hx1 X2_ x2 hx2 X3_ x3 hx3 M_ M gM r m' h; cases h
  | succ k ih =>
    intro X1_ x1 hx1 X2_ x2 hx2 X3_ x3 hx3 M_ M gM r m' h
    rw [zL197_25] at h
    rw [L197_25]
    by_cases q1 : x2 ≤ x3
    · rw [if_pos q1] at h
      rw [if_pos ((rp_le hx2 hx3).mpr q1)]
      by_cases w2 : rg (x2 - 1)
      · rw [if_pos w2] at h
        exact zL197_63_r n n hx1 (rp_sub (rp_iz hx2) (rp_iz (show rp 1 1 from rfl)) w2) gM h
      · rw [if_neg w2] at h
        cases h
    · rw [if_neg q1] at h
      rw [if_neg (fun z => q1 ((rp_le hx2 hx3).mp z))]
      cases hc3 : zF204 n x1 x3 M with
      | none => rw [hc3] at h; cases h
      | some w =>
        obtain ⟨v12, M13⟩ := w
        rw [hc3] at h
        dsimp only at h
        obtain ⟨V12, NM13, ehc3, hv12, gM13⟩ := zF204_r n hx1 hx3 gM hc3
        rw [ehc3]
        dsimp only
        by_cases q4 : v12 < 32
        · rw [if_pos q4] at h
          rw [if_pos ((rp_lt hv12 (show rp 32 32 from rfl)).mpr q4)]
          exact zJ197_51_r n gM13 h
        · rw [if_neg q4] at h
          rw [if_neg (fun z => q4 ((rp_lt hv12 (show rp 32 32 from rfl)).mp z))]
          by_cases q5 : v12 ≤ 126
          · rw [if_pos q5] at h
            rw [if_pos ((rp_le hv12 (show rp 126 126 from rfl)).mpr q5)]
            exact zJ197_53_r n _ _ ih hx1 hx2 hx3 gM13 h
          · rw [if_neg q5] at h
            rw [if_neg (fun z => q5 ((rp_le hv12 (show rp 126 126 from rfl)).mp z))]
            exact zJ197_51_r n gM13 h
/-- ArmExpander$TypedText.append -/
def zF197 (n : Nat) (a0 : Int) (a1 : Int) (M : ZM) : Option (Int × ZM) :=
  if a1 < 1 then (zJ197_21 n M) else (if 4 < a1 then (zJ197_21 n M) else (if rg ((M.1 1 1) + a1) then (if ((M.1 1 1) + a1) ≤ 120 then (zL197_25 n n a0 a1 0 M) else (zJ197_21 n M)) else none))
set_option maxRecDepth 100000 in
set_option maxHeartbeats 4000000 in
theorem zF197_r (n : Nat) {A0_ : Int32} {a0 : Int} (ha0 : rp A0_ a0) {A1_ : Int32} {a1 : Int} (ha1 : rp A1_ a1) {M_ : Mem} {M : ZM} (gM : rm M_ M) {r : Int} {m' : ZM} (h : zF197 n a0 a1 M = some (r, m')) : sI (F197 n A0_ A1_ M_) r m' := by
  unfold zF197 at h
  unfold F197
  by_cases q1 : a1 < 1
  · rw [if_pos q1] at h
    rw [if_pos ((rp_lt ha1 (show rp 1 1 from rfl)).mpr q1)]
    exact zJ197_21_r n gM h
  · rw [if_neg q1] at h
    rw [if_neg (fun z => q1 ((rp_lt ha1 (show rp 1 1 from rfl)).mp z))]
    by_cases q2 : 4 < a1
    · rw [if_pos q2] at h
      rw [if_pos ((rp_lt (show rp 4 4 from rfl) ha1).mpr q2)]
      exact zJ197_21_r n gM h
    · rw [if_neg q2] at h
      rw [if_neg (fun z => q2 ((rp_lt (show rp 4 4 from rfl) ha1).mp z))]
      by_cases w3 : rg ((M.1 1 1) + a1)
      · rw [if_pos w3] at h
        by_cases q4 : ((M.1 1 1) + a1) ≤ 120
        · rw [if_pos q4] at h
          rw [if_pos ((rp_le (rp_add (rp_iz (rm_rd gM 1 1)) (rp_iz ha1) w3) (show rp 120 120 from rfl)).mpr q4)]
          exact zL197_25_r n n ha0 ha1 (show rp 0 0 from rfl) gM h
        · rw [if_neg q4] at h
          rw [if_neg (fun z => q4 ((rp_le (rp_add (rp_iz (rm_rd gM 1 1)) (rp_iz ha1) w3) (show rp 120 120 from rfl)).mp z))]
          exact zJ197_21_r n gM h
      · rw [if_neg w3] at h
        cases h
/-- ArmExpander.type -/
def zF1 (n : Nat) (a0 : Int) (a1 : Int) (M : ZM) : Option (Int × ZM) :=
  match zF197 n a0 a1 M with | some (v1, M2) => (if v1 = 0 ∨ v1 = 1 then (some (v1, M2)) else (none)) | none => none
set_option maxRecDepth 100000 in
set_option maxHeartbeats 4000000 in
theorem zF1_r (n : Nat) {A0_ : Int32} {a0 : Int} (ha0 : rp A0_ a0) {A1_ : Int32} {a1 : Int} (ha1 : rp A1_ a1) {M_ : Mem} {M : ZM} (gM : rm M_ M) {r : Int} {m' : ZM} (h : zF1 n a0 a1 M = some (r, m')) : sI (F1 n A0_ A1_ M_) r m' := by
  unfold zF1 at h
  unfold F1
  cases hc1 : zF197 n a0 a1 M with
  | none => rw [hc1] at h; cases h
  | some w =>
    obtain ⟨v1, M2⟩ := w
    rw [hc1] at h
    dsimp only at h
    obtain ⟨V1, NM2, ehc1, hv1, gM2⟩ := zF197_r n ha0 ha1 gM hc1
    rw [ehc1]
    dsimp only
    by_cases q2 : v1 = 0 ∨ v1 = 1
    · rw [if_pos q2] at h
      rw [if_pos ((or_congr (rp_eq hv1 (show rp 0 0 from rfl)) (rp_eq hv1 (show rp 1 1 from rfl))).mpr q2)]
      obtain ⟨rfl, rfl⟩ := Prod.mk.inj (Option.some.inj h)
      exact ⟨_, _, rfl, hv1, gM2⟩
    · rw [if_neg q2] at h
      rw [if_neg (fun z => q2 ((or_congr (rp_eq hv1 (show rp 0 0 from rfl)) (rp_eq hv1 (show rp 1 1 from rfl))).mp z))]
      cases h
def zJ33_37 (n : Nat) (zrec12 : Int → Int → Int → ZM → Option (Unit × ZM)) (x1 : Int) (x2 : Int) (x3 : Int) (M : ZM) : Option (Unit × ZM) :=
  if rg (x3 + 1) then (zrec12 x1 x2 (x3 + 1) M) else none
set_option maxRecDepth 100000 in
set_option maxHeartbeats 4000000 in
theorem zJ33_37_r (n : Nat) (rec12 : Int32 → Int32 → Int32 → Mem → Option (Unit × Mem)) (zrec12 : Int → Int → Int → ZM → Option (Unit × ZM)) (hrec12 : ∀ {Y1 : Int32} {y1 : Int} (_ : rp Y1 y1) {Y2 : Int32} {y2 : Int} (_ : rp Y2 y2) {Y3 : Int32} {y3 : Int} (_ : rp Y3 y3) {M : Mem} {m : ZM} (_ : rm M m) {r : Unit} {m' : ZM} (_ : zrec12 y1 y2 y3 m = some (r, m')), sU (rec12 Y1 Y2 Y3 M) m') {X1_ : Int32} {x1 : Int} (hx1 : rp X1_ x1) {X2_ : Int32} {x2 : Int} (hx2 : rp X2_ x2) {X3_ : Int32} {x3 : Int} (hx3 : rp X3_ x3) {M_ : Mem} {M : ZM} (gM : rm M_ M) {r : Unit} {m' : ZM} (h : zJ33_37 n zrec12 x1 x2 x3 M = some (r, m')) : sU (J33_37 n rec12 X1_ X2_ X3_ M_) m' := by
  unfold zJ33_37 at h
  unfold J33_37
  by_cases w1 : rg (x3 + 1)
  · rw [if_pos w1] at h
    exact hrec12 hx1 hx2 (rp_add (rp_iz hx3) (rp_iz (show rp 1 1 from rfl)) w1) gM h
  · rw [if_neg w1] at h
    cases h
def zL33_12 (n : Nat) : Nat → Int → Int → Int → ZM → Option (Unit × ZM)
  | 0, _, _, _, _ => none
  | k + 1, x1, x2, x3, M => if (M.1 83 3) ≤ x3 then (match zF34 n x2 M with | some (v4, M5) => (some ((), M5)) | none => none) else (if rg ((120 * x1) + x3) then (if ((120 * x1) + x3) < 0 ∨ 600 ≤ ((120 * x1) + x3) then (none) else (if x3 < 0 ∨ 120 ≤ x3 then (none) else (zlet (z_i M 85 (Int.toNat x3) (M.1 86 (Int.toNat ((120 * x1) + x3)))) (fun M9 => zJ33_37 n (zL33_12 n k) x1 x2 x3 M9)))) else none)
set_option maxRecDepth 100000 in
set_option maxHeartbeats 4000000 in
theorem zL33_12_r (n : Nat) : ∀ (k : Nat) {X1_ : Int32} {x1 : Int} (hx1 : rp X1_ x1) {X2_ : Int32} {x2 : Int} (hx2 : rp X2_ x2) {X3_ : Int32} {x3 : Int} (hx3 : rp X3_ x3) {M_ : Mem} {M : ZM} (gM : rm M_ M) {r : Unit} {m' : ZM} (_ : zL33_12 n k x1 x2 x3 M = some (r, m')), sU (L33_12 n k X1_ X2_ X3_ M_) m' := by
  intro k
  induction k with
  | zero => intro X1_ x1 hx1 X2_ x2 hx2 X3_ x3 hx3 M_ M gM r m' h; cases h
  | succ k ih =>
    intro X1_ x1 hx1 X2_ x2 hx2 X3_ x3 hx3 M_ M gM r m' h
    rw [zL33_12] at h
    rw [L33_12]
    by_cases q1 : (M.1 83 3) ≤ x3
    · rw [if_pos q1] at h
      rw [if_pos ((rp_le (rm_rd gM 83 3) hx3).mpr q1)]
      cases hc2 : zF34 n x2 M with
      | none => rw [hc2] at h; cases h
      | some w =>
        obtain ⟨v4, M5⟩ := w
        rw [hc2] at h
        dsimp only at h
        obtain ⟨V4, NM5, ehc2, hv4, gM5⟩ := zF34_r n hx2 gM hc2
        rw [ehc2]
        dsimp only
        obtain ⟨_, rfl⟩ := Prod.mk.inj (Option.some.inj h)
        exact ⟨_, rfl, gM5⟩
    · rw [if_neg q1] at h
      rw [if_neg (fun z => q1 ((rp_le (rm_rd gM 83 3) hx3).mp z))]
      by_cases w3 : rg ((120 * x1) + x3)
      · rw [if_pos w3] at h
        by_cases q4 : ((120 * x1) + x3) < 0 ∨ 600 ≤ ((120 * x1) + x3)
        · rw [if_pos q4] at h
          rw [if_pos ((rp_ob (rp_add (rw_mul (rp_iz (show rp 120 120 from rfl)) (rp_iz hx1)) (rp_iz hx3) w3) 600).mpr q4)]
          cases h
        · rw [if_neg q4] at h
          rw [if_neg (fun z => q4 ((rp_ob (rp_add (rw_mul (rp_iz (show rp 120 120 from rfl)) (rp_iz hx1)) (rp_iz hx3) w3) 600).mp z))]
          by_cases q5 : x3 < 0 ∨ 120 ≤ x3
          · rw [if_pos q5] at h
            rw [if_pos ((rp_ob hx3 120).mpr q5)]
            cases h
          · rw [if_neg q5] at h
            rw [if_neg (fun z => q5 ((rp_ob hx3 120).mp z))]
            have gM9 : rm (m_i M_ 85 (X3_).toNatClampNeg (M_.1 86 ((((120 : Int32) * X1_) + X3_)).toNatClampNeg)) (z_i M 85 (Int.toNat x3) (M.1 86 (Int.toNat ((120 * x1) + x3)))) := rm_ix gM 85 hx3 (rm_rdx gM 86 (rp_add (rw_mul (rp_iz (show rp 120 120 from rfl)) (rp_iz hx1)) (rp_iz hx3) w3))
            rw [mlet]
            rw [zlet] at h
            generalize z_i M 85 (Int.toNat x3) (M.1 86 (Int.toNat ((120 * x1) + x3))) = M9 at h gM9
            generalize m_i M_ 85 (X3_).toNatClampNeg (M_.1 86 ((((120 : Int32) * X1_) + X3_)).toNatClampNeg) = NM9 at gM9 ⊢
            exact zJ33_37_r n _ _ ih hx1 hx2 hx3 gM9 h
      · rw [if_neg w3] at h
        cases h
/-- ArmExpanderModel.loadArm -/
def zF33 (n : Nat) (a0 : Int) (a1 : Int) (M : ZM) : Option (Unit × ZM) :=
  if a0 < 0 ∨ 5 ≤ a0 then (none) else (zlet (z_i M 83 3 (M.1 87 (Int.toNat a0))) (fun M2 => zL33_12 n n a0 a1 0 M2))
set_option maxRecDepth 100000 in
set_option maxHeartbeats 4000000 in
theorem zF33_r (n : Nat) {A0_ : Int32} {a0 : Int} (ha0 : rp A0_ a0) {A1_ : Int32} {a1 : Int} (ha1 : rp A1_ a1) {M_ : Mem} {M : ZM} (gM : rm M_ M) {r : Unit} {m' : ZM} (h : zF33 n a0 a1 M = some (r, m')) : sU (F33 n A0_ A1_ M_) m' := by
  unfold zF33 at h
  unfold F33
  by_cases q1 : a0 < 0 ∨ 5 ≤ a0
  · rw [if_pos q1] at h
    rw [if_pos ((rp_ob ha0 5).mpr q1)]
    cases h
  · rw [if_neg q1] at h
    rw [if_neg (fun z => q1 ((rp_ob ha0 5).mp z))]
    have gM2 : rm (m_i M_ 83 3 (M_.1 87 (A0_).toNatClampNeg)) (z_i M 83 3 (M.1 87 (Int.toNat a0))) := rm_i gM 83 3 (rm_rdx gM 87 ha0)
    rw [mlet]
    rw [zlet] at h
    generalize z_i M 83 3 (M.1 87 (Int.toNat a0)) = M2 at h gM2
    generalize m_i M_ 83 3 (M_.1 87 (A0_).toNatClampNeg) = NM2 at gM2 ⊢
    exact zL33_12_r n n ha0 ha1 (show rp 0 0 from rfl) gM2 h
def zJ93_35 (n : Nat) (g0 : Nat) (zrec12 : Int → Int → ZM → Option (Int × ZM)) (x2 : Int) (x3 : Int) (M : ZM) : Option (Int × ZM) :=
  if rg (x3 + 1) then (zrec12 x2 (x3 + 1) M) else none
set_option maxRecDepth 100000 in
set_option maxHeartbeats 4000000 in
theorem zJ93_35_r (n : Nat) (g0 : Nat) (rec12 : Int32 → Int32 → Mem → Option (Int32 × Mem)) (zrec12 : Int → Int → ZM → Option (Int × ZM)) (hrec12 : ∀ {Y1 : Int32} {y1 : Int} (_ : rp Y1 y1) {Y2 : Int32} {y2 : Int} (_ : rp Y2 y2) {M : Mem} {m : ZM} (_ : rm M m) {r : Int} {m' : ZM} (_ : zrec12 y1 y2 m = some (r, m')), sI (rec12 Y1 Y2 M) r m') {X2_ : Int32} {x2 : Int} (hx2 : rp X2_ x2) {X3_ : Int32} {x3 : Int} (hx3 : rp X3_ x3) {M_ : Mem} {M : ZM} (gM : rm M_ M) {r : Int} {m' : ZM} (h : zJ93_35 n g0 zrec12 x2 x3 M = some (r, m')) : sI (J93_35 n g0 rec12 X2_ X3_ M_) r m' := by
  unfold zJ93_35 at h
  unfold J93_35
  by_cases w1 : rg (x3 + 1)
  · rw [if_pos w1] at h
    exact hrec12 hx2 (rp_add (rp_iz hx3) (rp_iz (show rp 1 1 from rfl)) w1) gM h
  · rw [if_neg w1] at h
    cases h
