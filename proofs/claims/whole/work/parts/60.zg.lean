/-! The methods over whole numbers; written by program. -/
def zJ93_33 (n : Nat) (g0 : Nat) (M : ZM) : Option (Int × ZM) :=
  some (1, M)
set_option maxRecDepth 100000 in
set_option maxHeartbeats 4000000 in
theorem zJ93_33_r (n : Nat) (g0 : Nat) {M_ : Mem} {M : ZM} (gM : rm M_ M) {r : Int} {m' : ZM} (h : zJ93_33 n g0 M = some (r, m')) : sI (J93_33 n g0 M_) r m' := by
  unfold zJ93_33 at h
  unfold J93_33
  obtain ⟨rfl, rfl⟩ := Prod.mk.inj (Option.some.inj h)
  exact ⟨_, _, rfl, (show rp 1 1 from rfl), gM⟩
def zL93_12 (n : Nat) (g0 : Nat) : Nat → Int → Int → ZM → Option (Int × ZM)
  | 0, _, _, _ => none
  | k + 1, x2, x3, M => if x2 ≤ x3 then (some (0, M)) else (match zF116 n g0 x3 M with | some (v8, M9) => (if v8 = 0 then (zJ93_35 n g0 (zL93_12 n g0 k) x2 x3 M9) else (match zF94 n g0 x3 M9 with | some (v12, M13) => (if v12 = 0 then (zJ93_35 n g0 (zL93_12 n g0 k) x2 x3 M13) else (zJ93_33 n g0 M13)) | none => none)) | none => none)
set_option maxRecDepth 100000 in
set_option maxHeartbeats 4000000 in
theorem zL93_12_r (n : Nat) (g0 : Nat) : ∀ (k : Nat) {X2_ : Int32} {x2 : Int} (hx2 : rp X2_ x2) {X3_ : Int32} {x3 : Int} (hx3 : rp X3_ x3) {M_ : Mem} {M : ZM} (gM : rm M_ M) {r : Int} {m' : ZM} (_ : zL93_12 n g0 k x2 x3 M = some (r, m')), sI (L93_12 n g0 k X2_ X3_ M_) r m' := by
  intro k
  induction k with
  | zero => intro X2_ x2 hx2 X3_ x3 hx3 M_ M gM r m' h; cases h
  | succ k ih =>
    intro X2_ x2 hx2 X3_ x3 hx3 M_ M gM r m' h
    rw [zL93_12] at h
    rw [L93_12]
    by_cases q1 : x2 ≤ x3
    · rw [if_pos q1] at h
      rw [if_pos ((rp_le hx2 hx3).mpr q1)]
      obtain ⟨rfl, rfl⟩ := Prod.mk.inj (Option.some.inj h)
      exact ⟨_, _, rfl, (show rp 0 0 from rfl), gM⟩
    · rw [if_neg q1] at h
      rw [if_neg (fun z => q1 ((rp_le hx2 hx3).mp z))]
      cases hc2 : zF116 n g0 x3 M with
      | none => rw [hc2] at h; cases h
      | some w =>
        obtain ⟨v8, M9⟩ := w
        rw [hc2] at h
        dsimp only at h
        obtain ⟨V8, NM9, ehc2, hv8, gM9⟩ := zF116_r n g0 hx3 gM hc2
        rw [ehc2]
        dsimp only
        by_cases q3 : v8 = 0
        · rw [if_pos q3] at h
          rw [if_pos ((rp_eq hv8 (show rp 0 0 from rfl)).mpr q3)]
          exact zJ93_35_r n g0 _ _ ih hx2 hx3 gM9 h
        · rw [if_neg q3] at h
          rw [if_neg (fun z => q3 ((rp_eq hv8 (show rp 0 0 from rfl)).mp z))]
          cases hc4 : zF94 n g0 x3 M9 with
          | none => rw [hc4] at h; cases h
          | some w =>
            obtain ⟨v12, M13⟩ := w
            rw [hc4] at h
            dsimp only at h
            obtain ⟨V12, NM13, ehc4, hv12, gM13⟩ := zF94_r n g0 hx3 gM9 hc4
            rw [ehc4]
            dsimp only
            by_cases q5 : v12 = 0
            · rw [if_pos q5] at h
              rw [if_pos ((rp_eq hv12 (show rp 0 0 from rfl)).mpr q5)]
              exact zJ93_35_r n g0 _ _ ih hx2 hx3 gM13 h
            · rw [if_neg q5] at h
              rw [if_neg (fun z => q5 ((rp_eq hv12 (show rp 0 0 from rfl)).mp z))]
              exact zJ93_33_r n g0 gM13 h
/-- ArmExpander$Checker.hasEmptyRepetition -/
def zF93 (n : Nat) (g0 : Nat) (a1 : Int) (M : ZM) : Option (Int × ZM) :=
  match zF112 n g0 a1 M with | some (v1, M2) => (match zF111 n g0 a1 M2 with | some (v4, M5) => (zL93_12 n g0 n v1 v4 M5) | none => none) | none => none
set_option maxRecDepth 100000 in
set_option maxHeartbeats 4000000 in
theorem zF93_r (n : Nat) (g0 : Nat) {A1_ : Int32} {a1 : Int} (ha1 : rp A1_ a1) {M_ : Mem} {M : ZM} (gM : rm M_ M) {r : Int} {m' : ZM} (h : zF93 n g0 a1 M = some (r, m')) : sI (F93 n g0 A1_ M_) r m' := by
  unfold zF93 at h
  unfold F93
  cases hc1 : zF112 n g0 a1 M with
  | none => rw [hc1] at h; cases h
  | some w =>
    obtain ⟨v1, M2⟩ := w
    rw [hc1] at h
    dsimp only at h
    obtain ⟨V1, NM2, ehc1, hv1, gM2⟩ := zF112_r n g0 ha1 gM hc1
    rw [ehc1]
    dsimp only
    cases hc2 : zF111 n g0 a1 M2 with
    | none => rw [hc2] at h; cases h
    | some w =>
      obtain ⟨v4, M5⟩ := w
      rw [hc2] at h
      dsimp only at h
      obtain ⟨V4, NM5, ehc2, hv4, gM5⟩ := zF111_r n g0 ha1 gM2 hc2
      rw [ehc2]
      dsimp only
      exact zL93_12_r n g0 n hv1 hv4 gM5 h
def zJ98_35 (n : Nat) (g0 : Nat) (zrec12 : Int → Int → ZM → Option (Int × ZM)) (x2 : Int) (x3 : Int) (M : ZM) : Option (Int × ZM) :=
  if rg (x3 + 1) then (zrec12 x2 (x3 + 1) M) else none
set_option maxRecDepth 100000 in
set_option maxHeartbeats 4000000 in
theorem zJ98_35_r (n : Nat) (g0 : Nat) (rec12 : Int32 → Int32 → Mem → Option (Int32 × Mem)) (zrec12 : Int → Int → ZM → Option (Int × ZM)) (hrec12 : ∀ {Y1 : Int32} {y1 : Int} (_ : rp Y1 y1) {Y2 : Int32} {y2 : Int} (_ : rp Y2 y2) {M : Mem} {m : ZM} (_ : rm M m) {r : Int} {m' : ZM} (_ : zrec12 y1 y2 m = some (r, m')), sI (rec12 Y1 Y2 M) r m') {X2_ : Int32} {x2 : Int} (hx2 : rp X2_ x2) {X3_ : Int32} {x3 : Int} (hx3 : rp X3_ x3) {M_ : Mem} {M : ZM} (gM : rm M_ M) {r : Int} {m' : ZM} (h : zJ98_35 n g0 zrec12 x2 x3 M = some (r, m')) : sI (J98_35 n g0 rec12 X2_ X3_ M_) r m' := by
  unfold zJ98_35 at h
  unfold J98_35
  by_cases w1 : rg (x3 + 1)
  · rw [if_pos w1] at h
    exact hrec12 hx2 (rp_add (rp_iz hx3) (rp_iz (show rp 1 1 from rfl)) w1) gM h
  · rw [if_neg w1] at h
    cases h
def zJ98_33 (n : Nat) (g0 : Nat) (M : ZM) : Option (Int × ZM) :=
  some (1, M)
set_option maxRecDepth 100000 in
set_option maxHeartbeats 4000000 in
theorem zJ98_33_r (n : Nat) (g0 : Nat) {M_ : Mem} {M : ZM} (gM : rm M_ M) {r : Int} {m' : ZM} (h : zJ98_33 n g0 M = some (r, m')) : sI (J98_33 n g0 M_) r m' := by
  unfold zJ98_33 at h
  unfold J98_33
  obtain ⟨rfl, rfl⟩ := Prod.mk.inj (Option.some.inj h)
  exact ⟨_, _, rfl, (show rp 1 1 from rfl), gM⟩
def zL98_12 (n : Nat) (g0 : Nat) : Nat → Int → Int → ZM → Option (Int × ZM)
  | 0, _, _, _ => none
  | k + 1, x2, x3, M => if x2 ≤ x3 then (some (0, M)) else (match zF116 n g0 x3 M with | some (v8, M9) => (if v8 = 0 then (zJ98_35 n g0 (zL98_12 n g0 k) x2 x3 M9) else (match zF99 n g0 x3 M9 with | some (v12, M13) => (if v12 = 0 then (zJ98_33 n g0 M13) else (zJ98_35 n g0 (zL98_12 n g0 k) x2 x3 M13)) | none => none)) | none => none)
set_option maxRecDepth 100000 in
set_option maxHeartbeats 4000000 in
theorem zL98_12_r (n : Nat) (g0 : Nat) : ∀ (k : Nat) {X2_ : Int32} {x2 : Int} (hx2 : rp X2_ x2) {X3_ : Int32} {x3 : Int} (hx3 : rp X3_ x3) {M_ : Mem} {M : ZM} (gM : rm M_ M) {r : Int} {m' : ZM} (_ : zL98_12 n g0 k x2 x3 M = some (r, m')), sI (L98_12 n g0 k X2_ X3_ M_) r m' := by
  intro k
  induction k with
  | zero => intro X2_ x2 hx2 X3_ x3 hx3 M_ M gM r m' h; cases h
  | succ k ih =>
    intro X2_ x2 hx2 X3_ x3 hx3 M_ M gM r m' h
    rw [zL98_12] at h
    rw [L98_12]
    by_cases q1 : x2 ≤ x3
    · rw [if_pos q1] at h
      rw [if_pos ((rp_le hx2 hx3).mpr q1)]
      obtain ⟨rfl, rfl⟩ := Prod.mk.inj (Option.some.inj h)
      exact ⟨_, _, rfl, (show rp 0 0 from rfl), gM⟩
    · rw [if_neg q1] at h
      rw [if_neg (fun z => q1 ((rp_le hx2 hx3).mp z))]
      cases hc2 : zF116 n g0 x3 M with
      | none => rw [hc2] at h; cases h
      | some w =>
        obtain ⟨v8, M9⟩ := w
        rw [hc2] at h
        dsimp only at h
        obtain ⟨V8, NM9, ehc2, hv8, gM9⟩ := zF116_r n g0 hx3 gM hc2
        rw [ehc2]
        dsimp only
        by_cases q3 : v8 = 0
        · rw [if_pos q3] at h
          rw [if_pos ((rp_eq hv8 (show rp 0 0 from rfl)).mpr q3)]
          exact zJ98_35_r n g0 _ _ ih hx2 hx3 gM9 h
        · rw [if_neg q3] at h
          rw [if_neg (fun z => q3 ((rp_eq hv8 (show rp 0 0 from rfl)).mp z))]
          cases hc4 : zF99 n g0 x3 M9 with
          | none => rw [hc4] at h; cases h
          | some w =>
            obtain ⟨v12, M13⟩ := w
            rw [hc4] at h
            dsimp only at h
            obtain ⟨V12, NM13, ehc4, hv12, gM13⟩ := zF99_r n g0 hx3 gM9 hc4
            rw [ehc4]
            dsimp only
            by_cases q5 : v12 = 0
            · rw [if_pos q5] at h
              rw [if_pos ((rp_eq hv12 (show rp 0 0 from rfl)).mpr q5)]
              exact zJ98_33_r n g0 gM13 h
            · rw [if_neg q5] at h
              rw [if_neg (fun z => q5 ((rp_eq hv12 (show rp 0 0 from rfl)).mp z))]
              exact zJ98_35_r n g0 _ _ ih hx2 hx3 gM13 h
/-- ArmExpander$Checker.hasUselessRepetition -/
def zF98 (n : Nat) (g0 : Nat) (a1 : Int) (M : ZM) : Option (Int × ZM) :=
  match zF114 n g0 a1 M with | some (v1, M2) => (match zF113 n g0 a1 M2 with | some (v4, M5) => (zL98_12 n g0 n v1 v4 M5) | none => none) | none => none
set_option maxRecDepth 100000 in
set_option maxHeartbeats 4000000 in
theorem zF98_r (n : Nat) (g0 : Nat) {A1_ : Int32} {a1 : Int} (ha1 : rp A1_ a1) {M_ : Mem} {M : ZM} (gM : rm M_ M) {r : Int} {m' : ZM} (h : zF98 n g0 a1 M = some (r, m')) : sI (F98 n g0 A1_ M_) r m' := by
  unfold zF98 at h
  unfold F98
  cases hc1 : zF114 n g0 a1 M with
  | none => rw [hc1] at h; cases h
  | some w =>
    obtain ⟨v1, M2⟩ := w
    rw [hc1] at h
    dsimp only at h
    obtain ⟨V1, NM2, ehc1, hv1, gM2⟩ := zF114_r n g0 ha1 gM hc1
    rw [ehc1]
    dsimp only
    cases hc2 : zF113 n g0 a1 M2 with
    | none => rw [hc2] at h; cases h
    | some w =>
      obtain ⟨v4, M5⟩ := w
      rw [hc2] at h
      dsimp only at h
      obtain ⟨V4, NM5, ehc2, hv4, gM5⟩ := zF113_r n g0 ha1 gM2 hc2
      rw [ehc2]
      dsimp only
      exact zL98_12_r n g0 n hv1 hv4 gM5 h
def zJ51_82 (n : Nat) (zrec2 : Int → Int → ZM → Option (Unit × ZM)) (x1 : Int) (x2 : Int) (M : ZM) : Option (Unit × ZM) :=
  if rg (x2 + 1) then (zrec2 x1 (x2 + 1) M) else none
set_option maxRecDepth 100000 in
set_option maxHeartbeats 4000000 in
theorem zJ51_82_r (n : Nat) (rec2 : Int32 → Int32 → Mem → Option (Unit × Mem)) (zrec2 : Int → Int → ZM → Option (Unit × ZM)) (hrec2 : ∀ {Y1 : Int32} {y1 : Int} (_ : rp Y1 y1) {Y2 : Int32} {y2 : Int} (_ : rp Y2 y2) {M : Mem} {m : ZM} (_ : rm M m) {r : Unit} {m' : ZM} (_ : zrec2 y1 y2 m = some (r, m')), sU (rec2 Y1 Y2 M) m') {X1_ : Int32} {x1 : Int} (hx1 : rp X1_ x1) {X2_ : Int32} {x2 : Int} (hx2 : rp X2_ x2) {M_ : Mem} {M : ZM} (gM : rm M_ M) {r : Unit} {m' : ZM} (h : zJ51_82 n zrec2 x1 x2 M = some (r, m')) : sU (J51_82 n rec2 X1_ X2_ M_) m' := by
  unfold zJ51_82 at h
  unfold J51_82
  by_cases w1 : rg (x2 + 1)
  · rw [if_pos w1] at h
    exact hrec2 hx1 (rp_add (rp_iz hx2) (rp_iz (show rp 1 1 from rfl)) w1) gM h
  · rw [if_neg w1] at h
    cases h
def zJ51_53 (n : Nat) (zrec2 : Int → Int → ZM → Option (Unit × ZM)) (x1 : Int) (x2 : Int) (x3 : Int) (s0 : Int64) (s1 : Int) (M : ZM) : Option (Unit × ZM) :=
  if s1 < 0 ∨ 3220 ≤ s1 then (none) else (zlet (z_l M (Int.toNat s1) s0) (fun M7 => if x3 < 0 ∨ 3220 ≤ x3 then (none) else (if x2 < 0 ∨ 128 ≤ x2 then (none) else (if rg (9 * (x2 - ((Int.tdiv x2 7) * 7))) then (zlet (z_l M7 (Int.toNat x3) ((M7.2.2 (Int.toNat x3)) ||| (((iz (M7.1 110 (Int.toNat x2))) : Int32).toInt64 <<< (((iz (9 * (x2 - ((Int.tdiv x2 7) * 7)))) : Int32).toInt64 &&& 63)))) (fun M11 => zJ51_82 n zrec2 x1 x2 M11)) else none))))
set_option maxRecDepth 100000 in
set_option maxHeartbeats 4000000 in
theorem zJ51_53_r (n : Nat) (rec2 : Int32 → Int32 → Mem → Option (Unit × Mem)) (zrec2 : Int → Int → ZM → Option (Unit × ZM)) (hrec2 : ∀ {Y1 : Int32} {y1 : Int} (_ : rp Y1 y1) {Y2 : Int32} {y2 : Int} (_ : rp Y2 y2) {M : Mem} {m : ZM} (_ : rm M m) {r : Unit} {m' : ZM} (_ : zrec2 y1 y2 m = some (r, m')), sU (rec2 Y1 Y2 M) m') {X1_ : Int32} {x1 : Int} (hx1 : rp X1_ x1) {X2_ : Int32} {x2 : Int} (hx2 : rp X2_ x2) {X3_ : Int32} {x3 : Int} (hx3 : rp X3_ x3) {S0_ s0 : Int64} (hs0 : S0_ = s0) {S1_ : Int32} {s1 : Int} (hs1 : rp S1_ s1) {M_ : Mem} {M : ZM} (gM : rm M_ M) {r : Unit} {m' : ZM} (h : zJ51_53 n zrec2 x1 x2 x3 s0 s1 M = some (r, m')) : sU (J51_53 n rec2 X1_ X2_ X3_ S0_ S1_ M_) m' := by
  unfold zJ51_53 at h
  unfold J51_53
  by_cases q1 : s1 < 0 ∨ 3220 ≤ s1
  · rw [if_pos q1] at h
    rw [if_pos ((rp_ob hs1 3220).mpr q1)]
    cases h
  · rw [if_neg q1] at h
    rw [if_neg (fun z => q1 ((rp_ob hs1 3220).mp z))]
    have gM7 : rm (m_l M_ (S1_).toNatClampNeg S0_) (z_l M (Int.toNat s1) s0) := rm_lx gM hs1 (show S0_ = s0 from by rw [hs0])
    rw [mlet]
    rw [zlet] at h
    generalize z_l M (Int.toNat s1) s0 = M7 at h gM7
    generalize m_l M_ (S1_).toNatClampNeg S0_ = NM7 at gM7 ⊢
    by_cases q2 : x3 < 0 ∨ 3220 ≤ x3
    · rw [if_pos q2] at h
      rw [if_pos ((rp_ob hx3 3220).mpr q2)]
      cases h
    · rw [if_neg q2] at h
      rw [if_neg (fun z => q2 ((rp_ob hx3 3220).mp z))]
      by_cases q3 : x2 < 0 ∨ 128 ≤ x2
      · rw [if_pos q3] at h
        rw [if_pos ((rp_ob hx2 128).mpr q3)]
        cases h
      · rw [if_neg q3] at h
        rw [if_neg (fun z => q3 ((rp_ob hx2 128).mp z))]
        rw [if_neg (fun z => q2 ((rp_ob hx3 3220).mp z))]
        by_cases w4 : rg (9 * (x2 - ((Int.tdiv x2 7) * 7)))
        · rw [if_pos w4] at h
          have gM11 : rm (m_l NM7 (X3_).toNatClampNeg ((NM7.2.2 (X3_).toNatClampNeg) ||| (((NM7.1 110 (X2_).toNatClampNeg)).toInt64 <<< ((((9 : Int32) * (X2_ - ((X2_ / (7 : Int32)) * (7 : Int32))))).toInt64 &&& 63)))) (z_l M7 (Int.toNat x3) ((M7.2.2 (Int.toNat x3)) ||| (((iz (M7.1 110 (Int.toNat x2))) : Int32).toInt64 <<< (((iz (9 * (x2 - ((Int.tdiv x2 7) * 7)))) : Int32).toInt64 &&& 63)))) := rm_lx gM7 hx3 (show ((NM7.2.2 (X3_).toNatClampNeg) ||| (((NM7.1 110 (X2_).toNatClampNeg)).toInt64 <<< ((((9 : Int32) * (X2_ - ((X2_ / (7 : Int32)) * (7 : Int32))))).toInt64 &&& 63))) = ((M7.2.2 (Int.toNat x3)) ||| (((iz (M7.1 110 (Int.toNat x2))) : Int32).toInt64 <<< (((iz (9 * (x2 - ((Int.tdiv x2 7) * 7)))) : Int32).toInt64 &&& 63))) from by rw [rm_rlx gM7 hx3, rp_iz (rm_rdx gM7 110 hx2), (rw_mul (rp_iz (show rp 9 9 from rfl)) (rw_sub (rp_iz hx2) (rw_mul (rp_iz (rp_div hx2 (show rp 7 7 from rfl) (by decide))) (rp_iz (show rp 7 7 from rfl)))))])
          rw [mlet]
          rw [zlet] at h
          generalize z_l M7 (Int.toNat x3) ((M7.2.2 (Int.toNat x3)) ||| (((iz (M7.1 110 (Int.toNat x2))) : Int32).toInt64 <<< (((iz (9 * (x2 - ((Int.tdiv x2 7) * 7)))) : Int32).toInt64 &&& 63))) = M11 at h gM11
          generalize m_l NM7 (X3_).toNatClampNeg ((NM7.2.2 (X3_).toNatClampNeg) ||| (((NM7.1 110 (X2_).toNatClampNeg)).toInt64 <<< ((((9 : Int32) * (X2_ - ((X2_ / (7 : Int32)) * (7 : Int32))))).toInt64 &&& 63))) = NM11 at gM11 ⊢
          exact zJ51_82_r n _ _ hrec2 hx1 hx2 gM11 h
        · rw [if_neg w4] at h
          cases h
def zJ51_31 (n : Nat) (zrec2 : Int → Int → ZM → Option (Unit × ZM)) (x1 : Int) (x2 : Int) (x3 : Int) (M : ZM) : Option (Unit × ZM) :=
  if rg (x2 - ((Int.tdiv x2 7) * 7)) then (if (x2 - ((Int.tdiv x2 7) * 7)) = 0 then (zJ51_53 n zrec2 x1 x2 x3 0 x3 M) else (if x3 < 0 ∨ 3220 ≤ x3 then (none) else (zJ51_53 n zrec2 x1 x2 x3 (M.2.2 (Int.toNat x3)) x3 M))) else none
set_option maxRecDepth 100000 in
set_option maxHeartbeats 4000000 in
theorem zJ51_31_r (n : Nat) (rec2 : Int32 → Int32 → Mem → Option (Unit × Mem)) (zrec2 : Int → Int → ZM → Option (Unit × ZM)) (hrec2 : ∀ {Y1 : Int32} {y1 : Int} (_ : rp Y1 y1) {Y2 : Int32} {y2 : Int} (_ : rp Y2 y2) {M : Mem} {m : ZM} (_ : rm M m) {r : Unit} {m' : ZM} (_ : zrec2 y1 y2 m = some (r, m')), sU (rec2 Y1 Y2 M) m') {X1_ : Int32} {x1 : Int} (hx1 : rp X1_ x1) {X2_ : Int32} {x2 : Int} (hx2 : rp X2_ x2) {X3_ : Int32} {x3 : Int} (hx3 : rp X3_ x3) {M_ : Mem} {M : ZM} (gM : rm M_ M) {r : Unit} {m' : ZM} (h : zJ51_31 n zrec2 x1 x2 x3 M = some (r, m')) : sU (J51_31 n rec2 X1_ X2_ X3_ M_) m' := by
  unfold zJ51_31 at h
  unfold J51_31
  by_cases w1 : rg (x2 - ((Int.tdiv x2 7) * 7))
  · rw [if_pos w1] at h
    by_cases q2 : (x2 - ((Int.tdiv x2 7) * 7)) = 0
    · rw [if_pos q2] at h
      rw [if_pos ((rp_eq (rp_sub (rp_iz hx2) (rw_mul (rp_iz (rp_div hx2 (show rp 7 7 from rfl) (by decide))) (rp_iz (show rp 7 7 from rfl))) w1) (show rp 0 0 from rfl)).mpr q2)]
      exact zJ51_53_r n _ _ hrec2 hx1 hx2 hx3 rfl hx3 gM h
    · rw [if_neg q2] at h
      rw [if_neg (fun z => q2 ((rp_eq (rp_sub (rp_iz hx2) (rw_mul (rp_iz (rp_div hx2 (show rp 7 7 from rfl) (by decide))) (rp_iz (show rp 7 7 from rfl))) w1) (show rp 0 0 from rfl)).mp z))]
      by_cases q3 : x3 < 0 ∨ 3220 ≤ x3
      · rw [if_pos q3] at h
        rw [if_pos ((rp_ob hx3 3220).mpr q3)]
        cases h
      · rw [if_neg q3] at h
        rw [if_neg (fun z => q3 ((rp_ob hx3 3220).mp z))]
        exact zJ51_53_r n _ _ hrec2 hx1 hx2 hx3 (show (M_.2.2 (X3_).toNatClampNeg) = (M.2.2 (Int.toNat x3)) from by rw [rm_rlx gM hx3]) hx3 gM h
  · rw [if_neg w1] at h
    cases h
def zL51_2 (n : Nat) : Nat → Int → Int → ZM → Option (Unit × ZM)
  | 0, _, _, _ => none
  | k + 1, x1, x2, M => if 128 ≤ x2 then (some ((), M)) else (if x2 < 0 ∨ 128 ≤ x2 then (none) else (zlet (z_i M 108 (Int.toNat x2) (M.1 109 (Int.toNat x2))) (fun M4 => if rg ((20 * x1) + (Int.tdiv x2 7)) then (zJ51_31 n (zL51_2 n k) x1 x2 ((20 * x1) + (Int.tdiv x2 7)) M4) else none)))
set_option maxRecDepth 100000 in
set_option maxHeartbeats 4000000 in
theorem zL51_2_r (n : Nat) : ∀ (k : Nat) {X1_ : Int32} {x1 : Int} (hx1 : rp X1_ x1) {X2_ : Int32} {x2 : Int} (hx2 : rp X2_ x2) {M_ : Mem} {M : ZM} (gM : rm M_ M) {r : Unit} {m' : ZM} (_ : zL51_2 n k x1 x2 M = some (r, m')), sU (L51_2 n k X1_ X2_ M_) m' := by
  intro k
  induction k with
  | zero => intro X1_ x1 hx1 X2_ x2 hx2 M_ M gM r m' h; cases h
  | succ k ih =>
    intro X1_ x1 hx1 X2_ x2 hx2 M_ M gM r m' h
    rw [zL51_2] at h
    rw [L51_2]
    by_cases q1 : 128 ≤ x2
    · rw [if_pos q1] at h
      rw [if_pos ((rp_le (show rp 128 128 from rfl) hx2).mpr q1)]
      obtain ⟨_, rfl⟩ := Prod.mk.inj (Option.some.inj h)
      exact ⟨_, rfl, gM⟩
    · rw [if_neg q1] at h
      rw [if_neg (fun z => q1 ((rp_le (show rp 128 128 from rfl) hx2).mp z))]
      by_cases q2 : x2 < 0 ∨ 128 ≤ x2
      · rw [if_pos q2] at h
        rw [if_pos ((rp_ob hx2 128).mpr q2)]
        cases h
      · rw [if_neg q2] at h
        rw [if_neg (fun z => q2 ((rp_ob hx2 128).mp z))]
        rw [if_neg (fun z => q2 ((rp_ob hx2 128).mp z))]
        have gM4 : rm (m_i M_ 108 (X2_).toNatClampNeg (M_.1 109 (X2_).toNatClampNeg)) (z_i M 108 (Int.toNat x2) (M.1 109 (Int.toNat x2))) := rm_ix gM 108 hx2 (rm_rdx gM 109 hx2)
        rw [mlet]
        rw [zlet] at h
        generalize z_i M 108 (Int.toNat x2) (M.1 109 (Int.toNat x2)) = M4 at h gM4
        generalize m_i M_ 108 (X2_).toNatClampNeg (M_.1 109 (X2_).toNatClampNeg) = NM4 at gM4 ⊢
        by_cases w3 : rg ((20 * x1) + (Int.tdiv x2 7))
        · rw [if_pos w3] at h
          exact zJ51_31_r n _ _ ih hx1 hx2 (rp_add (rw_mul (rp_iz (show rp 20 20 from rfl)) (rp_iz hx1)) (rp_iz (rp_div hx2 (show rp 7 7 from rfl) (by decide))) w3) gM4 h
        · rw [if_neg w3] at h
          cases h
/-- ArmExpanderModel.arrive -/
def zF51 (n : Nat) (a0 : Int) (M : ZM) : Option (Unit × ZM) :=
  zL51_2 n n a0 0 M
set_option maxRecDepth 100000 in
set_option maxHeartbeats 4000000 in
theorem zF51_r (n : Nat) {A0_ : Int32} {a0 : Int} (ha0 : rp A0_ a0) {M_ : Mem} {M : ZM} (gM : rm M_ M) {r : Unit} {m' : ZM} (h : zF51 n a0 M = some (r, m')) : sU (F51 n A0_ M_) m' := by
  unfold zF51 at h
  unfold F51
  exact zL51_2_r n n ha0 (show rp 0 0 from rfl) gM h
def zJ66_173 (n : Nat) (M : ZM) : Option (Int × ZM) :=
  some ((-2), M)
set_option maxRecDepth 100000 in
set_option maxHeartbeats 4000000 in
theorem zJ66_173_r (n : Nat) {M_ : Mem} {M : ZM} (gM : rm M_ M) {r : Int} {m' : ZM} (h : zJ66_173 n M = some (r, m')) : sI (J66_173 n M_) r m' := by
  unfold zJ66_173 at h
  unfold J66_173
  obtain ⟨rfl, rfl⟩ := Prod.mk.inj (Option.some.inj h)
  exact ⟨_, _, rfl, (show rp (-2) (-2) from rfl), gM⟩
def zJ66_375 (n : Nat) (x6 : Int) (M : ZM) : Option (Int × ZM) :=
  some (x6, M)
set_option maxRecDepth 100000 in
set_option maxHeartbeats 4000000 in
theorem zJ66_375_r (n : Nat) {X6_ : Int32} {x6 : Int} (hx6 : rp X6_ x6) {M_ : Mem} {M : ZM} (gM : rm M_ M) {r : Int} {m' : ZM} (h : zJ66_375 n x6 M = some (r, m')) : sI (J66_375 n X6_ M_) r m' := by
  unfold zJ66_375 at h
  unfold J66_375
  obtain ⟨rfl, rfl⟩ := Prod.mk.inj (Option.some.inj h)
  exact ⟨_, _, rfl, hx6, gM⟩
def zJ66_357 (n : Nat) (x6 : Int) (M : ZM) : Option (Int × ZM) :=
  if rg ((M.1 83 40) + 1) then (zlet (z_i M 83 40 ((M.1 83 40) + 1)) (fun M20 => match zF51 n (M20.1 83 40) M20 with | some (v21, M22) => (zJ66_375 n x6 M22) | none => none)) else none
set_option maxRecDepth 100000 in
set_option maxHeartbeats 4000000 in
theorem zJ66_357_r (n : Nat) {X6_ : Int32} {x6 : Int} (hx6 : rp X6_ x6) {M_ : Mem} {M : ZM} (gM : rm M_ M) {r : Int} {m' : ZM} (h : zJ66_357 n x6 M = some (r, m')) : sI (J66_357 n X6_ M_) r m' := by
  unfold zJ66_357 at h
  unfold J66_357
  by_cases w1 : rg ((M.1 83 40) + 1)
  · rw [if_pos w1] at h
    have gM20 : rm (m_i M_ 83 40 ((M_.1 83 40) + (1 : Int32))) (z_i M 83 40 ((M.1 83 40) + 1)) := rm_i gM 83 40 (rp_add (rp_iz (rm_rd gM 83 40)) (rp_iz (show rp 1 1 from rfl)) w1)
    rw [mlet]
    rw [zlet] at h
    generalize z_i M 83 40 ((M.1 83 40) + 1) = M20 at h gM20
    generalize m_i M_ 83 40 ((M_.1 83 40) + (1 : Int32)) = NM20 at gM20 ⊢
    cases hc2 : zF51 n (M20.1 83 40) M20 with
    | none => rw [hc2] at h; cases h
    | some w =>
      obtain ⟨v21, M22⟩ := w
      rw [hc2] at h
      dsimp only at h
      obtain ⟨NM22, ehc2, gM22⟩ := zF51_r n (rm_rd gM20 83 40) gM20 hc2
      rw [ehc2]
      dsimp only
      exact zJ66_375_r n hx6 gM22 h
  · rw [if_neg w1] at h
    cases h
def zJ66_330 (n : Nat) (zrec225 : Int → Int → Int → Int → Int → ZM → Option (Int × ZM)) (x1 : Int) (x3 : Int) (x5 : Int) (x6 : Int) (x7 : Int) (M : ZM) : Option (Int × ZM) :=
  if rg (x7 + 1) then (zrec225 x1 x3 x5 x6 (x7 + 1) M) else none
set_option maxRecDepth 100000 in
set_option maxHeartbeats 4000000 in
theorem zJ66_330_r (n : Nat) (rec225 : Int32 → Int32 → Int32 → Int32 → Int32 → Mem → Option (Int32 × Mem)) (zrec225 : Int → Int → Int → Int → Int → ZM → Option (Int × ZM)) (hrec225 : ∀ {Y1 : Int32} {y1 : Int} (_ : rp Y1 y1) {Y2 : Int32} {y2 : Int} (_ : rp Y2 y2) {Y3 : Int32} {y3 : Int} (_ : rp Y3 y3) {Y4 : Int32} {y4 : Int} (_ : rp Y4 y4) {Y5 : Int32} {y5 : Int} (_ : rp Y5 y5) {M : Mem} {m : ZM} (_ : rm M m) {r : Int} {m' : ZM} (_ : zrec225 y1 y2 y3 y4 y5 m = some (r, m')), sI (rec225 Y1 Y2 Y3 Y4 Y5 M) r m') {X1_ : Int32} {x1 : Int} (hx1 : rp X1_ x1) {X3_ : Int32} {x3 : Int} (hx3 : rp X3_ x3) {X5_ : Int32} {x5 : Int} (hx5 : rp X5_ x5) {X6_ : Int32} {x6 : Int} (hx6 : rp X6_ x6) {X7_ : Int32} {x7 : Int} (hx7 : rp X7_ x7) {M_ : Mem} {M : ZM} (gM : rm M_ M) {r : Int} {m' : ZM} (h : zJ66_330 n zrec225 x1 x3 x5 x6 x7 M = some (r, m')) : sI (J66_330 n rec225 X1_ X3_ X5_ X6_ X7_ M_) r m' := by
  unfold zJ66_330 at h
  unfold J66_330
  by_cases w1 : rg (x7 + 1)
  · rw [if_pos w1] at h
    exact hrec225 hx1 hx3 hx5 hx6 (rp_add (rp_iz hx7) (rp_iz (show rp 1 1 from rfl)) w1) gM h
  · rw [if_neg w1] at h
    cases h
def zJ66_318 (n : Nat) (zrec225 : Int → Int → Int → Int → Int → ZM → Option (Int × ZM)) (x1 : Int) (x3 : Int) (x5 : Int) (x6 : Int) (x7 : Int) (s0 : Int) (M : ZM) : Option (Int × ZM) :=
  if x7 < 0 ∨ 128 ≤ x7 then (none) else (match zF49 n s0 (M.1 108 (Int.toNat x7)) x7 M with | some (v31, M32) => (zJ66_330 n zrec225 x1 x3 x5 x6 x7 M32) | none => none)
set_option maxRecDepth 100000 in
set_option maxHeartbeats 4000000 in
theorem zJ66_318_r (n : Nat) (rec225 : Int32 → Int32 → Int32 → Int32 → Int32 → Mem → Option (Int32 × Mem)) (zrec225 : Int → Int → Int → Int → Int → ZM → Option (Int × ZM)) (hrec225 : ∀ {Y1 : Int32} {y1 : Int} (_ : rp Y1 y1) {Y2 : Int32} {y2 : Int} (_ : rp Y2 y2) {Y3 : Int32} {y3 : Int} (_ : rp Y3 y3) {Y4 : Int32} {y4 : Int} (_ : rp Y4 y4) {Y5 : Int32} {y5 : Int} (_ : rp Y5 y5) {M : Mem} {m : ZM} (_ : rm M m) {r : Int} {m' : ZM} (_ : zrec225 y1 y2 y3 y4 y5 m = some (r, m')), sI (rec225 Y1 Y2 Y3 Y4 Y5 M) r m') {X1_ : Int32} {x1 : Int} (hx1 : rp X1_ x1) {X3_ : Int32} {x3 : Int} (hx3 : rp X3_ x3) {X5_ : Int32} {x5 : Int} (hx5 : rp X5_ x5) {X6_ : Int32} {x6 : Int} (hx6 : rp X6_ x6) {X7_ : Int32} {x7 : Int} (hx7 : rp X7_ x7) {S0_ : Int32} {s0 : Int} (hs0 : rp S0_ s0) {M_ : Mem} {M : ZM} (gM : rm M_ M) {r : Int} {m' : ZM} (h : zJ66_318 n zrec225 x1 x3 x5 x6 x7 s0 M = some (r, m')) : sI (J66_318 n rec225 X1_ X3_ X5_ X6_ X7_ S0_ M_) r m' := by
  unfold zJ66_318 at h
  unfold J66_318
  by_cases q1 : x7 < 0 ∨ 128 ≤ x7
  · rw [if_pos q1] at h
    rw [if_pos ((rp_ob hx7 128).mpr q1)]
    cases h
  · rw [if_neg q1] at h
    rw [if_neg (fun z => q1 ((rp_ob hx7 128).mp z))]
    cases hc2 : zF49 n s0 (M.1 108 (Int.toNat x7)) x7 M with
    | none => rw [hc2] at h; cases h
    | some w =>
      obtain ⟨v31, M32⟩ := w
      rw [hc2] at h
      dsimp only at h
      obtain ⟨NM32, ehc2, gM32⟩ := zF49_r n hs0 (rm_rdx gM 108 hx7) hx7 gM hc2
      rw [ehc2]
      dsimp only
      exact zJ66_330_r n _ _ hrec225 hx1 hx3 hx5 hx6 hx7 gM32 h
def zJ66_283 (n : Nat) (zrec225 : Int → Int → Int → Int → Int → ZM → Option (Int × ZM)) (x1 : Int) (x3 : Int) (x5 : Int) (x6 : Int) (x7 : Int) (s0 : Int) (M : ZM) : Option (Int × ZM) :=
  if s0 = 0 then (zJ66_330 n zrec225 x1 x3 x5 x6 x7 M) else (if x7 < 0 ∨ 128 ≤ x7 then (none) else (if (M.1 90 (Int.toNat x7)) = 5 then (if rg ((M.1 92 (Int.toNat x7)) + 1) then (zJ66_318 n zrec225 x1 x3 x5 x6 x7 ((M.1 92 (Int.toNat x7)) + 1) M) else none) else (if rg (x7 + 1) then (zJ66_318 n zrec225 x1 x3 x5 x6 x7 (x7 + 1) M) else none)))
set_option maxRecDepth 100000 in
set_option maxHeartbeats 4000000 in
theorem zJ66_283_r (n : Nat) (rec225 : Int32 → Int32 → Int32 → Int32 → Int32 → Mem → Option (Int32 × Mem)) (zrec225 : Int → Int → Int → Int → Int → ZM → Option (Int × ZM)) (hrec225 : ∀ {Y1 : Int32} {y1 : Int} (_ : rp Y1 y1) {Y2 : Int32} {y2 : Int} (_ : rp Y2 y2) {Y3 : Int32} {y3 : Int} (_ : rp Y3 y3) {Y4 : Int32} {y4 : Int} (_ : rp Y4 y4) {Y5 : Int32} {y5 : Int} (_ : rp Y5 y5) {M : Mem} {m : ZM} (_ : rm M m) {r : Int} {m' : ZM} (_ : zrec225 y1 y2 y3 y4 y5 m = some (r, m')), sI (rec225 Y1 Y2 Y3 Y4 Y5 M) r m') {X1_ : Int32} {x1 : Int} (hx1 : rp X1_ x1) {X3_ : Int32} {x3 : Int} (hx3 : rp X3_ x3) {X5_ : Int32} {x5 : Int} (hx5 : rp X5_ x5) {X6_ : Int32} {x6 : Int} (hx6 : rp X6_ x6) {X7_ : Int32} {x7 : Int} (hx7 : rp X7_ x7) {S0_ : Int32} {s0 : Int} (hs0 : rp S0_ s0) {M_ : Mem} {M : ZM} (gM : rm M_ M) {r : Int} {m' : ZM} (h : zJ66_283 n zrec225 x1 x3 x5 x6 x7 s0 M = some (r, m')) : sI (J66_283 n rec225 X1_ X3_ X5_ X6_ X7_ S0_ M_) r m' := by
  unfold zJ66_283 at h
  unfold J66_283
  by_cases q1 : s0 = 0
  · rw [if_pos q1] at h
    rw [if_pos ((rp_eq hs0 (show rp 0 0 from rfl)).mpr q1)]
    exact zJ66_330_r n _ _ hrec225 hx1 hx3 hx5 hx6 hx7 gM h
  · rw [if_neg q1] at h
    rw [if_neg (fun z => q1 ((rp_eq hs0 (show rp 0 0 from rfl)).mp z))]
    by_cases q2 : x7 < 0 ∨ 128 ≤ x7
    · rw [if_pos q2] at h
      rw [if_pos ((rp_ob hx7 128).mpr q2)]
      cases h
    · rw [if_neg q2] at h
      rw [if_neg (fun z => q2 ((rp_ob hx7 128).mp z))]
      by_cases q3 : (M.1 90 (Int.toNat x7)) = 5
      · rw [if_pos q3] at h
        rw [if_pos ((rp_eq (rm_rdx gM 90 hx7) (show rp 5 5 from rfl)).mpr q3)]
        rw [if_neg (fun z => q2 ((rp_ob hx7 128).mp z))]
        by_cases w4 : rg ((M.1 92 (Int.toNat x7)) + 1)
        · rw [if_pos w4] at h
          exact zJ66_318_r n _ _ hrec225 hx1 hx3 hx5 hx6 hx7 (rp_add (rp_iz (rm_rdx gM 92 hx7)) (rp_iz (show rp 1 1 from rfl)) w4) gM h
        · rw [if_neg w4] at h
          cases h
      · rw [if_neg q3] at h
        rw [if_neg (fun z => q3 ((rp_eq (rm_rdx gM 90 hx7) (show rp 5 5 from rfl)).mp z))]
        by_cases w5 : rg (x7 + 1)
        · rw [if_pos w5] at h
          exact zJ66_318_r n _ _ hrec225 hx1 hx3 hx5 hx6 hx7 (rp_add (rp_iz hx7) (rp_iz (show rp 1 1 from rfl)) w5) gM h
        · rw [if_neg w5] at h
          cases h
def zJ66_282 (n : Nat) (zrec225 : Int → Int → Int → Int → Int → ZM → Option (Int × ZM)) (x1 : Int) (x3 : Int) (x5 : Int) (x6 : Int) (x7 : Int) (M : ZM) : Option (Int × ZM) :=
  zJ66_283 n zrec225 x1 x3 x5 x6 x7 0 M
set_option maxRecDepth 100000 in
set_option maxHeartbeats 4000000 in
theorem zJ66_282_r (n : Nat) (rec225 : Int32 → Int32 → Int32 → Int32 → Int32 → Mem → Option (Int32 × Mem)) (zrec225 : Int → Int → Int → Int → Int → ZM → Option (Int × ZM)) (hrec225 : ∀ {Y1 : Int32} {y1 : Int} (_ : rp Y1 y1) {Y2 : Int32} {y2 : Int} (_ : rp Y2 y2) {Y3 : Int32} {y3 : Int} (_ : rp Y3 y3) {Y4 : Int32} {y4 : Int} (_ : rp Y4 y4) {Y5 : Int32} {y5 : Int} (_ : rp Y5 y5) {M : Mem} {m : ZM} (_ : rm M m) {r : Int} {m' : ZM} (_ : zrec225 y1 y2 y3 y4 y5 m = some (r, m')), sI (rec225 Y1 Y2 Y3 Y4 Y5 M) r m') {X1_ : Int32} {x1 : Int} (hx1 : rp X1_ x1) {X3_ : Int32} {x3 : Int} (hx3 : rp X3_ x3) {X5_ : Int32} {x5 : Int} (hx5 : rp X5_ x5) {X6_ : Int32} {x6 : Int} (hx6 : rp X6_ x6) {X7_ : Int32} {x7 : Int} (hx7 : rp X7_ x7) {M_ : Mem} {M : ZM} (gM : rm M_ M) {r : Int} {m' : ZM} (h : zJ66_282 n zrec225 x1 x3 x5 x6 x7 M = some (r, m')) : sI (J66_282 n rec225 X1_ X3_ X5_ X6_ X7_ M_) r m' := by
  unfold zJ66_282 at h
  unfold J66_282
  exact zJ66_283_r n _ _ hrec225 hx1 hx3 hx5 hx6 hx7 (show rp 0 0 from rfl) gM h
def zJ66_278 (n : Nat) (zrec225 : Int → Int → Int → Int → Int → ZM → Option (Int × ZM)) (x1 : Int) (x3 : Int) (x5 : Int) (x6 : Int) (x7 : Int) (M : ZM) : Option (Int × ZM) :=
  zJ66_283 n zrec225 x1 x3 x5 x6 x7 1 M
set_option maxRecDepth 100000 in
set_option maxHeartbeats 4000000 in
theorem zJ66_278_r (n : Nat) (rec225 : Int32 → Int32 → Int32 → Int32 → Int32 → Mem → Option (Int32 × Mem)) (zrec225 : Int → Int → Int → Int → Int → ZM → Option (Int × ZM)) (hrec225 : ∀ {Y1 : Int32} {y1 : Int} (_ : rp Y1 y1) {Y2 : Int32} {y2 : Int} (_ : rp Y2 y2) {Y3 : Int32} {y3 : Int} (_ : rp Y3 y3) {Y4 : Int32} {y4 : Int} (_ : rp Y4 y4) {Y5 : Int32} {y5 : Int} (_ : rp Y5 y5) {M : Mem} {m : ZM} (_ : rm M m) {r : Int} {m' : ZM} (_ : zrec225 y1 y2 y3 y4 y5 m = some (r, m')), sI (rec225 Y1 Y2 Y3 Y4 Y5 M) r m') {X1_ : Int32} {x1 : Int} (hx1 : rp X1_ x1) {X3_ : Int32} {x3 : Int} (hx3 : rp X3_ x3) {X5_ : Int32} {x5 : Int} (hx5 : rp X5_ x5) {X6_ : Int32} {x6 : Int} (hx6 : rp X6_ x6) {X7_ : Int32} {x7 : Int} (hx7 : rp X7_ x7) {M_ : Mem} {M : ZM} (gM : rm M_ M) {r : Int} {m' : ZM} (h : zJ66_278 n zrec225 x1 x3 x5 x6 x7 M = some (r, m')) : sI (J66_278 n rec225 X1_ X3_ X5_ X6_ X7_ M_) r m' := by
  unfold zJ66_278 at h
  unfold J66_278
  exact zJ66_283_r n _ _ hrec225 hx1 hx3 hx5 hx6 hx7 (show rp 1 1 from rfl) gM h
def zL66_225 (n : Nat) : Nat → Int → Int → Int → Int → Int → ZM → Option (Int × ZM)
  | 0, _, _, _, _, _, _ => none
  | k + 1, x1, x3, x5, x6, x7, M => if 128 ≤ x7 then (if (M.1 83 40) < 0 ∨ 161 ≤ (M.1 83 40) then (none) else (zlet (z_i M 112 (Int.toNat (M.1 83 40)) x1) (fun M17 => if (M17.1 83 40) < 0 ∨ 161 ≤ (M17.1 83 40) then (none) else (zlet (z_i M17 113 (Int.toNat (M17.1 83 40)) x6) (fun M19 => zJ66_357 n x6 M19))))) else (if x3 = 1 then (if x7 = x5 then (zJ66_283 n (zL66_225 n k) x1 x3 x5 x6 x7 1 M) else (zJ66_283 n (zL66_225 n k) x1 x3 x5 x6 x7 0 M)) else (if x7 < 0 ∨ 128 ≤ x7 then (none) else (if (M.1 108 (Int.toNat x7)) ≤ 0 then (zJ66_282 n (zL66_225 n k) x1 x3 x5 x6 x7 M) else (match zF53 n x7 M with | some (v36, M37) => (if x1 < 0 ∨ 320 ≤ x1 then (none) else (if v36 = (M37.1 105 (Int.toNat x1)) then (zJ66_278 n (zL66_225 n k) x1 x3 x5 x6 x7 M37) else (zJ66_282 n (zL66_225 n k) x1 x3 x5 x6 x7 M37))) | none => none))))
set_option maxRecDepth 100000 in
set_option maxHeartbeats 4000000 in
theorem zL66_225_r (n : Nat) : ∀ (k : Nat) {X1_ : Int32} {x1 : Int} (hx1 : rp X1_ x1) {X3_ : Int32} {x3 : Int} (hx3 : rp X3_ x3) {X5_ : Int32} {x5 : Int} (hx5 : rp X5_ x5) {X6_ : Int32} {x6 : Int} (hx6 : rp X6_ x6) {X7_ : Int32} {x7 : Int} (hx7 : rp X7_ x7) {M_ : Mem} {M : ZM} (gM : rm M_ M) {r : Int} {m' : ZM} (_ : zL66_225 n k x1 x3 x5 x6 x7 M = some (r, m')), sI (L66_225 n k X1_ X3_ X5_ X6_ X7_ M_) r m' := by
  intro k
  induction k with
  | zero => intro X1_ x1 hx1 X3_ x3 hx3 X5_ x5 hx5 X6_ x6 hx6 X7_ x7 hx7 M_ M gM r m' h; cases h
  | succ k ih =>
    intro X1_ x1 hx1 X3_ x3 hx3 X5_ x5 hx5 X6_ x6 hx6 X7_ x7 hx7 M_ M gM r m' h
    rw [zL66_225] at h
    rw [L66_225]
    by_cases q1 : 128 ≤ x7
    · rw [if_pos q1] at h
      rw [if_pos ((rp_le (show rp 128 128 from rfl) hx7).mpr q1)]
      by_cases q2 : (M.1 83 40) < 0 ∨ 161 ≤ (M.1 83 40)
      · rw [if_pos q2] at h
        rw [if_pos ((rp_ob (rm_rd gM 83 40) 161).mpr q2)]
        cases h
      · rw [if_neg q2] at h
        rw [if_neg (fun z => q2 ((rp_ob (rm_rd gM 83 40) 161).mp z))]
        have gM17 : rm (m_i M_ 112 ((M_.1 83 40)).toNatClampNeg X1_) (z_i M 112 (Int.toNat (M.1 83 40)) x1) := rm_ix gM 112 (rm_rd gM 83 40) hx1
        rw [mlet]
        rw [zlet] at h
        generalize z_i M 112 (Int.toNat (M.1 83 40)) x1 = M17 at h gM17
        generalize m_i M_ 112 ((M_.1 83 40)).toNatClampNeg X1_ = NM17 at gM17 ⊢
        by_cases q3 : (M17.1 83 40) < 0 ∨ 161 ≤ (M17.1 83 40)
        · rw [if_pos q3] at h
          rw [if_pos ((rp_ob (rm_rd gM17 83 40) 161).mpr q3)]
          cases h
        · rw [if_neg q3] at h
          rw [if_neg (fun z => q3 ((rp_ob (rm_rd gM17 83 40) 161).mp z))]
          have gM19 : rm (m_i NM17 113 ((NM17.1 83 40)).toNatClampNeg X6_) (z_i M17 113 (Int.toNat (M17.1 83 40)) x6) := rm_ix gM17 113 (rm_rd gM17 83 40) hx6
          rw [mlet]
          rw [zlet] at h
          generalize z_i M17 113 (Int.toNat (M17.1 83 40)) x6 = M19 at h gM19
          generalize m_i NM17 113 ((NM17.1 83 40)).toNatClampNeg X6_ = NM19 at gM19 ⊢
          exact zJ66_357_r n hx6 gM19 h
    · rw [if_neg q1] at h
      rw [if_neg (fun z => q1 ((rp_le (show rp 128 128 from rfl) hx7).mp z))]
      by_cases q4 : x3 = 1
      · rw [if_pos q4] at h
        rw [if_pos ((rp_eq hx3 (show rp 1 1 from rfl)).mpr q4)]
        by_cases q5 : x7 = x5
        · rw [if_pos q5] at h
          rw [if_pos ((rp_eq hx7 hx5).mpr q5)]
          exact zJ66_283_r n _ _ ih hx1 hx3 hx5 hx6 hx7 (show rp 1 1 from rfl) gM h
        · rw [if_neg q5] at h
          rw [if_neg (fun z => q5 ((rp_eq hx7 hx5).mp z))]
          exact zJ66_283_r n _ _ ih hx1 hx3 hx5 hx6 hx7 (show rp 0 0 from rfl) gM h
      · rw [if_neg q4] at h
        rw [if_neg (fun z => q4 ((rp_eq hx3 (show rp 1 1 from rfl)).mp z))]
        by_cases q6 : x7 < 0 ∨ 128 ≤ x7
        · rw [if_pos q6] at h
          rw [if_pos ((rp_ob hx7 128).mpr q6)]
          cases h
        · rw [if_neg q6] at h
          rw [if_neg (fun z => q6 ((rp_ob hx7 128).mp z))]
          by_cases q7 : (M.1 108 (Int.toNat x7)) ≤ 0
          · rw [if_pos q7] at h
            rw [if_pos ((rp_le (rm_rdx gM 108 hx7) (show rp 0 0 from rfl)).mpr q7)]
            exact zJ66_282_r n _ _ ih hx1 hx3 hx5 hx6 hx7 gM h
          · rw [if_neg q7] at h
            rw [if_neg (fun z => q7 ((rp_le (rm_rdx gM 108 hx7) (show rp 0 0 from rfl)).mp z))]
            cases hc8 : zF53 n x7 M with
            | none => rw [hc8] at h; cases h
            | some w =>
              obtain ⟨v36, M37⟩ := w
              rw [hc8] at h
              dsimp only at h
              obtain ⟨V36, NM37, ehc8, hv36, gM37⟩ := zF53_r n hx7 gM hc8
              rw [ehc8]
              dsimp only
              by_cases q9 : x1 < 0 ∨ 320 ≤ x1
              · rw [if_pos q9] at h
                rw [if_pos ((rp_ob hx1 320).mpr q9)]
                cases h
              · rw [if_neg q9] at h
                rw [if_neg (fun z => q9 ((rp_ob hx1 320).mp z))]
                by_cases q10 : v36 = (M37.1 105 (Int.toNat x1))
                · rw [if_pos q10] at h
                  rw [if_pos ((rp_eq hv36 (rm_rdx gM37 105 hx1)).mpr q10)]
                  exact zJ66_278_r n _ _ ih hx1 hx3 hx5 hx6 hx7 gM37 h
                · rw [if_neg q10] at h
                  rw [if_neg (fun z => q10 ((rp_eq hv36 (rm_rdx gM37 105 hx1)).mp z))]
                  exact zJ66_282_r n _ _ ih hx1 hx3 hx5 hx6 hx7 gM37 h
def zJ66_209 (n : Nat) (x1 : Int) (x3 : Int) (x5 : Int) (s0 : Int) (M : ZM) : Option (Int × ZM) :=
  if 0 ≤ s0 then (match zF50 n M with | some (v12, M13) => (zL66_225 n n x1 x3 x5 s0 0 M13) | none => none) else (some ((-1), M))
set_option maxRecDepth 100000 in
set_option maxHeartbeats 4000000 in
theorem zJ66_209_r (n : Nat) {X1_ : Int32} {x1 : Int} (hx1 : rp X1_ x1) {X3_ : Int32} {x3 : Int} (hx3 : rp X3_ x3) {X5_ : Int32} {x5 : Int} (hx5 : rp X5_ x5) {S0_ : Int32} {s0 : Int} (hs0 : rp S0_ s0) {M_ : Mem} {M : ZM} (gM : rm M_ M) {r : Int} {m' : ZM} (h : zJ66_209 n x1 x3 x5 s0 M = some (r, m')) : sI (J66_209 n X1_ X3_ X5_ S0_ M_) r m' := by
  unfold zJ66_209 at h
  unfold J66_209
  by_cases q1 : 0 ≤ s0
  · rw [if_pos q1] at h
    rw [if_pos ((rp_le (show rp 0 0 from rfl) hs0).mpr q1)]
    cases hc2 : zF50 n M with
    | none => rw [hc2] at h; cases h
    | some w =>
      obtain ⟨v12, M13⟩ := w
      rw [hc2] at h
      dsimp only at h
      obtain ⟨NM13, ehc2, gM13⟩ := zF50_r n gM hc2
      rw [ehc2]
      dsimp only
      exact zL66_225_r n n hx1 hx3 hx5 hs0 (show rp 0 0 from rfl) gM13 h
  · rw [if_neg q1] at h
    rw [if_neg (fun z => q1 ((rp_le (show rp 0 0 from rfl) hs0).mp z))]
    obtain ⟨rfl, rfl⟩ := Prod.mk.inj (Option.some.inj h)
    exact ⟨_, _, rfl, (show rp (-1) (-1) from rfl), gM⟩
def zJ66_176 (n : Nat) (x1 : Int) (x2 : Int) (x3 : Int) (x4 : Int) (x5 : Int) (M : ZM) : Option (Int × ZM) :=
  if rg (x3 + x4) then (if (x3 + x4) = 0 then (some ((-1), M)) else (if x3 = 1 then (if x5 < 0 ∨ 128 ≤ x5 then (none) else (match zF65 n (M.1 94 (Int.toNat x5)) x1 x2 M with | some (v8, M9) => (zJ66_209 n x1 x3 x5 v8 M9) | none => none)) else (if rg (x1 + 1) then (zJ66_209 n x1 x3 x5 (x1 + 1) M) else none))) else none
set_option maxRecDepth 100000 in
set_option maxHeartbeats 4000000 in
theorem zJ66_176_r (n : Nat) {X1_ : Int32} {x1 : Int} (hx1 : rp X1_ x1) {X2_ : Int32} {x2 : Int} (hx2 : rp X2_ x2) {X3_ : Int32} {x3 : Int} (hx3 : rp X3_ x3) {X4_ : Int32} {x4 : Int} (hx4 : rp X4_ x4) {X5_ : Int32} {x5 : Int} (hx5 : rp X5_ x5) {M_ : Mem} {M : ZM} (gM : rm M_ M) {r : Int} {m' : ZM} (h : zJ66_176 n x1 x2 x3 x4 x5 M = some (r, m')) : sI (J66_176 n X1_ X2_ X3_ X4_ X5_ M_) r m' := by
  unfold zJ66_176 at h
  unfold J66_176
  by_cases w1 : rg (x3 + x4)
  · rw [if_pos w1] at h
    by_cases q2 : (x3 + x4) = 0
    · rw [if_pos q2] at h
      rw [if_pos ((rp_eq (rp_add (rp_iz hx3) (rp_iz hx4) w1) (show rp 0 0 from rfl)).mpr q2)]
      obtain ⟨rfl, rfl⟩ := Prod.mk.inj (Option.some.inj h)
      exact ⟨_, _, rfl, (show rp (-1) (-1) from rfl), gM⟩
    · rw [if_neg q2] at h
      rw [if_neg (fun z => q2 ((rp_eq (rp_add (rp_iz hx3) (rp_iz hx4) w1) (show rp 0 0 from rfl)).mp z))]
      by_cases q3 : x3 = 1
      · rw [if_pos q3] at h
        rw [if_pos ((rp_eq hx3 (show rp 1 1 from rfl)).mpr q3)]
        by_cases q4 : x5 < 0 ∨ 128 ≤ x5
        · rw [if_pos q4] at h
          rw [if_pos ((rp_ob hx5 128).mpr q4)]
          cases h
        · rw [if_neg q4] at h
          rw [if_neg (fun z => q4 ((rp_ob hx5 128).mp z))]
          cases hc5 : zF65 n (M.1 94 (Int.toNat x5)) x1 x2 M with
          | none => rw [hc5] at h; cases h
          | some w =>
            obtain ⟨v8, M9⟩ := w
            rw [hc5] at h
            dsimp only at h
            obtain ⟨V8, NM9, ehc5, hv8, gM9⟩ := zF65_r n (rm_rdx gM 94 hx5) hx1 hx2 gM hc5
            rw [ehc5]
            dsimp only
            exact zJ66_209_r n hx1 hx3 hx5 hv8 gM9 h
      · rw [if_neg q3] at h
        rw [if_neg (fun z => q3 ((rp_eq hx3 (show rp 1 1 from rfl)).mp z))]
        by_cases w6 : rg (x1 + 1)
        · rw [if_pos w6] at h
          exact zJ66_209_r n hx1 hx3 hx5 (rp_add (rp_iz hx1) (rp_iz (show rp 1 1 from rfl)) w6) gM h
        · rw [if_neg w6] at h
          cases h
  · rw [if_neg w1] at h
    cases h
def zJ66_150 (n : Nat) (zrec11 : Int → Int → Int → Int → Int → Int → ZM → Option (Int × ZM)) (x1 : Int) (x2 : Int) (x3 : Int) (x4 : Int) (x6 : Int) (s0 : Int) (M : ZM) : Option (Int × ZM) :=
  if rg (x6 + 1) then (zrec11 x1 x2 x3 x4 s0 (x6 + 1) M) else none
set_option maxRecDepth 100000 in
set_option maxHeartbeats 4000000 in
theorem zJ66_150_r (n : Nat) (rec11 : Int32 → Int32 → Int32 → Int32 → Int32 → Int32 → Mem → Option (Int32 × Mem)) (zrec11 : Int → Int → Int → Int → Int → Int → ZM → Option (Int × ZM)) (hrec11 : ∀ {Y1 : Int32} {y1 : Int} (_ : rp Y1 y1) {Y2 : Int32} {y2 : Int} (_ : rp Y2 y2) {Y3 : Int32} {y3 : Int} (_ : rp Y3 y3) {Y4 : Int32} {y4 : Int} (_ : rp Y4 y4) {Y5 : Int32} {y5 : Int} (_ : rp Y5 y5) {Y6 : Int32} {y6 : Int} (_ : rp Y6 y6) {M : Mem} {m : ZM} (_ : rm M m) {r : Int} {m' : ZM} (_ : zrec11 y1 y2 y3 y4 y5 y6 m = some (r, m')), sI (rec11 Y1 Y2 Y3 Y4 Y5 Y6 M) r m') {X1_ : Int32} {x1 : Int} (hx1 : rp X1_ x1) {X2_ : Int32} {x2 : Int} (hx2 : rp X2_ x2) {X3_ : Int32} {x3 : Int} (hx3 : rp X3_ x3) {X4_ : Int32} {x4 : Int} (hx4 : rp X4_ x4) {X6_ : Int32} {x6 : Int} (hx6 : rp X6_ x6) {S0_ : Int32} {s0 : Int} (hs0 : rp S0_ s0) {M_ : Mem} {M : ZM} (gM : rm M_ M) {r : Int} {m' : ZM} (h : zJ66_150 n zrec11 x1 x2 x3 x4 x6 s0 M = some (r, m')) : sI (J66_150 n rec11 X1_ X2_ X3_ X4_ X6_ S0_ M_) r m' := by
  unfold zJ66_150 at h
  unfold J66_150
  by_cases w1 : rg (x6 + 1)
  · rw [if_pos w1] at h
    exact hrec11 hx1 hx2 hx3 hx4 hs0 (rp_add (rp_iz hx6) (rp_iz (show rp 1 1 from rfl)) w1) gM h
  · rw [if_neg w1] at h
    cases h
def zJ66_136 (n : Nat) (zrec11 : Int → Int → Int → Int → Int → Int → ZM → Option (Int × ZM)) (x1 : Int) (x2 : Int) (x3 : Int) (x5 : Int) (x6 : Int) (x8 : Int) (s0 : Int) (M : ZM) : Option (Int × ZM) :=
  if x8 = 0 then (zJ66_150 n zrec11 x1 x2 x3 s0 x6 x5 M) else (zJ66_150 n zrec11 x1 x2 x3 s0 x6 x6 M)
set_option maxRecDepth 100000 in
set_option maxHeartbeats 4000000 in
theorem zJ66_136_r (n : Nat) (rec11 : Int32 → Int32 → Int32 → Int32 → Int32 → Int32 → Mem → Option (Int32 × Mem)) (zrec11 : Int → Int → Int → Int → Int → Int → ZM → Option (Int × ZM)) (hrec11 : ∀ {Y1 : Int32} {y1 : Int} (_ : rp Y1 y1) {Y2 : Int32} {y2 : Int} (_ : rp Y2 y2) {Y3 : Int32} {y3 : Int} (_ : rp Y3 y3) {Y4 : Int32} {y4 : Int} (_ : rp Y4 y4) {Y5 : Int32} {y5 : Int} (_ : rp Y5 y5) {Y6 : Int32} {y6 : Int} (_ : rp Y6 y6) {M : Mem} {m : ZM} (_ : rm M m) {r : Int} {m' : ZM} (_ : zrec11 y1 y2 y3 y4 y5 y6 m = some (r, m')), sI (rec11 Y1 Y2 Y3 Y4 Y5 Y6 M) r m') {X1_ : Int32} {x1 : Int} (hx1 : rp X1_ x1) {X2_ : Int32} {x2 : Int} (hx2 : rp X2_ x2) {X3_ : Int32} {x3 : Int} (hx3 : rp X3_ x3) {X5_ : Int32} {x5 : Int} (hx5 : rp X5_ x5) {X6_ : Int32} {x6 : Int} (hx6 : rp X6_ x6) {X8_ : Int32} {x8 : Int} (hx8 : rp X8_ x8) {S0_ : Int32} {s0 : Int} (hs0 : rp S0_ s0) {M_ : Mem} {M : ZM} (gM : rm M_ M) {r : Int} {m' : ZM} (h : zJ66_136 n zrec11 x1 x2 x3 x5 x6 x8 s0 M = some (r, m')) : sI (J66_136 n rec11 X1_ X2_ X3_ X5_ X6_ X8_ S0_ M_) r m' := by
  unfold zJ66_136 at h
  unfold J66_136
  by_cases q1 : x8 = 0
  · rw [if_pos q1] at h
    rw [if_pos ((rp_eq hx8 (show rp 0 0 from rfl)).mpr q1)]
    exact zJ66_150_r n _ _ hrec11 hx1 hx2 hx3 hs0 hx6 hx5 gM h
  · rw [if_neg q1] at h
    rw [if_neg (fun z => q1 ((rp_eq hx8 (show rp 0 0 from rfl)).mp z))]
    exact zJ66_150_r n _ _ hrec11 hx1 hx2 hx3 hs0 hx6 hx6 gM h
def zJ66_120 (n : Nat) (zrec11 : Int → Int → Int → Int → Int → Int → ZM → Option (Int × ZM)) (x1 : Int) (x2 : Int) (x4 : Int) (x5 : Int) (x6 : Int) (x7 : Int) (x8 : Int) (x9 : Int) (s0 : Int) (M : ZM) : Option (Int × ZM) :=
  if x9 = 0 then (zJ66_136 n zrec11 x1 x2 s0 x5 x6 x8 x4 M) else (if rg (x4 + x7) then (zJ66_136 n zrec11 x1 x2 s0 x5 x6 x8 (x4 + x7) M) else none)
set_option maxRecDepth 100000 in
set_option maxHeartbeats 4000000 in
theorem zJ66_120_r (n : Nat) (rec11 : Int32 → Int32 → Int32 → Int32 → Int32 → Int32 → Mem → Option (Int32 × Mem)) (zrec11 : Int → Int → Int → Int → Int → Int → ZM → Option (Int × ZM)) (hrec11 : ∀ {Y1 : Int32} {y1 : Int} (_ : rp Y1 y1) {Y2 : Int32} {y2 : Int} (_ : rp Y2 y2) {Y3 : Int32} {y3 : Int} (_ : rp Y3 y3) {Y4 : Int32} {y4 : Int} (_ : rp Y4 y4) {Y5 : Int32} {y5 : Int} (_ : rp Y5 y5) {Y6 : Int32} {y6 : Int} (_ : rp Y6 y6) {M : Mem} {m : ZM} (_ : rm M m) {r : Int} {m' : ZM} (_ : zrec11 y1 y2 y3 y4 y5 y6 m = some (r, m')), sI (rec11 Y1 Y2 Y3 Y4 Y5 Y6 M) r m') {X1_ : Int32} {x1 : Int} (hx1 : rp X1_ x1) {X2_ : Int32} {x2 : Int} (hx2 : rp X2_ x2) {X4_ : Int32} {x4 : Int} (hx4 : rp X4_ x4) {X5_ : Int32} {x5 : Int} (hx5 : rp X5_ x5) {X6_ : Int32} {x6 : Int} (hx6 : rp X6_ x6) {X7_ : Int32} {x7 : Int} (hx7 : rp X7_ x7) {X8_ : Int32} {x8 : Int} (hx8 : rp X8_ x8) {X9_ : Int32} {x9 : Int} (hx9 : rp X9_ x9) {S0_ : Int32} {s0 : Int} (hs0 : rp S0_ s0) {M_ : Mem} {M : ZM} (gM : rm M_ M) {r : Int} {m' : ZM} (h : zJ66_120 n zrec11 x1 x2 x4 x5 x6 x7 x8 x9 s0 M = some (r, m')) : sI (J66_120 n rec11 X1_ X2_ X4_ X5_ X6_ X7_ X8_ X9_ S0_ M_) r m' := by
  unfold zJ66_120 at h
  unfold J66_120
  by_cases q1 : x9 = 0
  · rw [if_pos q1] at h
    rw [if_pos ((rp_eq hx9 (show rp 0 0 from rfl)).mpr q1)]
    exact zJ66_136_r n _ _ hrec11 hx1 hx2 hs0 hx5 hx6 hx8 hx4 gM h
  · rw [if_neg q1] at h
    rw [if_neg (fun z => q1 ((rp_eq hx9 (show rp 0 0 from rfl)).mp z))]
    by_cases w2 : rg (x4 + x7)
    · rw [if_pos w2] at h
      exact zJ66_136_r n _ _ hrec11 hx1 hx2 hs0 hx5 hx6 hx8 (rp_add (rp_iz hx4) (rp_iz hx7) w2) gM h
    · rw [if_neg w2] at h
      cases h
def zJ66_105 (n : Nat) (zrec11 : Int → Int → Int → Int → Int → Int → ZM → Option (Int × ZM)) (x1 : Int) (x2 : Int) (x3 : Int) (x4 : Int) (x5 : Int) (x6 : Int) (x7 : Int) (x8 : Int) (s0 : Int) (M : ZM) : Option (Int × ZM) :=
  if x8 = 0 then (zJ66_120 n zrec11 x1 x2 x4 x5 x6 x7 x8 s0 x3 M) else (if rg (x3 + x7) then (zJ66_120 n zrec11 x1 x2 x4 x5 x6 x7 x8 s0 (x3 + x7) M) else none)
set_option maxRecDepth 100000 in
set_option maxHeartbeats 4000000 in
theorem zJ66_105_r (n : Nat) (rec11 : Int32 → Int32 → Int32 → Int32 → Int32 → Int32 → Mem → Option (Int32 × Mem)) (zrec11 : Int → Int → Int → Int → Int → Int → ZM → Option (Int × ZM)) (hrec11 : ∀ {Y1 : Int32} {y1 : Int} (_ : rp Y1 y1) {Y2 : Int32} {y2 : Int} (_ : rp Y2 y2) {Y3 : Int32} {y3 : Int} (_ : rp Y3 y3) {Y4 : Int32} {y4 : Int} (_ : rp Y4 y4) {Y5 : Int32} {y5 : Int} (_ : rp Y5 y5) {Y6 : Int32} {y6 : Int} (_ : rp Y6 y6) {M : Mem} {m : ZM} (_ : rm M m) {r : Int} {m' : ZM} (_ : zrec11 y1 y2 y3 y4 y5 y6 m = some (r, m')), sI (rec11 Y1 Y2 Y3 Y4 Y5 Y6 M) r m') {X1_ : Int32} {x1 : Int} (hx1 : rp X1_ x1) {X2_ : Int32} {x2 : Int} (hx2 : rp X2_ x2) {X3_ : Int32} {x3 : Int} (hx3 : rp X3_ x3) {X4_ : Int32} {x4 : Int} (hx4 : rp X4_ x4) {X5_ : Int32} {x5 : Int} (hx5 : rp X5_ x5) {X6_ : Int32} {x6 : Int} (hx6 : rp X6_ x6) {X7_ : Int32} {x7 : Int} (hx7 : rp X7_ x7) {X8_ : Int32} {x8 : Int} (hx8 : rp X8_ x8) {S0_ : Int32} {s0 : Int} (hs0 : rp S0_ s0) {M_ : Mem} {M : ZM} (gM : rm M_ M) {r : Int} {m' : ZM} (h : zJ66_105 n zrec11 x1 x2 x3 x4 x5 x6 x7 x8 s0 M = some (r, m')) : sI (J66_105 n rec11 X1_ X2_ X3_ X4_ X5_ X6_ X7_ X8_ S0_ M_) r m' := by
  unfold zJ66_105 at h
  unfold J66_105
  by_cases q1 : x8 = 0
  · rw [if_pos q1] at h
    rw [if_pos ((rp_eq hx8 (show rp 0 0 from rfl)).mpr q1)]
    exact zJ66_120_r n _ _ hrec11 hx1 hx2 hx4 hx5 hx6 hx7 hx8 hs0 hx3 gM h
  · rw [if_neg q1] at h
    rw [if_neg (fun z => q1 ((rp_eq hx8 (show rp 0 0 from rfl)).mp z))]
    by_cases w2 : rg (x3 + x7)
    · rw [if_pos w2] at h
      exact zJ66_120_r n _ _ hrec11 hx1 hx2 hx4 hx5 hx6 hx7 hx8 hs0 (rp_add (rp_iz hx3) (rp_iz hx7) w2) gM h
    · rw [if_neg w2] at h
      cases h
def zJ66_104 (n : Nat) (zrec11 : Int → Int → Int → Int → Int → Int → ZM → Option (Int × ZM)) (x1 : Int) (x2 : Int) (x3 : Int) (x4 : Int) (x5 : Int) (x6 : Int) (x7 : Int) (x8 : Int) (M : ZM) : Option (Int × ZM) :=
  zJ66_105 n zrec11 x1 x2 x3 x4 x5 x6 x7 x8 0 M
set_option maxRecDepth 100000 in
set_option maxHeartbeats 4000000 in
theorem zJ66_104_r (n : Nat) (rec11 : Int32 → Int32 → Int32 → Int32 → Int32 → Int32 → Mem → Option (Int32 × Mem)) (zrec11 : Int → Int → Int → Int → Int → Int → ZM → Option (Int × ZM)) (hrec11 : ∀ {Y1 : Int32} {y1 : Int} (_ : rp Y1 y1) {Y2 : Int32} {y2 : Int} (_ : rp Y2 y2) {Y3 : Int32} {y3 : Int} (_ : rp Y3 y3) {Y4 : Int32} {y4 : Int} (_ : rp Y4 y4) {Y5 : Int32} {y5 : Int} (_ : rp Y5 y5) {Y6 : Int32} {y6 : Int} (_ : rp Y6 y6) {M : Mem} {m : ZM} (_ : rm M m) {r : Int} {m' : ZM} (_ : zrec11 y1 y2 y3 y4 y5 y6 m = some (r, m')), sI (rec11 Y1 Y2 Y3 Y4 Y5 Y6 M) r m') {X1_ : Int32} {x1 : Int} (hx1 : rp X1_ x1) {X2_ : Int32} {x2 : Int} (hx2 : rp X2_ x2) {X3_ : Int32} {x3 : Int} (hx3 : rp X3_ x3) {X4_ : Int32} {x4 : Int} (hx4 : rp X4_ x4) {X5_ : Int32} {x5 : Int} (hx5 : rp X5_ x5) {X6_ : Int32} {x6 : Int} (hx6 : rp X6_ x6) {X7_ : Int32} {x7 : Int} (hx7 : rp X7_ x7) {X8_ : Int32} {x8 : Int} (hx8 : rp X8_ x8) {M_ : Mem} {M : ZM} (gM : rm M_ M) {r : Int} {m' : ZM} (h : zJ66_104 n zrec11 x1 x2 x3 x4 x5 x6 x7 x8 M = some (r, m')) : sI (J66_104 n rec11 X1_ X2_ X3_ X4_ X5_ X6_ X7_ X8_ M_) r m' := by
  unfold zJ66_104 at h
  unfold J66_104
  exact zJ66_105_r n _ _ hrec11 hx1 hx2 hx3 hx4 hx5 hx6 hx7 hx8 (show rp 0 0 from rfl) gM h
def zJ66_91 (n : Nat) (zrec11 : Int → Int → Int → Int → Int → Int → ZM → Option (Int × ZM)) (x1 : Int) (x2 : Int) (x3 : Int) (x4 : Int) (x5 : Int) (x6 : Int) (x7 : Int) (x8 : Int) (M : ZM) : Option (Int × ZM) :=
  match zF53 n x6 M with | some (v52, M53) => (if v52 = 0 then (zJ66_104 n zrec11 x1 x2 x3 x4 x5 x6 x7 x8 M53) else (zJ66_105 n zrec11 x1 x2 x3 x4 x5 x6 x7 x8 1 M53)) | none => none
set_option maxRecDepth 100000 in
set_option maxHeartbeats 4000000 in
theorem zJ66_91_r (n : Nat) (rec11 : Int32 → Int32 → Int32 → Int32 → Int32 → Int32 → Mem → Option (Int32 × Mem)) (zrec11 : Int → Int → Int → Int → Int → Int → ZM → Option (Int × ZM)) (hrec11 : ∀ {Y1 : Int32} {y1 : Int} (_ : rp Y1 y1) {Y2 : Int32} {y2 : Int} (_ : rp Y2 y2) {Y3 : Int32} {y3 : Int} (_ : rp Y3 y3) {Y4 : Int32} {y4 : Int} (_ : rp Y4 y4) {Y5 : Int32} {y5 : Int} (_ : rp Y5 y5) {Y6 : Int32} {y6 : Int} (_ : rp Y6 y6) {M : Mem} {m : ZM} (_ : rm M m) {r : Int} {m' : ZM} (_ : zrec11 y1 y2 y3 y4 y5 y6 m = some (r, m')), sI (rec11 Y1 Y2 Y3 Y4 Y5 Y6 M) r m') {X1_ : Int32} {x1 : Int} (hx1 : rp X1_ x1) {X2_ : Int32} {x2 : Int} (hx2 : rp X2_ x2) {X3_ : Int32} {x3 : Int} (hx3 : rp X3_ x3) {X4_ : Int32} {x4 : Int} (hx4 : rp X4_ x4) {X5_ : Int32} {x5 : Int} (hx5 : rp X5_ x5) {X6_ : Int32} {x6 : Int} (hx6 : rp X6_ x6) {X7_ : Int32} {x7 : Int} (hx7 : rp X7_ x7) {X8_ : Int32} {x8 : Int} (hx8 : rp X8_ x8) {M_ : Mem} {M : ZM} (gM : rm M_ M) {r : Int} {m' : ZM} (h : zJ66_91 n zrec11 x1 x2 x3 x4 x5 x6 x7 x8 M = some (r, m')) : sI (J66_91 n rec11 X1_ X2_ X3_ X4_ X5_ X6_ X7_ X8_ M_) r m' := by
  unfold zJ66_91 at h
  unfold J66_91
  cases hc1 : zF53 n x6 M with
  | none => rw [hc1] at h; cases h
  | some w =>
    obtain ⟨v52, M53⟩ := w
    rw [hc1] at h
    dsimp only at h
    obtain ⟨V52, NM53, ehc1, hv52, gM53⟩ := zF53_r n hx6 gM hc1
    rw [ehc1]
    dsimp only
    by_cases q2 : v52 = 0
    · rw [if_pos q2] at h
      rw [if_pos ((rp_eq hv52 (show rp 0 0 from rfl)).mpr q2)]
      exact zJ66_104_r n _ _ hrec11 hx1 hx2 hx3 hx4 hx5 hx6 hx7 hx8 gM53 h
    · rw [if_neg q2] at h
      rw [if_neg (fun z => q2 ((rp_eq hv52 (show rp 0 0 from rfl)).mp z))]
      exact zJ66_105_r n _ _ hrec11 hx1 hx2 hx3 hx4 hx5 hx6 hx7 hx8 (show rp 1 1 from rfl) gM53 h
def zJ66_69 (n : Nat) (zrec11 : Int → Int → Int → Int → Int → Int → ZM → Option (Int × ZM)) (x1 : Int) (x2 : Int) (x3 : Int) (x4 : Int) (x5 : Int) (x6 : Int) (x7 : Int) (s0 : Int) (M : ZM) : Option (Int × ZM) :=
  if x7 ≤ 0 then (zJ66_104 n zrec11 x1 x2 x3 x4 x5 x6 x7 s0 M) else (match zF53 n x6 M with | some (v47, M48) => (if x1 < 0 ∨ 320 ≤ x1 then (none) else (if v47 = (M48.1 105 (Int.toNat x1)) then (zJ66_91 n zrec11 x1 x2 x3 x4 x5 x6 x7 s0 M48) else (zJ66_104 n zrec11 x1 x2 x3 x4 x5 x6 x7 s0 M48))) | none => none)
set_option maxRecDepth 100000 in
set_option maxHeartbeats 4000000 in
theorem zJ66_69_r (n : Nat) (rec11 : Int32 → Int32 → Int32 → Int32 → Int32 → Int32 → Mem → Option (Int32 × Mem)) (zrec11 : Int → Int → Int → Int → Int → Int → ZM → Option (Int × ZM)) (hrec11 : ∀ {Y1 : Int32} {y1 : Int} (_ : rp Y1 y1) {Y2 : Int32} {y2 : Int} (_ : rp Y2 y2) {Y3 : Int32} {y3 : Int} (_ : rp Y3 y3) {Y4 : Int32} {y4 : Int} (_ : rp Y4 y4) {Y5 : Int32} {y5 : Int} (_ : rp Y5 y5) {Y6 : Int32} {y6 : Int} (_ : rp Y6 y6) {M : Mem} {m : ZM} (_ : rm M m) {r : Int} {m' : ZM} (_ : zrec11 y1 y2 y3 y4 y5 y6 m = some (r, m')), sI (rec11 Y1 Y2 Y3 Y4 Y5 Y6 M) r m') {X1_ : Int32} {x1 : Int} (hx1 : rp X1_ x1) {X2_ : Int32} {x2 : Int} (hx2 : rp X2_ x2) {X3_ : Int32} {x3 : Int} (hx3 : rp X3_ x3) {X4_ : Int32} {x4 : Int} (hx4 : rp X4_ x4) {X5_ : Int32} {x5 : Int} (hx5 : rp X5_ x5) {X6_ : Int32} {x6 : Int} (hx6 : rp X6_ x6) {X7_ : Int32} {x7 : Int} (hx7 : rp X7_ x7) {S0_ : Int32} {s0 : Int} (hs0 : rp S0_ s0) {M_ : Mem} {M : ZM} (gM : rm M_ M) {r : Int} {m' : ZM} (h : zJ66_69 n zrec11 x1 x2 x3 x4 x5 x6 x7 s0 M = some (r, m')) : sI (J66_69 n rec11 X1_ X2_ X3_ X4_ X5_ X6_ X7_ S0_ M_) r m' := by
  unfold zJ66_69 at h
  unfold J66_69
  by_cases q1 : x7 ≤ 0
  · rw [if_pos q1] at h
    rw [if_pos ((rp_le hx7 (show rp 0 0 from rfl)).mpr q1)]
    exact zJ66_104_r n _ _ hrec11 hx1 hx2 hx3 hx4 hx5 hx6 hx7 hs0 gM h
  · rw [if_neg q1] at h
    rw [if_neg (fun z => q1 ((rp_le hx7 (show rp 0 0 from rfl)).mp z))]
    cases hc2 : zF53 n x6 M with
    | none => rw [hc2] at h; cases h
    | some w =>
      obtain ⟨v47, M48⟩ := w
      rw [hc2] at h
      dsimp only at h
      obtain ⟨V47, NM48, ehc2, hv47, gM48⟩ := zF53_r n hx6 gM hc2
      rw [ehc2]
      dsimp only
      by_cases q3 : x1 < 0 ∨ 320 ≤ x1
      · rw [if_pos q3] at h
        rw [if_pos ((rp_ob hx1 320).mpr q3)]
        cases h
      · rw [if_neg q3] at h
        rw [if_neg (fun z => q3 ((rp_ob hx1 320).mp z))]
        by_cases q4 : v47 = (M48.1 105 (Int.toNat x1))
        · rw [if_pos q4] at h
          rw [if_pos ((rp_eq hv47 (rm_rdx gM48 105 hx1)).mpr q4)]
          exact zJ66_91_r n _ _ hrec11 hx1 hx2 hx3 hx4 hx5 hx6 hx7 hs0 gM48 h
        · rw [if_neg q4] at h
          rw [if_neg (fun z => q4 ((rp_eq hv47 (rm_rdx gM48 105 hx1)).mp z))]
          exact zJ66_104_r n _ _ hrec11 hx1 hx2 hx3 hx4 hx5 hx6 hx7 hs0 gM48 h
def zJ66_68 (n : Nat) (zrec11 : Int → Int → Int → Int → Int → Int → ZM → Option (Int × ZM)) (x1 : Int) (x2 : Int) (x3 : Int) (x4 : Int) (x5 : Int) (x6 : Int) (x7 : Int) (M : ZM) : Option (Int × ZM) :=
  zJ66_69 n zrec11 x1 x2 x3 x4 x5 x6 x7 0 M
set_option maxRecDepth 100000 in
set_option maxHeartbeats 4000000 in
theorem zJ66_68_r (n : Nat) (rec11 : Int32 → Int32 → Int32 → Int32 → Int32 → Int32 → Mem → Option (Int32 × Mem)) (zrec11 : Int → Int → Int → Int → Int → Int → ZM → Option (Int × ZM)) (hrec11 : ∀ {Y1 : Int32} {y1 : Int} (_ : rp Y1 y1) {Y2 : Int32} {y2 : Int} (_ : rp Y2 y2) {Y3 : Int32} {y3 : Int} (_ : rp Y3 y3) {Y4 : Int32} {y4 : Int} (_ : rp Y4 y4) {Y5 : Int32} {y5 : Int} (_ : rp Y5 y5) {Y6 : Int32} {y6 : Int} (_ : rp Y6 y6) {M : Mem} {m : ZM} (_ : rm M m) {r : Int} {m' : ZM} (_ : zrec11 y1 y2 y3 y4 y5 y6 m = some (r, m')), sI (rec11 Y1 Y2 Y3 Y4 Y5 Y6 M) r m') {X1_ : Int32} {x1 : Int} (hx1 : rp X1_ x1) {X2_ : Int32} {x2 : Int} (hx2 : rp X2_ x2) {X3_ : Int32} {x3 : Int} (hx3 : rp X3_ x3) {X4_ : Int32} {x4 : Int} (hx4 : rp X4_ x4) {X5_ : Int32} {x5 : Int} (hx5 : rp X5_ x5) {X6_ : Int32} {x6 : Int} (hx6 : rp X6_ x6) {X7_ : Int32} {x7 : Int} (hx7 : rp X7_ x7) {M_ : Mem} {M : ZM} (gM : rm M_ M) {r : Int} {m' : ZM} (h : zJ66_68 n zrec11 x1 x2 x3 x4 x5 x6 x7 M = some (r, m')) : sI (J66_68 n rec11 X1_ X2_ X3_ X4_ X5_ X6_ X7_ M_) r m' := by
  unfold zJ66_68 at h
  unfold J66_68
  exact zJ66_69_r n _ _ hrec11 hx1 hx2 hx3 hx4 hx5 hx6 hx7 (show rp 0 0 from rfl) gM h
def zJ66_64 (n : Nat) (zrec11 : Int → Int → Int → Int → Int → Int → ZM → Option (Int × ZM)) (x1 : Int) (x2 : Int) (x3 : Int) (x4 : Int) (x5 : Int) (x6 : Int) (x7 : Int) (M : ZM) : Option (Int × ZM) :=
  zJ66_69 n zrec11 x1 x2 x3 x4 x5 x6 x7 1 M
set_option maxRecDepth 100000 in
set_option maxHeartbeats 4000000 in
theorem zJ66_64_r (n : Nat) (rec11 : Int32 → Int32 → Int32 → Int32 → Int32 → Int32 → Mem → Option (Int32 × Mem)) (zrec11 : Int → Int → Int → Int → Int → Int → ZM → Option (Int × ZM)) (hrec11 : ∀ {Y1 : Int32} {y1 : Int} (_ : rp Y1 y1) {Y2 : Int32} {y2 : Int} (_ : rp Y2 y2) {Y3 : Int32} {y3 : Int} (_ : rp Y3 y3) {Y4 : Int32} {y4 : Int} (_ : rp Y4 y4) {Y5 : Int32} {y5 : Int} (_ : rp Y5 y5) {Y6 : Int32} {y6 : Int} (_ : rp Y6 y6) {M : Mem} {m : ZM} (_ : rm M m) {r : Int} {m' : ZM} (_ : zrec11 y1 y2 y3 y4 y5 y6 m = some (r, m')), sI (rec11 Y1 Y2 Y3 Y4 Y5 Y6 M) r m') {X1_ : Int32} {x1 : Int} (hx1 : rp X1_ x1) {X2_ : Int32} {x2 : Int} (hx2 : rp X2_ x2) {X3_ : Int32} {x3 : Int} (hx3 : rp X3_ x3) {X4_ : Int32} {x4 : Int} (hx4 : rp X4_ x4) {X5_ : Int32} {x5 : Int} (hx5 : rp X5_ x5) {X6_ : Int32} {x6 : Int} (hx6 : rp X6_ x6) {X7_ : Int32} {x7 : Int} (hx7 : rp X7_ x7) {M_ : Mem} {M : ZM} (gM : rm M_ M) {r : Int} {m' : ZM} (h : zJ66_64 n zrec11 x1 x2 x3 x4 x5 x6 x7 M = some (r, m')) : sI (J66_64 n rec11 X1_ X2_ X3_ X4_ X5_ X6_ X7_ M_) r m' := by
  unfold zJ66_64 at h
  unfold J66_64
  exact zJ66_69_r n _ _ hrec11 hx1 hx2 hx3 hx4 hx5 hx6 hx7 (show rp 1 1 from rfl) gM h
def zJ66_44 (n : Nat) (zrec11 : Int → Int → Int → Int → Int → Int → ZM → Option (Int × ZM)) (x1 : Int) (x2 : Int) (x3 : Int) (x4 : Int) (x5 : Int) (x6 : Int) (x7 : Int) (M : ZM) : Option (Int × ZM) :=
  if x6 < 0 ∨ 128 ≤ x6 then (none) else (if x1 < 0 ∨ 320 ≤ x1 then (none) else (match zF64 n (M.1 94 (Int.toNat x6)) (M.1 105 (Int.toNat x1)) M with | some (v60, M61) => (if v60 = 0 then (zJ66_68 n zrec11 x1 x2 x3 x4 x5 x6 x7 M61) else (zJ66_64 n zrec11 x1 x2 x3 x4 x5 x6 x7 M61)) | none => none))
set_option maxRecDepth 100000 in
set_option maxHeartbeats 4000000 in
theorem zJ66_44_r (n : Nat) (rec11 : Int32 → Int32 → Int32 → Int32 → Int32 → Int32 → Mem → Option (Int32 × Mem)) (zrec11 : Int → Int → Int → Int → Int → Int → ZM → Option (Int × ZM)) (hrec11 : ∀ {Y1 : Int32} {y1 : Int} (_ : rp Y1 y1) {Y2 : Int32} {y2 : Int} (_ : rp Y2 y2) {Y3 : Int32} {y3 : Int} (_ : rp Y3 y3) {Y4 : Int32} {y4 : Int} (_ : rp Y4 y4) {Y5 : Int32} {y5 : Int} (_ : rp Y5 y5) {Y6 : Int32} {y6 : Int} (_ : rp Y6 y6) {M : Mem} {m : ZM} (_ : rm M m) {r : Int} {m' : ZM} (_ : zrec11 y1 y2 y3 y4 y5 y6 m = some (r, m')), sI (rec11 Y1 Y2 Y3 Y4 Y5 Y6 M) r m') {X1_ : Int32} {x1 : Int} (hx1 : rp X1_ x1) {X2_ : Int32} {x2 : Int} (hx2 : rp X2_ x2) {X3_ : Int32} {x3 : Int} (hx3 : rp X3_ x3) {X4_ : Int32} {x4 : Int} (hx4 : rp X4_ x4) {X5_ : Int32} {x5 : Int} (hx5 : rp X5_ x5) {X6_ : Int32} {x6 : Int} (hx6 : rp X6_ x6) {X7_ : Int32} {x7 : Int} (hx7 : rp X7_ x7) {M_ : Mem} {M : ZM} (gM : rm M_ M) {r : Int} {m' : ZM} (h : zJ66_44 n zrec11 x1 x2 x3 x4 x5 x6 x7 M = some (r, m')) : sI (J66_44 n rec11 X1_ X2_ X3_ X4_ X5_ X6_ X7_ M_) r m' := by
  unfold zJ66_44 at h
  unfold J66_44
  by_cases q1 : x6 < 0 ∨ 128 ≤ x6
  · rw [if_pos q1] at h
    rw [if_pos ((rp_ob hx6 128).mpr q1)]
    cases h
  · rw [if_neg q1] at h
    rw [if_neg (fun z => q1 ((rp_ob hx6 128).mp z))]
    by_cases q2 : x1 < 0 ∨ 320 ≤ x1
    · rw [if_pos q2] at h
      rw [if_pos ((rp_ob hx1 320).mpr q2)]
      cases h
    · rw [if_neg q2] at h
      rw [if_neg (fun z => q2 ((rp_ob hx1 320).mp z))]
      cases hc3 : zF64 n (M.1 94 (Int.toNat x6)) (M.1 105 (Int.toNat x1)) M with
      | none => rw [hc3] at h; cases h
      | some w =>
        obtain ⟨v60, M61⟩ := w
        rw [hc3] at h
        dsimp only at h
        obtain ⟨V60, NM61, ehc3, hv60, gM61⟩ := zF64_r n (rm_rdx gM 94 hx6) (rm_rdx gM 105 hx1) gM hc3
        rw [ehc3]
        dsimp only
        by_cases q4 : v60 = 0
        · rw [if_pos q4] at h
          rw [if_pos ((rp_eq hv60 (show rp 0 0 from rfl)).mpr q4)]
          exact zJ66_68_r n _ _ hrec11 hx1 hx2 hx3 hx4 hx5 hx6 hx7 gM61 h
        · rw [if_neg q4] at h
          rw [if_neg (fun z => q4 ((rp_eq hv60 (show rp 0 0 from rfl)).mp z))]
          exact zJ66_64_r n _ _ hrec11 hx1 hx2 hx3 hx4 hx5 hx6 hx7 gM61 h
def zL66_11 (n : Nat) : Nat → Int → Int → Int → Int → Int → Int → ZM → Option (Int × ZM)
  | 0, _, _, _, _, _, _, _ => none
  | k + 1, x1, x2, x3, x4, x5, x6, M => if 128 ≤ x6 then (if 1 < x3 then (zJ66_173 n M) else (if x3 = 1 then (if x4 ≤ 0 then (zJ66_176 n x1 x2 x3 x4 x5 M) else (zJ66_173 n M)) else (zJ66_176 n x1 x2 x3 x4 x5 M))) else (if x6 < 0 ∨ 128 ≤ x6 then (none) else (if (M.1 108 (Int.toNat x6)) ≤ 0 then (zJ66_68 n (zL66_11 n k) x1 x2 x3 x4 x5 x6 (M.1 108 (Int.toNat x6)) M) else (if (M.1 90 (Int.toNat x6)) = 3 then (zJ66_44 n (zL66_11 n k) x1 x2 x3 x4 x5 x6 (M.1 108 (Int.toNat x6)) M) else (zJ66_68 n (zL66_11 n k) x1 x2 x3 x4 x5 x6 (M.1 108 (Int.toNat x6)) M))))
set_option maxRecDepth 100000 in
set_option maxHeartbeats 4000000 in
theorem zL66_11_r (n : Nat) : ∀ (k : Nat) {X1_ : Int32} {x1 : Int} (hx1 : rp X1_ x1) {X2_ : Int32} {x2 : Int} (hx2 : rp X2_ x2) {X3_ : Int32} {x3 : Int} (hx3 : rp X3_ x3) {X4_ : Int32} {x4 : Int} (hx4 : rp X4_ x4) {X5_ : Int32} {x5 : Int} (hx5 : rp X5_ x5) {X6_ : Int32} {x6 : Int} (hx6 : rp X6_ x6) {M_ : Mem} {M : ZM} (gM : rm M_ M) {r : Int} {m' : ZM} (_ : zL66_11 n k x1 x2 x3 x4 x5 x6 M = some (r, m')), sI (L66_11 n k X1_ X2_ X3_ X4_ X5_ X6_ M_) r m' := by
  intro k
  induction k with
  | zero => intro X1_ x1 hx1 X2_ x2 hx2 X3_ x3 hx3 X4_ x4 hx4 X5_ x5 hx5 X6_ x6 hx6 M_ M gM r m' h; cases h
  | succ k ih =>
    intro X1_ x1 hx1 X2_ x2 hx2 X3_ x3 hx3 X4_ x4 hx4 X5_ x5 hx5 X6_ x6 hx6 M_ M gM r m' h
    rw [zL66_11] at h
    rw [L66_11]
    by_cases q1 : 128 ≤ x6
    · rw [if_pos q1] at h
      rw [if_pos ((rp_le (show rp 128 128 from rfl) hx6).mpr q1)]
      by_cases q2 : 1 < x3
      · rw [if_pos q2] at h
        rw [if_pos ((rp_lt (show rp 1 1 from rfl) hx3).mpr q2)]
        exact zJ66_173_r n gM h
      · rw [if_neg q2] at h
        rw [if_neg (fun z => q2 ((rp_lt (show rp 1 1 from rfl) hx3).mp z))]
        by_cases q3 : x3 = 1
        · rw [if_pos q3] at h
          rw [if_pos ((rp_eq hx3 (show rp 1 1 from rfl)).mpr q3)]
          by_cases q4 : x4 ≤ 0
          · rw [if_pos q4] at h
            rw [if_pos ((rp_le hx4 (show rp 0 0 from rfl)).mpr q4)]
            exact zJ66_176_r n hx1 hx2 hx3 hx4 hx5 gM h
          · rw [if_neg q4] at h
            rw [if_neg (fun z => q4 ((rp_le hx4 (show rp 0 0 from rfl)).mp z))]
            exact zJ66_173_r n gM h
        · rw [if_neg q3] at h
          rw [if_neg (fun z => q3 ((rp_eq hx3 (show rp 1 1 from rfl)).mp z))]
          exact zJ66_176_r n hx1 hx2 hx3 hx4 hx5 gM h
    · rw [if_neg q1] at h
      rw [if_neg (fun z => q1 ((rp_le (show rp 128 128 from rfl) hx6).mp z))]
      by_cases q5 : x6 < 0 ∨ 128 ≤ x6
      · rw [if_pos q5] at h
        rw [if_pos ((rp_ob hx6 128).mpr q5)]
        cases h
      · rw [if_neg q5] at h
        rw [if_neg (fun z => q5 ((rp_ob hx6 128).mp z))]
        by_cases q6 : (M.1 108 (Int.toNat x6)) ≤ 0
        · rw [if_pos q6] at h
          rw [if_pos ((rp_le (rm_rdx gM 108 hx6) (show rp 0 0 from rfl)).mpr q6)]
          exact zJ66_68_r n _ _ ih hx1 hx2 hx3 hx4 hx5 hx6 (rm_rdx gM 108 hx6) gM h
        · rw [if_neg q6] at h
          rw [if_neg (fun z => q6 ((rp_le (rm_rdx gM 108 hx6) (show rp 0 0 from rfl)).mp z))]
          rw [if_neg (fun z => q5 ((rp_ob hx6 128).mp z))]
          by_cases q7 : (M.1 90 (Int.toNat x6)) = 3
          · rw [if_pos q7] at h
            rw [if_pos ((rp_eq (rm_rdx gM 90 hx6) (show rp 3 3 from rfl)).mpr q7)]
            exact zJ66_44_r n _ _ ih hx1 hx2 hx3 hx4 hx5 hx6 (rm_rdx gM 108 hx6) gM h
          · rw [if_neg q7] at h
            rw [if_neg (fun z => q7 ((rp_eq (rm_rdx gM 90 hx6) (show rp 3 3 from rfl)).mp z))]
            exact zJ66_68_r n _ _ ih hx1 hx2 hx3 hx4 hx5 hx6 (rm_rdx gM 108 hx6) gM h
/-- ArmExpanderModel.step -/
def zF66 (n : Nat) (a0 : Int) (a1 : Int) (M : ZM) : Option (Int × ZM) :=
  zL66_11 n n a0 a1 0 0 (-1) 0 M
set_option maxRecDepth 100000 in
set_option maxHeartbeats 4000000 in
theorem zF66_r (n : Nat) {A0_ : Int32} {a0 : Int} (ha0 : rp A0_ a0) {A1_ : Int32} {a1 : Int} (ha1 : rp A1_ a1) {M_ : Mem} {M : ZM} (gM : rm M_ M) {r : Int} {m' : ZM} (h : zF66 n a0 a1 M = some (r, m')) : sI (F66 n A0_ A1_ M_) r m' := by
  unfold zF66 at h
  unfold F66
  exact zL66_11_r n n ha0 ha1 (show rp 0 0 from rfl) (show rp 0 0 from rfl) (show rp (-1) (-1) from rfl) (show rp 0 0 from rfl) gM h
def zJ67_153 (n : Nat) (zrec126 : Int → ZM → Option (Int × ZM)) (x6 : Int) (M : ZM) : Option (Int × ZM) :=
  if rg (x6 + (-1)) then (zrec126 (x6 + (-1)) M) else none
set_option maxRecDepth 100000 in
set_option maxHeartbeats 4000000 in
theorem zJ67_153_r (n : Nat) (rec126 : Int32 → Mem → Option (Int32 × Mem)) (zrec126 : Int → ZM → Option (Int × ZM)) (hrec126 : ∀ {Y1 : Int32} {y1 : Int} (_ : rp Y1 y1) {M : Mem} {m : ZM} (_ : rm M m) {r : Int} {m' : ZM} (_ : zrec126 y1 m = some (r, m')), sI (rec126 Y1 M) r m') {X6_ : Int32} {x6 : Int} (hx6 : rp X6_ x6) {M_ : Mem} {M : ZM} (gM : rm M_ M) {r : Int} {m' : ZM} (h : zJ67_153 n zrec126 x6 M = some (r, m')) : sI (J67_153 n rec126 X6_ M_) r m' := by
  unfold zJ67_153 at h
  unfold J67_153
  by_cases w1 : rg (x6 + (-1))
  · rw [if_pos w1] at h
    exact hrec126 (rp_add (rp_iz hx6) (rp_iz (show rp (-1) (-1) from rfl)) w1) gM h
  · rw [if_neg w1] at h
    cases h
def zL67_126 (n : Nat) : Nat → Int → ZM → Option (Int × ZM)
  | 0, _, _ => none
  | k + 1, x6, M => if x6 ≤ 0 then (some (1, M)) else (if x6 < 0 ∨ 162 ≤ x6 then (none) else (match zF52 n x6 (M.1 116 (Int.toNat x6)) M with | some (v21, M22) => (if rg (x6 - 1) then (if (x6 - 1) < 0 ∨ 162 ≤ (x6 - 1) then (none) else (zlet (z_i M22 116 (Int.toNat (x6 - 1)) v21) (fun M25 => zJ67_153 n (zL67_126 n k) x6 M25))) else none) | none => none))
set_option maxRecDepth 100000 in
set_option maxHeartbeats 4000000 in
theorem zL67_126_r (n : Nat) : ∀ (k : Nat) {X6_ : Int32} {x6 : Int} (hx6 : rp X6_ x6) {M_ : Mem} {M : ZM} (gM : rm M_ M) {r : Int} {m' : ZM} (_ : zL67_126 n k x6 M = some (r, m')), sI (L67_126 n k X6_ M_) r m' := by
  intro k
  induction k with
  | zero => intro X6_ x6 hx6 M_ M gM r m' h; cases h
  | succ k ih =>
    intro X6_ x6 hx6 M_ M gM r m' h
    rw [zL67_126] at h
    rw [L67_126]
    by_cases q1 : x6 ≤ 0
    · rw [if_pos q1] at h
      rw [if_pos ((rp_le hx6 (show rp 0 0 from rfl)).mpr q1)]
      obtain ⟨rfl, rfl⟩ := Prod.mk.inj (Option.some.inj h)
      exact ⟨_, _, rfl, (show rp 1 1 from rfl), gM⟩
    · rw [if_neg q1] at h
      rw [if_neg (fun z => q1 ((rp_le hx6 (show rp 0 0 from rfl)).mp z))]
      by_cases q2 : x6 < 0 ∨ 162 ≤ x6
      · rw [if_pos q2] at h
        rw [if_pos ((rp_ob hx6 162).mpr q2)]
        cases h
      · rw [if_neg q2] at h
        rw [if_neg (fun z => q2 ((rp_ob hx6 162).mp z))]
        cases hc3 : zF52 n x6 (M.1 116 (Int.toNat x6)) M with
        | none => rw [hc3] at h; cases h
        | some w =>
          obtain ⟨v21, M22⟩ := w
          rw [hc3] at h
          dsimp only at h
          obtain ⟨V21, NM22, ehc3, hv21, gM22⟩ := zF52_r n hx6 (rm_rdx gM 116 hx6) gM hc3
          rw [ehc3]
          dsimp only
          by_cases w4 : rg (x6 - 1)
          · rw [if_pos w4] at h
            by_cases q5 : (x6 - 1) < 0 ∨ 162 ≤ (x6 - 1)
            · rw [if_pos q5] at h
              rw [if_pos ((rp_ob (rp_sub (rp_iz hx6) (rp_iz (show rp 1 1 from rfl)) w4) 162).mpr q5)]
              cases h
            · rw [if_neg q5] at h
              rw [if_neg (fun z => q5 ((rp_ob (rp_sub (rp_iz hx6) (rp_iz (show rp 1 1 from rfl)) w4) 162).mp z))]
              have gM25 : rm (m_i NM22 116 ((X6_ - (1 : Int32))).toNatClampNeg V21) (z_i M22 116 (Int.toNat (x6 - 1)) v21) := rm_ix gM22 116 (rp_sub (rp_iz hx6) (rp_iz (show rp 1 1 from rfl)) w4) hv21
              rw [mlet]
              rw [zlet] at h
              generalize z_i M22 116 (Int.toNat (x6 - 1)) v21 = M25 at h gM25
              generalize m_i NM22 116 ((X6_ - (1 : Int32))).toNatClampNeg V21 = NM25 at gM25 ⊢
              exact zJ67_153_r n _ _ ih hx6 gM25 h
          · rw [if_neg w4] at h
            cases h
def zJ67_109 (n : Nat) (x4 : Int) (M : ZM) : Option (Int × ZM) :=
  if (M.1 83 40) < 0 ∨ 162 ≤ (M.1 83 40) then (none) else (zlet (z_i M 116 (Int.toNat (M.1 83 40)) x4) (fun M18 => zL67_126 n n (M18.1 83 40) M18))
set_option maxRecDepth 100000 in
set_option maxHeartbeats 4000000 in
theorem zJ67_109_r (n : Nat) {X4_ : Int32} {x4 : Int} (hx4 : rp X4_ x4) {M_ : Mem} {M : ZM} (gM : rm M_ M) {r : Int} {m' : ZM} (h : zJ67_109 n x4 M = some (r, m')) : sI (J67_109 n X4_ M_) r m' := by
  unfold zJ67_109 at h
  unfold J67_109
  by_cases q1 : (M.1 83 40) < 0 ∨ 162 ≤ (M.1 83 40)
  · rw [if_pos q1] at h
    rw [if_pos ((rp_ob (rm_rd gM 83 40) 162).mpr q1)]
    cases h
  · rw [if_neg q1] at h
    rw [if_neg (fun z => q1 ((rp_ob (rm_rd gM 83 40) 162).mp z))]
    have gM18 : rm (m_i M_ 116 ((M_.1 83 40)).toNatClampNeg X4_) (z_i M 116 (Int.toNat (M.1 83 40)) x4) := rm_ix gM 116 (rm_rd gM 83 40) hx4
    rw [mlet]
    rw [zlet] at h
    generalize z_i M 116 (Int.toNat (M.1 83 40)) x4 = M18 at h gM18
    generalize m_i M_ 116 ((M_.1 83 40)).toNatClampNeg X4_ = NM18 at gM18 ⊢
    exact zL67_126_r n n (rm_rd gM18 83 40) gM18 h
def zJ67_108 (n : Nat) (s0 : Int) (M : ZM) : Option (Int × ZM) :=
  some (s0, M)
set_option maxRecDepth 100000 in
set_option maxHeartbeats 4000000 in
theorem zJ67_108_r (n : Nat) {S0_ : Int32} {s0 : Int} (hs0 : rp S0_ s0) {M_ : Mem} {M : ZM} (gM : rm M_ M) {r : Int} {m' : ZM} (h : zJ67_108 n s0 M = some (r, m')) : sI (J67_108 n S0_ M_) r m' := by
  unfold zJ67_108 at h
  unfold J67_108
  obtain ⟨rfl, rfl⟩ := Prod.mk.inj (Option.some.inj h)
  exact ⟨_, _, rfl, hs0, gM⟩
def zJ67_97 (n : Nat) (x5 : Int) (M : ZM) : Option (Int × ZM) :=
  if x5 ≤ 1 then (zJ67_108 n 0 M) else (zJ67_108 n (-1) M)
set_option maxRecDepth 100000 in
set_option maxHeartbeats 4000000 in
theorem zJ67_97_r (n : Nat) {X5_ : Int32} {x5 : Int} (hx5 : rp X5_ x5) {M_ : Mem} {M : ZM} (gM : rm M_ M) {r : Int} {m' : ZM} (h : zJ67_97 n x5 M = some (r, m')) : sI (J67_97 n X5_ M_) r m' := by
  unfold zJ67_97 at h
  unfold J67_97
  by_cases q1 : x5 ≤ 1
  · rw [if_pos q1] at h
    rw [if_pos ((rp_le hx5 (show rp 1 1 from rfl)).mpr q1)]
    exact zJ67_108_r n (show rp 0 0 from rfl) gM h
  · rw [if_neg q1] at h
    rw [if_neg (fun z => q1 ((rp_le hx5 (show rp 1 1 from rfl)).mp z))]
    exact zJ67_108_r n (show rp (-1) (-1) from rfl) gM h
def zL67_61 (n : Nat) : Nat → Int → ZM → Option (Int × ZM)
  | 0, _, _ => none
  | k + 1, x4, M => if x4 < 0 ∨ 128 ≤ x4 then (none) else (if (M.1 90 (Int.toNat x4)) = 6 then (if (M.1 108 (Int.toNat x4)) = 1 then (zJ67_109 n x4 M) else (zJ67_97 n (M.1 108 (Int.toNat x4)) M)) else (if rg (x4 + 1) then ((zL67_61 n k) (x4 + 1) M) else none))
set_option maxRecDepth 100000 in
set_option maxHeartbeats 4000000 in
theorem zL67_61_r (n : Nat) : ∀ (k : Nat) {X4_ : Int32} {x4 : Int} (hx4 : rp X4_ x4) {M_ : Mem} {M : ZM} (gM : rm M_ M) {r : Int} {m' : ZM} (_ : zL67_61 n k x4 M = some (r, m')), sI (L67_61 n k X4_ M_) r m' := by
  intro k
  induction k with
  | zero => intro X4_ x4 hx4 M_ M gM r m' h; cases h
  | succ k ih =>
    intro X4_ x4 hx4 M_ M gM r m' h
    rw [zL67_61] at h
    rw [L67_61]
    by_cases q1 : x4 < 0 ∨ 128 ≤ x4
    · rw [if_pos q1] at h
      rw [if_pos ((rp_ob hx4 128).mpr q1)]
      cases h
    · rw [if_neg q1] at h
      rw [if_neg (fun z => q1 ((rp_ob hx4 128).mp z))]
      by_cases q2 : (M.1 90 (Int.toNat x4)) = 6
      · rw [if_pos q2] at h
        rw [if_pos ((rp_eq (rm_rdx gM 90 hx4) (show rp 6 6 from rfl)).mpr q2)]
        rw [if_neg (fun z => q1 ((rp_ob hx4 128).mp z))]
        by_cases q3 : (M.1 108 (Int.toNat x4)) = 1
        · rw [if_pos q3] at h
          rw [if_pos ((rp_eq (rm_rdx gM 108 hx4) (show rp 1 1 from rfl)).mpr q3)]
          exact zJ67_109_r n hx4 gM h
        · rw [if_neg q3] at h
          rw [if_neg (fun z => q3 ((rp_eq (rm_rdx gM 108 hx4) (show rp 1 1 from rfl)).mp z))]
          exact zJ67_97_r n (rm_rdx gM 108 hx4) gM h
      · rw [if_neg q2] at h
        rw [if_neg (fun z => q2 ((rp_eq (rm_rdx gM 90 hx4) (show rp 6 6 from rfl)).mp z))]
        by_cases w4 : rg (x4 + 1)
        · rw [if_pos w4] at h
          exact ih (rp_add (rp_iz hx4) (rp_iz (show rp 1 1 from rfl)) w4) gM h
        · rw [if_neg w4] at h
          cases h
def zJ67_57 (n : Nat) (s0 : Int) (M : ZM) : Option (Int × ZM) :=
  some (s0, M)
set_option maxRecDepth 100000 in
set_option maxHeartbeats 4000000 in
theorem zJ67_57_r (n : Nat) {S0_ : Int32} {s0 : Int} (hs0 : rp S0_ s0) {M_ : Mem} {M : ZM} (gM : rm M_ M) {r : Int} {m' : ZM} (h : zJ67_57 n s0 M = some (r, m')) : sI (J67_57 n S0_ M_) r m' := by
  unfold zJ67_57 at h
  unfold J67_57
  obtain ⟨rfl, rfl⟩ := Prod.mk.inj (Option.some.inj h)
  exact ⟨_, _, rfl, hs0, gM⟩
def zJ67_42 (n : Nat) (x3 : Int) (M : ZM) : Option (Int × ZM) :=
  if 0 ≤ x3 then (zL67_61 n n 0 M) else (if x3 = (-2) then (zJ67_57 n (-1) M) else (zJ67_57 n 0 M))
set_option maxRecDepth 100000 in
set_option maxHeartbeats 4000000 in
theorem zJ67_42_r (n : Nat) {X3_ : Int32} {x3 : Int} (hx3 : rp X3_ x3) {M_ : Mem} {M : ZM} (gM : rm M_ M) {r : Int} {m' : ZM} (h : zJ67_42 n x3 M = some (r, m')) : sI (J67_42 n X3_ M_) r m' := by
  unfold zJ67_42 at h
  unfold J67_42
  by_cases q1 : 0 ≤ x3
  · rw [if_pos q1] at h
    rw [if_pos ((rp_le (show rp 0 0 from rfl) hx3).mpr q1)]
    exact zL67_61_r n n (show rp 0 0 from rfl) gM h
  · rw [if_neg q1] at h
    rw [if_neg (fun z => q1 ((rp_le (show rp 0 0 from rfl) hx3).mp z))]
    by_cases q2 : x3 = (-2)
    · rw [if_pos q2] at h
      rw [if_pos ((rp_eq hx3 (show rp (-2) (-2) from rfl)).mpr q2)]
      exact zJ67_57_r n (show rp (-1) (-1) from rfl) gM h
    · rw [if_neg q2] at h
      rw [if_neg (fun z => q2 ((rp_eq hx3 (show rp (-2) (-2) from rfl)).mp z))]
      exact zJ67_57_r n (show rp 0 0 from rfl) gM h
def zL67_23 (n : Nat) : Nat → Int → Int → ZM → Option (Int × ZM)
  | 0, _, _, _ => none
  | k + 1, x2, x3, M => if x3 < 0 then (zJ67_42 n x3 M) else (if x2 ≤ x3 then (zJ67_42 n x3 M) else (match zF66 n x3 x2 M with | some (v29, M30) => ((zL67_23 n k) x2 v29 M30) | none => none))
set_option maxRecDepth 100000 in
set_option maxHeartbeats 4000000 in
theorem zL67_23_r (n : Nat) : ∀ (k : Nat) {X2_ : Int32} {x2 : Int} (hx2 : rp X2_ x2) {X3_ : Int32} {x3 : Int} (hx3 : rp X3_ x3) {M_ : Mem} {M : ZM} (gM : rm M_ M) {r : Int} {m' : ZM} (_ : zL67_23 n k x2 x3 M = some (r, m')), sI (L67_23 n k X2_ X3_ M_) r m' := by
  intro k
  induction k with
  | zero => intro X2_ x2 hx2 X3_ x3 hx3 M_ M gM r m' h; cases h
  | succ k ih =>
    intro X2_ x2 hx2 X3_ x3 hx3 M_ M gM r m' h
    rw [zL67_23] at h
    rw [L67_23]
    by_cases q1 : x3 < 0
    · rw [if_pos q1] at h
      rw [if_pos ((rp_lt hx3 (show rp 0 0 from rfl)).mpr q1)]
      exact zJ67_42_r n hx3 gM h
    · rw [if_neg q1] at h
      rw [if_neg (fun z => q1 ((rp_lt hx3 (show rp 0 0 from rfl)).mp z))]
      by_cases q2 : x2 ≤ x3
      · rw [if_pos q2] at h
        rw [if_pos ((rp_le hx2 hx3).mpr q2)]
        exact zJ67_42_r n hx3 gM h
      · rw [if_neg q2] at h
        rw [if_neg (fun z => q2 ((rp_le hx2 hx3).mp z))]
        cases hc3 : zF66 n x3 x2 M with
        | none => rw [hc3] at h; cases h
        | some w =>
          obtain ⟨v29, M30⟩ := w
          rw [hc3] at h
          dsimp only at h
          obtain ⟨V29, NM30, ehc3, hv29, gM30⟩ := zF66_r n hx3 hx2 gM hc3
          rw [ehc3]
          dsimp only
          exact ih hx2 hv29 gM30 h
def zJ67_18 (n : Nat) (x2 : Int) (x3 : Int) (M : ZM) : Option (Int × ZM) :=
  match zF51 n 0 M with | some (v8, M9) => (zL67_23 n n x2 x3 M9) | none => none
set_option maxRecDepth 100000 in
set_option maxHeartbeats 4000000 in
theorem zJ67_18_r (n : Nat) {X2_ : Int32} {x2 : Int} (hx2 : rp X2_ x2) {X3_ : Int32} {x3 : Int} (hx3 : rp X3_ x3) {M_ : Mem} {M : ZM} (gM : rm M_ M) {r : Int} {m' : ZM} (h : zJ67_18 n x2 x3 M = some (r, m')) : sI (J67_18 n X2_ X3_ M_) r m' := by
  unfold zJ67_18 at h
  unfold J67_18
  cases hc1 : zF51 n 0 M with
  | none => rw [hc1] at h; cases h
  | some w =>
    obtain ⟨v8, M9⟩ := w
    rw [hc1] at h
    dsimp only at h
    obtain ⟨NM9, ehc1, gM9⟩ := zF51_r n (show rp 0 0 from rfl) gM hc1
    rw [ehc1]
    dsimp only
    exact zL67_23_r n n hx2 hx3 gM9 h
/-- ArmExpanderModel.match -/
def zF67 (n : Nat) (a0 : Int) (a1 : Int) (M : ZM) : Option (Int × ZM) :=
  zlet (z_i M 83 40 0) (fun M1 => match zF50 n M1 with | some (v2, M3) => (match zF49 n 0 1 0 M3 with | some (v5, M6) => (zJ67_18 n a1 a0 M6) | none => none) | none => none)
set_option maxRecDepth 100000 in
set_option maxHeartbeats 4000000 in
theorem zF67_r (n : Nat) {A0_ : Int32} {a0 : Int} (ha0 : rp A0_ a0) {A1_ : Int32} {a1 : Int} (ha1 : rp A1_ a1) {M_ : Mem} {M : ZM} (gM : rm M_ M) {r : Int} {m' : ZM} (h : zF67 n a0 a1 M = some (r, m')) : sI (F67 n A0_ A1_ M_) r m' := by
  unfold zF67 at h
  unfold F67
  have gM1 : rm (m_i M_ 83 40 (0 : Int32)) (z_i M 83 40 0) := rm_i gM 83 40 (show rp 0 0 from rfl)
  rw [mlet]
  rw [zlet] at h
  generalize z_i M 83 40 0 = M1 at h gM1
  generalize m_i M_ 83 40 (0 : Int32) = NM1 at gM1 ⊢
  cases hc1 : zF50 n M1 with
  | none => rw [hc1] at h; cases h
  | some w =>
    obtain ⟨v2, M3⟩ := w
    rw [hc1] at h
    dsimp only at h
    obtain ⟨NM3, ehc1, gM3⟩ := zF50_r n gM1 hc1
    rw [ehc1]
    dsimp only
    cases hc2 : zF49 n 0 1 0 M3 with
    | none => rw [hc2] at h; cases h
    | some w =>
      obtain ⟨v5, M6⟩ := w
      rw [hc2] at h
      dsimp only at h
      obtain ⟨NM6, ehc2, gM6⟩ := zF49_r n (show rp 0 0 from rfl) (show rp 1 1 from rfl) (show rp 0 0 from rfl) gM3 hc2
      rw [ehc2]
      dsimp only
      exact zJ67_18_r n ha1 ha0 gM6 h
def zJ81_178 (n : Nat) (M : ZM) : Option (Int × ZM) :=
  some ((-2005), M)
set_option maxRecDepth 100000 in
set_option maxHeartbeats 4000000 in
theorem zJ81_178_r (n : Nat) {M_ : Mem} {M : ZM} (gM : rm M_ M) {r : Int} {m' : ZM} (h : zJ81_178 n M = some (r, m')) : sI (J81_178 n M_) r m' := by
  unfold zJ81_178 at h
  unfold J81_178
  obtain ⟨rfl, rfl⟩ := Prod.mk.inj (Option.some.inj h)
  exact ⟨_, _, rfl, (show rp (-2005) (-2005) from rfl), gM⟩
def zJ81_203 (n : Nat) (M : ZM) : Option (Int × ZM) :=
  some (0, M)
set_option maxRecDepth 100000 in
set_option maxHeartbeats 4000000 in
theorem zJ81_203_r (n : Nat) {M_ : Mem} {M : ZM} (gM : rm M_ M) {r : Int} {m' : ZM} (h : zJ81_203 n M = some (r, m')) : sI (J81_203 n M_) r m' := by
  unfold zJ81_203 at h
  unfold J81_203
  obtain ⟨rfl, rfl⟩ := Prod.mk.inj (Option.some.inj h)
  exact ⟨_, _, rfl, (show rp 0 0 from rfl), gM⟩
def zJ81_182 (n : Nat) (x4 : Int) (M : ZM) : Option (Int × ZM) :=
  if rg ((M.1 83 38) + 1) then (zlet (z_i M 83 38 ((M.1 83 38) + 1)) (fun M21 => if (M21.1 83 38) < 0 ∨ 12 ≤ (M21.1 83 38) then (none) else (zlet (z_i M21 107 (Int.toNat (M21.1 83 38)) x4) (fun M23 => zJ81_203 n M23)))) else none
set_option maxRecDepth 100000 in
set_option maxHeartbeats 4000000 in
theorem zJ81_182_r (n : Nat) {X4_ : Int32} {x4 : Int} (hx4 : rp X4_ x4) {M_ : Mem} {M : ZM} (gM : rm M_ M) {r : Int} {m' : ZM} (h : zJ81_182 n x4 M = some (r, m')) : sI (J81_182 n X4_ M_) r m' := by
  unfold zJ81_182 at h
  unfold J81_182
  by_cases w1 : rg ((M.1 83 38) + 1)
  · rw [if_pos w1] at h
    have gM21 : rm (m_i M_ 83 38 ((M_.1 83 38) + (1 : Int32))) (z_i M 83 38 ((M.1 83 38) + 1)) := rm_i gM 83 38 (rp_add (rp_iz (rm_rd gM 83 38)) (rp_iz (show rp 1 1 from rfl)) w1)
    rw [mlet]
    rw [zlet] at h
    generalize z_i M 83 38 ((M.1 83 38) + 1) = M21 at h gM21
    generalize m_i M_ 83 38 ((M_.1 83 38) + (1 : Int32)) = NM21 at gM21 ⊢
    by_cases q2 : (M21.1 83 38) < 0 ∨ 12 ≤ (M21.1 83 38)
    · rw [if_pos q2] at h
      rw [if_pos ((rp_ob (rm_rd gM21 83 38) 12).mpr q2)]
      cases h
    · rw [if_neg q2] at h
      rw [if_neg (fun z => q2 ((rp_ob (rm_rd gM21 83 38) 12).mp z))]
      have gM23 : rm (m_i NM21 107 ((NM21.1 83 38)).toNatClampNeg X4_) (z_i M21 107 (Int.toNat (M21.1 83 38)) x4) := rm_ix gM21 107 (rm_rd gM21 83 38) hx4
      rw [mlet]
      rw [zlet] at h
      generalize z_i M21 107 (Int.toNat (M21.1 83 38)) x4 = M23 at h gM23
      generalize m_i NM21 107 ((NM21.1 83 38)).toNatClampNeg X4_ = NM23 at gM23 ⊢
      exact zJ81_203_r n gM23 h
  · rw [if_neg w1] at h
    cases h
def zJ81_150 (n : Nat) (x1 : Int) (x3 : Int) (x4 : Int) (M : ZM) : Option (Int × ZM) :=
  if rg ((M.1 83 38) + 1) then (match zF77 n ((M.1 83 38) + 1) M with | some (v13, M14) => (if v13 = 0 then (some ((-2003), M14)) else (if rg (x3 + 1) then (match zF80 n x1 (x3 + 1) M14 with | some (v17, M18) => (if v17 = 0 then (zJ81_178 n M18) else (zJ81_182 n x4 M18)) | none => none) else none)) | none => none) else none
set_option maxRecDepth 100000 in
set_option maxHeartbeats 4000000 in
theorem zJ81_150_r (n : Nat) {X1_ : Int32} {x1 : Int} (hx1 : rp X1_ x1) {X3_ : Int32} {x3 : Int} (hx3 : rp X3_ x3) {X4_ : Int32} {x4 : Int} (hx4 : rp X4_ x4) {M_ : Mem} {M : ZM} (gM : rm M_ M) {r : Int} {m' : ZM} (h : zJ81_150 n x1 x3 x4 M = some (r, m')) : sI (J81_150 n X1_ X3_ X4_ M_) r m' := by
  unfold zJ81_150 at h
  unfold J81_150
  by_cases w1 : rg ((M.1 83 38) + 1)
  · rw [if_pos w1] at h
    cases hc2 : zF77 n ((M.1 83 38) + 1) M with
    | none => rw [hc2] at h; cases h
    | some w =>
      obtain ⟨v13, M14⟩ := w
      rw [hc2] at h
      dsimp only at h
      obtain ⟨V13, NM14, ehc2, hv13, gM14⟩ := zF77_r n (rp_add (rp_iz (rm_rd gM 83 38)) (rp_iz (show rp 1 1 from rfl)) w1) gM hc2
      rw [ehc2]
      dsimp only
      by_cases q3 : v13 = 0
      · rw [if_pos q3] at h
        rw [if_pos ((rp_eq hv13 (show rp 0 0 from rfl)).mpr q3)]
        obtain ⟨rfl, rfl⟩ := Prod.mk.inj (Option.some.inj h)
        exact ⟨_, _, rfl, (show rp (-2003) (-2003) from rfl), gM14⟩
      · rw [if_neg q3] at h
        rw [if_neg (fun z => q3 ((rp_eq hv13 (show rp 0 0 from rfl)).mp z))]
        by_cases w4 : rg (x3 + 1)
        · rw [if_pos w4] at h
          cases hc5 : zF80 n x1 (x3 + 1) M14 with
          | none => rw [hc5] at h; cases h
          | some w =>
            obtain ⟨v17, M18⟩ := w
            rw [hc5] at h
            dsimp only at h
            obtain ⟨V17, NM18, ehc5, hv17, gM18⟩ := zF80_r n hx1 (rp_add (rp_iz hx3) (rp_iz (show rp 1 1 from rfl)) w4) gM14 hc5
            rw [ehc5]
            dsimp only
            by_cases q6 : v17 = 0
            · rw [if_pos q6] at h
              rw [if_pos ((rp_eq hv17 (show rp 0 0 from rfl)).mpr q6)]
              exact zJ81_178_r n gM18 h
            · rw [if_neg q6] at h
              rw [if_neg (fun z => q6 ((rp_eq hv17 (show rp 0 0 from rfl)).mp z))]
              exact zJ81_182_r n hx4 gM18 h
        · rw [if_neg w4] at h
          cases h
  · rw [if_neg w1] at h
    cases h
def zJ81_132 (n : Nat) (s0 : Int) (M : ZM) : Option (Int × ZM) :=
  some (s0, M)
set_option maxRecDepth 100000 in
set_option maxHeartbeats 4000000 in
theorem zJ81_132_r (n : Nat) {S0_ : Int32} {s0 : Int} (hs0 : rp S0_ s0) {M_ : Mem} {M : ZM} (gM : rm M_ M) {r : Int} {m' : ZM} (h : zJ81_132 n s0 M = some (r, m')) : sI (J81_132 n S0_ M_) r m' := by
  unfold zJ81_132 at h
  unfold J81_132
  obtain ⟨rfl, rfl⟩ := Prod.mk.inj (Option.some.inj h)
  exact ⟨_, _, rfl, hs0, gM⟩
def zJ81_113 (n : Nat) (x1 : Int) (x3 : Int) (x4 : Int) (x5 : Int) (M : ZM) : Option (Int × ZM) :=
  if 0 < x5 then (if (M.1 83 38) < 10 then (match zF73 n M with | some (v10, M11) => (zJ81_150 n x1 x3 x4 M11) | none => none) else (some ((-2004), M))) else (if 0 ≤ x5 then (zJ81_132 n (-2001) M) else (zJ81_132 n (-2002) M))
set_option maxRecDepth 100000 in
set_option maxHeartbeats 4000000 in
theorem zJ81_113_r (n : Nat) {X1_ : Int32} {x1 : Int} (hx1 : rp X1_ x1) {X3_ : Int32} {x3 : Int} (hx3 : rp X3_ x3) {X4_ : Int32} {x4 : Int} (hx4 : rp X4_ x4) {X5_ : Int32} {x5 : Int} (hx5 : rp X5_ x5) {M_ : Mem} {M : ZM} (gM : rm M_ M) {r : Int} {m' : ZM} (h : zJ81_113 n x1 x3 x4 x5 M = some (r, m')) : sI (J81_113 n X1_ X3_ X4_ X5_ M_) r m' := by
  unfold zJ81_113 at h
  unfold J81_113
  by_cases q1 : 0 < x5
  · rw [if_pos q1] at h
    rw [if_pos ((rp_lt (show rp 0 0 from rfl) hx5).mpr q1)]
    by_cases q2 : (M.1 83 38) < 10
    · rw [if_pos q2] at h
      rw [if_pos ((rp_lt (rm_rd gM 83 38) (show rp 10 10 from rfl)).mpr q2)]
      cases hc3 : zF73 n M with
      | none => rw [hc3] at h; cases h
      | some w =>
        obtain ⟨v10, M11⟩ := w
        rw [hc3] at h
        dsimp only at h
        obtain ⟨NM11, ehc3, gM11⟩ := zF73_r n gM hc3
        rw [ehc3]
        dsimp only
        exact zJ81_150_r n hx1 hx3 hx4 gM11 h
    · rw [if_neg q2] at h
      rw [if_neg (fun z => q2 ((rp_lt (rm_rd gM 83 38) (show rp 10 10 from rfl)).mp z))]
      obtain ⟨rfl, rfl⟩ := Prod.mk.inj (Option.some.inj h)
      exact ⟨_, _, rfl, (show rp (-2004) (-2004) from rfl), gM⟩
  · rw [if_neg q1] at h
    rw [if_neg (fun z => q1 ((rp_lt (show rp 0 0 from rfl) hx5).mp z))]
    by_cases q4 : 0 ≤ x5
    · rw [if_pos q4] at h
      rw [if_pos ((rp_le (show rp 0 0 from rfl) hx5).mpr q4)]
      exact zJ81_132_r n (show rp (-2001) (-2001) from rfl) gM h
    · rw [if_neg q4] at h
      rw [if_neg (fun z => q4 ((rp_le (show rp 0 0 from rfl) hx5).mp z))]
      exact zJ81_132_r n (show rp (-2002) (-2002) from rfl) gM h
def zJ81_108 (n : Nat) (zrec61 : Int → Int → Int → Int → Int → ZM → Option (Int × ZM)) (x1 : Int) (x2 : Int) (x3 : Int) (x5 : Int) (s0 : Int) (M : ZM) : Option (Int × ZM) :=
  zrec61 x1 x2 x3 s0 x5 M
set_option maxRecDepth 100000 in
set_option maxHeartbeats 4000000 in
theorem zJ81_108_r (n : Nat) (rec61 : Int32 → Int32 → Int32 → Int32 → Int32 → Mem → Option (Int32 × Mem)) (zrec61 : Int → Int → Int → Int → Int → ZM → Option (Int × ZM)) (hrec61 : ∀ {Y1 : Int32} {y1 : Int} (_ : rp Y1 y1) {Y2 : Int32} {y2 : Int} (_ : rp Y2 y2) {Y3 : Int32} {y3 : Int} (_ : rp Y3 y3) {Y4 : Int32} {y4 : Int} (_ : rp Y4 y4) {Y5 : Int32} {y5 : Int} (_ : rp Y5 y5) {M : Mem} {m : ZM} (_ : rm M m) {r : Int} {m' : ZM} (_ : zrec61 y1 y2 y3 y4 y5 m = some (r, m')), sI (rec61 Y1 Y2 Y3 Y4 Y5 M) r m') {X1_ : Int32} {x1 : Int} (hx1 : rp X1_ x1) {X2_ : Int32} {x2 : Int} (hx2 : rp X2_ x2) {X3_ : Int32} {x3 : Int} (hx3 : rp X3_ x3) {X5_ : Int32} {x5 : Int} (hx5 : rp X5_ x5) {S0_ : Int32} {s0 : Int} (hs0 : rp S0_ s0) {M_ : Mem} {M : ZM} (gM : rm M_ M) {r : Int} {m' : ZM} (h : zJ81_108 n zrec61 x1 x2 x3 x5 s0 M = some (r, m')) : sI (J81_108 n rec61 X1_ X2_ X3_ X5_ S0_ M_) r m' := by
  unfold zJ81_108 at h
  unfold J81_108
  exact hrec61 hx1 hx2 hx3 hs0 hx5 gM h
def zJ81_84 (n : Nat) (zrec61 : Int → Int → Int → Int → Int → ZM → Option (Int × ZM)) (x1 : Int) (x2 : Int) (x3 : Int) (x4 : Int) (M : ZM) : Option (Int × ZM) :=
  if rg (x1 + 3) then (match zF67 n (x1 + 3) x3 M with | some (v29, M30) => (if v29 = 0 then (if rg (x4 + 1) then (zJ81_108 n zrec61 x1 x2 x3 v29 (x4 + 1) M30) else none) else (zJ81_108 n zrec61 x1 x2 x3 v29 x4 M30)) | none => none) else none
set_option maxRecDepth 100000 in
set_option maxHeartbeats 4000000 in
theorem zJ81_84_r (n : Nat) (rec61 : Int32 → Int32 → Int32 → Int32 → Int32 → Mem → Option (Int32 × Mem)) (zrec61 : Int → Int → Int → Int → Int → ZM → Option (Int × ZM)) (hrec61 : ∀ {Y1 : Int32} {y1 : Int} (_ : rp Y1 y1) {Y2 : Int32} {y2 : Int} (_ : rp Y2 y2) {Y3 : Int32} {y3 : Int} (_ : rp Y3 y3) {Y4 : Int32} {y4 : Int} (_ : rp Y4 y4) {Y5 : Int32} {y5 : Int} (_ : rp Y5 y5) {M : Mem} {m : ZM} (_ : rm M m) {r : Int} {m' : ZM} (_ : zrec61 y1 y2 y3 y4 y5 m = some (r, m')), sI (rec61 Y1 Y2 Y3 Y4 Y5 M) r m') {X1_ : Int32} {x1 : Int} (hx1 : rp X1_ x1) {X2_ : Int32} {x2 : Int} (hx2 : rp X2_ x2) {X3_ : Int32} {x3 : Int} (hx3 : rp X3_ x3) {X4_ : Int32} {x4 : Int} (hx4 : rp X4_ x4) {M_ : Mem} {M : ZM} (gM : rm M_ M) {r : Int} {m' : ZM} (h : zJ81_84 n zrec61 x1 x2 x3 x4 M = some (r, m')) : sI (J81_84 n rec61 X1_ X2_ X3_ X4_ M_) r m' := by
  unfold zJ81_84 at h
  unfold J81_84
  by_cases w1 : rg (x1 + 3)
  · rw [if_pos w1] at h
    cases hc2 : zF67 n (x1 + 3) x3 M with
    | none => rw [hc2] at h; cases h
    | some w =>
      obtain ⟨v29, M30⟩ := w
      rw [hc2] at h
      dsimp only at h
      obtain ⟨V29, NM30, ehc2, hv29, gM30⟩ := zF67_r n (rp_add (rp_iz hx1) (rp_iz (show rp 3 3 from rfl)) w1) hx3 gM hc2
      rw [ehc2]
      dsimp only
      by_cases q3 : v29 = 0
      · rw [if_pos q3] at h
        rw [if_pos ((rp_eq hv29 (show rp 0 0 from rfl)).mpr q3)]
        by_cases w4 : rg (x4 + 1)
        · rw [if_pos w4] at h
          exact zJ81_108_r n _ _ hrec61 hx1 hx2 hx3 hv29 (rp_add (rp_iz hx4) (rp_iz (show rp 1 1 from rfl)) w4) gM30 h
        · rw [if_neg w4] at h
          cases h
      · rw [if_neg q3] at h
        rw [if_neg (fun z => q3 ((rp_eq hv29 (show rp 0 0 from rfl)).mp z))]
        exact zJ81_108_r n _ _ hrec61 hx1 hx2 hx3 hv29 hx4 gM30 h
  · rw [if_neg w1] at h
    cases h
def zL81_61 (n : Nat) : Nat → Int → Int → Int → Int → Int → ZM → Option (Int × ZM)
  | 0, _, _, _, _, _, _ => none
  | k + 1, x1, x2, x3, x4, x5, M => if x2 < 0 ∨ 6 ≤ x2 then (none) else (if (M.1 89 (Int.toNat x2)) ≤ x4 then (zJ81_113 n x1 x3 x4 x5 M) else (if x5 = 0 then (match zF33 n x2 x4 M with | some (v26, M27) => (zJ81_84 n (zL81_61 n k) x1 x2 x3 x4 M27) | none => none) else (zJ81_113 n x1 x3 x4 x5 M)))
set_option maxRecDepth 100000 in
set_option maxHeartbeats 4000000 in
theorem zL81_61_r (n : Nat) : ∀ (k : Nat) {X1_ : Int32} {x1 : Int} (hx1 : rp X1_ x1) {X2_ : Int32} {x2 : Int} (hx2 : rp X2_ x2) {X3_ : Int32} {x3 : Int} (hx3 : rp X3_ x3) {X4_ : Int32} {x4 : Int} (hx4 : rp X4_ x4) {X5_ : Int32} {x5 : Int} (hx5 : rp X5_ x5) {M_ : Mem} {M : ZM} (gM : rm M_ M) {r : Int} {m' : ZM} (_ : zL81_61 n k x1 x2 x3 x4 x5 M = some (r, m')), sI (L81_61 n k X1_ X2_ X3_ X4_ X5_ M_) r m' := by
  intro k
  induction k with
  | zero => intro X1_ x1 hx1 X2_ x2 hx2 X3_ x3 hx3 X4_ x4 hx4 X5_ x5 hx5 M_ M gM r m' h; cases h
  | succ k ih =>
    intro X1_ x1 hx1 X2_ x2 hx2 X3_ x3 hx3 X4_ x4 hx4 X5_ x5 hx5 M_ M gM r m' h
    rw [zL81_61] at h
    rw [L81_61]
    by_cases q1 : x2 < 0 ∨ 6 ≤ x2
    · rw [if_pos q1] at h
      rw [if_pos ((rp_ob hx2 6).mpr q1)]
      cases h
    · rw [if_neg q1] at h
      rw [if_neg (fun z => q1 ((rp_ob hx2 6).mp z))]
      by_cases q2 : (M.1 89 (Int.toNat x2)) ≤ x4
      · rw [if_pos q2] at h
        rw [if_pos ((rp_le (rm_rdx gM 89 hx2) hx4).mpr q2)]
        exact zJ81_113_r n hx1 hx3 hx4 hx5 gM h
      · rw [if_neg q2] at h
        rw [if_neg (fun z => q2 ((rp_le (rm_rdx gM 89 hx2) hx4).mp z))]
        by_cases q3 : x5 = 0
        · rw [if_pos q3] at h
          rw [if_pos ((rp_eq hx5 (show rp 0 0 from rfl)).mpr q3)]
          cases hc4 : zF33 n x2 x4 M with
          | none => rw [hc4] at h; cases h
          | some w =>
            obtain ⟨v26, M27⟩ := w
            rw [hc4] at h
            dsimp only at h
            obtain ⟨NM27, ehc4, gM27⟩ := zF33_r n hx2 hx4 gM hc4
            rw [ehc4]
            dsimp only
            exact zJ81_84_r n _ _ ih hx1 hx2 hx3 hx4 gM27 h
        · rw [if_neg q3] at h
          rw [if_neg (fun z => q3 ((rp_eq hx5 (show rp 0 0 from rfl)).mp z))]
          exact zJ81_113_r n hx1 hx3 hx4 hx5 gM h
def zJ81_32 (n : Nat) (zrec4 : Int → Int → Int → ZM → Option (Int × ZM)) (x1 : Int) (x3 : Int) (s0 : Int) (M : ZM) : Option (Int × ZM) :=
  if rg (x3 + 1) then (zrec4 x1 s0 (x3 + 1) M) else none
set_option maxRecDepth 100000 in
set_option maxHeartbeats 4000000 in
theorem zJ81_32_r (n : Nat) (rec4 : Int32 → Int32 → Int32 → Mem → Option (Int32 × Mem)) (zrec4 : Int → Int → Int → ZM → Option (Int × ZM)) (hrec4 : ∀ {Y1 : Int32} {y1 : Int} (_ : rp Y1 y1) {Y2 : Int32} {y2 : Int} (_ : rp Y2 y2) {Y3 : Int32} {y3 : Int} (_ : rp Y3 y3) {M : Mem} {m : ZM} (_ : rm M m) {r : Int} {m' : ZM} (_ : zrec4 y1 y2 y3 m = some (r, m')), sI (rec4 Y1 Y2 Y3 M) r m') {X1_ : Int32} {x1 : Int} (hx1 : rp X1_ x1) {X3_ : Int32} {x3 : Int} (hx3 : rp X3_ x3) {S0_ : Int32} {s0 : Int} (hs0 : rp S0_ s0) {M_ : Mem} {M : ZM} (gM : rm M_ M) {r : Int} {m' : ZM} (h : zJ81_32 n zrec4 x1 x3 s0 M = some (r, m')) : sI (J81_32 n rec4 X1_ X3_ S0_ M_) r m' := by
  unfold zJ81_32 at h
  unfold J81_32
  by_cases w1 : rg (x3 + 1)
  · rw [if_pos w1] at h
    exact hrec4 hx1 hs0 (rp_add (rp_iz hx3) (rp_iz (show rp 1 1 from rfl)) w1) gM h
  · rw [if_neg w1] at h
    cases h
def zJ81_27 (n : Nat) (zrec4 : Int → Int → Int → ZM → Option (Int × ZM)) (x1 : Int) (x3 : Int) (M : ZM) : Option (Int × ZM) :=
  zJ81_32 n zrec4 x1 x3 x3 M
set_option maxRecDepth 100000 in
set_option maxHeartbeats 4000000 in
theorem zJ81_27_r (n : Nat) (rec4 : Int32 → Int32 → Int32 → Mem → Option (Int32 × Mem)) (zrec4 : Int → Int → Int → ZM → Option (Int × ZM)) (hrec4 : ∀ {Y1 : Int32} {y1 : Int} (_ : rp Y1 y1) {Y2 : Int32} {y2 : Int} (_ : rp Y2 y2) {Y3 : Int32} {y3 : Int} (_ : rp Y3 y3) {M : Mem} {m : ZM} (_ : rm M m) {r : Int} {m' : ZM} (_ : zrec4 y1 y2 y3 m = some (r, m')), sI (rec4 Y1 Y2 Y3 M) r m') {X1_ : Int32} {x1 : Int} (hx1 : rp X1_ x1) {X3_ : Int32} {x3 : Int} (hx3 : rp X3_ x3) {M_ : Mem} {M : ZM} (gM : rm M_ M) {r : Int} {m' : ZM} (h : zJ81_27 n zrec4 x1 x3 M = some (r, m')) : sI (J81_27 n rec4 X1_ X3_ M_) r m' := by
  unfold zJ81_27 at h
  unfold J81_27
  exact zJ81_32_r n _ _ hrec4 hx1 hx3 hx3 gM h
def zJ81_31 (n : Nat) (zrec4 : Int → Int → Int → ZM → Option (Int × ZM)) (x1 : Int) (x2 : Int) (x3 : Int) (M : ZM) : Option (Int × ZM) :=
  zJ81_32 n zrec4 x1 x3 x2 M
set_option maxRecDepth 100000 in
set_option maxHeartbeats 4000000 in
theorem zJ81_31_r (n : Nat) (rec4 : Int32 → Int32 → Int32 → Mem → Option (Int32 × Mem)) (zrec4 : Int → Int → Int → ZM → Option (Int × ZM)) (hrec4 : ∀ {Y1 : Int32} {y1 : Int} (_ : rp Y1 y1) {Y2 : Int32} {y2 : Int} (_ : rp Y2 y2) {Y3 : Int32} {y3 : Int} (_ : rp Y3 y3) {M : Mem} {m : ZM} (_ : rm M m) {r : Int} {m' : ZM} (_ : zrec4 y1 y2 y3 m = some (r, m')), sI (rec4 Y1 Y2 Y3 M) r m') {X1_ : Int32} {x1 : Int} (hx1 : rp X1_ x1) {X2_ : Int32} {x2 : Int} (hx2 : rp X2_ x2) {X3_ : Int32} {x3 : Int} (hx3 : rp X3_ x3) {M_ : Mem} {M : ZM} (gM : rm M_ M) {r : Int} {m' : ZM} (h : zJ81_31 n zrec4 x1 x2 x3 M = some (r, m')) : sI (J81_31 n rec4 X1_ X2_ X3_ M_) r m' := by
  unfold zJ81_31 at h
  unfold J81_31
  exact zJ81_32_r n _ _ hrec4 hx1 hx3 hx2 gM h
def zL81_4 (n : Nat) : Nat → Int → Int → Int → ZM → Option (Int × ZM)
  | 0, _, _, _, _ => none
  | k + 1, x1, x2, x3, M => if (M.1 83 9) ≤ x3 then (if 0 ≤ x2 then (if rg (x1 + 2) then (match zF61 n (x1 + 2) M with | some (v3, M4) => (zL81_61 n n x1 x2 v3 0 0 M4) | none => none) else none) else (some ((-2000), M))) else (if x3 < 0 ∨ 6 ≤ x3 then (none) else (if x1 < 0 ∨ 320 ≤ x1 then (none) else (if (M.1 88 (Int.toNat x3)) = (M.1 105 (Int.toNat x1)) then (zJ81_27 n (zL81_4 n k) x1 x3 M) else (zJ81_31 n (zL81_4 n k) x1 x2 x3 M))))
set_option maxRecDepth 100000 in
set_option maxHeartbeats 4000000 in
theorem zL81_4_r (n : Nat) : ∀ (k : Nat) {X1_ : Int32} {x1 : Int} (hx1 : rp X1_ x1) {X2_ : Int32} {x2 : Int} (hx2 : rp X2_ x2) {X3_ : Int32} {x3 : Int} (hx3 : rp X3_ x3) {M_ : Mem} {M : ZM} (gM : rm M_ M) {r : Int} {m' : ZM} (_ : zL81_4 n k x1 x2 x3 M = some (r, m')), sI (L81_4 n k X1_ X2_ X3_ M_) r m' := by
  intro k
  induction k with
  | zero => intro X1_ x1 hx1 X2_ x2 hx2 X3_ x3 hx3 M_ M gM r m' h; cases h
  | succ k ih =>
    intro X1_ x1 hx1 X2_ x2 hx2 X3_ x3 hx3 M_ M gM r m' h
    rw [zL81_4] at h
    rw [L81_4]
    by_cases q1 : (M.1 83 9) ≤ x3
    · rw [if_pos q1] at h
      rw [if_pos ((rp_le (rm_rd gM 83 9) hx3).mpr q1)]
      by_cases q2 : 0 ≤ x2
      · rw [if_pos q2] at h
        rw [if_pos ((rp_le (show rp 0 0 from rfl) hx2).mpr q2)]
        by_cases w3 : rg (x1 + 2)
        · rw [if_pos w3] at h
          cases hc4 : zF61 n (x1 + 2) M with
          | none => rw [hc4] at h; cases h
          | some w =>
            obtain ⟨v3, M4⟩ := w
            rw [hc4] at h
            dsimp only at h
            obtain ⟨V3, NM4, ehc4, hv3, gM4⟩ := zF61_r n (rp_add (rp_iz hx1) (rp_iz (show rp 2 2 from rfl)) w3) gM hc4
            rw [ehc4]
            dsimp only
            exact zL81_61_r n n hx1 hx2 hv3 (show rp 0 0 from rfl) (show rp 0 0 from rfl) gM4 h
        · rw [if_neg w3] at h
          cases h
      · rw [if_neg q2] at h
        rw [if_neg (fun z => q2 ((rp_le (show rp 0 0 from rfl) hx2).mp z))]
        obtain ⟨rfl, rfl⟩ := Prod.mk.inj (Option.some.inj h)
        exact ⟨_, _, rfl, (show rp (-2000) (-2000) from rfl), gM⟩
    · rw [if_neg q1] at h
      rw [if_neg (fun z => q1 ((rp_le (rm_rd gM 83 9) hx3).mp z))]
      by_cases q5 : x3 < 0 ∨ 6 ≤ x3
      · rw [if_pos q5] at h
        rw [if_pos ((rp_ob hx3 6).mpr q5)]
        cases h
      · rw [if_neg q5] at h
        rw [if_neg (fun z => q5 ((rp_ob hx3 6).mp z))]
        by_cases q6 : x1 < 0 ∨ 320 ≤ x1
        · rw [if_pos q6] at h
          rw [if_pos ((rp_ob hx1 320).mpr q6)]
          cases h
        · rw [if_neg q6] at h
          rw [if_neg (fun z => q6 ((rp_ob hx1 320).mp z))]
          by_cases q7 : (M.1 88 (Int.toNat x3)) = (M.1 105 (Int.toNat x1))
          · rw [if_pos q7] at h
            rw [if_pos ((rp_eq (rm_rdx gM 88 hx3) (rm_rdx gM 105 hx1)).mpr q7)]
            exact zJ81_27_r n _ _ ih hx1 hx3 gM h
          · rw [if_neg q7] at h
            rw [if_neg (fun z => q7 ((rp_eq (rm_rdx gM 88 hx3) (rm_rdx gM 105 hx1)).mp z))]
            exact zJ81_31_r n _ _ ih hx1 hx2 hx3 gM h
/-- ArmExpanderModel.call -/
def zF81 (n : Nat) (a0 : Int) (M : ZM) : Option (Int × ZM) :=
  zL81_4 n n a0 (-1) 0 M
set_option maxRecDepth 100000 in
set_option maxHeartbeats 4000000 in
theorem zF81_r (n : Nat) {A0_ : Int32} {a0 : Int} (ha0 : rp A0_ a0) {M_ : Mem} {M : ZM} (gM : rm M_ M) {r : Int} {m' : ZM} (h : zF81 n a0 M = some (r, m')) : sI (F81 n A0_ M_) r m' := by
  unfold zF81 at h
  unfold F81
  exact zL81_4_r n n ha0 (show rp (-1) (-1) from rfl) (show rp 0 0 from rfl) gM h
def zJ82_52 (n : Nat) (zrec30 : Int → ZM → Option (Int × ZM)) (x1 : Int) (x2 : Int) (M : ZM) : Option (Int × ZM) :=
  if 0 ≤ x2 then (zrec30 x1 M) else (some (x2, M))
set_option maxRecDepth 100000 in
set_option maxHeartbeats 4000000 in
theorem zJ82_52_r (n : Nat) (rec30 : Int32 → Mem → Option (Int32 × Mem)) (zrec30 : Int → ZM → Option (Int × ZM)) (hrec30 : ∀ {Y1 : Int32} {y1 : Int} (_ : rp Y1 y1) {M : Mem} {m : ZM} (_ : rm M m) {r : Int} {m' : ZM} (_ : zrec30 y1 m = some (r, m')), sI (rec30 Y1 M) r m') {X1_ : Int32} {x1 : Int} (hx1 : rp X1_ x1) {X2_ : Int32} {x2 : Int} (hx2 : rp X2_ x2) {M_ : Mem} {M : ZM} (gM : rm M_ M) {r : Int} {m' : ZM} (h : zJ82_52 n zrec30 x1 x2 M = some (r, m')) : sI (J82_52 n rec30 X1_ X2_ M_) r m' := by
  unfold zJ82_52 at h
  unfold J82_52
  by_cases q1 : 0 ≤ x2
  · rw [if_pos q1] at h
    rw [if_pos ((rp_le (show rp 0 0 from rfl) hx2).mpr q1)]
    exact hrec30 hx1 gM h
  · rw [if_neg q1] at h
    rw [if_neg (fun z => q1 ((rp_le (show rp 0 0 from rfl) hx2).mp z))]
    obtain ⟨rfl, rfl⟩ := Prod.mk.inj (Option.some.inj h)
    exact ⟨_, _, rfl, hx2, gM⟩
def zL82_30 (n : Nat) : Nat → Int → ZM → Option (Int × ZM)
  | 0, _, _ => none
  | k + 1, x1, M => if (M.1 83 34) ≤ x1 then (zlet (z_i M 83 37 (M.1 83 34)) (fun M11 => some ((M11.1 83 37), M11))) else (match zF79 n x1 M with | some (v12, M13) => (if v12 = 0 then (if rg (x1 + 1) then ((zL82_30 n k) (x1 + 1) M13) else none) else (match zF81 n x1 M13 with | some (v16, M17) => (zJ82_52 n (zL82_30 n k) x1 v16 M17) | none => none)) | none => none)
set_option maxRecDepth 100000 in
set_option maxHeartbeats 4000000 in
theorem zL82_30_r (n : Nat) : ∀ (k : Nat) {X1_ : Int32} {x1 : Int} (hx1 : rp X1_ x1) {M_ : Mem} {M : ZM} (gM : rm M_ M) {r : Int} {m' : ZM} (_ : zL82_30 n k x1 M = some (r, m')), sI (L82_30 n k X1_ M_) r m' := by
  intro k
  induction k with
  | zero => intro X1_ x1 hx1 M_ M gM r m' h; cases h
  | succ k ih =>
    intro X1_ x1 hx1 M_ M gM r m' h
    rw [zL82_30] at h
    rw [L82_30]
    by_cases q1 : (M.1 83 34) ≤ x1
    · rw [if_pos q1] at h
      rw [if_pos ((rp_le (rm_rd gM 83 34) hx1).mpr q1)]
      have gM11 : rm (m_i M_ 83 37 (M_.1 83 34)) (z_i M 83 37 (M.1 83 34)) := rm_i gM 83 37 (rm_rd gM 83 34)
      rw [mlet]
      rw [zlet] at h
      generalize z_i M 83 37 (M.1 83 34) = M11 at h gM11
      generalize m_i M_ 83 37 (M_.1 83 34) = NM11 at gM11 ⊢
      obtain ⟨rfl, rfl⟩ := Prod.mk.inj (Option.some.inj h)
      exact ⟨_, _, rfl, (rm_rd gM11 83 37), gM11⟩
    · rw [if_neg q1] at h
      rw [if_neg (fun z => q1 ((rp_le (rm_rd gM 83 34) hx1).mp z))]
      cases hc2 : zF79 n x1 M with
      | none => rw [hc2] at h; cases h
      | some w =>
        obtain ⟨v12, M13⟩ := w
        rw [hc2] at h
        dsimp only at h
        obtain ⟨V12, NM13, ehc2, hv12, gM13⟩ := zF79_r n hx1 gM hc2
        rw [ehc2]
        dsimp only
        by_cases q3 : v12 = 0
        · rw [if_pos q3] at h
          rw [if_pos ((rp_eq hv12 (show rp 0 0 from rfl)).mpr q3)]
          by_cases w4 : rg (x1 + 1)
          · rw [if_pos w4] at h
            exact ih (rp_add (rp_iz hx1) (rp_iz (show rp 1 1 from rfl)) w4) gM13 h
          · rw [if_neg w4] at h
            cases h
        · rw [if_neg q3] at h
          rw [if_neg (fun z => q3 ((rp_eq hv12 (show rp 0 0 from rfl)).mp z))]
          cases hc5 : zF81 n x1 M13 with
          | none => rw [hc5] at h; cases h
          | some w =>
            obtain ⟨v16, M17⟩ := w
            rw [hc5] at h
            dsimp only at h
            obtain ⟨V16, NM17, ehc5, hv16, gM17⟩ := zF81_r n hx1 gM13 hc5
            rw [ehc5]
            dsimp only
            exact zJ82_52_r n _ _ ih hx1 hv16 gM17 h
def zJ82_14 (n : Nat) (M : ZM) : Option (Int × ZM) :=
  match zF78 n M with | some (v6, M7) => (if v6 = 0 then (if rg ((-1) - (M7.1 83 8)) then (some (((-1) - (M7.1 83 8)), M7)) else none) else (zL82_30 n n 0 M7)) | none => none
set_option maxRecDepth 100000 in
set_option maxHeartbeats 4000000 in
theorem zJ82_14_r (n : Nat) {M_ : Mem} {M : ZM} (gM : rm M_ M) {r : Int} {m' : ZM} (h : zJ82_14 n M = some (r, m')) : sI (J82_14 n M_) r m' := by
  unfold zJ82_14 at h
  unfold J82_14
  cases hc1 : zF78 n M with
  | none => rw [hc1] at h; cases h
  | some w =>
    obtain ⟨v6, M7⟩ := w
    rw [hc1] at h
    dsimp only at h
    obtain ⟨V6, NM7, ehc1, hv6, gM7⟩ := zF78_r n gM hc1
    rw [ehc1]
    dsimp only
    by_cases q2 : v6 = 0
    · rw [if_pos q2] at h
      rw [if_pos ((rp_eq hv6 (show rp 0 0 from rfl)).mpr q2)]
      by_cases w3 : rg ((-1) - (M7.1 83 8))
      · rw [if_pos w3] at h
        obtain ⟨rfl, rfl⟩ := Prod.mk.inj (Option.some.inj h)
        exact ⟨_, _, rfl, (rp_sub (rp_iz (show rp (-1) (-1) from rfl)) (rp_iz (rm_rd gM7 83 8)) w3), gM7⟩
      · rw [if_neg w3] at h
        cases h
    · rw [if_neg q2] at h
      rw [if_neg (fun z => q2 ((rp_eq hv6 (show rp 0 0 from rfl)).mp z))]
      exact zL82_30_r n n (show rp 0 0 from rfl) gM7 h
/-- ArmExpanderModel.expand -/
def zF82 (n : Nat) (M : ZM) : Option (Int × ZM) :=
  zlet (z_i M 83 37 0) (fun M1 => zlet (z_i M1 83 38 0) (fun M2 => match zF32 n M2 with | some (v3, M4) => (zJ82_14 n M4) | none => none))
set_option maxRecDepth 100000 in
set_option maxHeartbeats 4000000 in
theorem zF82_r (n : Nat) {M_ : Mem} {M : ZM} (gM : rm M_ M) {r : Int} {m' : ZM} (h : zF82 n M = some (r, m')) : sI (F82 n M_) r m' := by
  unfold zF82 at h
  unfold F82
  have gM1 : rm (m_i M_ 83 37 (0 : Int32)) (z_i M 83 37 0) := rm_i gM 83 37 (show rp 0 0 from rfl)
  rw [mlet]
  rw [zlet] at h
  generalize z_i M 83 37 0 = M1 at h gM1
  generalize m_i M_ 83 37 (0 : Int32) = NM1 at gM1 ⊢
  have gM2 : rm (m_i NM1 83 38 (0 : Int32)) (z_i M1 83 38 0) := rm_i gM1 83 38 (show rp 0 0 from rfl)
  rw [mlet]
  rw [zlet] at h
  generalize z_i M1 83 38 0 = M2 at h gM2
  generalize m_i NM1 83 38 (0 : Int32) = NM2 at gM2 ⊢
  cases hc1 : zF32 n M2 with
  | none => rw [hc1] at h; cases h
  | some w =>
    obtain ⟨v3, M4⟩ := w
    rw [hc1] at h
    dsimp only at h
    obtain ⟨NM4, ehc1, gM4⟩ := zF32_r n gM2 hc1
    rw [ehc1]
    dsimp only
    exact zJ82_14_r n gM4 h
def zL202_61 (n : Nat) : Nat → Int → Int → ZM → Option (Int × ZM)
  | 0, _, _, _ => none
  | k + 1, x1, x2, M => if (M.1 1 2) ≤ x2 then (if rg (1000 + x1) then (some ((1000 + x1), M)) else none) else (if x2 < 0 ∨ 120 ≤ x2 then (none) else (if rg ((((x1 * 27) + (M.1 2 (Int.toNat x2))) - 97) + 1) ∧ rg (x2 + 1) then ((zL202_61 n k) ((((x1 * 27) + (M.1 2 (Int.toNat x2))) - 97) + 1) (x2 + 1) M) else none))
set_option maxRecDepth 100000 in
set_option maxHeartbeats 4000000 in
theorem zL202_61_r (n : Nat) : ∀ (k : Nat) {X1_ : Int32} {x1 : Int} (hx1 : rp X1_ x1) {X2_ : Int32} {x2 : Int} (hx2 : rp X2_ x2) {M_ : Mem} {M : ZM} (gM : rm M_ M) {r : Int} {m' : ZM} (_ : zL202_61 n k x1 x2 M = some (r, m')), sI (L202_61 n k X1_ X2_ M_) r m' := by
  intro k
  induction k with
  | zero => intro X1_ x1 hx1 X2_ x2 hx2 M_ M gM r m' h; cases h
  | succ k ih =>
    intro X1_ x1 hx1 X2_ x2 hx2 M_ M gM r m' h
    rw [zL202_61] at h
    rw [L202_61]
    by_cases q1 : (M.1 1 2) ≤ x2
    · rw [if_pos q1] at h
      rw [if_pos ((rp_le (rm_rd gM 1 2) hx2).mpr q1)]
      by_cases w2 : rg (1000 + x1)
      · rw [if_pos w2] at h
        obtain ⟨rfl, rfl⟩ := Prod.mk.inj (Option.some.inj h)
        exact ⟨_, _, rfl, (rp_add (rp_iz (show rp 1000 1000 from rfl)) (rp_iz hx1) w2), gM⟩
      · rw [if_neg w2] at h
        cases h
    · rw [if_neg q1] at h
      rw [if_neg (fun z => q1 ((rp_le (rm_rd gM 1 2) hx2).mp z))]
      by_cases q3 : x2 < 0 ∨ 120 ≤ x2
      · rw [if_pos q3] at h
        rw [if_pos ((rp_ob hx2 120).mpr q3)]
        cases h
      · rw [if_neg q3] at h
        rw [if_neg (fun z => q3 ((rp_ob hx2 120).mp z))]
        by_cases w4 : rg ((((x1 * 27) + (M.1 2 (Int.toNat x2))) - 97) + 1) ∧ rg (x2 + 1)
        · rw [if_pos w4] at h
          exact ih (rp_add (rw_sub (rw_add (rw_mul (rp_iz hx1) (rp_iz (show rp 27 27 from rfl))) (rp_iz (rm_rdx gM 2 hx2))) (rp_iz (show rp 97 97 from rfl))) (rp_iz (show rp 1 1 from rfl)) w4.1) (rp_add (rp_iz hx2) (rp_iz (show rp 1 1 from rfl)) w4.2) gM h
        · rw [if_neg w4] at h
          cases h
def zJ202_39 (n : Nat) (M : ZM) : Option (Int × ZM) :=
  if rg ((M.1 1 2) - (M.1 1 3)) then (if ((M.1 1 2) - (M.1 1 3)) ≤ 3 then (zL202_61 n n 0 (M.1 1 3) M) else (some ((-1), M))) else none
set_option maxRecDepth 100000 in
set_option maxHeartbeats 4000000 in
theorem zJ202_39_r (n : Nat) {M_ : Mem} {M : ZM} (gM : rm M_ M) {r : Int} {m' : ZM} (h : zJ202_39 n M = some (r, m')) : sI (J202_39 n M_) r m' := by
  unfold zJ202_39 at h
  unfold J202_39
  by_cases w1 : rg ((M.1 1 2) - (M.1 1 3))
  · rw [if_pos w1] at h
    by_cases q2 : ((M.1 1 2) - (M.1 1 3)) ≤ 3
    · rw [if_pos q2] at h
      rw [if_pos ((rp_le (rp_sub (rp_iz (rm_rd gM 1 2)) (rp_iz (rm_rd gM 1 3)) w1) (show rp 3 3 from rfl)).mpr q2)]
      exact zL202_61_r n n (show rp 0 0 from rfl) (rm_rd gM 1 3) gM h
    · rw [if_neg q2] at h
      rw [if_neg (fun z => q2 ((rp_le (rp_sub (rp_iz (rm_rd gM 1 2)) (rp_iz (rm_rd gM 1 3)) w1) (show rp 3 3 from rfl)).mp z))]
      obtain ⟨rfl, rfl⟩ := Prod.mk.inj (Option.some.inj h)
      exact ⟨_, _, rfl, (show rp (-1) (-1) from rfl), gM⟩
  · rw [if_neg w1] at h
    cases h
def zJ202_26 (n : Nat) (zrec0 : ZM → Option (Int × ZM)) (M : ZM) : Option (Int × ZM) :=
  if rg ((M.1 1 2) + 1) then (zlet (z_i M 1 2 ((M.1 1 2) + 1)) (fun M10 => zrec0 M10)) else none
set_option maxRecDepth 100000 in
set_option maxHeartbeats 4000000 in
theorem zJ202_26_r (n : Nat) (rec0 : Mem → Option (Int32 × Mem)) (zrec0 : ZM → Option (Int × ZM)) (hrec0 : ∀ {M : Mem} {m : ZM} (_ : rm M m) {r : Int} {m' : ZM} (_ : zrec0 m = some (r, m')), sI (rec0 M) r m') {M_ : Mem} {M : ZM} (gM : rm M_ M) {r : Int} {m' : ZM} (h : zJ202_26 n zrec0 M = some (r, m')) : sI (J202_26 n rec0 M_) r m' := by
  unfold zJ202_26 at h
  unfold J202_26
  by_cases w1 : rg ((M.1 1 2) + 1)
  · rw [if_pos w1] at h
    have gM10 : rm (m_i M_ 1 2 ((M_.1 1 2) + (1 : Int32))) (z_i M 1 2 ((M.1 1 2) + 1)) := rm_i gM 1 2 (rp_add (rp_iz (rm_rd gM 1 2)) (rp_iz (show rp 1 1 from rfl)) w1)
    rw [mlet]
    rw [zlet] at h
    generalize z_i M 1 2 ((M.1 1 2) + 1) = M10 at h gM10
    generalize m_i M_ 1 2 ((M_.1 1 2) + (1 : Int32)) = NM10 at gM10 ⊢
    exact hrec0 gM10 h
  · rw [if_neg w1] at h
    cases h
def zL202_0 (n : Nat) : Nat → ZM → Option (Int × ZM)
  | 0, _ => none
  | k + 1, M => if (M.1 1 1) ≤ (M.1 1 2) then (zJ202_39 n M) else (if (M.1 1 2) < 0 ∨ 120 ≤ (M.1 1 2) then (none) else (match zF205 n (M.1 2 (Int.toNat (M.1 1 2))) M with | some (v6, M7) => (if v6 = 0 then (zJ202_39 n M7) else (zJ202_26 n (zL202_0 n k) M7)) | none => none))
set_option maxRecDepth 100000 in
set_option maxHeartbeats 4000000 in
theorem zL202_0_r (n : Nat) : ∀ (k : Nat) {M_ : Mem} {M : ZM} (gM : rm M_ M) {r : Int} {m' : ZM} (_ : zL202_0 n k M = some (r, m')), sI (L202_0 n k M_) r m' := by
  intro k
  induction k with
  | zero => intro M_ M gM r m' h; cases h
  | succ k ih =>
    intro M_ M gM r m' h
    rw [zL202_0] at h
    rw [L202_0]
    by_cases q1 : (M.1 1 1) ≤ (M.1 1 2)
    · rw [if_pos q1] at h
      rw [if_pos ((rp_le (rm_rd gM 1 1) (rm_rd gM 1 2)).mpr q1)]
      exact zJ202_39_r n gM h
    · rw [if_neg q1] at h
      rw [if_neg (fun z => q1 ((rp_le (rm_rd gM 1 1) (rm_rd gM 1 2)).mp z))]
      by_cases q2 : (M.1 1 2) < 0 ∨ 120 ≤ (M.1 1 2)
      · rw [if_pos q2] at h
        rw [if_pos ((rp_ob (rm_rd gM 1 2) 120).mpr q2)]
        cases h
      · rw [if_neg q2] at h
        rw [if_neg (fun z => q2 ((rp_ob (rm_rd gM 1 2) 120).mp z))]
        cases hc3 : zF205 n (M.1 2 (Int.toNat (M.1 1 2))) M with
        | none => rw [hc3] at h; cases h
        | some w =>
          obtain ⟨v6, M7⟩ := w
          rw [hc3] at h
          dsimp only at h
          obtain ⟨V6, NM7, ehc3, hv6, gM7⟩ := zF205_r n (rm_rdx gM 2 (rm_rd gM 1 2)) gM hc3
          rw [ehc3]
          dsimp only
          by_cases q4 : v6 = 0
          · rw [if_pos q4] at h
            rw [if_pos ((rp_eq hv6 (show rp 0 0 from rfl)).mpr q4)]
            exact zJ202_39_r n gM7 h
          · rw [if_neg q4] at h
            rw [if_neg (fun z => q4 ((rp_eq hv6 (show rp 0 0 from rfl)).mp z))]
            exact zJ202_26_r n _ _ ih gM7 h
/-- ArmExpander$TypedText.readWord -/
def zF202 (n : Nat) (M : ZM) : Option (Int × ZM) :=
  zL202_0 n n M
set_option maxRecDepth 100000 in
set_option maxHeartbeats 4000000 in
theorem zF202_r (n : Nat) {M_ : Mem} {M : ZM} (gM : rm M_ M) {r : Int} {m' : ZM} (h : zF202 n M = some (r, m')) : sI (F202 n M_) r m' := by
  unfold zF202 at h
  unfold F202
  exact zL202_0_r n n gM h
def zJ203_73 (n : Nat) (M : ZM) : Option (Int × ZM) :=
  some ((-1), M)
set_option maxRecDepth 100000 in
set_option maxHeartbeats 4000000 in
theorem zJ203_73_r (n : Nat) {M_ : Mem} {M : ZM} (gM : rm M_ M) {r : Int} {m' : ZM} (h : zJ203_73 n M = some (r, m')) : sI (J203_73 n M_) r m' := by
  unfold zJ203_73 at h
  unfold J203_73
  obtain ⟨rfl, rfl⟩ := Prod.mk.inj (Option.some.inj h)
  exact ⟨_, _, rfl, (show rp (-1) (-1) from rfl), gM⟩
def zL203_82 (n : Nat) : Nat → Int → Int → ZM → Option (Int × ZM)
  | 0, _, _, _ => none
  | k + 1, x2, x3, M => if (M.1 1 2) ≤ x3 then (if rg (300 + x2) then (some ((300 + x2), M)) else none) else (if x3 < 0 ∨ 120 ≤ x3 then (none) else (if rg (((x2 * 10) + (M.1 2 (Int.toNat x3))) - 48) ∧ rg (x3 + 1) then ((zL203_82 n k) (((x2 * 10) + (M.1 2 (Int.toNat x3))) - 48) (x3 + 1) M) else none))
set_option maxRecDepth 100000 in
set_option maxHeartbeats 4000000 in
theorem zL203_82_r (n : Nat) : ∀ (k : Nat) {X2_ : Int32} {x2 : Int} (hx2 : rp X2_ x2) {X3_ : Int32} {x3 : Int} (hx3 : rp X3_ x3) {M_ : Mem} {M : ZM} (gM : rm M_ M) {r : Int} {m' : ZM} (_ : zL203_82 n k x2 x3 M = some (r, m')), sI (L203_82 n k X2_ X3_ M_) r m' := by
  intro k
  induction k with
  | zero => intro X2_ x2 hx2 X3_ x3 hx3 M_ M gM r m' h; cases h
  | succ k ih =>
    intro X2_ x2 hx2 X3_ x3 hx3 M_ M gM r m' h
    rw [zL203_82] at h
    rw [L203_82]
    by_cases q1 : (M.1 1 2) ≤ x3
    · rw [if_pos q1] at h
      rw [if_pos ((rp_le (rm_rd gM 1 2) hx3).mpr q1)]
      by_cases w2 : rg (300 + x2)
      · rw [if_pos w2] at h
        obtain ⟨rfl, rfl⟩ := Prod.mk.inj (Option.some.inj h)
        exact ⟨_, _, rfl, (rp_add (rp_iz (show rp 300 300 from rfl)) (rp_iz hx2) w2), gM⟩
      · rw [if_neg w2] at h
        cases h
    · rw [if_neg q1] at h
      rw [if_neg (fun z => q1 ((rp_le (rm_rd gM 1 2) hx3).mp z))]
      by_cases q3 : x3 < 0 ∨ 120 ≤ x3
      · rw [if_pos q3] at h
        rw [if_pos ((rp_ob hx3 120).mpr q3)]
        cases h
      · rw [if_neg q3] at h
        rw [if_neg (fun z => q3 ((rp_ob hx3 120).mp z))]
        by_cases w4 : rg (((x2 * 10) + (M.1 2 (Int.toNat x3))) - 48) ∧ rg (x3 + 1)
        · rw [if_pos w4] at h
          exact ih (rp_sub (rw_add (rw_mul (rp_iz hx2) (rp_iz (show rp 10 10 from rfl))) (rp_iz (rm_rdx gM 2 hx3))) (rp_iz (show rp 48 48 from rfl)) w4.1) (rp_add (rp_iz hx3) (rp_iz (show rp 1 1 from rfl)) w4.2) gM h
        · rw [if_neg w4] at h
          cases h
def zJ203_75 (n : Nat) (M : ZM) : Option (Int × ZM) :=
  zL203_82 n n 0 (M.1 1 3) M
set_option maxRecDepth 100000 in
set_option maxHeartbeats 4000000 in
theorem zJ203_75_r (n : Nat) {M_ : Mem} {M : ZM} (gM : rm M_ M) {r : Int} {m' : ZM} (h : zJ203_75 n M = some (r, m')) : sI (J203_75 n M_) r m' := by
  unfold zJ203_75 at h
  unfold J203_75
  exact zL203_82_r n n (show rp 0 0 from rfl) (rm_rd gM 1 3) gM h
def zJ203_39 (n : Nat) (M : ZM) : Option (Int × ZM) :=
  if rg ((M.1 1 2) - (M.1 1 3)) then (if 2 < ((M.1 1 2) - (M.1 1 3)) then (zJ203_73 n M) else (if ((M.1 1 2) - (M.1 1 3)) = 2 then (if (M.1 1 3) < 0 ∨ 120 ≤ (M.1 1 3) then (none) else (if (M.1 2 (Int.toNat (M.1 1 3))) = 48 then (zJ203_73 n M) else (zJ203_75 n M))) else (zJ203_75 n M))) else none
set_option maxRecDepth 100000 in
set_option maxHeartbeats 4000000 in
theorem zJ203_39_r (n : Nat) {M_ : Mem} {M : ZM} (gM : rm M_ M) {r : Int} {m' : ZM} (h : zJ203_39 n M = some (r, m')) : sI (J203_39 n M_) r m' := by
  unfold zJ203_39 at h
  unfold J203_39
  by_cases w1 : rg ((M.1 1 2) - (M.1 1 3))
  · rw [if_pos w1] at h
    by_cases q2 : 2 < ((M.1 1 2) - (M.1 1 3))
    · rw [if_pos q2] at h
      rw [if_pos ((rp_lt (show rp 2 2 from rfl) (rp_sub (rp_iz (rm_rd gM 1 2)) (rp_iz (rm_rd gM 1 3)) w1)).mpr q2)]
      exact zJ203_73_r n gM h
    · rw [if_neg q2] at h
      rw [if_neg (fun z => q2 ((rp_lt (show rp 2 2 from rfl) (rp_sub (rp_iz (rm_rd gM 1 2)) (rp_iz (rm_rd gM 1 3)) w1)).mp z))]
      by_cases q3 : ((M.1 1 2) - (M.1 1 3)) = 2
      · rw [if_pos q3] at h
        rw [if_pos ((rp_eq (rp_sub (rp_iz (rm_rd gM 1 2)) (rp_iz (rm_rd gM 1 3)) w1) (show rp 2 2 from rfl)).mpr q3)]
        by_cases q4 : (M.1 1 3) < 0 ∨ 120 ≤ (M.1 1 3)
        · rw [if_pos q4] at h
          rw [if_pos ((rp_ob (rm_rd gM 1 3) 120).mpr q4)]
          cases h
        · rw [if_neg q4] at h
          rw [if_neg (fun z => q4 ((rp_ob (rm_rd gM 1 3) 120).mp z))]
          by_cases q5 : (M.1 2 (Int.toNat (M.1 1 3))) = 48
          · rw [if_pos q5] at h
            rw [if_pos ((rp_eq (rm_rdx gM 2 (rm_rd gM 1 3)) (show rp 48 48 from rfl)).mpr q5)]
            exact zJ203_73_r n gM h
          · rw [if_neg q5] at h
            rw [if_neg (fun z => q5 ((rp_eq (rm_rdx gM 2 (rm_rd gM 1 3)) (show rp 48 48 from rfl)).mp z))]
            exact zJ203_75_r n gM h
      · rw [if_neg q3] at h
        rw [if_neg (fun z => q3 ((rp_eq (rp_sub (rp_iz (rm_rd gM 1 2)) (rp_iz (rm_rd gM 1 3)) w1) (show rp 2 2 from rfl)).mp z))]
        exact zJ203_75_r n gM h
  · rw [if_neg w1] at h
    cases h
def zJ203_26 (n : Nat) (zrec0 : ZM → Option (Int × ZM)) (M : ZM) : Option (Int × ZM) :=
  if rg ((M.1 1 2) + 1) then (zlet (z_i M 1 2 ((M.1 1 2) + 1)) (fun M13 => zrec0 M13)) else none
set_option maxRecDepth 100000 in
set_option maxHeartbeats 4000000 in
theorem zJ203_26_r (n : Nat) (rec0 : Mem → Option (Int32 × Mem)) (zrec0 : ZM → Option (Int × ZM)) (hrec0 : ∀ {M : Mem} {m : ZM} (_ : rm M m) {r : Int} {m' : ZM} (_ : zrec0 m = some (r, m')), sI (rec0 M) r m') {M_ : Mem} {M : ZM} (gM : rm M_ M) {r : Int} {m' : ZM} (h : zJ203_26 n zrec0 M = some (r, m')) : sI (J203_26 n rec0 M_) r m' := by
  unfold zJ203_26 at h
  unfold J203_26
  by_cases w1 : rg ((M.1 1 2) + 1)
  · rw [if_pos w1] at h
    have gM13 : rm (m_i M_ 1 2 ((M_.1 1 2) + (1 : Int32))) (z_i M 1 2 ((M.1 1 2) + 1)) := rm_i gM 1 2 (rp_add (rp_iz (rm_rd gM 1 2)) (rp_iz (show rp 1 1 from rfl)) w1)
    rw [mlet]
    rw [zlet] at h
    generalize z_i M 1 2 ((M.1 1 2) + 1) = M13 at h gM13
    generalize m_i M_ 1 2 ((M_.1 1 2) + (1 : Int32)) = NM13 at gM13 ⊢
    exact hrec0 gM13 h
  · rw [if_neg w1] at h
    cases h
def zL203_0 (n : Nat) : Nat → ZM → Option (Int × ZM)
  | 0, _ => none
  | k + 1, M => if (M.1 1 1) ≤ (M.1 1 2) then (zJ203_39 n M) else (if (M.1 1 2) < 0 ∨ 120 ≤ (M.1 1 2) then (none) else (match zF206 n (M.1 2 (Int.toNat (M.1 1 2))) M with | some (v9, M10) => (if v9 = 0 then (zJ203_39 n M10) else (zJ203_26 n (zL203_0 n k) M10)) | none => none))
set_option maxRecDepth 100000 in
set_option maxHeartbeats 4000000 in
theorem zL203_0_r (n : Nat) : ∀ (k : Nat) {M_ : Mem} {M : ZM} (gM : rm M_ M) {r : Int} {m' : ZM} (_ : zL203_0 n k M = some (r, m')), sI (L203_0 n k M_) r m' := by
  intro k
  induction k with
  | zero => intro M_ M gM r m' h; cases h
  | succ k ih =>
    intro M_ M gM r m' h
    rw [zL203_0] at h
    rw [L203_0]
    by_cases q1 : (M.1 1 1) ≤ (M.1 1 2)
    · rw [if_pos q1] at h
      rw [if_pos ((rp_le (rm_rd gM 1 1) (rm_rd gM 1 2)).mpr q1)]
      exact zJ203_39_r n gM h
    · rw [if_neg q1] at h
      rw [if_neg (fun z => q1 ((rp_le (rm_rd gM 1 1) (rm_rd gM 1 2)).mp z))]
      by_cases q2 : (M.1 1 2) < 0 ∨ 120 ≤ (M.1 1 2)
      · rw [if_pos q2] at h
        rw [if_pos ((rp_ob (rm_rd gM 1 2) 120).mpr q2)]
        cases h
      · rw [if_neg q2] at h
        rw [if_neg (fun z => q2 ((rp_ob (rm_rd gM 1 2) 120).mp z))]
        cases hc3 : zF206 n (M.1 2 (Int.toNat (M.1 1 2))) M with
        | none => rw [hc3] at h; cases h
        | some w =>
          obtain ⟨v9, M10⟩ := w
          rw [hc3] at h
          dsimp only at h
          obtain ⟨V9, NM10, ehc3, hv9, gM10⟩ := zF206_r n (rm_rdx gM 2 (rm_rd gM 1 2)) gM hc3
          rw [ehc3]
          dsimp only
          by_cases q4 : v9 = 0
          · rw [if_pos q4] at h
            rw [if_pos ((rp_eq hv9 (show rp 0 0 from rfl)).mpr q4)]
            exact zJ203_39_r n gM10 h
          · rw [if_neg q4] at h
            rw [if_neg (fun z => q4 ((rp_eq hv9 (show rp 0 0 from rfl)).mp z))]
            exact zJ203_26_r n _ _ ih gM10 h
/-- ArmExpander$TypedText.readNumber -/
def zF203 (n : Nat) (M : ZM) : Option (Int × ZM) :=
  zL203_0 n n M
set_option maxRecDepth 100000 in
set_option maxHeartbeats 4000000 in
theorem zF203_r (n : Nat) {M_ : Mem} {M : ZM} (gM : rm M_ M) {r : Int} {m' : ZM} (h : zF203 n M = some (r, m')) : sI (F203 n M_) r m' := by
  unfold zF203 at h
  unfold F203
  exact zL203_0_r n n gM h
def zJ130_48 (n : Nat) (s0 : Int) (M : ZM) : Option (Int × ZM) :=
  match zF129 n s0 4 M with | some (v14, M15) => (if v14 = 0 ∨ v14 = 1 then (some (v14, M15)) else (none)) | none => none
set_option maxRecDepth 100000 in
set_option maxHeartbeats 4000000 in
theorem zJ130_48_r (n : Nat) {S0_ : Int32} {s0 : Int} (hs0 : rp S0_ s0) {M_ : Mem} {M : ZM} (gM : rm M_ M) {r : Int} {m' : ZM} (h : zJ130_48 n s0 M = some (r, m')) : sI (J130_48 n S0_ M_) r m' := by
  unfold zJ130_48 at h
  unfold J130_48
  cases hc1 : zF129 n s0 4 M with
  | none => rw [hc1] at h; cases h
  | some w =>
    obtain ⟨v14, M15⟩ := w
    rw [hc1] at h
    dsimp only at h
    obtain ⟨V14, NM15, ehc1, hv14, gM15⟩ := zF129_r n hs0 (show rp 4 4 from rfl) gM hc1
    rw [ehc1]
    dsimp only
    by_cases q2 : v14 = 0 ∨ v14 = 1
    · rw [if_pos q2] at h
      rw [if_pos ((or_congr (rp_eq hv14 (show rp 0 0 from rfl)) (rp_eq hv14 (show rp 1 1 from rfl))).mpr q2)]
      obtain ⟨rfl, rfl⟩ := Prod.mk.inj (Option.some.inj h)
      exact ⟨_, _, rfl, hv14, gM15⟩
    · rw [if_neg q2] at h
      rw [if_neg (fun z => q2 ((or_congr (rp_eq hv14 (show rp 0 0 from rfl)) (rp_eq hv14 (show rp 1 1 from rfl))).mp z))]
      cases h
def zJ130_47 (n : Nat) (M : ZM) : Option (Int × ZM) :=
  zJ130_48 n 0 M
set_option maxRecDepth 100000 in
set_option maxHeartbeats 4000000 in
theorem zJ130_47_r (n : Nat) {M_ : Mem} {M : ZM} (gM : rm M_ M) {r : Int} {m' : ZM} (h : zJ130_47 n M = some (r, m')) : sI (J130_47 n M_) r m' := by
  unfold zJ130_47 at h
  unfold J130_47
  exact zJ130_48_r n (show rp 0 0 from rfl) gM h
def zJ130_21 (n : Nat) (x1 : Int) (M : ZM) : Option (Int × ZM) :=
  if x1 = 40 then (match zF162 n 4 (M.1 3 3) x1 M with | some (v10, M11) => (if v10 = 0 then (zJ130_47 n M11) else (zJ130_48 n 1 M11)) | none => none) else (zJ130_47 n M)
set_option maxRecDepth 100000 in
set_option maxHeartbeats 4000000 in
theorem zJ130_21_r (n : Nat) {X1_ : Int32} {x1 : Int} (hx1 : rp X1_ x1) {M_ : Mem} {M : ZM} (gM : rm M_ M) {r : Int} {m' : ZM} (h : zJ130_21 n x1 M = some (r, m')) : sI (J130_21 n X1_ M_) r m' := by
  unfold zJ130_21 at h
  unfold J130_21
  by_cases q1 : x1 = 40
  · rw [if_pos q1] at h
    rw [if_pos ((rp_eq hx1 (show rp 40 40 from rfl)).mpr q1)]
    cases hc2 : zF162 n 4 (M.1 3 3) x1 M with
    | none => rw [hc2] at h; cases h
    | some w =>
      obtain ⟨v10, M11⟩ := w
      rw [hc2] at h
      dsimp only at h
      obtain ⟨V10, NM11, ehc2, hv10, gM11⟩ := zF162_r n 4 (rm_rd gM 3 3) hx1 gM hc2
      rw [ehc2]
      dsimp only
      by_cases q3 : v10 = 0
      · rw [if_pos q3] at h
        rw [if_pos ((rp_eq hv10 (show rp 0 0 from rfl)).mpr q3)]
        exact zJ130_47_r n gM11 h
      · rw [if_neg q3] at h
        rw [if_neg (fun z => q3 ((rp_eq hv10 (show rp 0 0 from rfl)).mp z))]
        exact zJ130_48_r n (show rp 1 1 from rfl) gM11 h
  · rw [if_neg q1] at h
    rw [if_neg (fun z => q1 ((rp_eq hx1 (show rp 40 40 from rfl)).mp z))]
    exact zJ130_47_r n gM h
/-- ArmExpander$DefinitionReader.acceptsPattern -/
def zF130 (n : Nat) (a0 : Int) (M : ZM) : Option (Int × ZM) :=
  zlet (z_i M 3 4 1) (fun M1 => zlet (z_i M1 3 5 0) (fun M2 => match M2.2.1 3 1 with | some p3 => (if isD p3 then (match zF103 n p3 (M2.1 3 3) M2 with | some (v6, M7) => (zJ130_21 n a0 M7) | none => none) else (none)) | none => (none)))
set_option maxRecDepth 100000 in
set_option maxHeartbeats 4000000 in
theorem zF130_r (n : Nat) {A0_ : Int32} {a0 : Int} (ha0 : rp A0_ a0) {M_ : Mem} {M : ZM} (gM : rm M_ M) {r : Int} {m' : ZM} (h : zF130 n a0 M = some (r, m')) : sI (F130 n A0_ M_) r m' := by
  unfold zF130 at h
  unfold F130
  have gM1 : rm (m_i M_ 3 4 (1 : Int32)) (z_i M 3 4 1) := rm_i gM 3 4 (show rp 1 1 from rfl)
  rw [mlet]
  rw [zlet] at h
  generalize z_i M 3 4 1 = M1 at h gM1
  generalize m_i M_ 3 4 (1 : Int32) = NM1 at gM1 ⊢
  have gM2 : rm (m_i NM1 3 5 (0 : Int32)) (z_i M1 3 5 0) := rm_i gM1 3 5 (show rp 0 0 from rfl)
  rw [mlet]
  rw [zlet] at h
  generalize z_i M1 3 5 0 = M2 at h gM2
  generalize m_i NM1 3 5 (0 : Int32) = NM2 at gM2 ⊢
  rw [rm_rf gM2 3 1]
  cases hq1 : M2.2.1 3 1 with
  | none =>
    rw [hq1] at h
    dsimp only at h ⊢
    cases h
  | some p3 =>
    rw [hq1] at h
    dsimp only at h ⊢
    by_cases q2 : isD p3
    · rw [if_pos q2] at h
      rw [if_pos (Iff.rfl.mpr q2)]
      cases hc3 : zF103 n p3 (M2.1 3 3) M2 with
      | none => rw [hc3] at h; cases h
      | some w =>
        obtain ⟨v6, M7⟩ := w
        rw [hc3] at h
        dsimp only at h
        obtain ⟨NM7, ehc3, gM7⟩ := zF103_r n p3 (rm_rd gM2 3 3) gM2 hc3
        rw [ehc3]
        dsimp only
        exact zJ130_21_r n ha0 gM7 h
    · rw [if_neg q2] at h
      rw [if_neg (fun z => q2 (Iff.rfl.mp z))]
      cases h
def zJ132_100 (n : Nat) (M : ZM) : Option (Int × ZM) :=
  some (1, M)
set_option maxRecDepth 100000 in
set_option maxHeartbeats 4000000 in
theorem zJ132_100_r (n : Nat) {M_ : Mem} {M : ZM} (gM : rm M_ M) {r : Int} {m' : ZM} (h : zJ132_100 n M = some (r, m')) : sI (J132_100 n M_) r m' := by
  unfold zJ132_100 at h
  unfold J132_100
  obtain ⟨rfl, rfl⟩ := Prod.mk.inj (Option.some.inj h)
  exact ⟨_, _, rfl, (show rp 1 1 from rfl), gM⟩
def zJ132_94 (n : Nat) (M : ZM) : Option (Int × ZM) :=
  zlet (z_i M 3 2 8) (fun M30 => zJ132_100 n M30)
set_option maxRecDepth 100000 in
set_option maxHeartbeats 4000000 in
theorem zJ132_94_r (n : Nat) {M_ : Mem} {M : ZM} (gM : rm M_ M) {r : Int} {m' : ZM} (h : zJ132_94 n M = some (r, m')) : sI (J132_94 n M_) r m' := by
  unfold zJ132_94 at h
  unfold J132_94
  have gM30 : rm (m_i M_ 3 2 (8 : Int32)) (z_i M 3 2 8) := rm_i gM 3 2 (show rp 8 8 from rfl)
  rw [mlet]
  rw [zlet] at h
  generalize z_i M 3 2 8 = M30 at h gM30
  generalize m_i M_ 3 2 (8 : Int32) = NM30 at gM30 ⊢
  exact zJ132_100_r n gM30 h
def zJ132_71 (n : Nat) (M : ZM) : Option (Int × ZM) :=
  if (M.1 3 7) = (-1) then (zJ132_100 n M) else (match M.2.1 3 1 with | some p23 => (if isD p23 then (match zF121 n p23 (M.1 3 7) M with | some (v26, M27) => (zlet (z_i M27 3 6 v26) (fun M29 => zJ132_94 n M29)) | none => none) else (none)) | none => (none))
set_option maxRecDepth 100000 in
set_option maxHeartbeats 4000000 in
theorem zJ132_71_r (n : Nat) {M_ : Mem} {M : ZM} (gM : rm M_ M) {r : Int} {m' : ZM} (h : zJ132_71 n M = some (r, m')) : sI (J132_71 n M_) r m' := by
  unfold zJ132_71 at h
  unfold J132_71
  by_cases q1 : (M.1 3 7) = (-1)
  · rw [if_pos q1] at h
    rw [if_pos ((rp_eq (rm_rd gM 3 7) (show rp (-1) (-1) from rfl)).mpr q1)]
    exact zJ132_100_r n gM h
  · rw [if_neg q1] at h
    rw [if_neg (fun z => q1 ((rp_eq (rm_rd gM 3 7) (show rp (-1) (-1) from rfl)).mp z))]
    rw [rm_rf gM 3 1]
    cases hq2 : M.2.1 3 1 with
    | none =>
      rw [hq2] at h
      dsimp only at h ⊢
      cases h
    | some p23 =>
      rw [hq2] at h
      dsimp only at h ⊢
      by_cases q3 : isD p23
      · rw [if_pos q3] at h
        rw [if_pos (Iff.rfl.mpr q3)]
        cases hc4 : zF121 n p23 (M.1 3 7) M with
        | none => rw [hc4] at h; cases h
        | some w =>
          obtain ⟨v26, M27⟩ := w
          rw [hc4] at h
          dsimp only at h
          obtain ⟨V26, NM27, ehc4, hv26, gM27⟩ := zF121_r n p23 (rm_rd gM 3 7) gM hc4
          rw [ehc4]
          dsimp only
          have gM29 : rm (m_i NM27 3 6 V26) (z_i M27 3 6 v26) := rm_i gM27 3 6 hv26
          rw [mlet]
          rw [zlet] at h
          generalize z_i M27 3 6 v26 = M29 at h gM29
          generalize m_i NM27 3 6 V26 = NM29 at gM29 ⊢
          exact zJ132_94_r n gM29 h
      · rw [if_neg q3] at h
        rw [if_neg (fun z => q3 (Iff.rfl.mp z))]
        cases h
def zJ132_52 (n : Nat) (s0 : Int) (s1 : Int) (M : ZM) : Option (Int × ZM) :=
  match zF129 n s1 s0 M with | some (v32, M33) => (if v32 = 0 ∨ v32 = 1 then (some (v32, M33)) else (none)) | none => none
set_option maxRecDepth 100000 in
set_option maxHeartbeats 4000000 in
theorem zJ132_52_r (n : Nat) {S0_ : Int32} {s0 : Int} (hs0 : rp S0_ s0) {S1_ : Int32} {s1 : Int} (hs1 : rp S1_ s1) {M_ : Mem} {M : ZM} (gM : rm M_ M) {r : Int} {m' : ZM} (h : zJ132_52 n s0 s1 M = some (r, m')) : sI (J132_52 n S0_ S1_ M_) r m' := by
  unfold zJ132_52 at h
  unfold J132_52
  cases hc1 : zF129 n s1 s0 M with
  | none => rw [hc1] at h; cases h
  | some w =>
    obtain ⟨v32, M33⟩ := w
    rw [hc1] at h
    dsimp only at h
    obtain ⟨V32, NM33, ehc1, hv32, gM33⟩ := zF129_r n hs1 hs0 gM hc1
    rw [ehc1]
    dsimp only
    by_cases q2 : v32 = 0 ∨ v32 = 1
    · rw [if_pos q2] at h
      rw [if_pos ((or_congr (rp_eq hv32 (show rp 0 0 from rfl)) (rp_eq hv32 (show rp 1 1 from rfl))).mpr q2)]
      obtain ⟨rfl, rfl⟩ := Prod.mk.inj (Option.some.inj h)
      exact ⟨_, _, rfl, hv32, gM33⟩
    · rw [if_neg q2] at h
      rw [if_neg (fun z => q2 ((or_congr (rp_eq hv32 (show rp 0 0 from rfl)) (rp_eq hv32 (show rp 1 1 from rfl))).mp z))]
      cases h
def zJ132_28 (n : Nat) (M : ZM) : Option (Int × ZM) :=
  match zF161 n 4 M with | some (v11, M12) => (if v11 = 0 then (match M12.2.1 3 1 with | some p15 => (if isD p15 then (match zF117 n p15 (M12.1 3 3) M12 with | some (v18, M19) => (zlet (z_i M19 3 7 v18) (fun M21 => zJ132_71 n M21)) | none => none) else (none)) | none => (none)) else (if (M12.1 3 4) = 0 then (zJ132_52 n 3 1 M12) else (zJ132_52 n 2 1 M12))) | none => none
set_option maxRecDepth 100000 in
set_option maxHeartbeats 4000000 in
theorem zJ132_28_r (n : Nat) {M_ : Mem} {M : ZM} (gM : rm M_ M) {r : Int} {m' : ZM} (h : zJ132_28 n M = some (r, m')) : sI (J132_28 n M_) r m' := by
  unfold zJ132_28 at h
  unfold J132_28
  cases hc1 : zF161 n 4 M with
  | none => rw [hc1] at h; cases h
  | some w =>
    obtain ⟨v11, M12⟩ := w
    rw [hc1] at h
    dsimp only at h
    obtain ⟨V11, NM12, ehc1, hv11, gM12⟩ := zF161_r n 4 gM hc1
    rw [ehc1]
    dsimp only
    by_cases q2 : v11 = 0
    · rw [if_pos q2] at h
      rw [if_pos ((rp_eq hv11 (show rp 0 0 from rfl)).mpr q2)]
      rw [rm_rf gM12 3 1]
      cases hq3 : M12.2.1 3 1 with
      | none =>
        rw [hq3] at h
        dsimp only at h ⊢
        cases h
      | some p15 =>
        rw [hq3] at h
        dsimp only at h ⊢
        by_cases q4 : isD p15
        · rw [if_pos q4] at h
          rw [if_pos (Iff.rfl.mpr q4)]
          cases hc5 : zF117 n p15 (M12.1 3 3) M12 with
          | none => rw [hc5] at h; cases h
          | some w =>
            obtain ⟨v18, M19⟩ := w
            rw [hc5] at h
            dsimp only at h
            obtain ⟨V18, NM19, ehc5, hv18, gM19⟩ := zF117_r n p15 (rm_rd gM12 3 3) gM12 hc5
            rw [ehc5]
            dsimp only
            have gM21 : rm (m_i NM19 3 7 V18) (z_i M19 3 7 v18) := rm_i gM19 3 7 hv18
            rw [mlet]
            rw [zlet] at h
            generalize z_i M19 3 7 v18 = M21 at h gM21
            generalize m_i NM19 3 7 V18 = NM21 at gM21 ⊢
            exact zJ132_71_r n gM21 h
        · rw [if_neg q4] at h
          rw [if_neg (fun z => q4 (Iff.rfl.mp z))]
          cases h
    · rw [if_neg q2] at h
      rw [if_neg (fun z => q2 ((rp_eq hv11 (show rp 0 0 from rfl)).mp z))]
      by_cases q6 : (M12.1 3 4) = 0
      · rw [if_pos q6] at h
        rw [if_pos ((rp_eq (rm_rd gM12 3 4) (show rp 0 0 from rfl)).mpr q6)]
        exact zJ132_52_r n (show rp 3 3 from rfl) (show rp 1 1 from rfl) gM12 h
      · rw [if_neg q6] at h
        rw [if_neg (fun z => q6 ((rp_eq (rm_rd gM12 3 4) (show rp 0 0 from rfl)).mp z))]
        exact zJ132_52_r n (show rp 2 2 from rfl) (show rp 1 1 from rfl) gM12 h
/-- ArmExpander$DefinitionReader.acceptsClosing -/
def zF132 (n : Nat) (a0 : Int) (M : ZM) : Option (Int × ZM) :=
  match zF163 n 4 a0 M with | some (v1, M2) => (if v1 = (-1) then (some (0, M2)) else (match M2.2.1 3 1 with | some p5 => (if isD p5 then (match zF104 n p5 v1 (M2.1 3 3) M2 with | some (v8, M9) => (zJ132_28 n M9) | none => none) else (none)) | none => (none))) | none => none
set_option maxRecDepth 100000 in
set_option maxHeartbeats 4000000 in
theorem zF132_r (n : Nat) {A0_ : Int32} {a0 : Int} (ha0 : rp A0_ a0) {M_ : Mem} {M : ZM} (gM : rm M_ M) {r : Int} {m' : ZM} (h : zF132 n a0 M = some (r, m')) : sI (F132 n A0_ M_) r m' := by
  unfold zF132 at h
  unfold F132
  cases hc1 : zF163 n 4 a0 M with
  | none => rw [hc1] at h; cases h
  | some w =>
    obtain ⟨v1, M2⟩ := w
    rw [hc1] at h
    dsimp only at h
    obtain ⟨V1, NM2, ehc1, hv1, gM2⟩ := zF163_r n 4 ha0 gM hc1
    rw [ehc1]
    dsimp only
    by_cases q2 : v1 = (-1)
    · rw [if_pos q2] at h
      rw [if_pos ((rp_eq hv1 (show rp (-1) (-1) from rfl)).mpr q2)]
      obtain ⟨rfl, rfl⟩ := Prod.mk.inj (Option.some.inj h)
      exact ⟨_, _, rfl, (show rp 0 0 from rfl), gM2⟩
    · rw [if_neg q2] at h
      rw [if_neg (fun z => q2 ((rp_eq hv1 (show rp (-1) (-1) from rfl)).mp z))]
      rw [rm_rf gM2 3 1]
      cases hq3 : M2.2.1 3 1 with
      | none =>
        rw [hq3] at h
        dsimp only at h ⊢
        cases h
      | some p5 =>
        rw [hq3] at h
        dsimp only at h ⊢
        by_cases q4 : isD p5
        · rw [if_pos q4] at h
          rw [if_pos (Iff.rfl.mpr q4)]
          cases hc5 : zF104 n p5 v1 (M2.1 3 3) M2 with
          | none => rw [hc5] at h; cases h
          | some w =>
            obtain ⟨v8, M9⟩ := w
            rw [hc5] at h
            dsimp only at h
            obtain ⟨NM9, ehc5, gM9⟩ := zF104_r n p5 hv1 (rm_rd gM2 3 3) gM2 hc5
            rw [ehc5]
            dsimp only
            exact zJ132_28_r n gM9 h
        · rw [if_neg q4] at h
          rw [if_neg (fun z => q4 (Iff.rfl.mp z))]
          cases h
def zJ133_66 (n : Nat) (M : ZM) : Option (Int × ZM) :=
  some (0, M)
set_option maxRecDepth 100000 in
set_option maxHeartbeats 4000000 in
theorem zJ133_66_r (n : Nat) {M_ : Mem} {M : ZM} (gM : rm M_ M) {r : Int} {m' : ZM} (h : zJ133_66 n M = some (r, m')) : sI (J133_66 n M_) r m' := by
  unfold zJ133_66 at h
  unfold J133_66
  obtain ⟨rfl, rfl⟩ := Prod.mk.inj (Option.some.inj h)
  exact ⟨_, _, rfl, (show rp 0 0 from rfl), gM⟩
def zJ133_116 (n : Nat) (s0 : Int) (M : ZM) : Option (Int × ZM) :=
  match zF129 n s0 4 M with | some (v20, M21) => (if v20 = 0 ∨ v20 = 1 then (some (v20, M21)) else (none)) | none => none
set_option maxRecDepth 100000 in
set_option maxHeartbeats 4000000 in
theorem zJ133_116_r (n : Nat) {S0_ : Int32} {s0 : Int} (hs0 : rp S0_ s0) {M_ : Mem} {M : ZM} (gM : rm M_ M) {r : Int} {m' : ZM} (h : zJ133_116 n s0 M = some (r, m')) : sI (J133_116 n S0_ M_) r m' := by
  unfold zJ133_116 at h
  unfold J133_116
  cases hc1 : zF129 n s0 4 M with
  | none => rw [hc1] at h; cases h
  | some w =>
    obtain ⟨v20, M21⟩ := w
    rw [hc1] at h
    dsimp only at h
    obtain ⟨V20, NM21, ehc1, hv20, gM21⟩ := zF129_r n hs0 (show rp 4 4 from rfl) gM hc1
    rw [ehc1]
    dsimp only
    by_cases q2 : v20 = 0 ∨ v20 = 1
    · rw [if_pos q2] at h
      rw [if_pos ((or_congr (rp_eq hv20 (show rp 0 0 from rfl)) (rp_eq hv20 (show rp 1 1 from rfl))).mpr q2)]
      obtain ⟨rfl, rfl⟩ := Prod.mk.inj (Option.some.inj h)
      exact ⟨_, _, rfl, hv20, gM21⟩
    · rw [if_neg q2] at h
      rw [if_neg (fun z => q2 ((or_congr (rp_eq hv20 (show rp 0 0 from rfl)) (rp_eq hv20 (show rp 1 1 from rfl))).mp z))]
      cases h
def zJ133_97 (n : Nat) (x2 : Int) (M : ZM) : Option (Int × ZM) :=
  zlet (z_i M 3 6 x2) (fun M18 => if 4 < (M18.1 3 5) then (zJ133_116 n 0 M18) else (zJ133_116 n 1 M18))
set_option maxRecDepth 100000 in
set_option maxHeartbeats 4000000 in
theorem zJ133_97_r (n : Nat) {X2_ : Int32} {x2 : Int} (hx2 : rp X2_ x2) {M_ : Mem} {M : ZM} (gM : rm M_ M) {r : Int} {m' : ZM} (h : zJ133_97 n x2 M = some (r, m')) : sI (J133_97 n X2_ M_) r m' := by
  unfold zJ133_97 at h
  unfold J133_97
  have gM18 : rm (m_i M_ 3 6 X2_) (z_i M 3 6 x2) := rm_i gM 3 6 hx2
  rw [mlet]
  rw [zlet] at h
  generalize z_i M 3 6 x2 = M18 at h gM18
  generalize m_i M_ 3 6 X2_ = NM18 at gM18 ⊢
  by_cases q1 : 4 < (M18.1 3 5)
  · rw [if_pos q1] at h
    rw [if_pos ((rp_lt (show rp 4 4 from rfl) (rm_rd gM18 3 5)).mpr q1)]
    exact zJ133_116_r n (show rp 0 0 from rfl) gM18 h
  · rw [if_neg q1] at h
    rw [if_neg (fun z => q1 ((rp_lt (show rp 4 4 from rfl) (rm_rd gM18 3 5)).mp z))]
    exact zJ133_116_r n (show rp 1 1 from rfl) gM18 h
def zJ133_75 (n : Nat) (x2 : Int) (M : ZM) : Option (Int × ZM) :=
  match M.2.1 3 1 with | some p24 => (if isD p24 then (match zF106 n p24 x2 (M.1 3 5) M with | some (v27, M28) => (if rg ((M28.1 3 5) + 1) then (zlet (z_i M28 3 5 ((M28.1 3 5) + 1)) (fun M30 => zJ133_97 n x2 M30)) else none) | none => none) else (none)) | none => (none)
set_option maxRecDepth 100000 in
set_option maxHeartbeats 4000000 in
theorem zJ133_75_r (n : Nat) {X2_ : Int32} {x2 : Int} (hx2 : rp X2_ x2) {M_ : Mem} {M : ZM} (gM : rm M_ M) {r : Int} {m' : ZM} (h : zJ133_75 n x2 M = some (r, m')) : sI (J133_75 n X2_ M_) r m' := by
  unfold zJ133_75 at h
  unfold J133_75
  rw [rm_rf gM 3 1]
  cases hq1 : M.2.1 3 1 with
  | none =>
    rw [hq1] at h
    dsimp only at h ⊢
    cases h
  | some p24 =>
    rw [hq1] at h
    dsimp only at h ⊢
    by_cases q2 : isD p24
    · rw [if_pos q2] at h
      rw [if_pos (Iff.rfl.mpr q2)]
      cases hc3 : zF106 n p24 x2 (M.1 3 5) M with
      | none => rw [hc3] at h; cases h
      | some w =>
        obtain ⟨v27, M28⟩ := w
        rw [hc3] at h
        dsimp only at h
        obtain ⟨NM28, ehc3, gM28⟩ := zF106_r n p24 hx2 (rm_rd gM 3 5) gM hc3
        rw [ehc3]
        dsimp only
        by_cases w4 : rg ((M28.1 3 5) + 1)
        · rw [if_pos w4] at h
          have gM30 : rm (m_i NM28 3 5 ((NM28.1 3 5) + (1 : Int32))) (z_i M28 3 5 ((M28.1 3 5) + 1)) := rm_i gM28 3 5 (rp_add (rp_iz (rm_rd gM28 3 5)) (rp_iz (show rp 1 1 from rfl)) w4)
          rw [mlet]
          rw [zlet] at h
          generalize z_i M28 3 5 ((M28.1 3 5) + 1) = M30 at h gM30
          generalize m_i NM28 3 5 ((NM28.1 3 5) + (1 : Int32)) = NM30 at gM30 ⊢
          exact zJ133_97_r n hx2 gM30 h
        · rw [if_neg w4] at h
          cases h
    · rw [if_neg q2] at h
      rw [if_neg (fun z => q2 (Iff.rfl.mp z))]
      cases h
def zJ133_51 (n : Nat) (x1 : Int) (x2 : Int) (M : ZM) : Option (Int × ZM) :=
  match zF162 n 4 (M.1 3 3) x1 M with | some (v13, M14) => (if v13 = 0 then (zJ133_66 n M14) else (if (M14.1 3 4) = 0 then (zJ133_97 n x2 M14) else (zJ133_75 n x2 M14))) | none => none
set_option maxRecDepth 100000 in
set_option maxHeartbeats 4000000 in
theorem zJ133_51_r (n : Nat) {X1_ : Int32} {x1 : Int} (hx1 : rp X1_ x1) {X2_ : Int32} {x2 : Int} (hx2 : rp X2_ x2) {M_ : Mem} {M : ZM} (gM : rm M_ M) {r : Int} {m' : ZM} (h : zJ133_51 n x1 x2 M = some (r, m')) : sI (J133_51 n X1_ X2_ M_) r m' := by
  unfold zJ133_51 at h
  unfold J133_51
  cases hc1 : zF162 n 4 (M.1 3 3) x1 M with
  | none => rw [hc1] at h; cases h
  | some w =>
    obtain ⟨v13, M14⟩ := w
    rw [hc1] at h
    dsimp only at h
    obtain ⟨V13, NM14, ehc1, hv13, gM14⟩ := zF162_r n 4 (rm_rd gM 3 3) hx1 gM hc1
    rw [ehc1]
    dsimp only
    by_cases q2 : v13 = 0
    · rw [if_pos q2] at h
      rw [if_pos ((rp_eq hv13 (show rp 0 0 from rfl)).mpr q2)]
      exact zJ133_66_r n gM14 h
    · rw [if_neg q2] at h
      rw [if_neg (fun z => q2 ((rp_eq hv13 (show rp 0 0 from rfl)).mp z))]
      by_cases q3 : (M14.1 3 4) = 0
      · rw [if_pos q3] at h
        rw [if_pos ((rp_eq (rm_rd gM14 3 4) (show rp 0 0 from rfl)).mpr q3)]
        exact zJ133_97_r n hx2 gM14 h
      · rw [if_neg q3] at h
        rw [if_neg (fun z => q3 ((rp_eq (rm_rd gM14 3 4) (show rp 0 0 from rfl)).mp z))]
        exact zJ133_75_r n hx2 gM14 h
def zJ133_22 (n : Nat) (s0 : Int) (s1 : Int) (M : ZM) : Option (Int × ZM) :=
  match zF129 n s1 s0 M with | some (v32, M33) => (if v32 = 0 ∨ v32 = 1 then (some (v32, M33)) else (none)) | none => none
set_option maxRecDepth 100000 in
set_option maxHeartbeats 4000000 in
theorem zJ133_22_r (n : Nat) {S0_ : Int32} {s0 : Int} (hs0 : rp S0_ s0) {S1_ : Int32} {s1 : Int} (hs1 : rp S1_ s1) {M_ : Mem} {M : ZM} (gM : rm M_ M) {r : Int} {m' : ZM} (h : zJ133_22 n s0 s1 M = some (r, m')) : sI (J133_22 n S0_ S1_ M_) r m' := by
  unfold zJ133_22 at h
  unfold J133_22
  cases hc1 : zF129 n s1 s0 M with
  | none => rw [hc1] at h; cases h
  | some w =>
    obtain ⟨v32, M33⟩ := w
    rw [hc1] at h
    dsimp only at h
    obtain ⟨V32, NM33, ehc1, hv32, gM33⟩ := zF129_r n hs1 hs0 gM hc1
    rw [ehc1]
    dsimp only
    by_cases q2 : v32 = 0 ∨ v32 = 1
    · rw [if_pos q2] at h
      rw [if_pos ((or_congr (rp_eq hv32 (show rp 0 0 from rfl)) (rp_eq hv32 (show rp 1 1 from rfl))).mpr q2)]
      obtain ⟨rfl, rfl⟩ := Prod.mk.inj (Option.some.inj h)
      exact ⟨_, _, rfl, hv32, gM33⟩
    · rw [if_neg q2] at h
      rw [if_neg (fun z => q2 ((or_congr (rp_eq hv32 (show rp 0 0 from rfl)) (rp_eq hv32 (show rp 1 1 from rfl))).mp z))]
      cases h
/-- ArmExpander$DefinitionReader.acceptsBehindDollar -/
def zF133 (n : Nat) (a0 : Int) (M : ZM) : Option (Int × ZM) :=
  match zF11 n a0 M with | some (v1, M2) => (if v1 = 0 then (if a0 = 40 then (match M2.2.1 3 1 with | some p6 => (if isD p6 then (if rg ((M2.1 3 3) - 1) then (match zF122 n p6 ((M2.1 3 3) - 1) M2 with | some (v9, M10) => (if 1 < v9 then (zJ133_66 n M10) else (zJ133_51 n a0 ((M2.1 3 3) - 1) M10)) | none => none) else none) else (none)) | none => (none)) else (zJ133_66 n M2)) else (if (M2.1 3 4) = 0 then (zJ133_22 n 4 1 M2) else (zJ133_22 n 6 1 M2))) | none => none
set_option maxRecDepth 100000 in
set_option maxHeartbeats 4000000 in
theorem zF133_r (n : Nat) {A0_ : Int32} {a0 : Int} (ha0 : rp A0_ a0) {M_ : Mem} {M : ZM} (gM : rm M_ M) {r : Int} {m' : ZM} (h : zF133 n a0 M = some (r, m')) : sI (F133 n A0_ M_) r m' := by
  unfold zF133 at h
  unfold F133
  cases hc1 : zF11 n a0 M with
  | none => rw [hc1] at h; cases h
  | some w =>
    obtain ⟨v1, M2⟩ := w
    rw [hc1] at h
    dsimp only at h
    obtain ⟨V1, NM2, ehc1, hv1, gM2⟩ := zF11_r n ha0 gM hc1
    rw [ehc1]
    dsimp only
    by_cases q2 : v1 = 0
    · rw [if_pos q2] at h
      rw [if_pos ((rp_eq hv1 (show rp 0 0 from rfl)).mpr q2)]
      by_cases q3 : a0 = 40
      · rw [if_pos q3] at h
        rw [if_pos ((rp_eq ha0 (show rp 40 40 from rfl)).mpr q3)]
        rw [rm_rf gM2 3 1]
        cases hq4 : M2.2.1 3 1 with
        | none =>
          rw [hq4] at h
          dsimp only at h ⊢
          cases h
        | some p6 =>
          rw [hq4] at h
          dsimp only at h ⊢
          by_cases q5 : isD p6
          · rw [if_pos q5] at h
            rw [if_pos (Iff.rfl.mpr q5)]
            by_cases w6 : rg ((M2.1 3 3) - 1)
            · rw [if_pos w6] at h
              cases hc7 : zF122 n p6 ((M2.1 3 3) - 1) M2 with
              | none => rw [hc7] at h; cases h
              | some w =>
                obtain ⟨v9, M10⟩ := w
                rw [hc7] at h
                dsimp only at h
                obtain ⟨V9, NM10, ehc7, hv9, gM10⟩ := zF122_r n p6 (rp_sub (rp_iz (rm_rd gM2 3 3)) (rp_iz (show rp 1 1 from rfl)) w6) gM2 hc7
                rw [ehc7]
                dsimp only
                by_cases q8 : 1 < v9
                · rw [if_pos q8] at h
                  rw [if_pos ((rp_lt (show rp 1 1 from rfl) hv9).mpr q8)]
                  exact zJ133_66_r n gM10 h
                · rw [if_neg q8] at h
                  rw [if_neg (fun z => q8 ((rp_lt (show rp 1 1 from rfl) hv9).mp z))]
                  exact zJ133_51_r n ha0 (rp_sub (rp_iz (rm_rd gM2 3 3)) (rp_iz (show rp 1 1 from rfl)) w6) gM10 h
            · rw [if_neg w6] at h
              cases h
          · rw [if_neg q5] at h
            rw [if_neg (fun z => q5 (Iff.rfl.mp z))]
            cases h
      · rw [if_neg q3] at h
        rw [if_neg (fun z => q3 ((rp_eq ha0 (show rp 40 40 from rfl)).mp z))]
        exact zJ133_66_r n gM2 h
    · rw [if_neg q2] at h
      rw [if_neg (fun z => q2 ((rp_eq hv1 (show rp 0 0 from rfl)).mp z))]
      by_cases q9 : (M2.1 3 4) = 0
      · rw [if_pos q9] at h
        rw [if_pos ((rp_eq (rm_rd gM2 3 4) (show rp 0 0 from rfl)).mpr q9)]
        exact zJ133_22_r n (show rp 4 4 from rfl) (show rp 1 1 from rfl) gM2 h
      · rw [if_neg q9] at h
        rw [if_neg (fun z => q9 ((rp_eq (rm_rd gM2 3 4) (show rp 0 0 from rfl)).mp z))]
        exact zJ133_22_r n (show rp 6 6 from rfl) (show rp 1 1 from rfl) gM2 h
def zJ134_55 (n : Nat) (s0 : Int) (M : ZM) : Option (Int × ZM) :=
  match zF129 n s0 9 M with | some (v6, M7) => (if v6 = 0 ∨ v6 = 1 then (some (v6, M7)) else (none)) | none => none
set_option maxRecDepth 100000 in
set_option maxHeartbeats 4000000 in
theorem zJ134_55_r (n : Nat) {S0_ : Int32} {s0 : Int} (hs0 : rp S0_ s0) {M_ : Mem} {M : ZM} (gM : rm M_ M) {r : Int} {m' : ZM} (h : zJ134_55 n s0 M = some (r, m')) : sI (J134_55 n S0_ M_) r m' := by
  unfold zJ134_55 at h
  unfold J134_55
  cases hc1 : zF129 n s0 9 M with
  | none => rw [hc1] at h; cases h
  | some w =>
    obtain ⟨v6, M7⟩ := w
    rw [hc1] at h
    dsimp only at h
    obtain ⟨V6, NM7, ehc1, hv6, gM7⟩ := zF129_r n hs0 (show rp 9 9 from rfl) gM hc1
    rw [ehc1]
    dsimp only
    by_cases q2 : v6 = 0 ∨ v6 = 1
    · rw [if_pos q2] at h
      rw [if_pos ((or_congr (rp_eq hv6 (show rp 0 0 from rfl)) (rp_eq hv6 (show rp 1 1 from rfl))).mpr q2)]
      obtain ⟨rfl, rfl⟩ := Prod.mk.inj (Option.some.inj h)
      exact ⟨_, _, rfl, hv6, gM7⟩
    · rw [if_neg q2] at h
      rw [if_neg (fun z => q2 ((or_congr (rp_eq hv6 (show rp 0 0 from rfl)) (rp_eq hv6 (show rp 1 1 from rfl))).mp z))]
      cases h
def zJ134_54 (n : Nat) (M : ZM) : Option (Int × ZM) :=
  zJ134_55 n 0 M
set_option maxRecDepth 100000 in
set_option maxHeartbeats 4000000 in
theorem zJ134_54_r (n : Nat) {M_ : Mem} {M : ZM} (gM : rm M_ M) {r : Int} {m' : ZM} (h : zJ134_54 n M = some (r, m')) : sI (J134_54 n M_) r m' := by
  unfold zJ134_54 at h
  unfold J134_54
  exact zJ134_55_r n (show rp 0 0 from rfl) gM h
def zJ134_22 (n : Nat) (M : ZM) : Option (Int × ZM) :=
  match zF129 n 1 4 M with | some (v24, M25) => (if v24 = 0 ∨ v24 = 1 then (some (v24, M25)) else (none)) | none => none
set_option maxRecDepth 100000 in
set_option maxHeartbeats 4000000 in
theorem zJ134_22_r (n : Nat) {M_ : Mem} {M : ZM} (gM : rm M_ M) {r : Int} {m' : ZM} (h : zJ134_22 n M = some (r, m')) : sI (J134_22 n M_) r m' := by
  unfold zJ134_22 at h
  unfold J134_22
  cases hc1 : zF129 n 1 4 M with
  | none => rw [hc1] at h; cases h
  | some w =>
    obtain ⟨v24, M25⟩ := w
    rw [hc1] at h
    dsimp only at h
    obtain ⟨V24, NM25, ehc1, hv24, gM25⟩ := zF129_r n (show rp 1 1 from rfl) (show rp 4 4 from rfl) gM hc1
    rw [ehc1]
    dsimp only
    by_cases q2 : v24 = 0 ∨ v24 = 1
    · rw [if_pos q2] at h
      rw [if_pos ((or_congr (rp_eq hv24 (show rp 0 0 from rfl)) (rp_eq hv24 (show rp 1 1 from rfl))).mpr q2)]
      obtain ⟨rfl, rfl⟩ := Prod.mk.inj (Option.some.inj h)
      exact ⟨_, _, rfl, hv24, gM25⟩
    · rw [if_neg q2] at h
      rw [if_neg (fun z => q2 ((or_congr (rp_eq hv24 (show rp 0 0 from rfl)) (rp_eq hv24 (show rp 1 1 from rfl))).mp z))]
      cases h
/-- ArmExpander$DefinitionReader.acceptsSeparatorOrMark -/
def zF134 (n : Nat) (a0 : Int) (M : ZM) : Option (Int × ZM) :=
  match zF15 n a0 M with | some (v1, M2) => (if v1 = 0 then (if a0 = 36 then (zJ134_54 n M2) else (match zF13 n a0 M2 with | some (v10, M11) => (if v10 = 0 then (match zF14 n a0 M11 with | some (v14, M15) => (if v14 = 0 then (zJ134_55 n 1 M15) else (zJ134_54 n M15)) | none => none) else (zJ134_54 n M11)) | none => none)) else (match M2.2.1 3 1 with | some p18 => (if isD p18 then (match zF105 n p18 (M2.1 3 7) (M2.1 3 3) M2 with | some (v21, M22) => (zJ134_22 n M22) | none => none) else (none)) | none => (none))) | none => none
set_option maxRecDepth 100000 in
set_option maxHeartbeats 4000000 in
theorem zF134_r (n : Nat) {A0_ : Int32} {a0 : Int} (ha0 : rp A0_ a0) {M_ : Mem} {M : ZM} (gM : rm M_ M) {r : Int} {m' : ZM} (h : zF134 n a0 M = some (r, m')) : sI (F134 n A0_ M_) r m' := by
  unfold zF134 at h
  unfold F134
  cases hc1 : zF15 n a0 M with
  | none => rw [hc1] at h; cases h
  | some w =>
    obtain ⟨v1, M2⟩ := w
    rw [hc1] at h
    dsimp only at h
    obtain ⟨V1, NM2, ehc1, hv1, gM2⟩ := zF15_r n ha0 gM hc1
    rw [ehc1]
    dsimp only
    by_cases q2 : v1 = 0
    · rw [if_pos q2] at h
      rw [if_pos ((rp_eq hv1 (show rp 0 0 from rfl)).mpr q2)]
      by_cases q3 : a0 = 36
      · rw [if_pos q3] at h
        rw [if_pos ((rp_eq ha0 (show rp 36 36 from rfl)).mpr q3)]
        exact zJ134_54_r n gM2 h
      · rw [if_neg q3] at h
        rw [if_neg (fun z => q3 ((rp_eq ha0 (show rp 36 36 from rfl)).mp z))]
        cases hc4 : zF13 n a0 M2 with
        | none => rw [hc4] at h; cases h
        | some w =>
          obtain ⟨v10, M11⟩ := w
          rw [hc4] at h
          dsimp only at h
          obtain ⟨V10, NM11, ehc4, hv10, gM11⟩ := zF13_r n ha0 gM2 hc4
          rw [ehc4]
          dsimp only
          by_cases q5 : v10 = 0
          · rw [if_pos q5] at h
            rw [if_pos ((rp_eq hv10 (show rp 0 0 from rfl)).mpr q5)]
            cases hc6 : zF14 n a0 M11 with
            | none => rw [hc6] at h; cases h
            | some w =>
              obtain ⟨v14, M15⟩ := w
              rw [hc6] at h
              dsimp only at h
              obtain ⟨V14, NM15, ehc6, hv14, gM15⟩ := zF14_r n ha0 gM11 hc6
              rw [ehc6]
              dsimp only
              by_cases q7 : v14 = 0
              · rw [if_pos q7] at h
                rw [if_pos ((rp_eq hv14 (show rp 0 0 from rfl)).mpr q7)]
                exact zJ134_55_r n (show rp 1 1 from rfl) gM15 h
              · rw [if_neg q7] at h
                rw [if_neg (fun z => q7 ((rp_eq hv14 (show rp 0 0 from rfl)).mp z))]
                exact zJ134_54_r n gM15 h
          · rw [if_neg q5] at h
            rw [if_neg (fun z => q5 ((rp_eq hv10 (show rp 0 0 from rfl)).mp z))]
            exact zJ134_54_r n gM11 h
    · rw [if_neg q2] at h
      rw [if_neg (fun z => q2 ((rp_eq hv1 (show rp 0 0 from rfl)).mp z))]
      rw [rm_rf gM2 3 1]
      cases hq8 : M2.2.1 3 1 with
      | none =>
        rw [hq8] at h
        dsimp only at h ⊢
        cases h
      | some p18 =>
        rw [hq8] at h
        dsimp only at h ⊢
        by_cases q9 : isD p18
        · rw [if_pos q9] at h
          rw [if_pos (Iff.rfl.mpr q9)]
          cases hc10 : zF105 n p18 (M2.1 3 7) (M2.1 3 3) M2 with
          | none => rw [hc10] at h; cases h
          | some w =>
            obtain ⟨v21, M22⟩ := w
            rw [hc10] at h
            dsimp only at h
            obtain ⟨NM22, ehc10, gM22⟩ := zF105_r n p18 (rm_rd gM2 3 7) (rm_rd gM2 3 3) gM2 hc10
            rw [ehc10]
            dsimp only
            exact zJ134_22_r n gM22 h
        · rw [if_neg q9] at h
          rw [if_neg (fun z => q9 (Iff.rfl.mp z))]
          cases h
/-- ArmExpander$Expander.outcome -/
def zF136 (n : Nat) (M : ZM) : Option (Option Nat × ZM) :=
  match M.2.1 12 4 with | some p1 => (if isR p1 then (some (some p1, M)) else (none)) | none => (none)
set_option maxRecDepth 100000 in
set_option maxHeartbeats 4000000 in
theorem zF136_r (n : Nat) {M_ : Mem} {M : ZM} (gM : rm M_ M) {r : Option Nat} {m' : ZM} (h : zF136 n M = some (r, m')) : sO (F136 n M_) r m' := by
  unfold zF136 at h
  unfold F136
  rw [rm_rf gM 12 4]
  cases hq1 : M.2.1 12 4 with
  | none =>
    rw [hq1] at h
    dsimp only at h ⊢
    cases h
  | some p1 =>
    rw [hq1] at h
    dsimp only at h ⊢
    by_cases q2 : isR p1
    · rw [if_pos q2] at h
      rw [if_pos (Iff.rfl.mpr q2)]
      obtain ⟨rfl, rfl⟩ := Prod.mk.inj (Option.some.inj h)
      exact ⟨_, rfl, gM⟩
    · rw [if_neg q2] at h
      rw [if_neg (fun z => q2 (Iff.rfl.mp z))]
      cases h
def zJ146_13 (n : Nat) (y1 : Nat) (M : ZM) : Option (Unit × ZM) :=
  zlet (z_r M 12 5 (some y1)) (fun M8 => some ((), M8))
set_option maxRecDepth 100000 in
set_option maxHeartbeats 4000000 in
theorem zJ146_13_r (n : Nat) (y1 : Nat) {M_ : Mem} {M : ZM} (gM : rm M_ M) {r : Unit} {m' : ZM} (h : zJ146_13 n y1 M = some (r, m')) : sU (J146_13 n y1 M_) m' := by
  unfold zJ146_13 at h
  unfold J146_13
  have gM8 : rm (m_r M_ 12 5 (some y1)) (z_r M 12 5 (some y1)) := rm_r gM 12 5 (some y1)
  rw [mlet]
  rw [zlet] at h
  generalize z_r M 12 5 (some y1) = M8 at h gM8
  generalize m_r M_ 12 5 (some y1) = NM8 at gM8 ⊢
  obtain ⟨_, rfl⟩ := Prod.mk.inj (Option.some.inj h)
  exact ⟨_, rfl, gM8⟩
