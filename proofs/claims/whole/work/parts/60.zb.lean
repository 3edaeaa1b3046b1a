/-! The methods over whole numbers; written by program. -/
def zJ43_82 (n : Nat) (x2 : Int) (x4 : Int) (x5 : Int) (M : ZM) : Option (Int × ZM) :=
  if rg (x4 - ((Int.tdiv x4 256) * 256)) then (match zF35 n 5 0 (x4 - ((Int.tdiv x4 256) * 256)) M with | some (v24, M25) => (if x5 < 0 ∨ 128 ≤ x5 then (none) else (zlet (z_i M25 92 (Int.toNat x5) x2) (fun M28 => if rg (Int.tdiv x4 256) then (zlet (z_i M28 93 (Int.toNat x5) (Int.tdiv x4 256)) (fun M30 => zJ43_115 n x2 x4 x5 M30)) else none))) | none => none) else none
set_option maxRecDepth 100000 in
set_option maxHeartbeats 4000000 in
theorem zJ43_82_r (n : Nat) {X2_ : Int32} {x2 : Int} (hx2 : rp X2_ x2) {X4_ : Int32} {x4 : Int} (hx4 : rp X4_ x4) {X5_ : Int32} {x5 : Int} (hx5 : rp X5_ x5) {M_ : Mem} {M : ZM} (gM : rm M_ M) {r : Int} {m' : ZM} (h : zJ43_82 n x2 x4 x5 M = some (r, m')) : sI (J43_82 n X2_ X4_ X5_ M_) r m' := by
  unfold zJ43_82 at h
  unfold J43_82
  by_cases w1 : rg (x4 - ((Int.tdiv x4 256) * 256))
  · rw [if_pos w1] at h
    cases hc2 : zF35 n 5 0 (x4 - ((Int.tdiv x4 256) * 256)) M with
    | none => rw [hc2] at h; cases h
    | some w =>
      obtain ⟨v24, M25⟩ := w
      rw [hc2] at h
      dsimp only at h
      obtain ⟨NM25, ehc2, gM25⟩ := zF35_r n (show rp 5 5 from rfl) (show rp 0 0 from rfl) (rp_sub (rp_iz hx4) (rw_mul (rp_iz (rp_div hx4 (show rp 256 256 from rfl) (by decide))) (rp_iz (show rp 256 256 from rfl))) w1) gM hc2
      rw [ehc2]
      dsimp only
      by_cases q3 : x5 < 0 ∨ 128 ≤ x5
      · rw [if_pos q3] at h
        rw [if_pos ((rp_ob hx5 128).mpr q3)]
        cases h
      · rw [if_neg q3] at h
        rw [if_neg (fun z => q3 ((rp_ob hx5 128).mp z))]
        have gM28 : rm (m_i NM25 92 (X5_).toNatClampNeg X2_) (z_i M25 92 (Int.toNat x5) x2) := rm_ix gM25 92 hx5 hx2
        rw [mlet]
        rw [zlet] at h
        generalize z_i M25 92 (Int.toNat x5) x2 = M28 at h gM28
        generalize m_i NM25 92 (X5_).toNatClampNeg X2_ = NM28 at gM28 ⊢
        rw [if_neg (fun z => q3 ((rp_ob hx5 128).mp z))]
        by_cases w4 : rg (Int.tdiv x4 256)
        · rw [if_pos w4] at h
          have gM30 : rm (m_i NM28 93 (X5_).toNatClampNeg (X4_ / (256 : Int32))) (z_i M28 93 (Int.toNat x5) (Int.tdiv x4 256)) := rm_ix gM28 93 hx5 (rp_div hx4 (show rp 256 256 from rfl) (by decide))
          rw [mlet]
          rw [zlet] at h
          generalize z_i M28 93 (Int.toNat x5) (Int.tdiv x4 256) = M30 at h gM30
          generalize m_i NM28 93 (X5_).toNatClampNeg (X4_ / (256 : Int32)) = NM30 at gM30 ⊢
          exact zJ43_115_r n hx2 hx4 hx5 gM30 h
        · rw [if_neg w4] at h
          cases h
  · rw [if_neg w1] at h
    cases h
def zJ43_59 (n : Nat) (x1 : Int) (x2 : Int) (M : ZM) : Option (Int × ZM) :=
  match zF40 n M with | some (v10, M11) => (if 0 ≤ v10 then (if x1 = 0 then (zJ43_150 n x2 v10 (M11.1 83 32) M11) else (zJ43_82 n x2 v10 (M11.1 83 32) M11)) else (some (0, M11))) | none => none
set_option maxRecDepth 100000 in
set_option maxHeartbeats 4000000 in
theorem zJ43_59_r (n : Nat) {X1_ : Int32} {x1 : Int} (hx1 : rp X1_ x1) {X2_ : Int32} {x2 : Int} (hx2 : rp X2_ x2) {M_ : Mem} {M : ZM} (gM : rm M_ M) {r : Int} {m' : ZM} (h : zJ43_59 n x1 x2 M = some (r, m')) : sI (J43_59 n X1_ X2_ M_) r m' := by
  unfold zJ43_59 at h
  unfold J43_59
  cases hc1 : zF40 n M with
  | none => rw [hc1] at h; cases h
  | some w =>
    obtain ⟨v10, M11⟩ := w
    rw [hc1] at h
    dsimp only at h
    obtain ⟨V10, NM11, ehc1, hv10, gM11⟩ := zF40_r n gM hc1
    rw [ehc1]
    dsimp only
    by_cases q2 : 0 ≤ v10
    · rw [if_pos q2] at h
      rw [if_pos ((rp_le (show rp 0 0 from rfl) hv10).mpr q2)]
      by_cases q3 : x1 = 0
      · rw [if_pos q3] at h
        rw [if_pos ((rp_eq hx1 (show rp 0 0 from rfl)).mpr q3)]
        exact zJ43_150_r n hx2 hv10 (rm_rd gM11 83 32) gM11 h
      · rw [if_neg q3] at h
        rw [if_neg (fun z => q3 ((rp_eq hx1 (show rp 0 0 from rfl)).mp z))]
        exact zJ43_82_r n hx2 hv10 (rm_rd gM11 83 32) gM11 h
    · rw [if_neg q2] at h
      rw [if_neg (fun z => q2 ((rp_le (show rp 0 0 from rfl) hv10).mp z))]
      obtain ⟨rfl, rfl⟩ := Prod.mk.inj (Option.some.inj h)
      exact ⟨_, _, rfl, (show rp 0 0 from rfl), gM11⟩
def zJ43_53 (n : Nat) (M : ZM) : Option (Int × ZM) :=
  some (1, M)
set_option maxRecDepth 100000 in
set_option maxHeartbeats 4000000 in
theorem zJ43_53_r (n : Nat) {M_ : Mem} {M : ZM} (gM : rm M_ M) {r : Int} {m' : ZM} (h : zJ43_53 n M = some (r, m')) : sI (J43_53 n M_) r m' := by
  unfold zJ43_53 at h
  unfold J43_53
  obtain ⟨rfl, rfl⟩ := Prod.mk.inj (Option.some.inj h)
  exact ⟨_, _, rfl, (show rp 1 1 from rfl), gM⟩
def zJ43_25 (n : Nat) (x1 : Int) (x2 : Int) (x3 : Int) (M : ZM) : Option (Int × ZM) :=
  match zF28 n M with | some (v3, M4) => (if 0 ≤ x2 then (match zF39 n M4 with | some (v7, M8) => (zJ43_59 n x1 x2 M8) | none => none) else (if x1 = 0 then (match zF36 n 0 x3 M4 with | some (v38, M39) => (zJ43_53 n M39) | none => none) else (match zF35 n 2 x3 0 M4 with | some (v41, M42) => (zJ43_53 n M42) | none => none))) | none => none
set_option maxRecDepth 100000 in
set_option maxHeartbeats 4000000 in
theorem zJ43_25_r (n : Nat) {X1_ : Int32} {x1 : Int} (hx1 : rp X1_ x1) {X2_ : Int32} {x2 : Int} (hx2 : rp X2_ x2) {X3_ : Int32} {x3 : Int} (hx3 : rp X3_ x3) {M_ : Mem} {M : ZM} (gM : rm M_ M) {r : Int} {m' : ZM} (h : zJ43_25 n x1 x2 x3 M = some (r, m')) : sI (J43_25 n X1_ X2_ X3_ M_) r m' := by
  unfold zJ43_25 at h
  unfold J43_25
  cases hc1 : zF28 n M with
  | none => rw [hc1] at h; cases h
  | some w =>
    obtain ⟨v3, M4⟩ := w
    rw [hc1] at h
    dsimp only at h
    obtain ⟨NM4, ehc1, gM4⟩ := zF28_r n gM hc1
    rw [ehc1]
    dsimp only
    by_cases q2 : 0 ≤ x2
    · rw [if_pos q2] at h
      rw [if_pos ((rp_le (show rp 0 0 from rfl) hx2).mpr q2)]
      cases hc3 : zF39 n M4 with
      | none => rw [hc3] at h; cases h
      | some w =>
        obtain ⟨v7, M8⟩ := w
        rw [hc3] at h
        dsimp only at h
        obtain ⟨NM8, ehc3, gM8⟩ := zF39_r n gM4 hc3
        rw [ehc3]
        dsimp only
        exact zJ43_59_r n hx1 hx2 gM8 h
    · rw [if_neg q2] at h
      rw [if_neg (fun z => q2 ((rp_le (show rp 0 0 from rfl) hx2).mp z))]
      by_cases q4 : x1 = 0
      · rw [if_pos q4] at h
        rw [if_pos ((rp_eq hx1 (show rp 0 0 from rfl)).mpr q4)]
        cases hc5 : zF36 n 0 x3 M4 with
        | none => rw [hc5] at h; cases h
        | some w =>
          obtain ⟨v38, M39⟩ := w
          rw [hc5] at h
          dsimp only at h
          obtain ⟨NM39, ehc5, gM39⟩ := zF36_r n (show rp 0 0 from rfl) hx3 gM4 hc5
          rw [ehc5]
          dsimp only
          exact zJ43_53_r n gM39 h
      · rw [if_neg q4] at h
        rw [if_neg (fun z => q4 ((rp_eq hx1 (show rp 0 0 from rfl)).mp z))]
        cases hc6 : zF35 n 2 x3 0 M4 with
        | none => rw [hc6] at h; cases h
        | some w =>
          obtain ⟨v41, M42⟩ := w
          rw [hc6] at h
          dsimp only at h
          obtain ⟨NM42, ehc6, gM42⟩ := zF35_r n (show rp 2 2 from rfl) hx3 (show rp 0 0 from rfl) gM4 hc6
          rw [ehc6]
          dsimp only
          exact zJ43_53_r n gM42 h
/-- ArmExpanderModel.closeIt -/
def zF43 (n : Nat) (a0 : Int) (M : ZM) : Option (Int × ZM) :=
  if rg ((M.1 83 27) - 1) then (zlet (z_i M 83 27 ((M.1 83 27) - 1)) (fun M1 => if (M1.1 83 27) < 0 ∨ 16 ≤ (M1.1 83 27) then (none) else (zJ43_25 n a0 (M1.1 104 (Int.toNat (M1.1 83 27))) (M1.1 83 5) M1))) else none
set_option maxRecDepth 100000 in
set_option maxHeartbeats 4000000 in
theorem zF43_r (n : Nat) {A0_ : Int32} {a0 : Int} (ha0 : rp A0_ a0) {M_ : Mem} {M : ZM} (gM : rm M_ M) {r : Int} {m' : ZM} (h : zF43 n a0 M = some (r, m')) : sI (F43 n A0_ M_) r m' := by
  unfold zF43 at h
  unfold F43
  by_cases w1 : rg ((M.1 83 27) - 1)
  · rw [if_pos w1] at h
    have gM1 : rm (m_i M_ 83 27 ((M_.1 83 27) - (1 : Int32))) (z_i M 83 27 ((M.1 83 27) - 1)) := rm_i gM 83 27 (rp_sub (rp_iz (rm_rd gM 83 27)) (rp_iz (show rp 1 1 from rfl)) w1)
    rw [mlet]
    rw [zlet] at h
    generalize z_i M 83 27 ((M.1 83 27) - 1) = M1 at h gM1
    generalize m_i M_ 83 27 ((M_.1 83 27) - (1 : Int32)) = NM1 at gM1 ⊢
    by_cases q2 : (M1.1 83 27) < 0 ∨ 16 ≤ (M1.1 83 27)
    · rw [if_pos q2] at h
      rw [if_pos ((rp_ob (rm_rd gM1 83 27) 16).mpr q2)]
      cases h
    · rw [if_neg q2] at h
      rw [if_neg (fun z => q2 ((rp_ob (rm_rd gM1 83 27) 16).mp z))]
      exact zJ43_25_r n ha0 (rm_rdx gM1 104 (rm_rd gM1 83 27)) (rm_rd gM1 83 5) gM1 h
  · rw [if_neg w1] at h
    cases h
def zJ44_276 (n : Nat) (M : ZM) : Option (Int × ZM) :=
  some (1, M)
set_option maxRecDepth 100000 in
set_option maxHeartbeats 4000000 in
theorem zJ44_276_r (n : Nat) {M_ : Mem} {M : ZM} (gM : rm M_ M) {r : Int} {m' : ZM} (h : zJ44_276 n M = some (r, m')) : sI (J44_276 n M_) r m' := by
  unfold zJ44_276 at h
  unfold J44_276
  obtain ⟨rfl, rfl⟩ := Prod.mk.inj (Option.some.inj h)
  exact ⟨_, _, rfl, (show rp 1 1 from rfl), gM⟩
def zJ44_59 (n : Nat) (M : ZM) : Option (Int × ZM) :=
  match zF29 n M with | some (v19, M20) => (if v19 = 0 ∨ v19 = 1 then (some (v19, M20)) else (none)) | none => none
set_option maxRecDepth 100000 in
set_option maxHeartbeats 4000000 in
theorem zJ44_59_r (n : Nat) {M_ : Mem} {M : ZM} (gM : rm M_ M) {r : Int} {m' : ZM} (h : zJ44_59 n M = some (r, m')) : sI (J44_59 n M_) r m' := by
  unfold zJ44_59 at h
  unfold J44_59
  cases hc1 : zF29 n M with
  | none => rw [hc1] at h; cases h
  | some w =>
    obtain ⟨v19, M20⟩ := w
    rw [hc1] at h
    dsimp only at h
    obtain ⟨V19, NM20, ehc1, hv19, gM20⟩ := zF29_r n gM hc1
    rw [ehc1]
    dsimp only
    by_cases q2 : v19 = 0 ∨ v19 = 1
    · rw [if_pos q2] at h
      rw [if_pos ((or_congr (rp_eq hv19 (show rp 0 0 from rfl)) (rp_eq hv19 (show rp 1 1 from rfl))).mpr q2)]
      obtain ⟨rfl, rfl⟩ := Prod.mk.inj (Option.some.inj h)
      exact ⟨_, _, rfl, hv19, gM20⟩
    · rw [if_neg q2] at h
      rw [if_neg (fun z => q2 ((or_congr (rp_eq hv19 (show rp 0 0 from rfl)) (rp_eq hv19 (show rp 1 1 from rfl))).mp z))]
      cases h
def zJ44_140 (n : Nat) (zrec39 : Int → Int → Int → ZM → Option (Int × ZM)) (x1 : Int) (x2 : Int) (x3 : Int) (M : ZM) : Option (Int × ZM) :=
  zrec39 x1 x2 x3 M
set_option maxRecDepth 100000 in
set_option maxHeartbeats 4000000 in
theorem zJ44_140_r (n : Nat) (rec39 : Int32 → Int32 → Int32 → Mem → Option (Int32 × Mem)) (zrec39 : Int → Int → Int → ZM → Option (Int × ZM)) (hrec39 : ∀ {Y1 : Int32} {y1 : Int} (_ : rp Y1 y1) {Y2 : Int32} {y2 : Int} (_ : rp Y2 y2) {Y3 : Int32} {y3 : Int} (_ : rp Y3 y3) {M : Mem} {m : ZM} (_ : rm M m) {r : Int} {m' : ZM} (_ : zrec39 y1 y2 y3 m = some (r, m')), sI (rec39 Y1 Y2 Y3 M) r m') {X1_ : Int32} {x1 : Int} (hx1 : rp X1_ x1) {X2_ : Int32} {x2 : Int} (hx2 : rp X2_ x2) {X3_ : Int32} {x3 : Int} (hx3 : rp X3_ x3) {M_ : Mem} {M : ZM} (gM : rm M_ M) {r : Int} {m' : ZM} (h : zJ44_140 n zrec39 x1 x2 x3 M = some (r, m')) : sI (J44_140 n rec39 X1_ X2_ X3_ M_) r m' := by
  unfold zJ44_140 at h
  unfold J44_140
  exact hrec39 hx1 hx2 hx3 gM h
def zJ44_125 (n : Nat) (zrec39 : Int → Int → Int → ZM → Option (Int × ZM)) (x1 : Int) (x2 : Int) (s0 : Int) (M : ZM) : Option (Int × ZM) :=
  if s0 = 0 then (zJ44_140 n zrec39 x1 x2 s0 M) else (match zF43 n x1 M with | some (v29, M30) => (if v29 = 0 then (some (0, M30)) else (zJ44_140 n zrec39 x1 x2 s0 M30)) | none => none)
set_option maxRecDepth 100000 in
set_option maxHeartbeats 4000000 in
theorem zJ44_125_r (n : Nat) (rec39 : Int32 → Int32 → Int32 → Mem → Option (Int32 × Mem)) (zrec39 : Int → Int → Int → ZM → Option (Int × ZM)) (hrec39 : ∀ {Y1 : Int32} {y1 : Int} (_ : rp Y1 y1) {Y2 : Int32} {y2 : Int} (_ : rp Y2 y2) {Y3 : Int32} {y3 : Int} (_ : rp Y3 y3) {M : Mem} {m : ZM} (_ : rm M m) {r : Int} {m' : ZM} (_ : zrec39 y1 y2 y3 m = some (r, m')), sI (rec39 Y1 Y2 Y3 M) r m') {X1_ : Int32} {x1 : Int} (hx1 : rp X1_ x1) {X2_ : Int32} {x2 : Int} (hx2 : rp X2_ x2) {S0_ : Int32} {s0 : Int} (hs0 : rp S0_ s0) {M_ : Mem} {M : ZM} (gM : rm M_ M) {r : Int} {m' : ZM} (h : zJ44_125 n zrec39 x1 x2 s0 M = some (r, m')) : sI (J44_125 n rec39 X1_ X2_ S0_ M_) r m' := by
  unfold zJ44_125 at h
  unfold J44_125
  by_cases q1 : s0 = 0
  · rw [if_pos q1] at h
    rw [if_pos ((rp_eq hs0 (show rp 0 0 from rfl)).mpr q1)]
    exact zJ44_140_r n _ _ hrec39 hx1 hx2 hs0 gM h
  · rw [if_neg q1] at h
    rw [if_neg (fun z => q1 ((rp_eq hs0 (show rp 0 0 from rfl)).mp z))]
    cases hc2 : zF43 n x1 M with
    | none => rw [hc2] at h; cases h
    | some w =>
      obtain ⟨v29, M30⟩ := w
      rw [hc2] at h
      dsimp only at h
      obtain ⟨V29, NM30, ehc2, hv29, gM30⟩ := zF43_r n hx1 gM hc2
      rw [ehc2]
      dsimp only
      by_cases q3 : v29 = 0
      · rw [if_pos q3] at h
        rw [if_pos ((rp_eq hv29 (show rp 0 0 from rfl)).mpr q3)]
        obtain ⟨rfl, rfl⟩ := Prod.mk.inj (Option.some.inj h)
        exact ⟨_, _, rfl, (show rp 0 0 from rfl), gM30⟩
      · rw [if_neg q3] at h
        rw [if_neg (fun z => q3 ((rp_eq hv29 (show rp 0 0 from rfl)).mp z))]
        exact zJ44_140_r n _ _ hrec39 hx1 hx2 hs0 gM30 h
def zJ44_97 (n : Nat) (zrec39 : Int → Int → Int → ZM → Option (Int × ZM)) (x1 : Int) (x2 : Int) (s0 : Int) (M : ZM) : Option (Int × ZM) :=
  if (M.1 83 5) = s0 then (if (M.1 83 27) ≤ 0 then (zJ44_125 n zrec39 x1 x2 0 M) else (zJ44_125 n zrec39 x1 x2 1 M)) else (match zF29 n M with | some (v33, M34) => (if v33 = 0 ∨ v33 = 1 then (some (v33, M34)) else (none)) | none => none)
set_option maxRecDepth 100000 in
set_option maxHeartbeats 4000000 in
theorem zJ44_97_r (n : Nat) (rec39 : Int32 → Int32 → Int32 → Mem → Option (Int32 × Mem)) (zrec39 : Int → Int → Int → ZM → Option (Int × ZM)) (hrec39 : ∀ {Y1 : Int32} {y1 : Int} (_ : rp Y1 y1) {Y2 : Int32} {y2 : Int} (_ : rp Y2 y2) {Y3 : Int32} {y3 : Int} (_ : rp Y3 y3) {M : Mem} {m : ZM} (_ : rm M m) {r : Int} {m' : ZM} (_ : zrec39 y1 y2 y3 m = some (r, m')), sI (rec39 Y1 Y2 Y3 M) r m') {X1_ : Int32} {x1 : Int} (hx1 : rp X1_ x1) {X2_ : Int32} {x2 : Int} (hx2 : rp X2_ x2) {S0_ : Int32} {s0 : Int} (hs0 : rp S0_ s0) {M_ : Mem} {M : ZM} (gM : rm M_ M) {r : Int} {m' : ZM} (h : zJ44_97 n zrec39 x1 x2 s0 M = some (r, m')) : sI (J44_97 n rec39 X1_ X2_ S0_ M_) r m' := by
  unfold zJ44_97 at h
  unfold J44_97
  by_cases q1 : (M.1 83 5) = s0
  · rw [if_pos q1] at h
    rw [if_pos ((rp_eq (rm_rd gM 83 5) hs0).mpr q1)]
    by_cases q2 : (M.1 83 27) ≤ 0
    · rw [if_pos q2] at h
      rw [if_pos ((rp_le (rm_rd gM 83 27) (show rp 0 0 from rfl)).mpr q2)]
      exact zJ44_125_r n _ _ hrec39 hx1 hx2 (show rp 0 0 from rfl) gM h
    · rw [if_neg q2] at h
      rw [if_neg (fun z => q2 ((rp_le (rm_rd gM 83 27) (show rp 0 0 from rfl)).mp z))]
      exact zJ44_125_r n _ _ hrec39 hx1 hx2 (show rp 1 1 from rfl) gM h
  · rw [if_neg q1] at h
    rw [if_neg (fun z => q1 ((rp_eq (rm_rd gM 83 5) hs0).mp z))]
    cases hc3 : zF29 n M with
    | none => rw [hc3] at h; cases h
    | some w =>
      obtain ⟨v33, M34⟩ := w
      rw [hc3] at h
      dsimp only at h
      obtain ⟨V33, NM34, ehc3, hv33, gM34⟩ := zF29_r n gM hc3
      rw [ehc3]
      dsimp only
      by_cases q4 : v33 = 0 ∨ v33 = 1
      · rw [if_pos q4] at h
        rw [if_pos ((or_congr (rp_eq hv33 (show rp 0 0 from rfl)) (rp_eq hv33 (show rp 1 1 from rfl))).mpr q4)]
        obtain ⟨rfl, rfl⟩ := Prod.mk.inj (Option.some.inj h)
        exact ⟨_, _, rfl, hv33, gM34⟩
      · rw [if_neg q4] at h
        rw [if_neg (fun z => q4 ((or_congr (rp_eq hv33 (show rp 0 0 from rfl)) (rp_eq hv33 (show rp 1 1 from rfl))).mp z))]
        cases h
def zJ44_72 (n : Nat) (zrec39 : Int → Int → Int → ZM → Option (Int × ZM)) (x1 : Int) (x2 : Int) (M : ZM) : Option (Int × ZM) :=
  if (M.1 83 27) ≤ 0 then (zJ44_97 n zrec39 x1 x2 x2 M) else (if rg ((M.1 83 27) - 1) then (if ((M.1 83 27) - 1) < 0 ∨ 16 ≤ ((M.1 83 27) - 1) then (none) else (match zF23 n (M.1 103 (Int.toNat ((M.1 83 27) - 1))) M with | some (v38, M39) => (zJ44_97 n zrec39 x1 x2 v38 M39) | none => none)) else none)
set_option maxRecDepth 100000 in
set_option maxHeartbeats 4000000 in
theorem zJ44_72_r (n : Nat) (rec39 : Int32 → Int32 → Int32 → Mem → Option (Int32 × Mem)) (zrec39 : Int → Int → Int → ZM → Option (Int × ZM)) (hrec39 : ∀ {Y1 : Int32} {y1 : Int} (_ : rp Y1 y1) {Y2 : Int32} {y2 : Int} (_ : rp Y2 y2) {Y3 : Int32} {y3 : Int} (_ : rp Y3 y3) {M : Mem} {m : ZM} (_ : rm M m) {r : Int} {m' : ZM} (_ : zrec39 y1 y2 y3 m = some (r, m')), sI (rec39 Y1 Y2 Y3 M) r m') {X1_ : Int32} {x1 : Int} (hx1 : rp X1_ x1) {X2_ : Int32} {x2 : Int} (hx2 : rp X2_ x2) {M_ : Mem} {M : ZM} (gM : rm M_ M) {r : Int} {m' : ZM} (h : zJ44_72 n zrec39 x1 x2 M = some (r, m')) : sI (J44_72 n rec39 X1_ X2_ M_) r m' := by
  unfold zJ44_72 at h
  unfold J44_72
  by_cases q1 : (M.1 83 27) ≤ 0
  · rw [if_pos q1] at h
    rw [if_pos ((rp_le (rm_rd gM 83 27) (show rp 0 0 from rfl)).mpr q1)]
    exact zJ44_97_r n _ _ hrec39 hx1 hx2 hx2 gM h
  · rw [if_neg q1] at h
    rw [if_neg (fun z => q1 ((rp_le (rm_rd gM 83 27) (show rp 0 0 from rfl)).mp z))]
    by_cases w2 : rg ((M.1 83 27) - 1)
    · rw [if_pos w2] at h
      by_cases q3 : ((M.1 83 27) - 1) < 0 ∨ 16 ≤ ((M.1 83 27) - 1)
      · rw [if_pos q3] at h
        rw [if_pos ((rp_ob (rp_sub (rp_iz (rm_rd gM 83 27)) (rp_iz (show rp 1 1 from rfl)) w2) 16).mpr q3)]
        cases h
      · rw [if_neg q3] at h
        rw [if_neg (fun z => q3 ((rp_ob (rp_sub (rp_iz (rm_rd gM 83 27)) (rp_iz (show rp 1 1 from rfl)) w2) 16).mp z))]
        cases hc4 : zF23 n (M.1 103 (Int.toNat ((M.1 83 27) - 1))) M with
        | none => rw [hc4] at h; cases h
        | some w =>
          obtain ⟨v38, M39⟩ := w
          rw [hc4] at h
          dsimp only at h
          obtain ⟨V38, NM39, ehc4, hv38, gM39⟩ := zF23_r n (rm_rdx gM 103 (rp_sub (rp_iz (rm_rd gM 83 27)) (rp_iz (show rp 1 1 from rfl)) w2)) gM hc4
          rw [ehc4]
          dsimp only
          exact zJ44_97_r n _ _ hrec39 hx1 hx2 hv38 gM39 h
    · rw [if_neg w2] at h
      cases h
def zJ44_212 (n : Nat) (zrec39 : Int → Int → Int → ZM → Option (Int × ZM)) (x1 : Int) (x2 : Int) (x3 : Int) (M : ZM) : Option (Int × ZM) :=
  zrec39 x1 x2 x3 M
set_option maxRecDepth 100000 in
set_option maxHeartbeats 4000000 in
theorem zJ44_212_r (n : Nat) (rec39 : Int32 → Int32 → Int32 → Mem → Option (Int32 × Mem)) (zrec39 : Int → Int → Int → ZM → Option (Int × ZM)) (hrec39 : ∀ {Y1 : Int32} {y1 : Int} (_ : rp Y1 y1) {Y2 : Int32} {y2 : Int} (_ : rp Y2 y2) {Y3 : Int32} {y3 : Int} (_ : rp Y3 y3) {M : Mem} {m : ZM} (_ : rm M m) {r : Int} {m' : ZM} (_ : zrec39 y1 y2 y3 m = some (r, m')), sI (rec39 Y1 Y2 Y3 M) r m') {X1_ : Int32} {x1 : Int} (hx1 : rp X1_ x1) {X2_ : Int32} {x2 : Int} (hx2 : rp X2_ x2) {X3_ : Int32} {x3 : Int} (hx3 : rp X3_ x3) {M_ : Mem} {M : ZM} (gM : rm M_ M) {r : Int} {m' : ZM} (h : zJ44_212 n zrec39 x1 x2 x3 M = some (r, m')) : sI (J44_212 n rec39 X1_ X2_ X3_ M_) r m' := by
  unfold zJ44_212 at h
  unfold J44_212
  exact hrec39 hx1 hx2 hx3 gM h
def zJ44_180 (n : Nat) (zrec39 : Int → Int → Int → ZM → Option (Int × ZM)) (x1 : Int) (x2 : Int) (x3 : Int) (x4 : Int) (M : ZM) : Option (Int × ZM) :=
  match zF37 n (-1) M with | some (v46, M47) => (if v46 = 0 then (some (0, M47)) else (if x1 = 0 then (match zF36 n 0 x4 M47 with | some (v51, M52) => (zJ44_212 n zrec39 x1 x2 x3 M52) | none => none) else (match zF35 n 1 x4 0 M47 with | some (v54, M55) => (zJ44_212 n zrec39 x1 x2 x3 M55) | none => none))) | none => none
set_option maxRecDepth 100000 in
set_option maxHeartbeats 4000000 in
theorem zJ44_180_r (n : Nat) (rec39 : Int32 → Int32 → Int32 → Mem → Option (Int32 × Mem)) (zrec39 : Int → Int → Int → ZM → Option (Int × ZM)) (hrec39 : ∀ {Y1 : Int32} {y1 : Int} (_ : rp Y1 y1) {Y2 : Int32} {y2 : Int} (_ : rp Y2 y2) {Y3 : Int32} {y3 : Int} (_ : rp Y3 y3) {M : Mem} {m : ZM} (_ : rm M m) {r : Int} {m' : ZM} (_ : zrec39 y1 y2 y3 m = some (r, m')), sI (rec39 Y1 Y2 Y3 M) r m') {X1_ : Int32} {x1 : Int} (hx1 : rp X1_ x1) {X2_ : Int32} {x2 : Int} (hx2 : rp X2_ x2) {X3_ : Int32} {x3 : Int} (hx3 : rp X3_ x3) {X4_ : Int32} {x4 : Int} (hx4 : rp X4_ x4) {M_ : Mem} {M : ZM} (gM : rm M_ M) {r : Int} {m' : ZM} (h : zJ44_180 n zrec39 x1 x2 x3 x4 M = some (r, m')) : sI (J44_180 n rec39 X1_ X2_ X3_ X4_ M_) r m' := by
  unfold zJ44_180 at h
  unfold J44_180
  cases hc1 : zF37 n (-1) M with
  | none => rw [hc1] at h; cases h
  | some w =>
    obtain ⟨v46, M47⟩ := w
    rw [hc1] at h
    dsimp only at h
    obtain ⟨V46, NM47, ehc1, hv46, gM47⟩ := zF37_r n (show rp (-1) (-1) from rfl) gM hc1
    rw [ehc1]
    dsimp only
    by_cases q2 : v46 = 0
    · rw [if_pos q2] at h
      rw [if_pos ((rp_eq hv46 (show rp 0 0 from rfl)).mpr q2)]
      obtain ⟨rfl, rfl⟩ := Prod.mk.inj (Option.some.inj h)
      exact ⟨_, _, rfl, (show rp 0 0 from rfl), gM47⟩
    · rw [if_neg q2] at h
      rw [if_neg (fun z => q2 ((rp_eq hv46 (show rp 0 0 from rfl)).mp z))]
      by_cases q3 : x1 = 0
      · rw [if_pos q3] at h
        rw [if_pos ((rp_eq hx1 (show rp 0 0 from rfl)).mpr q3)]
        cases hc4 : zF36 n 0 x4 M47 with
        | none => rw [hc4] at h; cases h
        | some w =>
          obtain ⟨v51, M52⟩ := w
          rw [hc4] at h
          dsimp only at h
          obtain ⟨NM52, ehc4, gM52⟩ := zF36_r n (show rp 0 0 from rfl) hx4 gM47 hc4
          rw [ehc4]
          dsimp only
          exact zJ44_212_r n _ _ hrec39 hx1 hx2 hx3 gM52 h
      · rw [if_neg q3] at h
        rw [if_neg (fun z => q3 ((rp_eq hx1 (show rp 0 0 from rfl)).mp z))]
        cases hc5 : zF35 n 1 x4 0 M47 with
        | none => rw [hc5] at h; cases h
        | some w =>
          obtain ⟨v54, M55⟩ := w
          rw [hc5] at h
          dsimp only at h
          obtain ⟨NM55, ehc5, gM55⟩ := zF35_r n (show rp 1 1 from rfl) hx4 (show rp 0 0 from rfl) gM47 hc5
          rw [ehc5]
          dsimp only
          exact zJ44_212_r n _ _ hrec39 hx1 hx2 hx3 gM55 h
def zJ44_247 (n : Nat) (zrec39 : Int → Int → Int → ZM → Option (Int × ZM)) (x1 : Int) (x2 : Int) (x3 : Int) (M : ZM) : Option (Int × ZM) :=
  zrec39 x1 x2 x3 M
set_option maxRecDepth 100000 in
set_option maxHeartbeats 4000000 in
theorem zJ44_247_r (n : Nat) (rec39 : Int32 → Int32 → Int32 → Mem → Option (Int32 × Mem)) (zrec39 : Int → Int → Int → ZM → Option (Int × ZM)) (hrec39 : ∀ {Y1 : Int32} {y1 : Int} (_ : rp Y1 y1) {Y2 : Int32} {y2 : Int} (_ : rp Y2 y2) {Y3 : Int32} {y3 : Int} (_ : rp Y3 y3) {M : Mem} {m : ZM} (_ : rm M m) {r : Int} {m' : ZM} (_ : zrec39 y1 y2 y3 m = some (r, m')), sI (rec39 Y1 Y2 Y3 M) r m') {X1_ : Int32} {x1 : Int} (hx1 : rp X1_ x1) {X2_ : Int32} {x2 : Int} (hx2 : rp X2_ x2) {X3_ : Int32} {x3 : Int} (hx3 : rp X3_ x3) {M_ : Mem} {M : ZM} (gM : rm M_ M) {r : Int} {m' : ZM} (h : zJ44_247 n zrec39 x1 x2 x3 M = some (r, m')) : sI (J44_247 n rec39 X1_ X2_ X3_ M_) r m' := by
  unfold zJ44_247 at h
  unfold J44_247
  exact hrec39 hx1 hx2 hx3 gM h
def zJ44_221 (n : Nat) (zrec39 : Int → Int → Int → ZM → Option (Int × ZM)) (x1 : Int) (x2 : Int) (x3 : Int) (x4 : Int) (M : ZM) : Option (Int × ZM) :=
  match zF28 n M with | some (v57, M58) => (if x1 = 0 then (match zF36 n 0 x4 M58 with | some (v61, M62) => (zJ44_247 n zrec39 x1 x2 x3 M62) | none => none) else (match zF35 n 0 x4 0 M58 with | some (v64, M65) => (zJ44_247 n zrec39 x1 x2 x3 M65) | none => none)) | none => none
set_option maxRecDepth 100000 in
set_option maxHeartbeats 4000000 in
theorem zJ44_221_r (n : Nat) (rec39 : Int32 → Int32 → Int32 → Mem → Option (Int32 × Mem)) (zrec39 : Int → Int → Int → ZM → Option (Int × ZM)) (hrec39 : ∀ {Y1 : Int32} {y1 : Int} (_ : rp Y1 y1) {Y2 : Int32} {y2 : Int} (_ : rp Y2 y2) {Y3 : Int32} {y3 : Int} (_ : rp Y3 y3) {M : Mem} {m : ZM} (_ : rm M m) {r : Int} {m' : ZM} (_ : zrec39 y1 y2 y3 m = some (r, m')), sI (rec39 Y1 Y2 Y3 M) r m') {X1_ : Int32} {x1 : Int} (hx1 : rp X1_ x1) {X2_ : Int32} {x2 : Int} (hx2 : rp X2_ x2) {X3_ : Int32} {x3 : Int} (hx3 : rp X3_ x3) {X4_ : Int32} {x4 : Int} (hx4 : rp X4_ x4) {M_ : Mem} {M : ZM} (gM : rm M_ M) {r : Int} {m' : ZM} (h : zJ44_221 n zrec39 x1 x2 x3 x4 M = some (r, m')) : sI (J44_221 n rec39 X1_ X2_ X3_ X4_ M_) r m' := by
  unfold zJ44_221 at h
  unfold J44_221
  cases hc1 : zF28 n M with
  | none => rw [hc1] at h; cases h
  | some w =>
    obtain ⟨v57, M58⟩ := w
    rw [hc1] at h
    dsimp only at h
    obtain ⟨NM58, ehc1, gM58⟩ := zF28_r n gM hc1
    rw [ehc1]
    dsimp only
    by_cases q2 : x1 = 0
    · rw [if_pos q2] at h
      rw [if_pos ((rp_eq hx1 (show rp 0 0 from rfl)).mpr q2)]
      cases hc3 : zF36 n 0 x4 M58 with
      | none => rw [hc3] at h; cases h
      | some w =>
        obtain ⟨v61, M62⟩ := w
        rw [hc3] at h
        dsimp only at h
        obtain ⟨NM62, ehc3, gM62⟩ := zF36_r n (show rp 0 0 from rfl) hx4 gM58 hc3
        rw [ehc3]
        dsimp only
        exact zJ44_247_r n _ _ hrec39 hx1 hx2 hx3 gM62 h
    · rw [if_neg q2] at h
      rw [if_neg (fun z => q2 ((rp_eq hx1 (show rp 0 0 from rfl)).mp z))]
      cases hc4 : zF35 n 0 x4 0 M58 with
      | none => rw [hc4] at h; cases h
      | some w =>
        obtain ⟨v64, M65⟩ := w
        rw [hc4] at h
        dsimp only at h
        obtain ⟨NM65, ehc4, gM65⟩ := zF35_r n (show rp 0 0 from rfl) hx4 (show rp 0 0 from rfl) gM58 hc4
        rw [ehc4]
        dsimp only
        exact zJ44_247_r n _ _ hrec39 hx1 hx2 hx3 gM65 h
def zJ44_156 (n : Nat) (zrec39 : Int → Int → Int → ZM → Option (Int × ZM)) (x1 : Int) (x2 : Int) (x3 : Int) (M : ZM) : Option (Int × ZM) :=
  match zF42 n x1 M with | some (v70, M71) => (if v70 = 0 then (some (0, M71)) else (zrec39 x1 x2 x3 M71)) | none => none
set_option maxRecDepth 100000 in
set_option maxHeartbeats 4000000 in
theorem zJ44_156_r (n : Nat) (rec39 : Int32 → Int32 → Int32 → Mem → Option (Int32 × Mem)) (zrec39 : Int → Int → Int → ZM → Option (Int × ZM)) (hrec39 : ∀ {Y1 : Int32} {y1 : Int} (_ : rp Y1 y1) {Y2 : Int32} {y2 : Int} (_ : rp Y2 y2) {Y3 : Int32} {y3 : Int} (_ : rp Y3 y3) {M : Mem} {m : ZM} (_ : rm M m) {r : Int} {m' : ZM} (_ : zrec39 y1 y2 y3 m = some (r, m')), sI (rec39 Y1 Y2 Y3 M) r m') {X1_ : Int32} {x1 : Int} (hx1 : rp X1_ x1) {X2_ : Int32} {x2 : Int} (hx2 : rp X2_ x2) {X3_ : Int32} {x3 : Int} (hx3 : rp X3_ x3) {M_ : Mem} {M : ZM} (gM : rm M_ M) {r : Int} {m' : ZM} (h : zJ44_156 n zrec39 x1 x2 x3 M = some (r, m')) : sI (J44_156 n rec39 X1_ X2_ X3_ M_) r m' := by
  unfold zJ44_156 at h
  unfold J44_156
  cases hc1 : zF42 n x1 M with
  | none => rw [hc1] at h; cases h
  | some w =>
    obtain ⟨v70, M71⟩ := w
    rw [hc1] at h
    dsimp only at h
    obtain ⟨V70, NM71, ehc1, hv70, gM71⟩ := zF42_r n hx1 gM hc1
    rw [ehc1]
    dsimp only
    by_cases q2 : v70 = 0
    · rw [if_pos q2] at h
      rw [if_pos ((rp_eq hv70 (show rp 0 0 from rfl)).mpr q2)]
      obtain ⟨rfl, rfl⟩ := Prod.mk.inj (Option.some.inj h)
      exact ⟨_, _, rfl, (show rp 0 0 from rfl), gM71⟩
    · rw [if_neg q2] at h
      rw [if_neg (fun z => q2 ((rp_eq hv70 (show rp 0 0 from rfl)).mp z))]
      exact hrec39 hx1 hx2 hx3 gM71 h
def zJ44_143 (n : Nat) (zrec39 : Int → Int → Int → ZM → Option (Int × ZM)) (x1 : Int) (x2 : Int) (x3 : Int) (M : ZM) : Option (Int × ZM) :=
  match zF31 n 36 M with | some (v41, M42) => (if v41 = 0 then (if (M42.1 83 4) = 4 then (zJ44_180 n zrec39 x1 x2 x3 (M42.1 83 5) M42) else (zJ44_221 n zrec39 x1 x2 x3 (M42.1 83 5) M42)) else (match zF28 n M42 with | some (v67, M68) => (zJ44_156 n zrec39 x1 x2 x3 M68) | none => none)) | none => none
set_option maxRecDepth 100000 in
set_option maxHeartbeats 4000000 in
theorem zJ44_143_r (n : Nat) (rec39 : Int32 → Int32 → Int32 → Mem → Option (Int32 × Mem)) (zrec39 : Int → Int → Int → ZM → Option (Int × ZM)) (hrec39 : ∀ {Y1 : Int32} {y1 : Int} (_ : rp Y1 y1) {Y2 : Int32} {y2 : Int} (_ : rp Y2 y2) {Y3 : Int32} {y3 : Int} (_ : rp Y3 y3) {M : Mem} {m : ZM} (_ : rm M m) {r : Int} {m' : ZM} (_ : zrec39 y1 y2 y3 m = some (r, m')), sI (rec39 Y1 Y2 Y3 M) r m') {X1_ : Int32} {x1 : Int} (hx1 : rp X1_ x1) {X2_ : Int32} {x2 : Int} (hx2 : rp X2_ x2) {X3_ : Int32} {x3 : Int} (hx3 : rp X3_ x3) {M_ : Mem} {M : ZM} (gM : rm M_ M) {r : Int} {m' : ZM} (h : zJ44_143 n zrec39 x1 x2 x3 M = some (r, m')) : sI (J44_143 n rec39 X1_ X2_ X3_ M_) r m' := by
  unfold zJ44_143 at h
  unfold J44_143
  cases hc1 : zF31 n 36 M with
  | none => rw [hc1] at h; cases h
  | some w =>
    obtain ⟨v41, M42⟩ := w
    rw [hc1] at h
    dsimp only at h
    obtain ⟨V41, NM42, ehc1, hv41, gM42⟩ := zF31_r n (show rp 36 36 from rfl) gM hc1
    rw [ehc1]
    dsimp only
    by_cases q2 : v41 = 0
    · rw [if_pos q2] at h
      rw [if_pos ((rp_eq hv41 (show rp 0 0 from rfl)).mpr q2)]
      by_cases q3 : (M42.1 83 4) = 4
      · rw [if_pos q3] at h
        rw [if_pos ((rp_eq (rm_rd gM42 83 4) (show rp 4 4 from rfl)).mpr q3)]
        exact zJ44_180_r n _ _ hrec39 hx1 hx2 hx3 (rm_rd gM42 83 5) gM42 h
      · rw [if_neg q3] at h
        rw [if_neg (fun z => q3 ((rp_eq (rm_rd gM42 83 4) (show rp 4 4 from rfl)).mp z))]
        exact zJ44_221_r n _ _ hrec39 hx1 hx2 hx3 (rm_rd gM42 83 5) gM42 h
    · rw [if_neg q2] at h
      rw [if_neg (fun z => q2 ((rp_eq hv41 (show rp 0 0 from rfl)).mp z))]
      cases hc4 : zF28 n M42 with
      | none => rw [hc4] at h; cases h
      | some w =>
        obtain ⟨v67, M68⟩ := w
        rw [hc4] at h
        dsimp only at h
        obtain ⟨NM68, ehc4, gM68⟩ := zF28_r n gM42 hc4
        rw [ehc4]
        dsimp only
        exact zJ44_156_r n _ _ hrec39 hx1 hx2 hx3 gM68 h
def zL44_39 (n : Nat) : Nat → Int → Int → Int → ZM → Option (Int × ZM)
  | 0, _, _, _, _ => none
  | k + 1, x1, x2, x3, M => if x3 = 0 then (match zF28 n M with | some (v8, M9) => (if x1 = 0 then (match zF36 n 6 0 M9 with | some (v12, M13) => (zJ44_276 n M13) | none => none) else (match zF35 n 6 0 0 M9 with | some (v15, M16) => (zJ44_276 n M16) | none => none)) | none => none) else (if (M.1 83 4) = 0 then (zJ44_59 n M) else (if (M.1 83 4) = 6 then (zJ44_59 n M) else (if (M.1 83 4) = 5 then (zJ44_72 n (zL44_39 n k) x1 x2 M) else (zJ44_143 n (zL44_39 n k) x1 x2 x3 M))))
set_option maxRecDepth 100000 in
set_option maxHeartbeats 4000000 in
theorem zL44_39_r (n : Nat) : ∀ (k : Nat) {X1_ : Int32} {x1 : Int} (hx1 : rp X1_ x1) {X2_ : Int32} {x2 : Int} (hx2 : rp X2_ x2) {X3_ : Int32} {x3 : Int} (hx3 : rp X3_ x3) {M_ : Mem} {M : ZM} (gM : rm M_ M) {r : Int} {m' : ZM} (_ : zL44_39 n k x1 x2 x3 M = some (r, m')), sI (L44_39 n k X1_ X2_ X3_ M_) r m' := by
  intro k
  induction k with
  | zero => intro X1_ x1 hx1 X2_ x2 hx2 X3_ x3 hx3 M_ M gM r m' h; cases h
  | succ k ih =>
    intro X1_ x1 hx1 X2_ x2 hx2 X3_ x3 hx3 M_ M gM r m' h
    rw [zL44_39] at h
    rw [L44_39]
    by_cases q1 : x3 = 0
    · rw [if_pos q1] at h
      rw [if_pos ((rp_eq hx3 (show rp 0 0 from rfl)).mpr q1)]
      cases hc2 : zF28 n M with
      | none => rw [hc2] at h; cases h
      | some w =>
        obtain ⟨v8, M9⟩ := w
        rw [hc2] at h
        dsimp only at h
        obtain ⟨NM9, ehc2, gM9⟩ := zF28_r n gM hc2
        rw [ehc2]
        dsimp only
        by_cases q3 : x1 = 0
        · rw [if_pos q3] at h
          rw [if_pos ((rp_eq hx1 (show rp 0 0 from rfl)).mpr q3)]
          cases hc4 : zF36 n 6 0 M9 with
          | none => rw [hc4] at h; cases h
          | some w =>
            obtain ⟨v12, M13⟩ := w
            rw [hc4] at h
            dsimp only at h
            obtain ⟨NM13, ehc4, gM13⟩ := zF36_r n (show rp 6 6 from rfl) (show rp 0 0 from rfl) gM9 hc4
            rw [ehc4]
            dsimp only
            exact zJ44_276_r n gM13 h
        · rw [if_neg q3] at h
          rw [if_neg (fun z => q3 ((rp_eq hx1 (show rp 0 0 from rfl)).mp z))]
          cases hc5 : zF35 n 6 0 0 M9 with
          | none => rw [hc5] at h; cases h
          | some w =>
            obtain ⟨v15, M16⟩ := w
            rw [hc5] at h
            dsimp only at h
            obtain ⟨NM16, ehc5, gM16⟩ := zF35_r n (show rp 6 6 from rfl) (show rp 0 0 from rfl) (show rp 0 0 from rfl) gM9 hc5
            rw [ehc5]
            dsimp only
            exact zJ44_276_r n gM16 h
    · rw [if_neg q1] at h
      rw [if_neg (fun z => q1 ((rp_eq hx3 (show rp 0 0 from rfl)).mp z))]
      by_cases q6 : (M.1 83 4) = 0
      · rw [if_pos q6] at h
        rw [if_pos ((rp_eq (rm_rd gM 83 4) (show rp 0 0 from rfl)).mpr q6)]
        exact zJ44_59_r n gM h
      · rw [if_neg q6] at h
        rw [if_neg (fun z => q6 ((rp_eq (rm_rd gM 83 4) (show rp 0 0 from rfl)).mp z))]
        by_cases q7 : (M.1 83 4) = 6
        · rw [if_pos q7] at h
          rw [if_pos ((rp_eq (rm_rd gM 83 4) (show rp 6 6 from rfl)).mpr q7)]
          exact zJ44_59_r n gM h
        · rw [if_neg q7] at h
          rw [if_neg (fun z => q7 ((rp_eq (rm_rd gM 83 4) (show rp 6 6 from rfl)).mp z))]
          by_cases q8 : (M.1 83 4) = 5
          · rw [if_pos q8] at h
            rw [if_pos ((rp_eq (rm_rd gM 83 4) (show rp 5 5 from rfl)).mpr q8)]
            exact zJ44_72_r n _ _ ih hx1 hx2 gM h
          · rw [if_neg q8] at h
            rw [if_neg (fun z => q8 ((rp_eq (rm_rd gM 83 4) (show rp 5 5 from rfl)).mp z))]
            exact zJ44_143_r n _ _ ih hx1 hx2 hx3 gM h
def zJ44_36 (n : Nat) (x1 : Int) (s0 : Int) (M : ZM) : Option (Int × ZM) :=
  zL44_39 n n x1 s0 1 M
set_option maxRecDepth 100000 in
set_option maxHeartbeats 4000000 in
theorem zJ44_36_r (n : Nat) {X1_ : Int32} {x1 : Int} (hx1 : rp X1_ x1) {S0_ : Int32} {s0 : Int} (hs0 : rp S0_ s0) {M_ : Mem} {M : ZM} (gM : rm M_ M) {r : Int} {m' : ZM} (h : zJ44_36 n x1 s0 M = some (r, m')) : sI (J44_36 n X1_ S0_ M_) r m' := by
  unfold zJ44_36 at h
  unfold J44_36
  exact zL44_39_r n n hx1 hs0 (show rp 1 1 from rfl) gM h
def zJ44_15 (n : Nat) (x1 : Int) (M : ZM) : Option (Int × ZM) :=
  zlet (z_i M 83 32 0) (fun M4 => zlet (z_i M4 83 33 0) (fun M5 => if x1 = 0 then (zJ44_36 n x1 125 M5) else (zJ44_36 n x1 41 M5)))
set_option maxRecDepth 100000 in
set_option maxHeartbeats 4000000 in
theorem zJ44_15_r (n : Nat) {X1_ : Int32} {x1 : Int} (hx1 : rp X1_ x1) {M_ : Mem} {M : ZM} (gM : rm M_ M) {r : Int} {m' : ZM} (h : zJ44_15 n x1 M = some (r, m')) : sI (J44_15 n X1_ M_) r m' := by
  unfold zJ44_15 at h
  unfold J44_15
  have gM4 : rm (m_i M_ 83 32 (0 : Int32)) (z_i M 83 32 0) := rm_i gM 83 32 (show rp 0 0 from rfl)
  rw [mlet]
  rw [zlet] at h
  generalize z_i M 83 32 0 = M4 at h gM4
  generalize m_i M_ 83 32 (0 : Int32) = NM4 at gM4 ⊢
  have gM5 : rm (m_i NM4 83 33 (0 : Int32)) (z_i M4 83 33 0) := rm_i gM4 83 33 (show rp 0 0 from rfl)
  rw [mlet]
  rw [zlet] at h
  generalize z_i M4 83 33 0 = M5 at h gM5
  generalize m_i NM4 83 33 (0 : Int32) = NM5 at gM5 ⊢
  by_cases q1 : x1 = 0
  · rw [if_pos q1] at h
    rw [if_pos ((rp_eq hx1 (show rp 0 0 from rfl)).mpr q1)]
    exact zJ44_36_r n hx1 (show rp 125 125 from rfl) gM5 h
  · rw [if_neg q1] at h
    rw [if_neg (fun z => q1 ((rp_eq hx1 (show rp 0 0 from rfl)).mp z))]
    exact zJ44_36_r n hx1 (show rp 41 41 from rfl) gM5 h
/-- ArmExpanderModel.readRow -/
def zF44 (n : Nat) (a0 : Int) (M : ZM) : Option (Int × ZM) :=
  zlet (z_i M 83 27 0) (fun M1 => zlet (z_i M1 83 30 (-1)) (fun M2 => zlet (z_i M2 83 31 (-1)) (fun M3 => zJ44_15 n a0 M3)))
set_option maxRecDepth 100000 in
set_option maxHeartbeats 4000000 in
theorem zF44_r (n : Nat) {A0_ : Int32} {a0 : Int} (ha0 : rp A0_ a0) {M_ : Mem} {M : ZM} (gM : rm M_ M) {r : Int} {m' : ZM} (h : zF44 n a0 M = some (r, m')) : sI (F44 n A0_ M_) r m' := by
  unfold zF44 at h
  unfold F44
  have gM1 : rm (m_i M_ 83 27 (0 : Int32)) (z_i M 83 27 0) := rm_i gM 83 27 (show rp 0 0 from rfl)
  rw [mlet]
  rw [zlet] at h
  generalize z_i M 83 27 0 = M1 at h gM1
  generalize m_i M_ 83 27 (0 : Int32) = NM1 at gM1 ⊢
  have gM2 : rm (m_i NM1 83 30 (-1 : Int32)) (z_i M1 83 30 (-1)) := rm_i gM1 83 30 (show rp (-1) (-1) from rfl)
  rw [mlet]
  rw [zlet] at h
  generalize z_i M1 83 30 (-1) = M2 at h gM2
  generalize m_i NM1 83 30 (-1 : Int32) = NM2 at gM2 ⊢
  have gM3 : rm (m_i NM2 83 31 (-1 : Int32)) (z_i M2 83 31 (-1)) := rm_i gM2 83 31 (show rp (-1) (-1) from rfl)
  rw [mlet]
  rw [zlet] at h
  generalize z_i M2 83 31 (-1) = M3 at h gM3
  generalize m_i NM2 83 31 (-1 : Int32) = NM3 at gM3 ⊢
  exact zJ44_15_r n ha0 gM3 h
def zJ45_176 (n : Nat) (s0 : Int) (M : ZM) : Option (Int × ZM) :=
  if s0 = 0 ∨ s0 = 1 then (some (s0, M)) else (none)
set_option maxRecDepth 100000 in
set_option maxHeartbeats 4000000 in
theorem zJ45_176_r (n : Nat) {S0_ : Int32} {s0 : Int} (hs0 : rp S0_ s0) {M_ : Mem} {M : ZM} (gM : rm M_ M) {r : Int} {m' : ZM} (h : zJ45_176 n s0 M = some (r, m')) : sI (J45_176 n S0_ M_) r m' := by
  unfold zJ45_176 at h
  unfold J45_176
  by_cases q1 : s0 = 0 ∨ s0 = 1
  · rw [if_pos q1] at h
    rw [if_pos ((or_congr (rp_eq hs0 (show rp 0 0 from rfl)) (rp_eq hs0 (show rp 1 1 from rfl))).mpr q1)]
    obtain ⟨rfl, rfl⟩ := Prod.mk.inj (Option.some.inj h)
    exact ⟨_, _, rfl, hs0, gM⟩
  · rw [if_neg q1] at h
    rw [if_neg (fun z => q1 ((or_congr (rp_eq hs0 (show rp 0 0 from rfl)) (rp_eq hs0 (show rp 1 1 from rfl))).mp z))]
    cases h
def zJ45_171 (n : Nat) (M : ZM) : Option (Int × ZM) :=
  zJ45_176 n 1 M
set_option maxRecDepth 100000 in
set_option maxHeartbeats 4000000 in
theorem zJ45_171_r (n : Nat) {M_ : Mem} {M : ZM} (gM : rm M_ M) {r : Int} {m' : ZM} (h : zJ45_171 n M = some (r, m')) : sI (J45_171 n M_) r m' := by
  unfold zJ45_171 at h
  unfold J45_171
  exact zJ45_176_r n (show rp 1 1 from rfl) gM h
def zJ45_175 (n : Nat) (M : ZM) : Option (Int × ZM) :=
  zJ45_176 n 0 M
set_option maxRecDepth 100000 in
set_option maxHeartbeats 4000000 in
theorem zJ45_175_r (n : Nat) {M_ : Mem} {M : ZM} (gM : rm M_ M) {r : Int} {m' : ZM} (h : zJ45_175 n M = some (r, m')) : sI (J45_175 n M_) r m' := by
  unfold zJ45_175 at h
  unfold J45_175
  exact zJ45_176_r n (show rp 0 0 from rfl) gM h
def zJ45_66 (n : Nat) (M : ZM) : Option (Int × ZM) :=
  some (0, M)
set_option maxRecDepth 100000 in
set_option maxHeartbeats 4000000 in
theorem zJ45_66_r (n : Nat) {M_ : Mem} {M : ZM} (gM : rm M_ M) {r : Int} {m' : ZM} (h : zJ45_66 n M = some (r, m')) : sI (J45_66 n M_) r m' := by
  unfold zJ45_66 at h
  unfold J45_66
  obtain ⟨rfl, rfl⟩ := Prod.mk.inj (Option.some.inj h)
  exact ⟨_, _, rfl, (show rp 0 0 from rfl), gM⟩
def zJ45_89 (n : Nat) (M : ZM) : Option (Int × ZM) :=
  some (0, M)
set_option maxRecDepth 100000 in
set_option maxHeartbeats 4000000 in
theorem zJ45_89_r (n : Nat) {M_ : Mem} {M : ZM} (gM : rm M_ M) {r : Int} {m' : ZM} (h : zJ45_89 n M = some (r, m')) : sI (J45_89 n M_) r m' := by
  unfold zJ45_89 at h
  unfold J45_89
  obtain ⟨rfl, rfl⟩ := Prod.mk.inj (Option.some.inj h)
  exact ⟨_, _, rfl, (show rp 0 0 from rfl), gM⟩
def zJ45_143 (n : Nat) (zrec41 : Int → Int → Int → ZM → Option (Int × ZM)) (x1 : Int) (x2 : Int) (s0 : Int) (M : ZM) : Option (Int × ZM) :=
  if s0 = 0 then (zrec41 x1 x2 s0 M) else (match zF28 n M with | some (v49, M50) => (zrec41 x1 x2 s0 M50) | none => none)
set_option maxRecDepth 100000 in
set_option maxHeartbeats 4000000 in
theorem zJ45_143_r (n : Nat) (rec41 : Int32 → Int32 → Int32 → Mem → Option (Int32 × Mem)) (zrec41 : Int → Int → Int → ZM → Option (Int × ZM)) (hrec41 : ∀ {Y1 : Int32} {y1 : Int} (_ : rp Y1 y1) {Y2 : Int32} {y2 : Int} (_ : rp Y2 y2) {Y3 : Int32} {y3 : Int} (_ : rp Y3 y3) {M : Mem} {m : ZM} (_ : rm M m) {r : Int} {m' : ZM} (_ : zrec41 y1 y2 y3 m = some (r, m')), sI (rec41 Y1 Y2 Y3 M) r m') {X1_ : Int32} {x1 : Int} (hx1 : rp X1_ x1) {X2_ : Int32} {x2 : Int} (hx2 : rp X2_ x2) {S0_ : Int32} {s0 : Int} (hs0 : rp S0_ s0) {M_ : Mem} {M : ZM} (gM : rm M_ M) {r : Int} {m' : ZM} (h : zJ45_143 n zrec41 x1 x2 s0 M = some (r, m')) : sI (J45_143 n rec41 X1_ X2_ S0_ M_) r m' := by
  unfold zJ45_143 at h
  unfold J45_143
  by_cases q1 : s0 = 0
  · rw [if_pos q1] at h
    rw [if_pos ((rp_eq hs0 (show rp 0 0 from rfl)).mpr q1)]
    exact hrec41 hx1 hx2 hs0 gM h
  · rw [if_neg q1] at h
    rw [if_neg (fun z => q1 ((rp_eq hs0 (show rp 0 0 from rfl)).mp z))]
    cases hc2 : zF28 n M with
    | none => rw [hc2] at h; cases h
    | some w =>
      obtain ⟨v49, M50⟩ := w
      rw [hc2] at h
      dsimp only at h
      obtain ⟨NM50, ehc2, gM50⟩ := zF28_r n gM hc2
      rw [ehc2]
      dsimp only
      exact hrec41 hx1 hx2 hs0 gM50 h
def zJ45_142 (n : Nat) (zrec41 : Int → Int → Int → ZM → Option (Int × ZM)) (x1 : Int) (x2 : Int) (M : ZM) : Option (Int × ZM) :=
  zJ45_143 n zrec41 x1 x2 0 M
set_option maxRecDepth 100000 in
set_option maxHeartbeats 4000000 in
theorem zJ45_142_r (n : Nat) (rec41 : Int32 → Int32 → Int32 → Mem → Option (Int32 × Mem)) (zrec41 : Int → Int → Int → ZM → Option (Int × ZM)) (hrec41 : ∀ {Y1 : Int32} {y1 : Int} (_ : rp Y1 y1) {Y2 : Int32} {y2 : Int} (_ : rp Y2 y2) {Y3 : Int32} {y3 : Int} (_ : rp Y3 y3) {M : Mem} {m : ZM} (_ : rm M m) {r : Int} {m' : ZM} (_ : zrec41 y1 y2 y3 m = some (r, m')), sI (rec41 Y1 Y2 Y3 M) r m') {X1_ : Int32} {x1 : Int} (hx1 : rp X1_ x1) {X2_ : Int32} {x2 : Int} (hx2 : rp X2_ x2) {M_ : Mem} {M : ZM} (gM : rm M_ M) {r : Int} {m' : ZM} (h : zJ45_142 n zrec41 x1 x2 M = some (r, m')) : sI (J45_142 n rec41 X1_ X2_ M_) r m' := by
  unfold zJ45_142 at h
  unfold J45_142
  exact zJ45_143_r n _ _ hrec41 hx1 hx2 (show rp 0 0 from rfl) gM h
def zJ45_128 (n : Nat) (zrec41 : Int → Int → Int → ZM → Option (Int × ZM)) (x1 : Int) (x2 : Int) (M : ZM) : Option (Int × ZM) :=
  if x1 < 0 ∨ 6 ≤ x1 then (none) else (if 3 ≤ (M.1 89 (Int.toNat x1)) then (zJ45_142 n zrec41 x1 x2 M) else (zJ45_143 n zrec41 x1 x2 1 M))
set_option maxRecDepth 100000 in
set_option maxHeartbeats 4000000 in
theorem zJ45_128_r (n : Nat) (rec41 : Int32 → Int32 → Int32 → Mem → Option (Int32 × Mem)) (zrec41 : Int → Int → Int → ZM → Option (Int × ZM)) (hrec41 : ∀ {Y1 : Int32} {y1 : Int} (_ : rp Y1 y1) {Y2 : Int32} {y2 : Int} (_ : rp Y2 y2) {Y3 : Int32} {y3 : Int} (_ : rp Y3 y3) {M : Mem} {m : ZM} (_ : rm M m) {r : Int} {m' : ZM} (_ : zrec41 y1 y2 y3 m = some (r, m')), sI (rec41 Y1 Y2 Y3 M) r m') {X1_ : Int32} {x1 : Int} (hx1 : rp X1_ x1) {X2_ : Int32} {x2 : Int} (hx2 : rp X2_ x2) {M_ : Mem} {M : ZM} (gM : rm M_ M) {r : Int} {m' : ZM} (h : zJ45_128 n zrec41 x1 x2 M = some (r, m')) : sI (J45_128 n rec41 X1_ X2_ M_) r m' := by
  unfold zJ45_128 at h
  unfold J45_128
  by_cases q1 : x1 < 0 ∨ 6 ≤ x1
  · rw [if_pos q1] at h
    rw [if_pos ((rp_ob hx1 6).mpr q1)]
    cases h
  · rw [if_neg q1] at h
    rw [if_neg (fun z => q1 ((rp_ob hx1 6).mp z))]
    by_cases q2 : 3 ≤ (M.1 89 (Int.toNat x1))
    · rw [if_pos q2] at h
      rw [if_pos ((rp_le (show rp 3 3 from rfl) (rm_rdx gM 89 hx1)).mpr q2)]
      exact zJ45_142_r n _ _ hrec41 hx1 hx2 gM h
    · rw [if_neg q2] at h
      rw [if_neg (fun z => q2 ((rp_le (show rp 3 3 from rfl) (rm_rdx gM 89 hx1)).mp z))]
      exact zJ45_143_r n _ _ hrec41 hx1 hx2 (show rp 1 1 from rfl) gM h
def zJ45_105 (n : Nat) (zrec41 : Int → Int → Int → ZM → Option (Int × ZM)) (x1 : Int) (x2 : Int) (M : ZM) : Option (Int × ZM) :=
  if x1 < 0 ∨ 6 ≤ x1 then (none) else (if rg (x2 + 1) then (if (M.1 89 (Int.toNat x1)) = (x2 + 1) then (some (1, M)) else (match zF31 n 59 M with | some (v44, M45) => (if v44 = 0 then (zJ45_142 n zrec41 x1 x2 M45) else (zJ45_128 n zrec41 x1 x2 M45)) | none => none)) else none)
set_option maxRecDepth 100000 in
set_option maxHeartbeats 4000000 in
theorem zJ45_105_r (n : Nat) (rec41 : Int32 → Int32 → Int32 → Mem → Option (Int32 × Mem)) (zrec41 : Int → Int → Int → ZM → Option (Int × ZM)) (hrec41 : ∀ {Y1 : Int32} {y1 : Int} (_ : rp Y1 y1) {Y2 : Int32} {y2 : Int} (_ : rp Y2 y2) {Y3 : Int32} {y3 : Int} (_ : rp Y3 y3) {M : Mem} {m : ZM} (_ : rm M m) {r : Int} {m' : ZM} (_ : zrec41 y1 y2 y3 m = some (r, m')), sI (rec41 Y1 Y2 Y3 M) r m') {X1_ : Int32} {x1 : Int} (hx1 : rp X1_ x1) {X2_ : Int32} {x2 : Int} (hx2 : rp X2_ x2) {M_ : Mem} {M : ZM} (gM : rm M_ M) {r : Int} {m' : ZM} (h : zJ45_105 n zrec41 x1 x2 M = some (r, m')) : sI (J45_105 n rec41 X1_ X2_ M_) r m' := by
  unfold zJ45_105 at h
  unfold J45_105
  by_cases q1 : x1 < 0 ∨ 6 ≤ x1
  · rw [if_pos q1] at h
    rw [if_pos ((rp_ob hx1 6).mpr q1)]
    cases h
  · rw [if_neg q1] at h
    rw [if_neg (fun z => q1 ((rp_ob hx1 6).mp z))]
    by_cases w2 : rg (x2 + 1)
    · rw [if_pos w2] at h
      by_cases q3 : (M.1 89 (Int.toNat x1)) = (x2 + 1)
      · rw [if_pos q3] at h
        rw [if_pos ((rp_eq (rm_rdx gM 89 hx1) (rp_add (rp_iz hx2) (rp_iz (show rp 1 1 from rfl)) w2)).mpr q3)]
        obtain ⟨rfl, rfl⟩ := Prod.mk.inj (Option.some.inj h)
        exact ⟨_, _, rfl, (show rp 1 1 from rfl), gM⟩
      · rw [if_neg q3] at h
        rw [if_neg (fun z => q3 ((rp_eq (rm_rdx gM 89 hx1) (rp_add (rp_iz hx2) (rp_iz (show rp 1 1 from rfl)) w2)).mp z))]
        cases hc4 : zF31 n 59 M with
        | none => rw [hc4] at h; cases h
        | some w =>
          obtain ⟨v44, M45⟩ := w
          rw [hc4] at h
          dsimp only at h
          obtain ⟨V44, NM45, ehc4, hv44, gM45⟩ := zF31_r n (show rp 59 59 from rfl) gM hc4
          rw [ehc4]
          dsimp only
          by_cases q5 : v44 = 0
          · rw [if_pos q5] at h
            rw [if_pos ((rp_eq hv44 (show rp 0 0 from rfl)).mpr q5)]
            exact zJ45_142_r n _ _ hrec41 hx1 hx2 gM45 h
          · rw [if_neg q5] at h
            rw [if_neg (fun z => q5 ((rp_eq hv44 (show rp 0 0 from rfl)).mp z))]
            exact zJ45_128_r n _ _ hrec41 hx1 hx2 gM45 h
    · rw [if_neg w2] at h
      cases h
def zJ45_81 (n : Nat) (zrec41 : Int → Int → Int → ZM → Option (Int × ZM)) (x1 : Int) (x2 : Int) (M : ZM) : Option (Int × ZM) :=
  match zF44 n 0 M with | some (v35, M36) => (if v35 = 0 then (zJ45_89 n M36) else (if x1 < 0 ∨ 6 ≤ x1 then (none) else (if rg ((M36.1 89 (Int.toNat x1)) + 1) then (zlet (z_i M36 89 (Int.toNat x1) ((M36.1 89 (Int.toNat x1)) + 1)) (fun M41 => zJ45_105 n zrec41 x1 x2 M41)) else none))) | none => none
set_option maxRecDepth 100000 in
set_option maxHeartbeats 4000000 in
theorem zJ45_81_r (n : Nat) (rec41 : Int32 → Int32 → Int32 → Mem → Option (Int32 × Mem)) (zrec41 : Int → Int → Int → ZM → Option (Int × ZM)) (hrec41 : ∀ {Y1 : Int32} {y1 : Int} (_ : rp Y1 y1) {Y2 : Int32} {y2 : Int} (_ : rp Y2 y2) {Y3 : Int32} {y3 : Int} (_ : rp Y3 y3) {M : Mem} {m : ZM} (_ : rm M m) {r : Int} {m' : ZM} (_ : zrec41 y1 y2 y3 m = some (r, m')), sI (rec41 Y1 Y2 Y3 M) r m') {X1_ : Int32} {x1 : Int} (hx1 : rp X1_ x1) {X2_ : Int32} {x2 : Int} (hx2 : rp X2_ x2) {M_ : Mem} {M : ZM} (gM : rm M_ M) {r : Int} {m' : ZM} (h : zJ45_81 n zrec41 x1 x2 M = some (r, m')) : sI (J45_81 n rec41 X1_ X2_ M_) r m' := by
  unfold zJ45_81 at h
  unfold J45_81
  cases hc1 : zF44 n 0 M with
  | none => rw [hc1] at h; cases h
  | some w =>
    obtain ⟨v35, M36⟩ := w
    rw [hc1] at h
    dsimp only at h
    obtain ⟨V35, NM36, ehc1, hv35, gM36⟩ := zF44_r n (show rp 0 0 from rfl) gM hc1
    rw [ehc1]
    dsimp only
    by_cases q2 : v35 = 0
    · rw [if_pos q2] at h
      rw [if_pos ((rp_eq hv35 (show rp 0 0 from rfl)).mpr q2)]
      exact zJ45_89_r n gM36 h
    · rw [if_neg q2] at h
      rw [if_neg (fun z => q2 ((rp_eq hv35 (show rp 0 0 from rfl)).mp z))]
      by_cases q3 : x1 < 0 ∨ 6 ≤ x1
      · rw [if_pos q3] at h
        rw [if_pos ((rp_ob hx1 6).mpr q3)]
        cases h
      · rw [if_neg q3] at h
        rw [if_neg (fun z => q3 ((rp_ob hx1 6).mp z))]
        rw [if_neg (fun z => q3 ((rp_ob hx1 6).mp z))]
        by_cases w4 : rg ((M36.1 89 (Int.toNat x1)) + 1)
        · rw [if_pos w4] at h
          have gM41 : rm (m_i NM36 89 (X1_).toNatClampNeg ((NM36.1 89 (X1_).toNatClampNeg) + (1 : Int32))) (z_i M36 89 (Int.toNat x1) ((M36.1 89 (Int.toNat x1)) + 1)) := rm_ix gM36 89 hx1 (rp_add (rp_iz (rm_rdx gM36 89 hx1)) (rp_iz (show rp 1 1 from rfl)) w4)
          rw [mlet]
          rw [zlet] at h
          generalize z_i M36 89 (Int.toNat x1) ((M36.1 89 (Int.toNat x1)) + 1) = M41 at h gM41
          generalize m_i NM36 89 (X1_).toNatClampNeg ((NM36.1 89 (X1_).toNatClampNeg) + (1 : Int32)) = NM41 at gM41 ⊢
          exact zJ45_105_r n _ _ hrec41 hx1 hx2 gM41 h
        · rw [if_neg w4] at h
          cases h
def zJ45_58 (n : Nat) (zrec41 : Int → Int → Int → ZM → Option (Int × ZM)) (x1 : Int) (x2 : Int) (M : ZM) : Option (Int × ZM) :=
  match zF44 n 1 M with | some (v24, M25) => (if v24 = 0 then (zJ45_66 n M25) else (match zF31 n 123 M25 with | some (v28, M29) => (match zF30 n v28 M29 with | some (v31, M32) => (if v31 = 0 then (zJ45_89 n M32) else (zJ45_81 n zrec41 x1 x2 M32)) | none => none) | none => none)) | none => none
set_option maxRecDepth 100000 in
set_option maxHeartbeats 4000000 in
theorem zJ45_58_r (n : Nat) (rec41 : Int32 → Int32 → Int32 → Mem → Option (Int32 × Mem)) (zrec41 : Int → Int → Int → ZM → Option (Int × ZM)) (hrec41 : ∀ {Y1 : Int32} {y1 : Int} (_ : rp Y1 y1) {Y2 : Int32} {y2 : Int} (_ : rp Y2 y2) {Y3 : Int32} {y3 : Int} (_ : rp Y3 y3) {M : Mem} {m : ZM} (_ : rm M m) {r : Int} {m' : ZM} (_ : zrec41 y1 y2 y3 m = some (r, m')), sI (rec41 Y1 Y2 Y3 M) r m') {X1_ : Int32} {x1 : Int} (hx1 : rp X1_ x1) {X2_ : Int32} {x2 : Int} (hx2 : rp X2_ x2) {M_ : Mem} {M : ZM} (gM : rm M_ M) {r : Int} {m' : ZM} (h : zJ45_58 n zrec41 x1 x2 M = some (r, m')) : sI (J45_58 n rec41 X1_ X2_ M_) r m' := by
  unfold zJ45_58 at h
  unfold J45_58
  cases hc1 : zF44 n 1 M with
  | none => rw [hc1] at h; cases h
  | some w =>
    obtain ⟨v24, M25⟩ := w
    rw [hc1] at h
    dsimp only at h
    obtain ⟨V24, NM25, ehc1, hv24, gM25⟩ := zF44_r n (show rp 1 1 from rfl) gM hc1
    rw [ehc1]
    dsimp only
    by_cases q2 : v24 = 0
    · rw [if_pos q2] at h
      rw [if_pos ((rp_eq hv24 (show rp 0 0 from rfl)).mpr q2)]
      exact zJ45_66_r n gM25 h
    · rw [if_neg q2] at h
      rw [if_neg (fun z => q2 ((rp_eq hv24 (show rp 0 0 from rfl)).mp z))]
      cases hc3 : zF31 n 123 M25 with
      | none => rw [hc3] at h; cases h
      | some w =>
        obtain ⟨v28, M29⟩ := w
        rw [hc3] at h
        dsimp only at h
        obtain ⟨V28, NM29, ehc3, hv28, gM29⟩ := zF31_r n (show rp 123 123 from rfl) gM25 hc3
        rw [ehc3]
        dsimp only
        cases hc4 : zF30 n v28 M29 with
        | none => rw [hc4] at h; cases h
        | some w =>
          obtain ⟨v31, M32⟩ := w
          rw [hc4] at h
          dsimp only at h
          obtain ⟨V31, NM32, ehc4, hv31, gM32⟩ := zF30_r n hv28 gM29 hc4
          rw [ehc4]
          dsimp only
          by_cases q5 : v31 = 0
          · rw [if_pos q5] at h
            rw [if_pos ((rp_eq hv31 (show rp 0 0 from rfl)).mpr q5)]
            exact zJ45_89_r n gM32 h
          · rw [if_neg q5] at h
            rw [if_neg (fun z => q5 ((rp_eq hv31 (show rp 0 0 from rfl)).mp z))]
            exact zJ45_81_r n _ _ hrec41 hx1 hx2 gM32 h
def zL45_41 (n : Nat) : Nat → Int → Int → Int → ZM → Option (Int × ZM)
  | 0, _, _, _, _ => none
  | k + 1, x1, x2, x3, M => if x3 = 0 then (if (M.1 83 4) = 6 then (zJ45_171 n M) else (match zF29 n M with | some (v13, M14) => (if v13 = 0 then (zJ45_175 n M14) else (zJ45_171 n M14)) | none => none)) else (match zF31 n 40 M with | some (v17, M18) => (match zF30 n v17 M18 with | some (v20, M21) => (if v20 = 0 then (zJ45_66 n M21) else (zJ45_58 n (zL45_41 n k) x1 x2 M21)) | none => none) | none => none)
set_option maxRecDepth 100000 in
set_option maxHeartbeats 4000000 in
theorem zL45_41_r (n : Nat) : ∀ (k : Nat) {X1_ : Int32} {x1 : Int} (hx1 : rp X1_ x1) {X2_ : Int32} {x2 : Int} (hx2 : rp X2_ x2) {X3_ : Int32} {x3 : Int} (hx3 : rp X3_ x3) {M_ : Mem} {M : ZM} (gM : rm M_ M) {r : Int} {m' : ZM} (_ : zL45_41 n k x1 x2 x3 M = some (r, m')), sI (L45_41 n k X1_ X2_ X3_ M_) r m' := by
  intro k
  induction k with
  | zero => intro X1_ x1 hx1 X2_ x2 hx2 X3_ x3 hx3 M_ M gM r m' h; cases h
  | succ k ih =>
    intro X1_ x1 hx1 X2_ x2 hx2 X3_ x3 hx3 M_ M gM r m' h
    rw [zL45_41] at h
    rw [L45_41]
    by_cases q1 : x3 = 0
    · rw [if_pos q1] at h
      rw [if_pos ((rp_eq hx3 (show rp 0 0 from rfl)).mpr q1)]
      by_cases q2 : (M.1 83 4) = 6
      · rw [if_pos q2] at h
        rw [if_pos ((rp_eq (rm_rd gM 83 4) (show rp 6 6 from rfl)).mpr q2)]
        exact zJ45_171_r n gM h
      · rw [if_neg q2] at h
        rw [if_neg (fun z => q2 ((rp_eq (rm_rd gM 83 4) (show rp 6 6 from rfl)).mp z))]
        cases hc3 : zF29 n M with
        | none => rw [hc3] at h; cases h
        | some w =>
          obtain ⟨v13, M14⟩ := w
          rw [hc3] at h
          dsimp only at h
          obtain ⟨V13, NM14, ehc3, hv13, gM14⟩ := zF29_r n gM hc3
          rw [ehc3]
          dsimp only
          by_cases q4 : v13 = 0
          · rw [if_pos q4] at h
            rw [if_pos ((rp_eq hv13 (show rp 0 0 from rfl)).mpr q4)]
            exact zJ45_175_r n gM14 h
          · rw [if_neg q4] at h
            rw [if_neg (fun z => q4 ((rp_eq hv13 (show rp 0 0 from rfl)).mp z))]
            exact zJ45_171_r n gM14 h
    · rw [if_neg q1] at h
      rw [if_neg (fun z => q1 ((rp_eq hx3 (show rp 0 0 from rfl)).mp z))]
      cases hc5 : zF31 n 40 M with
      | none => rw [hc5] at h; cases h
      | some w =>
        obtain ⟨v17, M18⟩ := w
        rw [hc5] at h
        dsimp only at h
        obtain ⟨V17, NM18, ehc5, hv17, gM18⟩ := zF31_r n (show rp 40 40 from rfl) gM hc5
        rw [ehc5]
        dsimp only
        cases hc6 : zF30 n v17 M18 with
        | none => rw [hc6] at h; cases h
        | some w =>
          obtain ⟨v20, M21⟩ := w
          rw [hc6] at h
          dsimp only at h
          obtain ⟨V20, NM21, ehc6, hv20, gM21⟩ := zF30_r n hv17 gM18 hc6
          rw [ehc6]
          dsimp only
          by_cases q7 : v20 = 0
          · rw [if_pos q7] at h
            rw [if_pos ((rp_eq hv20 (show rp 0 0 from rfl)).mpr q7)]
            exact zJ45_66_r n gM21 h
          · rw [if_neg q7] at h
            rw [if_neg (fun z => q7 ((rp_eq hv20 (show rp 0 0 from rfl)).mp z))]
            exact zJ45_58_r n _ _ ih hx1 hx2 gM21 h
def zJ45_39 (n : Nat) (x1 : Int) (x2 : Int) (M : ZM) : Option (Int × ZM) :=
  zL45_41 n n x1 x2 1 M
set_option maxRecDepth 100000 in
set_option maxHeartbeats 4000000 in
theorem zJ45_39_r (n : Nat) {X1_ : Int32} {x1 : Int} (hx1 : rp X1_ x1) {X2_ : Int32} {x2 : Int} (hx2 : rp X2_ x2) {M_ : Mem} {M : ZM} (gM : rm M_ M) {r : Int} {m' : ZM} (h : zJ45_39 n x1 x2 M = some (r, m')) : sI (J45_39 n X1_ X2_ M_) r m' := by
  unfold zJ45_39 at h
  unfold J45_39
  exact zL45_41_r n n hx1 hx2 (show rp 1 1 from rfl) gM h
def zJ45_24 (n : Nat) (x1 : Int) (x2 : Int) (s0 : Int) (M : ZM) : Option (Int × ZM) :=
  match zF30 n s0 M with | some (v4, M5) => (if v4 = 0 then (some (0, M5)) else (if x1 < 0 ∨ 6 ≤ x1 then (none) else (zlet (z_i M5 89 (Int.toNat x1) 0) (fun M9 => zJ45_39 n x1 x2 M9)))) | none => none
set_option maxRecDepth 100000 in
set_option maxHeartbeats 4000000 in
theorem zJ45_24_r (n : Nat) {X1_ : Int32} {x1 : Int} (hx1 : rp X1_ x1) {X2_ : Int32} {x2 : Int} (hx2 : rp X2_ x2) {S0_ : Int32} {s0 : Int} (hs0 : rp S0_ s0) {M_ : Mem} {M : ZM} (gM : rm M_ M) {r : Int} {m' : ZM} (h : zJ45_24 n x1 x2 s0 M = some (r, m')) : sI (J45_24 n X1_ X2_ S0_ M_) r m' := by
  unfold zJ45_24 at h
  unfold J45_24
  cases hc1 : zF30 n s0 M with
  | none => rw [hc1] at h; cases h
  | some w =>
    obtain ⟨v4, M5⟩ := w
    rw [hc1] at h
    dsimp only at h
    obtain ⟨V4, NM5, ehc1, hv4, gM5⟩ := zF30_r n hs0 gM hc1
    rw [ehc1]
    dsimp only
    by_cases q2 : v4 = 0
    · rw [if_pos q2] at h
      rw [if_pos ((rp_eq hv4 (show rp 0 0 from rfl)).mpr q2)]
      obtain ⟨rfl, rfl⟩ := Prod.mk.inj (Option.some.inj h)
      exact ⟨_, _, rfl, (show rp 0 0 from rfl), gM5⟩
    · rw [if_neg q2] at h
      rw [if_neg (fun z => q2 ((rp_eq hv4 (show rp 0 0 from rfl)).mp z))]
      by_cases q3 : x1 < 0 ∨ 6 ≤ x1
      · rw [if_pos q3] at h
        rw [if_pos ((rp_ob hx1 6).mpr q3)]
        cases h
      · rw [if_neg q3] at h
        rw [if_neg (fun z => q3 ((rp_ob hx1 6).mp z))]
        have gM9 : rm (m_i NM5 89 (X1_).toNatClampNeg (0 : Int32)) (z_i M5 89 (Int.toNat x1) 0) := rm_ix gM5 89 hx1 (show rp 0 0 from rfl)
        rw [mlet]
        rw [zlet] at h
        generalize z_i M5 89 (Int.toNat x1) 0 = M9 at h gM9
        generalize m_i NM5 89 (X1_).toNatClampNeg (0 : Int32) = NM9 at gM9 ⊢
        exact zJ45_39_r n hx1 hx2 gM9 h
/-- ArmExpanderModel.readDefinition -/
def zF45 (n : Nat) (a0 : Int) (a1 : Int) (M : ZM) : Option (Int × ZM) :=
  if a0 < 0 ∨ 6 ≤ a0 then (none) else (zlet (z_i M 88 (Int.toNat a0) (M.1 83 5)) (fun M2 => if (M2.1 83 4) = 1 then (zJ45_24 n a0 a1 1 M2) else (zJ45_24 n a0 a1 0 M2)))
set_option maxRecDepth 100000 in
set_option maxHeartbeats 4000000 in
theorem zF45_r (n : Nat) {A0_ : Int32} {a0 : Int} (ha0 : rp A0_ a0) {A1_ : Int32} {a1 : Int} (ha1 : rp A1_ a1) {M_ : Mem} {M : ZM} (gM : rm M_ M) {r : Int} {m' : ZM} (h : zF45 n a0 a1 M = some (r, m')) : sI (F45 n A0_ A1_ M_) r m' := by
  unfold zF45 at h
  unfold F45
  by_cases q1 : a0 < 0 ∨ 6 ≤ a0
  · rw [if_pos q1] at h
    rw [if_pos ((rp_ob ha0 6).mpr q1)]
    cases h
  · rw [if_neg q1] at h
    rw [if_neg (fun z => q1 ((rp_ob ha0 6).mp z))]
    have gM2 : rm (m_i M_ 88 (A0_).toNatClampNeg (M_.1 83 5)) (z_i M 88 (Int.toNat a0) (M.1 83 5)) := rm_ix gM 88 ha0 (rm_rd gM 83 5)
    rw [mlet]
    rw [zlet] at h
    generalize z_i M 88 (Int.toNat a0) (M.1 83 5) = M2 at h gM2
    generalize m_i M_ 88 (A0_).toNatClampNeg (M_.1 83 5) = NM2 at gM2 ⊢
    by_cases q2 : (M2.1 83 4) = 1
    · rw [if_pos q2] at h
      rw [if_pos ((rp_eq (rm_rd gM2 83 4) (show rp 1 1 from rfl)).mpr q2)]
      exact zJ45_24_r n ha0 ha1 (show rp 1 1 from rfl) gM2 h
    · rw [if_neg q2] at h
      rw [if_neg (fun z => q2 ((rp_eq (rm_rd gM2 83 4) (show rp 1 1 from rfl)).mp z))]
      exact zJ45_24_r n ha0 ha1 (show rp 0 0 from rfl) gM2 h
def zJ46_40 (n : Nat) (zrec4 : Int → Int → Int → ZM → Option (Int × ZM)) (x1 : Int) (x3 : Int) (s0 : Int) (M : ZM) : Option (Int × ZM) :=
  if rg (x3 + 1) then (zrec4 x1 s0 (x3 + 1) M) else none
set_option maxRecDepth 100000 in
set_option maxHeartbeats 4000000 in
theorem zJ46_40_r (n : Nat) (rec4 : Int32 → Int32 → Int32 → Mem → Option (Int32 × Mem)) (zrec4 : Int → Int → Int → ZM → Option (Int × ZM)) (hrec4 : ∀ {Y1 : Int32} {y1 : Int} (_ : rp Y1 y1) {Y2 : Int32} {y2 : Int} (_ : rp Y2 y2) {Y3 : Int32} {y3 : Int} (_ : rp Y3 y3) {M : Mem} {m : ZM} (_ : rm M m) {r : Int} {m' : ZM} (_ : zrec4 y1 y2 y3 m = some (r, m')), sI (rec4 Y1 Y2 Y3 M) r m') {X1_ : Int32} {x1 : Int} (hx1 : rp X1_ x1) {X3_ : Int32} {x3 : Int} (hx3 : rp X3_ x3) {S0_ : Int32} {s0 : Int} (hs0 : rp S0_ s0) {M_ : Mem} {M : ZM} (gM : rm M_ M) {r : Int} {m' : ZM} (h : zJ46_40 n zrec4 x1 x3 s0 M = some (r, m')) : sI (J46_40 n rec4 X1_ X3_ S0_ M_) r m' := by
  unfold zJ46_40 at h
  unfold J46_40
  by_cases w1 : rg (x3 + 1)
  · rw [if_pos w1] at h
    exact hrec4 hx1 hs0 (rp_add (rp_iz hx3) (rp_iz (show rp 1 1 from rfl)) w1) gM h
  · rw [if_neg w1] at h
    cases h
def zJ46_39 (n : Nat) (zrec4 : Int → Int → Int → ZM → Option (Int × ZM)) (x1 : Int) (x2 : Int) (x3 : Int) (M : ZM) : Option (Int × ZM) :=
  zJ46_40 n zrec4 x1 x3 x2 M
set_option maxRecDepth 100000 in
set_option maxHeartbeats 4000000 in
theorem zJ46_39_r (n : Nat) (rec4 : Int32 → Int32 → Int32 → Mem → Option (Int32 × Mem)) (zrec4 : Int → Int → Int → ZM → Option (Int × ZM)) (hrec4 : ∀ {Y1 : Int32} {y1 : Int} (_ : rp Y1 y1) {Y2 : Int32} {y2 : Int} (_ : rp Y2 y2) {Y3 : Int32} {y3 : Int} (_ : rp Y3 y3) {M : Mem} {m : ZM} (_ : rm M m) {r : Int} {m' : ZM} (_ : zrec4 y1 y2 y3 m = some (r, m')), sI (rec4 Y1 Y2 Y3 M) r m') {X1_ : Int32} {x1 : Int} (hx1 : rp X1_ x1) {X2_ : Int32} {x2 : Int} (hx2 : rp X2_ x2) {X3_ : Int32} {x3 : Int} (hx3 : rp X3_ x3) {M_ : Mem} {M : ZM} (gM : rm M_ M) {r : Int} {m' : ZM} (h : zJ46_39 n zrec4 x1 x2 x3 M = some (r, m')) : sI (J46_39 n rec4 X1_ X2_ X3_ M_) r m' := by
  unfold zJ46_39 at h
  unfold J46_39
  exact zJ46_40_r n _ _ hrec4 hx1 hx3 hx2 gM h
def zJ46_25 (n : Nat) (zrec4 : Int → Int → Int → ZM → Option (Int × ZM)) (x1 : Int) (x2 : Int) (x3 : Int) (M : ZM) : Option (Int × ZM) :=
  if x3 < 0 ∨ 128 ≤ x3 then (none) else (if (M.1 91 (Int.toNat x3)) = x1 then (zJ46_40 n zrec4 x1 x3 x3 M) else (zJ46_39 n zrec4 x1 x2 x3 M))
set_option maxRecDepth 100000 in
set_option maxHeartbeats 4000000 in
theorem zJ46_25_r (n : Nat) (rec4 : Int32 → Int32 → Int32 → Mem → Option (Int32 × Mem)) (zrec4 : Int → Int → Int → ZM → Option (Int × ZM)) (hrec4 : ∀ {Y1 : Int32} {y1 : Int} (_ : rp Y1 y1) {Y2 : Int32} {y2 : Int} (_ : rp Y2 y2) {Y3 : Int32} {y3 : Int} (_ : rp Y3 y3) {M : Mem} {m : ZM} (_ : rm M m) {r : Int} {m' : ZM} (_ : zrec4 y1 y2 y3 m = some (r, m')), sI (rec4 Y1 Y2 Y3 M) r m') {X1_ : Int32} {x1 : Int} (hx1 : rp X1_ x1) {X2_ : Int32} {x2 : Int} (hx2 : rp X2_ x2) {X3_ : Int32} {x3 : Int} (hx3 : rp X3_ x3) {M_ : Mem} {M : ZM} (gM : rm M_ M) {r : Int} {m' : ZM} (h : zJ46_25 n zrec4 x1 x2 x3 M = some (r, m')) : sI (J46_25 n rec4 X1_ X2_ X3_ M_) r m' := by
  unfold zJ46_25 at h
  unfold J46_25
  by_cases q1 : x3 < 0 ∨ 128 ≤ x3
  · rw [if_pos q1] at h
    rw [if_pos ((rp_ob hx3 128).mpr q1)]
    cases h
  · rw [if_neg q1] at h
    rw [if_neg (fun z => q1 ((rp_ob hx3 128).mp z))]
    by_cases q2 : (M.1 91 (Int.toNat x3)) = x1
    · rw [if_pos q2] at h
      rw [if_pos ((rp_eq (rm_rdx gM 91 hx3) hx1).mpr q2)]
      exact zJ46_40_r n _ _ hrec4 hx1 hx3 hx3 gM h
    · rw [if_neg q2] at h
      rw [if_neg (fun z => q2 ((rp_eq (rm_rdx gM 91 hx3) hx1).mp z))]
      exact zJ46_39_r n _ _ hrec4 hx1 hx2 hx3 gM h
def zL46_4 (n : Nat) : Nat → Int → Int → Int → ZM → Option (Int × ZM)
  | 0, _, _, _, _ => none
  | k + 1, x1, x2, x3, M => if x3 < 0 ∨ 128 ≤ x3 then (none) else (if (M.1 90 (Int.toNat x3)) = 6 then (some (x2, M)) else (if (M.1 90 (Int.toNat x3)) = 3 then (zJ46_25 n (zL46_4 n k) x1 x2 x3 M) else (zJ46_39 n (zL46_4 n k) x1 x2 x3 M)))
set_option maxRecDepth 100000 in
set_option maxHeartbeats 4000000 in
theorem zL46_4_r (n : Nat) : ∀ (k : Nat) {X1_ : Int32} {x1 : Int} (hx1 : rp X1_ x1) {X2_ : Int32} {x2 : Int} (hx2 : rp X2_ x2) {X3_ : Int32} {x3 : Int} (hx3 : rp X3_ x3) {M_ : Mem} {M : ZM} (gM : rm M_ M) {r : Int} {m' : ZM} (_ : zL46_4 n k x1 x2 x3 M = some (r, m')), sI (L46_4 n k X1_ X2_ X3_ M_) r m' := by
  intro k
  induction k with
  | zero => intro X1_ x1 hx1 X2_ x2 hx2 X3_ x3 hx3 M_ M gM r m' h; cases h
  | succ k ih =>
    intro X1_ x1 hx1 X2_ x2 hx2 X3_ x3 hx3 M_ M gM r m' h
    rw [zL46_4] at h
    rw [L46_4]
    by_cases q1 : x3 < 0 ∨ 128 ≤ x3
    · rw [if_pos q1] at h
      rw [if_pos ((rp_ob hx3 128).mpr q1)]
      cases h
    · rw [if_neg q1] at h
      rw [if_neg (fun z => q1 ((rp_ob hx3 128).mp z))]
      by_cases q2 : (M.1 90 (Int.toNat x3)) = 6
      · rw [if_pos q2] at h
        rw [if_pos ((rp_eq (rm_rdx gM 90 hx3) (show rp 6 6 from rfl)).mpr q2)]
        obtain ⟨rfl, rfl⟩ := Prod.mk.inj (Option.some.inj h)
        exact ⟨_, _, rfl, hx2, gM⟩
      · rw [if_neg q2] at h
        rw [if_neg (fun z => q2 ((rp_eq (rm_rdx gM 90 hx3) (show rp 6 6 from rfl)).mp z))]
        rw [if_neg (fun z => q1 ((rp_ob hx3 128).mp z))]
        by_cases q3 : (M.1 90 (Int.toNat x3)) = 3
        · rw [if_pos q3] at h
          rw [if_pos ((rp_eq (rm_rdx gM 90 hx3) (show rp 3 3 from rfl)).mpr q3)]
          exact zJ46_25_r n _ _ ih hx1 hx2 hx3 gM h
        · rw [if_neg q3] at h
          rw [if_neg (fun z => q3 ((rp_eq (rm_rdx gM 90 hx3) (show rp 3 3 from rfl)).mp z))]
          exact zJ46_39_r n _ _ ih hx1 hx2 hx3 gM h
/-- ArmExpanderModel.place -/
def zF46 (n : Nat) (a0 : Int) (M : ZM) : Option (Int × ZM) :=
  zL46_4 n n a0 (-1) 0 M
set_option maxRecDepth 100000 in
set_option maxHeartbeats 4000000 in
theorem zF46_r (n : Nat) {A0_ : Int32} {a0 : Int} (ha0 : rp A0_ a0) {M_ : Mem} {M : ZM} (gM : rm M_ M) {r : Int} {m' : ZM} (h : zF46 n a0 M = some (r, m')) : sI (F46 n A0_ M_) r m' := by
  unfold zF46 at h
  unfold F46
  exact zL46_4_r n n ha0 (show rp (-1) (-1) from rfl) (show rp 0 0 from rfl) gM h
def zJ47_48 (n : Nat) (zrec4 : Int → Int → ZM → Option (Int × ZM)) (x2 : Int) (s0 : Int) (M : ZM) : Option (Int × ZM) :=
  if rg (x2 + 1) then (zrec4 s0 (x2 + 1) M) else none
set_option maxRecDepth 100000 in
set_option maxHeartbeats 4000000 in
theorem zJ47_48_r (n : Nat) (rec4 : Int32 → Int32 → Mem → Option (Int32 × Mem)) (zrec4 : Int → Int → ZM → Option (Int × ZM)) (hrec4 : ∀ {Y1 : Int32} {y1 : Int} (_ : rp Y1 y1) {Y2 : Int32} {y2 : Int} (_ : rp Y2 y2) {M : Mem} {m : ZM} (_ : rm M m) {r : Int} {m' : ZM} (_ : zrec4 y1 y2 m = some (r, m')), sI (rec4 Y1 Y2 M) r m') {X2_ : Int32} {x2 : Int} (hx2 : rp X2_ x2) {S0_ : Int32} {s0 : Int} (hs0 : rp S0_ s0) {M_ : Mem} {M : ZM} (gM : rm M_ M) {r : Int} {m' : ZM} (h : zJ47_48 n zrec4 x2 s0 M = some (r, m')) : sI (J47_48 n rec4 X2_ S0_ M_) r m' := by
  unfold zJ47_48 at h
  unfold J47_48
  by_cases w1 : rg (x2 + 1)
  · rw [if_pos w1] at h
    exact hrec4 hs0 (rp_add (rp_iz hx2) (rp_iz (show rp 1 1 from rfl)) w1) gM h
  · rw [if_neg w1] at h
    cases h
def zJ47_47 (n : Nat) (zrec4 : Int → Int → ZM → Option (Int × ZM)) (x2 : Int) (M : ZM) : Option (Int × ZM) :=
  zJ47_48 n zrec4 x2 0 M
set_option maxRecDepth 100000 in
set_option maxHeartbeats 4000000 in
theorem zJ47_47_r (n : Nat) (rec4 : Int32 → Int32 → Mem → Option (Int32 × Mem)) (zrec4 : Int → Int → ZM → Option (Int × ZM)) (hrec4 : ∀ {Y1 : Int32} {y1 : Int} (_ : rp Y1 y1) {Y2 : Int32} {y2 : Int} (_ : rp Y2 y2) {M : Mem} {m : ZM} (_ : rm M m) {r : Int} {m' : ZM} (_ : zrec4 y1 y2 m = some (r, m')), sI (rec4 Y1 Y2 M) r m') {X2_ : Int32} {x2 : Int} (hx2 : rp X2_ x2) {M_ : Mem} {M : ZM} (gM : rm M_ M) {r : Int} {m' : ZM} (h : zJ47_47 n zrec4 x2 M = some (r, m')) : sI (J47_47 n rec4 X2_ M_) r m' := by
  unfold zJ47_47 at h
  unfold J47_47
  exact zJ47_48_r n _ _ hrec4 hx2 (show rp 0 0 from rfl) gM h
def zJ47_43 (n : Nat) (zrec4 : Int → Int → ZM → Option (Int × ZM)) (x2 : Int) (M : ZM) : Option (Int × ZM) :=
  zJ47_48 n zrec4 x2 1 M
set_option maxRecDepth 100000 in
set_option maxHeartbeats 4000000 in
theorem zJ47_43_r (n : Nat) (rec4 : Int32 → Int32 → Mem → Option (Int32 × Mem)) (zrec4 : Int → Int → ZM → Option (Int × ZM)) (hrec4 : ∀ {Y1 : Int32} {y1 : Int} (_ : rp Y1 y1) {Y2 : Int32} {y2 : Int} (_ : rp Y2 y2) {M : Mem} {m : ZM} (_ : rm M m) {r : Int} {m' : ZM} (_ : zrec4 y1 y2 m = some (r, m')), sI (rec4 Y1 Y2 M) r m') {X2_ : Int32} {x2 : Int} (hx2 : rp X2_ x2) {M_ : Mem} {M : ZM} (gM : rm M_ M) {r : Int} {m' : ZM} (h : zJ47_43 n zrec4 x2 M = some (r, m')) : sI (J47_43 n rec4 X2_ M_) r m' := by
  unfold zJ47_43 at h
  unfold J47_43
  exact zJ47_48_r n _ _ hrec4 hx2 (show rp 1 1 from rfl) gM h
def zJ47_29 (n : Nat) (zrec4 : Int → Int → ZM → Option (Int × ZM)) (x2 : Int) (M : ZM) : Option (Int × ZM) :=
  if x2 < 0 ∨ 128 ≤ x2 then (none) else (match zF46 n (M.1 91 (Int.toNat x2)) M with | some (v8, M9) => (if v8 = x2 then (zJ47_47 n zrec4 x2 M9) else (zJ47_43 n zrec4 x2 M9)) | none => none)
set_option maxRecDepth 100000 in
set_option maxHeartbeats 4000000 in
theorem zJ47_29_r (n : Nat) (rec4 : Int32 → Int32 → Mem → Option (Int32 × Mem)) (zrec4 : Int → Int → ZM → Option (Int × ZM)) (hrec4 : ∀ {Y1 : Int32} {y1 : Int} (_ : rp Y1 y1) {Y2 : Int32} {y2 : Int} (_ : rp Y2 y2) {M : Mem} {m : ZM} (_ : rm M m) {r : Int} {m' : ZM} (_ : zrec4 y1 y2 m = some (r, m')), sI (rec4 Y1 Y2 M) r m') {X2_ : Int32} {x2 : Int} (hx2 : rp X2_ x2) {M_ : Mem} {M : ZM} (gM : rm M_ M) {r : Int} {m' : ZM} (h : zJ47_29 n zrec4 x2 M = some (r, m')) : sI (J47_29 n rec4 X2_ M_) r m' := by
  unfold zJ47_29 at h
  unfold J47_29
  by_cases q1 : x2 < 0 ∨ 128 ≤ x2
  · rw [if_pos q1] at h
    rw [if_pos ((rp_ob hx2 128).mpr q1)]
    cases h
  · rw [if_neg q1] at h
    rw [if_neg (fun z => q1 ((rp_ob hx2 128).mp z))]
    cases hc2 : zF46 n (M.1 91 (Int.toNat x2)) M with
    | none => rw [hc2] at h; cases h
    | some w =>
      obtain ⟨v8, M9⟩ := w
      rw [hc2] at h
      dsimp only at h
      obtain ⟨V8, NM9, ehc2, hv8, gM9⟩ := zF46_r n (rm_rdx gM 91 hx2) gM hc2
      rw [ehc2]
      dsimp only
      by_cases q3 : v8 = x2
      · rw [if_pos q3] at h
        rw [if_pos ((rp_eq hv8 hx2).mpr q3)]
        exact zJ47_47_r n _ _ hrec4 hx2 gM9 h
      · rw [if_neg q3] at h
        rw [if_neg (fun z => q3 ((rp_eq hv8 hx2).mp z))]
        exact zJ47_43_r n _ _ hrec4 hx2 gM9 h
def zL47_4 (n : Nat) : Nat → Int → Int → ZM → Option (Int × ZM)
  | 0, _, _, _ => none
  | k + 1, x1, x2, M => if x2 < 0 ∨ 128 ≤ x2 then (none) else (if (M.1 90 (Int.toNat x2)) = 6 then (if x1 = 0 ∨ x1 = 1 then (some (x1, M)) else (none)) else (if x1 = 0 then (if (M.1 90 (Int.toNat x2)) = 3 then (zJ47_29 n (zL47_4 n k) x2 M) else (zJ47_47 n (zL47_4 n k) x2 M)) else (zJ47_43 n (zL47_4 n k) x2 M)))
set_option maxRecDepth 100000 in
set_option maxHeartbeats 4000000 in
theorem zL47_4_r (n : Nat) : ∀ (k : Nat) {X1_ : Int32} {x1 : Int} (hx1 : rp X1_ x1) {X2_ : Int32} {x2 : Int} (hx2 : rp X2_ x2) {M_ : Mem} {M : ZM} (gM : rm M_ M) {r : Int} {m' : ZM} (_ : zL47_4 n k x1 x2 M = some (r, m')), sI (L47_4 n k X1_ X2_ M_) r m' := by
  intro k
  induction k with
  | zero => intro X1_ x1 hx1 X2_ x2 hx2 M_ M gM r m' h; cases h
  | succ k ih =>
    intro X1_ x1 hx1 X2_ x2 hx2 M_ M gM r m' h
    rw [zL47_4] at h
    rw [L47_4]
    by_cases q1 : x2 < 0 ∨ 128 ≤ x2
    · rw [if_pos q1] at h
      rw [if_pos ((rp_ob hx2 128).mpr q1)]
      cases h
    · rw [if_neg q1] at h
      rw [if_neg (fun z => q1 ((rp_ob hx2 128).mp z))]
      by_cases q2 : (M.1 90 (Int.toNat x2)) = 6
      · rw [if_pos q2] at h
        rw [if_pos ((rp_eq (rm_rdx gM 90 hx2) (show rp 6 6 from rfl)).mpr q2)]
        by_cases q3 : x1 = 0 ∨ x1 = 1
        · rw [if_pos q3] at h
          rw [if_pos ((or_congr (rp_eq hx1 (show rp 0 0 from rfl)) (rp_eq hx1 (show rp 1 1 from rfl))).mpr q3)]
          obtain ⟨rfl, rfl⟩ := Prod.mk.inj (Option.some.inj h)
          exact ⟨_, _, rfl, hx1, gM⟩
        · rw [if_neg q3] at h
          rw [if_neg (fun z => q3 ((or_congr (rp_eq hx1 (show rp 0 0 from rfl)) (rp_eq hx1 (show rp 1 1 from rfl))).mp z))]
          cases h
      · rw [if_neg q2] at h
        rw [if_neg (fun z => q2 ((rp_eq (rm_rdx gM 90 hx2) (show rp 6 6 from rfl)).mp z))]
        by_cases q4 : x1 = 0
        · rw [if_pos q4] at h
          rw [if_pos ((rp_eq hx1 (show rp 0 0 from rfl)).mpr q4)]
          rw [if_neg (fun z => q1 ((rp_ob hx2 128).mp z))]
          by_cases q5 : (M.1 90 (Int.toNat x2)) = 3
          · rw [if_pos q5] at h
            rw [if_pos ((rp_eq (rm_rdx gM 90 hx2) (show rp 3 3 from rfl)).mpr q5)]
            exact zJ47_29_r n _ _ ih hx2 gM h
          · rw [if_neg q5] at h
            rw [if_neg (fun z => q5 ((rp_eq (rm_rdx gM 90 hx2) (show rp 3 3 from rfl)).mp z))]
            exact zJ47_47_r n _ _ ih hx2 gM h
        · rw [if_neg q4] at h
          rw [if_neg (fun z => q4 ((rp_eq hx1 (show rp 0 0 from rfl)).mp z))]
          exact zJ47_43_r n _ _ ih hx2 gM h
/-- ArmExpanderModel.twice -/
def zF47 (n : Nat) (M : ZM) : Option (Int × ZM) :=
  zL47_4 n n 0 0 M
set_option maxRecDepth 100000 in
set_option maxHeartbeats 4000000 in
theorem zF47_r (n : Nat) {M_ : Mem} {M : ZM} (gM : rm M_ M) {r : Int} {m' : ZM} (h : zF47 n M = some (r, m')) : sI (F47 n M_) r m' := by
  unfold zF47 at h
  unfold F47
  exact zL47_4_r n n (show rp 0 0 from rfl) (show rp 0 0 from rfl) gM h
def zJ48_90 (n : Nat) (zrec4 : Int → Int → ZM → Option (Int × ZM)) (x2 : Int) (s0 : Int) (M : ZM) : Option (Int × ZM) :=
  if rg (x2 + 1) then (zrec4 s0 (x2 + 1) M) else none
set_option maxRecDepth 100000 in
set_option maxHeartbeats 4000000 in
theorem zJ48_90_r (n : Nat) (rec4 : Int32 → Int32 → Mem → Option (Int32 × Mem)) (zrec4 : Int → Int → ZM → Option (Int × ZM)) (hrec4 : ∀ {Y1 : Int32} {y1 : Int} (_ : rp Y1 y1) {Y2 : Int32} {y2 : Int} (_ : rp Y2 y2) {M : Mem} {m : ZM} (_ : rm M m) {r : Int} {m' : ZM} (_ : zrec4 y1 y2 m = some (r, m')), sI (rec4 Y1 Y2 M) r m') {X2_ : Int32} {x2 : Int} (hx2 : rp X2_ x2) {S0_ : Int32} {s0 : Int} (hs0 : rp S0_ s0) {M_ : Mem} {M : ZM} (gM : rm M_ M) {r : Int} {m' : ZM} (h : zJ48_90 n zrec4 x2 s0 M = some (r, m')) : sI (J48_90 n rec4 X2_ S0_ M_) r m' := by
  unfold zJ48_90 at h
  unfold J48_90
  by_cases w1 : rg (x2 + 1)
  · rw [if_pos w1] at h
    exact hrec4 hs0 (rp_add (rp_iz hx2) (rp_iz (show rp 1 1 from rfl)) w1) gM h
  · rw [if_neg w1] at h
    cases h
def zJ48_85 (n : Nat) (zrec4 : Int → Int → ZM → Option (Int × ZM)) (x2 : Int) (M : ZM) : Option (Int × ZM) :=
  zJ48_90 n zrec4 x2 1 M
set_option maxRecDepth 100000 in
set_option maxHeartbeats 4000000 in
theorem zJ48_85_r (n : Nat) (rec4 : Int32 → Int32 → Mem → Option (Int32 × Mem)) (zrec4 : Int → Int → ZM → Option (Int × ZM)) (hrec4 : ∀ {Y1 : Int32} {y1 : Int} (_ : rp Y1 y1) {Y2 : Int32} {y2 : Int} (_ : rp Y2 y2) {M : Mem} {m : ZM} (_ : rm M m) {r : Int} {m' : ZM} (_ : zrec4 y1 y2 m = some (r, m')), sI (rec4 Y1 Y2 M) r m') {X2_ : Int32} {x2 : Int} (hx2 : rp X2_ x2) {M_ : Mem} {M : ZM} (gM : rm M_ M) {r : Int} {m' : ZM} (h : zJ48_85 n zrec4 x2 M = some (r, m')) : sI (J48_85 n rec4 X2_ M_) r m' := by
  unfold zJ48_85 at h
  unfold J48_85
  exact zJ48_90_r n _ _ hrec4 hx2 (show rp 1 1 from rfl) gM h
def zJ48_89 (n : Nat) (zrec4 : Int → Int → ZM → Option (Int × ZM)) (x2 : Int) (M : ZM) : Option (Int × ZM) :=
  zJ48_90 n zrec4 x2 0 M
set_option maxRecDepth 100000 in
set_option maxHeartbeats 4000000 in
theorem zJ48_89_r (n : Nat) (rec4 : Int32 → Int32 → Mem → Option (Int32 × Mem)) (zrec4 : Int → Int → ZM → Option (Int × ZM)) (hrec4 : ∀ {Y1 : Int32} {y1 : Int} (_ : rp Y1 y1) {Y2 : Int32} {y2 : Int} (_ : rp Y2 y2) {M : Mem} {m : ZM} (_ : rm M m) {r : Int} {m' : ZM} (_ : zrec4 y1 y2 m = some (r, m')), sI (rec4 Y1 Y2 M) r m') {X2_ : Int32} {x2 : Int} (hx2 : rp X2_ x2) {M_ : Mem} {M : ZM} (gM : rm M_ M) {r : Int} {m' : ZM} (h : zJ48_89 n zrec4 x2 M = some (r, m')) : sI (J48_89 n rec4 X2_ M_) r m' := by
  unfold zJ48_89 at h
  unfold J48_89
  exact zJ48_90_r n _ _ hrec4 hx2 (show rp 0 0 from rfl) gM h
def zJ48_61 (n : Nat) (zrec4 : Int → Int → ZM → Option (Int × ZM)) (x1 : Int) (x2 : Int) (x3 : Int) (M : ZM) : Option (Int × ZM) :=
  if x1 = 0 then (if x2 < 0 ∨ 128 ≤ x2 then (none) else (if (M.1 90 (Int.toNat x2)) = 4 then (if (M.1 92 (Int.toNat x2)) = x3 then (zJ48_85 n zrec4 x2 M) else (zJ48_89 n zrec4 x2 M)) else (zJ48_89 n zrec4 x2 M))) else (zJ48_85 n zrec4 x2 M)
set_option maxRecDepth 100000 in
set_option maxHeartbeats 4000000 in
theorem zJ48_61_r (n : Nat) (rec4 : Int32 → Int32 → Mem → Option (Int32 × Mem)) (zrec4 : Int → Int → ZM → Option (Int × ZM)) (hrec4 : ∀ {Y1 : Int32} {y1 : Int} (_ : rp Y1 y1) {Y2 : Int32} {y2 : Int} (_ : rp Y2 y2) {M : Mem} {m : ZM} (_ : rm M m) {r : Int} {m' : ZM} (_ : zrec4 y1 y2 m = some (r, m')), sI (rec4 Y1 Y2 M) r m') {X1_ : Int32} {x1 : Int} (hx1 : rp X1_ x1) {X2_ : Int32} {x2 : Int} (hx2 : rp X2_ x2) {X3_ : Int32} {x3 : Int} (hx3 : rp X3_ x3) {M_ : Mem} {M : ZM} (gM : rm M_ M) {r : Int} {m' : ZM} (h : zJ48_61 n zrec4 x1 x2 x3 M = some (r, m')) : sI (J48_61 n rec4 X1_ X2_ X3_ M_) r m' := by
  unfold zJ48_61 at h
  unfold J48_61
  by_cases q1 : x1 = 0
  · rw [if_pos q1] at h
    rw [if_pos ((rp_eq hx1 (show rp 0 0 from rfl)).mpr q1)]
    by_cases q2 : x2 < 0 ∨ 128 ≤ x2
    · rw [if_pos q2] at h
      rw [if_pos ((rp_ob hx2 128).mpr q2)]
      cases h
    · rw [if_neg q2] at h
      rw [if_neg (fun z => q2 ((rp_ob hx2 128).mp z))]
      by_cases q3 : (M.1 90 (Int.toNat x2)) = 4
      · rw [if_pos q3] at h
        rw [if_pos ((rp_eq (rm_rdx gM 90 hx2) (show rp 4 4 from rfl)).mpr q3)]
        rw [if_neg (fun z => q2 ((rp_ob hx2 128).mp z))]
        by_cases q4 : (M.1 92 (Int.toNat x2)) = x3
        · rw [if_pos q4] at h
          rw [if_pos ((rp_eq (rm_rdx gM 92 hx2) hx3).mpr q4)]
          exact zJ48_85_r n _ _ hrec4 hx2 gM h
        · rw [if_neg q4] at h
          rw [if_neg (fun z => q4 ((rp_eq (rm_rdx gM 92 hx2) hx3).mp z))]
          exact zJ48_89_r n _ _ hrec4 hx2 gM h
      · rw [if_neg q3] at h
        rw [if_neg (fun z => q3 ((rp_eq (rm_rdx gM 90 hx2) (show rp 4 4 from rfl)).mp z))]
        exact zJ48_89_r n _ _ hrec4 hx2 gM h
  · rw [if_neg q1] at h
    rw [if_neg (fun z => q1 ((rp_eq hx1 (show rp 0 0 from rfl)).mp z))]
    exact zJ48_85_r n _ _ hrec4 hx2 gM h
def zJ48_39 (n : Nat) (zrec4 : Int → Int → ZM → Option (Int × ZM)) (zrec19 : Int → Int → Int → ZM → Option (Int × ZM)) (x1 : Int) (x2 : Int) (x3 : Int) (M : ZM) : Option (Int × ZM) :=
  if x3 < 0 ∨ 128 ≤ x3 then (none) else (if (M.1 94 (Int.toNat x3)) = 2 then (zJ48_61 n zrec4 x1 x2 x3 M) else (if rg ((M.1 92 (Int.toNat x3)) + 1) then (zrec19 x1 x2 ((M.1 92 (Int.toNat x3)) + 1) M) else none))
set_option maxRecDepth 100000 in
set_option maxHeartbeats 4000000 in
theorem zJ48_39_r (n : Nat) (rec4 : Int32 → Int32 → Mem → Option (Int32 × Mem)) (zrec4 : Int → Int → ZM → Option (Int × ZM)) (hrec4 : ∀ {Y1 : Int32} {y1 : Int} (_ : rp Y1 y1) {Y2 : Int32} {y2 : Int} (_ : rp Y2 y2) {M : Mem} {m : ZM} (_ : rm M m) {r : Int} {m' : ZM} (_ : zrec4 y1 y2 m = some (r, m')), sI (rec4 Y1 Y2 M) r m') (rec19 : Int32 → Int32 → Int32 → Mem → Option (Int32 × Mem)) (zrec19 : Int → Int → Int → ZM → Option (Int × ZM)) (hrec19 : ∀ {Y1 : Int32} {y1 : Int} (_ : rp Y1 y1) {Y2 : Int32} {y2 : Int} (_ : rp Y2 y2) {Y3 : Int32} {y3 : Int} (_ : rp Y3 y3) {M : Mem} {m : ZM} (_ : rm M m) {r : Int} {m' : ZM} (_ : zrec19 y1 y2 y3 m = some (r, m')), sI (rec19 Y1 Y2 Y3 M) r m') {X1_ : Int32} {x1 : Int} (hx1 : rp X1_ x1) {X2_ : Int32} {x2 : Int} (hx2 : rp X2_ x2) {X3_ : Int32} {x3 : Int} (hx3 : rp X3_ x3) {M_ : Mem} {M : ZM} (gM : rm M_ M) {r : Int} {m' : ZM} (h : zJ48_39 n zrec4 zrec19 x1 x2 x3 M = some (r, m')) : sI (J48_39 n rec4 rec19 X1_ X2_ X3_ M_) r m' := by
  unfold zJ48_39 at h
  unfold J48_39
  by_cases q1 : x3 < 0 ∨ 128 ≤ x3
  · rw [if_pos q1] at h
    rw [if_pos ((rp_ob hx3 128).mpr q1)]
    cases h
  · rw [if_neg q1] at h
    rw [if_neg (fun z => q1 ((rp_ob hx3 128).mp z))]
    by_cases q2 : (M.1 94 (Int.toNat x3)) = 2
    · rw [if_pos q2] at h
      rw [if_pos ((rp_eq (rm_rdx gM 94 hx3) (show rp 2 2 from rfl)).mpr q2)]
      exact zJ48_61_r n _ _ hrec4 hx1 hx2 hx3 gM h
    · rw [if_neg q2] at h
      rw [if_neg (fun z => q2 ((rp_eq (rm_rdx gM 94 hx3) (show rp 2 2 from rfl)).mp z))]
      rw [if_neg (fun z => q1 ((rp_ob hx3 128).mp z))]
      by_cases w3 : rg ((M.1 92 (Int.toNat x3)) + 1)
      · rw [if_pos w3] at h
        exact hrec19 hx1 hx2 (rp_add (rp_iz (rm_rdx gM 92 hx3)) (rp_iz (show rp 1 1 from rfl)) w3) gM h
      · rw [if_neg w3] at h
        cases h
def zL48_19 (n : Nat) (zrec4 : Int → Int → ZM → Option (Int × ZM)) : Nat → Int → Int → Int → ZM → Option (Int × ZM)
  | 0, _, _, _, _ => none
  | k + 1, x1, x2, x3, M => if x2 < 0 ∨ 128 ≤ x2 then (none) else (if (M.1 90 (Int.toNat x2)) = 4 then (if x3 < 0 ∨ 128 ≤ x3 then (none) else (if (M.1 90 (Int.toNat x3)) = 4 then (zJ48_39 n zrec4 (zL48_19 n zrec4 k) x1 x2 x3 M) else (zJ48_61 n zrec4 x1 x2 x3 M))) else (zJ48_61 n zrec4 x1 x2 x3 M))
set_option maxRecDepth 100000 in
set_option maxHeartbeats 4000000 in
theorem zL48_19_r (n : Nat) (rec4 : Int32 → Int32 → Mem → Option (Int32 × Mem)) (zrec4 : Int → Int → ZM → Option (Int × ZM)) (hrec4 : ∀ {Y1 : Int32} {y1 : Int} (_ : rp Y1 y1) {Y2 : Int32} {y2 : Int} (_ : rp Y2 y2) {M : Mem} {m : ZM} (_ : rm M m) {r : Int} {m' : ZM} (_ : zrec4 y1 y2 m = some (r, m')), sI (rec4 Y1 Y2 M) r m') : ∀ (k : Nat) {X1_ : Int32} {x1 : Int} (hx1 : rp X1_ x1) {X2_ : Int32} {x2 : Int} (hx2 : rp X2_ x2) {X3_ : Int32} {x3 : Int} (hx3 : rp X3_ x3) {M_ : Mem} {M : ZM} (gM : rm M_ M) {r : Int} {m' : ZM} (_ : zL48_19 n zrec4 k x1 x2 x3 M = some (r, m')), sI (L48_19 n rec4 k X1_ X2_ X3_ M_) r m' := by
  intro k
  induction k with
  | zero => intro X1_ x1 hx1 X2_ x2 hx2 X3_ x3 hx3 M_ M gM r m' h; cases h
  | succ k ih =>
    intro X1_ x1 hx1 X2_ x2 hx2 X3_ x3 hx3 M_ M gM r m' h
    rw [zL48_19] at h
    rw [L48_19]
    by_cases q1 : x2 < 0 ∨ 128 ≤ x2
    · rw [if_pos q1] at h
      rw [if_pos ((rp_ob hx2 128).mpr q1)]
      cases h
    · rw [if_neg q1] at h
      rw [if_neg (fun z => q1 ((rp_ob hx2 128).mp z))]
      by_cases q2 : (M.1 90 (Int.toNat x2)) = 4
      · rw [if_pos q2] at h
        rw [if_pos ((rp_eq (rm_rdx gM 90 hx2) (show rp 4 4 from rfl)).mpr q2)]
        by_cases q3 : x3 < 0 ∨ 128 ≤ x3
        · rw [if_pos q3] at h
          rw [if_pos ((rp_ob hx3 128).mpr q3)]
          cases h
        · rw [if_neg q3] at h
          rw [if_neg (fun z => q3 ((rp_ob hx3 128).mp z))]
          by_cases q4 : (M.1 90 (Int.toNat x3)) = 4
          · rw [if_pos q4] at h
            rw [if_pos ((rp_eq (rm_rdx gM 90 hx3) (show rp 4 4 from rfl)).mpr q4)]
            exact zJ48_39_r n _ _ hrec4 _ _ ih hx1 hx2 hx3 gM h
          · rw [if_neg q4] at h
            rw [if_neg (fun z => q4 ((rp_eq (rm_rdx gM 90 hx3) (show rp 4 4 from rfl)).mp z))]
            exact zJ48_61_r n _ _ hrec4 hx1 hx2 hx3 gM h
      · rw [if_neg q2] at h
        rw [if_neg (fun z => q2 ((rp_eq (rm_rdx gM 90 hx2) (show rp 4 4 from rfl)).mp z))]
        exact zJ48_61_r n _ _ hrec4 hx1 hx2 hx3 gM h
def zL48_4 (n : Nat) : Nat → Int → Int → ZM → Option (Int × ZM)
  | 0, _, _, _ => none
  | k + 1, x1, x2, M => if x2 < 0 ∨ 128 ≤ x2 then (none) else (if (M.1 90 (Int.toNat x2)) = 6 then (if x1 = 0 ∨ x1 = 1 then (some (x1, M)) else (none)) else (if rg (x2 + 1) then (zL48_19 n (zL48_4 n k) n x1 x2 (x2 + 1) M) else none))
set_option maxRecDepth 100000 in
set_option maxHeartbeats 4000000 in
theorem zL48_4_r (n : Nat) : ∀ (k : Nat) {X1_ : Int32} {x1 : Int} (hx1 : rp X1_ x1) {X2_ : Int32} {x2 : Int} (hx2 : rp X2_ x2) {M_ : Mem} {M : ZM} (gM : rm M_ M) {r : Int} {m' : ZM} (_ : zL48_4 n k x1 x2 M = some (r, m')), sI (L48_4 n k X1_ X2_ M_) r m' := by
  intro k
  induction k with
  | zero => intro X1_ x1 hx1 X2_ x2 hx2 M_ M gM r m' h; cases h
  | succ k ih =>
    intro X1_ x1 hx1 X2_ x2 hx2 M_ M gM r m' h
    rw [zL48_4] at h
    rw [L48_4]
    by_cases q1 : x2 < 0 ∨ 128 ≤ x2
    · rw [if_pos q1] at h
      rw [if_pos ((rp_ob hx2 128).mpr q1)]
      cases h
    · rw [if_neg q1] at h
      rw [if_neg (fun z => q1 ((rp_ob hx2 128).mp z))]
      by_cases q2 : (M.1 90 (Int.toNat x2)) = 6
      · rw [if_pos q2] at h
        rw [if_pos ((rp_eq (rm_rdx gM 90 hx2) (show rp 6 6 from rfl)).mpr q2)]
        by_cases q3 : x1 = 0 ∨ x1 = 1
        · rw [if_pos q3] at h
          rw [if_pos ((or_congr (rp_eq hx1 (show rp 0 0 from rfl)) (rp_eq hx1 (show rp 1 1 from rfl))).mpr q3)]
          obtain ⟨rfl, rfl⟩ := Prod.mk.inj (Option.some.inj h)
          exact ⟨_, _, rfl, hx1, gM⟩
        · rw [if_neg q3] at h
          rw [if_neg (fun z => q3 ((or_congr (rp_eq hx1 (show rp 0 0 from rfl)) (rp_eq hx1 (show rp 1 1 from rfl))).mp z))]
          cases h
      · rw [if_neg q2] at h
        rw [if_neg (fun z => q2 ((rp_eq (rm_rdx gM 90 hx2) (show rp 6 6 from rfl)).mp z))]
        by_cases w4 : rg (x2 + 1)
        · rw [if_pos w4] at h
          exact zL48_19_r n _ _ ih n hx1 hx2 (rp_add (rp_iz hx2) (rp_iz (show rp 1 1 from rfl)) w4) gM h
        · rw [if_neg w4] at h
          cases h
/-- ArmExpanderModel.matchesNothing -/
def zF48 (n : Nat) (M : ZM) : Option (Int × ZM) :=
  zL48_4 n n 0 0 M
set_option maxRecDepth 100000 in
set_option maxHeartbeats 4000000 in
theorem zF48_r (n : Nat) {M_ : Mem} {M : ZM} (gM : rm M_ M) {r : Int} {m' : ZM} (h : zF48 n M = some (r, m')) : sI (F48 n M_) r m' := by
  unfold zF48 at h
  unfold F48
  exact zL48_4_r n n (show rp 0 0 from rfl) (show rp 0 0 from rfl) gM h
def zJ49_253 (n : Nat) (zrec10 : Int → Int → Int → ZM → Option (Unit × ZM)) (x2 : Int) (x3 : Int) (x4 : Int) (M : ZM) : Option (Unit × ZM) :=
  zrec10 x2 x3 x4 M
set_option maxRecDepth 100000 in
set_option maxHeartbeats 4000000 in
theorem zJ49_253_r (n : Nat) (rec10 : Int32 → Int32 → Int32 → Mem → Option (Unit × Mem)) (zrec10 : Int → Int → Int → ZM → Option (Unit × ZM)) (hrec10 : ∀ {Y1 : Int32} {y1 : Int} (_ : rp Y1 y1) {Y2 : Int32} {y2 : Int} (_ : rp Y2 y2) {Y3 : Int32} {y3 : Int} (_ : rp Y3 y3) {M : Mem} {m : ZM} (_ : rm M m) {r : Unit} {m' : ZM} (_ : zrec10 y1 y2 y3 m = some (r, m')), sU (rec10 Y1 Y2 Y3 M) m') {X2_ : Int32} {x2 : Int} (hx2 : rp X2_ x2) {X3_ : Int32} {x3 : Int} (hx3 : rp X3_ x3) {X4_ : Int32} {x4 : Int} (hx4 : rp X4_ x4) {M_ : Mem} {M : ZM} (gM : rm M_ M) {r : Unit} {m' : ZM} (h : zJ49_253 n zrec10 x2 x3 x4 M = some (r, m')) : sU (J49_253 n rec10 X2_ X3_ X4_ M_) m' := by
  unfold zJ49_253 at h
  unfold J49_253
  exact hrec10 hx2 hx3 hx4 gM h
def zJ49_247 (n : Nat) (zrec10 : Int → Int → Int → ZM → Option (Unit × ZM)) (x2 : Int) (x3 : Int) (x4 : Int) (M : ZM) : Option (Unit × ZM) :=
  if rg (x4 + 1) then (zJ49_253 n zrec10 x2 x3 (x4 + 1) M) else none
set_option maxRecDepth 100000 in
set_option maxHeartbeats 4000000 in
theorem zJ49_247_r (n : Nat) (rec10 : Int32 → Int32 → Int32 → Mem → Option (Unit × Mem)) (zrec10 : Int → Int → Int → ZM → Option (Unit × ZM)) (hrec10 : ∀ {Y1 : Int32} {y1 : Int} (_ : rp Y1 y1) {Y2 : Int32} {y2 : Int} (_ : rp Y2 y2) {Y3 : Int32} {y3 : Int} (_ : rp Y3 y3) {M : Mem} {m : ZM} (_ : rm M m) {r : Unit} {m' : ZM} (_ : zrec10 y1 y2 y3 m = some (r, m')), sU (rec10 Y1 Y2 Y3 M) m') {X2_ : Int32} {x2 : Int} (hx2 : rp X2_ x2) {X3_ : Int32} {x3 : Int} (hx3 : rp X3_ x3) {X4_ : Int32} {x4 : Int} (hx4 : rp X4_ x4) {M_ : Mem} {M : ZM} (gM : rm M_ M) {r : Unit} {m' : ZM} (h : zJ49_247 n zrec10 x2 x3 x4 M = some (r, m')) : sU (J49_247 n rec10 X2_ X3_ X4_ M_) m' := by
  unfold zJ49_247 at h
  unfold J49_247
  by_cases w1 : rg (x4 + 1)
  · rw [if_pos w1] at h
    exact zJ49_253_r n _ _ hrec10 hx2 hx3 (rp_add (rp_iz hx4) (rp_iz (show rp 1 1 from rfl)) w1) gM h
  · rw [if_neg w1] at h
    cases h
def zJ49_209 (n : Nat) (zrec10 : Int → Int → Int → ZM → Option (Unit × ZM)) (x2 : Int) (x3 : Int) (x4 : Int) (x5 : Int) (x6 : Int) (x7 : Int) (M : ZM) : Option (Unit × ZM) :=
  if x6 = 5 then (if x7 = 3 then (zJ49_253 n zrec10 x2 x3 x4 M) else (if x5 < 0 ∨ 128 ≤ x5 then (none) else (if (M.1 93 (Int.toNat x5)) = 0 then (if x4 < 0 ∨ 512 ≤ x4 then (none) else (if rg ((M.1 92 (Int.toNat x5)) + 1) then (zlet (z_i M 114 (Int.toNat x4) ((M.1 92 (Int.toNat x5)) + 1)) (fun M22 => zJ49_247 n zrec10 x2 x3 x4 M22)) else none)) else (zJ49_253 n zrec10 x2 x3 x4 M)))) else (zJ49_253 n zrec10 x2 x3 x4 M)
set_option maxRecDepth 100000 in
set_option maxHeartbeats 4000000 in
theorem zJ49_209_r (n : Nat) (rec10 : Int32 → Int32 → Int32 → Mem → Option (Unit × Mem)) (zrec10 : Int → Int → Int → ZM → Option (Unit × ZM)) (hrec10 : ∀ {Y1 : Int32} {y1 : Int} (_ : rp Y1 y1) {Y2 : Int32} {y2 : Int} (_ : rp Y2 y2) {Y3 : Int32} {y3 : Int} (_ : rp Y3 y3) {M : Mem} {m : ZM} (_ : rm M m) {r : Unit} {m' : ZM} (_ : zrec10 y1 y2 y3 m = some (r, m')), sU (rec10 Y1 Y2 Y3 M) m') {X2_ : Int32} {x2 : Int} (hx2 : rp X2_ x2) {X3_ : Int32} {x3 : Int} (hx3 : rp X3_ x3) {X4_ : Int32} {x4 : Int} (hx4 : rp X4_ x4) {X5_ : Int32} {x5 : Int} (hx5 : rp X5_ x5) {X6_ : Int32} {x6 : Int} (hx6 : rp X6_ x6) {X7_ : Int32} {x7 : Int} (hx7 : rp X7_ x7) {M_ : Mem} {M : ZM} (gM : rm M_ M) {r : Unit} {m' : ZM} (h : zJ49_209 n zrec10 x2 x3 x4 x5 x6 x7 M = some (r, m')) : sU (J49_209 n rec10 X2_ X3_ X4_ X5_ X6_ X7_ M_) m' := by
  unfold zJ49_209 at h
  unfold J49_209
  by_cases q1 : x6 = 5
  · rw [if_pos q1] at h
    rw [if_pos ((rp_eq hx6 (show rp 5 5 from rfl)).mpr q1)]
    by_cases q2 : x7 = 3
    · rw [if_pos q2] at h
      rw [if_pos ((rp_eq hx7 (show rp 3 3 from rfl)).mpr q2)]
      exact zJ49_253_r n _ _ hrec10 hx2 hx3 hx4 gM h
    · rw [if_neg q2] at h
      rw [if_neg (fun z => q2 ((rp_eq hx7 (show rp 3 3 from rfl)).mp z))]
      by_cases q3 : x5 < 0 ∨ 128 ≤ x5
      · rw [if_pos q3] at h
        rw [if_pos ((rp_ob hx5 128).mpr q3)]
        cases h
      · rw [if_neg q3] at h
        rw [if_neg (fun z => q3 ((rp_ob hx5 128).mp z))]
        by_cases q4 : (M.1 93 (Int.toNat x5)) = 0
        · rw [if_pos q4] at h
          rw [if_pos ((rp_eq (rm_rdx gM 93 hx5) (show rp 0 0 from rfl)).mpr q4)]
          rw [if_neg (fun z => q3 ((rp_ob hx5 128).mp z))]
          by_cases q5 : x4 < 0 ∨ 512 ≤ x4
          · rw [if_pos q5] at h
            rw [if_pos ((rp_ob hx4 512).mpr q5)]
            cases h
          · rw [if_neg q5] at h
            rw [if_neg (fun z => q5 ((rp_ob hx4 512).mp z))]
            by_cases w6 : rg ((M.1 92 (Int.toNat x5)) + 1)
            · rw [if_pos w6] at h
              have gM22 : rm (m_i M_ 114 (X4_).toNatClampNeg ((M_.1 92 (X5_).toNatClampNeg) + (1 : Int32))) (z_i M 114 (Int.toNat x4) ((M.1 92 (Int.toNat x5)) + 1)) := rm_ix gM 114 hx4 (rp_add (rp_iz (rm_rdx gM 92 hx5)) (rp_iz (show rp 1 1 from rfl)) w6)
              rw [mlet]
              rw [zlet] at h
              generalize z_i M 114 (Int.toNat x4) ((M.1 92 (Int.toNat x5)) + 1) = M22 at h gM22
              generalize m_i M_ 114 (X4_).toNatClampNeg ((M_.1 92 (X5_).toNatClampNeg) + (1 : Int32)) = NM22 at gM22 ⊢
              exact zJ49_247_r n _ _ hrec10 hx2 hx3 hx4 gM22 h
            · rw [if_neg w6] at h
              cases h
        · rw [if_neg q4] at h
          rw [if_neg (fun z => q4 ((rp_eq (rm_rdx gM 93 hx5) (show rp 0 0 from rfl)).mp z))]
          exact zJ49_253_r n _ _ hrec10 hx2 hx3 hx4 gM h
  · rw [if_neg q1] at h
    rw [if_neg (fun z => q1 ((rp_eq hx6 (show rp 5 5 from rfl)).mp z))]
    exact zJ49_253_r n _ _ hrec10 hx2 hx3 hx4 gM h
def zJ49_186 (n : Nat) (zrec10 : Int → Int → Int → ZM → Option (Unit × ZM)) (x2 : Int) (x3 : Int) (x4 : Int) (x5 : Int) (x6 : Int) (x7 : Int) (M : ZM) : Option (Unit × ZM) :=
  if x6 = 5 then (if x4 < 0 ∨ 512 ≤ x4 then (none) else (if rg (x5 + 1) then (zlet (z_i M 114 (Int.toNat x4) (x5 + 1)) (fun M15 => if rg (x4 + 1) then (zJ49_209 n zrec10 x2 x3 (x4 + 1) x5 x6 x7 M15) else none)) else none)) else (zJ49_209 n zrec10 x2 x3 x4 x5 x6 x7 M)
set_option maxRecDepth 100000 in
set_option maxHeartbeats 4000000 in
theorem zJ49_186_r (n : Nat) (rec10 : Int32 → Int32 → Int32 → Mem → Option (Unit × Mem)) (zrec10 : Int → Int → Int → ZM → Option (Unit × ZM)) (hrec10 : ∀ {Y1 : Int32} {y1 : Int} (_ : rp Y1 y1) {Y2 : Int32} {y2 : Int} (_ : rp Y2 y2) {Y3 : Int32} {y3 : Int} (_ : rp Y3 y3) {M : Mem} {m : ZM} (_ : rm M m) {r : Unit} {m' : ZM} (_ : zrec10 y1 y2 y3 m = some (r, m')), sU (rec10 Y1 Y2 Y3 M) m') {X2_ : Int32} {x2 : Int} (hx2 : rp X2_ x2) {X3_ : Int32} {x3 : Int} (hx3 : rp X3_ x3) {X4_ : Int32} {x4 : Int} (hx4 : rp X4_ x4) {X5_ : Int32} {x5 : Int} (hx5 : rp X5_ x5) {X6_ : Int32} {x6 : Int} (hx6 : rp X6_ x6) {X7_ : Int32} {x7 : Int} (hx7 : rp X7_ x7) {M_ : Mem} {M : ZM} (gM : rm M_ M) {r : Unit} {m' : ZM} (h : zJ49_186 n zrec10 x2 x3 x4 x5 x6 x7 M = some (r, m')) : sU (J49_186 n rec10 X2_ X3_ X4_ X5_ X6_ X7_ M_) m' := by
  unfold zJ49_186 at h
  unfold J49_186
  by_cases q1 : x6 = 5
  · rw [if_pos q1] at h
    rw [if_pos ((rp_eq hx6 (show rp 5 5 from rfl)).mpr q1)]
    by_cases q2 : x4 < 0 ∨ 512 ≤ x4
    · rw [if_pos q2] at h
      rw [if_pos ((rp_ob hx4 512).mpr q2)]
      cases h
    · rw [if_neg q2] at h
      rw [if_neg (fun z => q2 ((rp_ob hx4 512).mp z))]
      by_cases w3 : rg (x5 + 1)
      · rw [if_pos w3] at h
        have gM15 : rm (m_i M_ 114 (X4_).toNatClampNeg (X5_ + (1 : Int32))) (z_i M 114 (Int.toNat x4) (x5 + 1)) := rm_ix gM 114 hx4 (rp_add (rp_iz hx5) (rp_iz (show rp 1 1 from rfl)) w3)
        rw [mlet]
        rw [zlet] at h
        generalize z_i M 114 (Int.toNat x4) (x5 + 1) = M15 at h gM15
        generalize m_i M_ 114 (X4_).toNatClampNeg (X5_ + (1 : Int32)) = NM15 at gM15 ⊢
        by_cases w4 : rg (x4 + 1)
        · rw [if_pos w4] at h
          exact zJ49_209_r n _ _ hrec10 hx2 hx3 (rp_add (rp_iz hx4) (rp_iz (show rp 1 1 from rfl)) w4) hx5 hx6 hx7 gM15 h
        · rw [if_neg w4] at h
          cases h
      · rw [if_neg w3] at h
        cases h
  · rw [if_neg q1] at h
    rw [if_neg (fun z => q1 ((rp_eq hx6 (show rp 5 5 from rfl)).mp z))]
    exact zJ49_209_r n _ _ hrec10 hx2 hx3 hx4 hx5 hx6 hx7 gM h
def zJ49_180 (n : Nat) (zrec10 : Int → Int → Int → ZM → Option (Unit × ZM)) (x2 : Int) (x3 : Int) (x4 : Int) (x5 : Int) (x6 : Int) (x7 : Int) (M : ZM) : Option (Unit × ZM) :=
  if rg (x4 + 1) then (zJ49_186 n zrec10 x2 x3 (x4 + 1) x5 x6 x7 M) else none
set_option maxRecDepth 100000 in
set_option maxHeartbeats 4000000 in
theorem zJ49_180_r (n : Nat) (rec10 : Int32 → Int32 → Int32 → Mem → Option (Unit × Mem)) (zrec10 : Int → Int → Int → ZM → Option (Unit × ZM)) (hrec10 : ∀ {Y1 : Int32} {y1 : Int} (_ : rp Y1 y1) {Y2 : Int32} {y2 : Int} (_ : rp Y2 y2) {Y3 : Int32} {y3 : Int} (_ : rp Y3 y3) {M : Mem} {m : ZM} (_ : rm M m) {r : Unit} {m' : ZM} (_ : zrec10 y1 y2 y3 m = some (r, m')), sU (rec10 Y1 Y2 Y3 M) m') {X2_ : Int32} {x2 : Int} (hx2 : rp X2_ x2) {X3_ : Int32} {x3 : Int} (hx3 : rp X3_ x3) {X4_ : Int32} {x4 : Int} (hx4 : rp X4_ x4) {X5_ : Int32} {x5 : Int} (hx5 : rp X5_ x5) {X6_ : Int32} {x6 : Int} (hx6 : rp X6_ x6) {X7_ : Int32} {x7 : Int} (hx7 : rp X7_ x7) {M_ : Mem} {M : ZM} (gM : rm M_ M) {r : Unit} {m' : ZM} (h : zJ49_180 n zrec10 x2 x3 x4 x5 x6 x7 M = some (r, m')) : sU (J49_180 n rec10 X2_ X3_ X4_ X5_ X6_ X7_ M_) m' := by
  unfold zJ49_180 at h
  unfold J49_180
  by_cases w1 : rg (x4 + 1)
  · rw [if_pos w1] at h
    exact zJ49_186_r n _ _ hrec10 hx2 hx3 (rp_add (rp_iz hx4) (rp_iz (show rp 1 1 from rfl)) w1) hx5 hx6 hx7 gM h
  · rw [if_neg w1] at h
    cases h
def zJ49_152 (n : Nat) (zrec10 : Int → Int → Int → ZM → Option (Unit × ZM)) (x2 : Int) (x3 : Int) (x4 : Int) (x5 : Int) (x6 : Int) (x7 : Int) (M : ZM) : Option (Unit × ZM) :=
  if x6 = 4 then (if x7 = 2 then (zJ49_186 n zrec10 x2 x3 x4 x5 x6 x7 M) else (if x5 < 0 ∨ 128 ≤ x5 then (none) else (if x4 < 0 ∨ 512 ≤ x4 then (none) else (if rg ((M.1 92 (Int.toNat x5)) + 1) then (zlet (z_i M 114 (Int.toNat x4) ((M.1 92 (Int.toNat x5)) + 1)) (fun M25 => zJ49_180 n zrec10 x2 x3 x4 x5 x6 x7 M25)) else none)))) else (zJ49_186 n zrec10 x2 x3 x4 x5 x6 x7 M)
set_option maxRecDepth 100000 in
set_option maxHeartbeats 4000000 in
theorem zJ49_152_r (n : Nat) (rec10 : Int32 → Int32 → Int32 → Mem → Option (Unit × Mem)) (zrec10 : Int → Int → Int → ZM → Option (Unit × ZM)) (hrec10 : ∀ {Y1 : Int32} {y1 : Int} (_ : rp Y1 y1) {Y2 : Int32} {y2 : Int} (_ : rp Y2 y2) {Y3 : Int32} {y3 : Int} (_ : rp Y3 y3) {M : Mem} {m : ZM} (_ : rm M m) {r : Unit} {m' : ZM} (_ : zrec10 y1 y2 y3 m = some (r, m')), sU (rec10 Y1 Y2 Y3 M) m') {X2_ : Int32} {x2 : Int} (hx2 : rp X2_ x2) {X3_ : Int32} {x3 : Int} (hx3 : rp X3_ x3) {X4_ : Int32} {x4 : Int} (hx4 : rp X4_ x4) {X5_ : Int32} {x5 : Int} (hx5 : rp X5_ x5) {X6_ : Int32} {x6 : Int} (hx6 : rp X6_ x6) {X7_ : Int32} {x7 : Int} (hx7 : rp X7_ x7) {M_ : Mem} {M : ZM} (gM : rm M_ M) {r : Unit} {m' : ZM} (h : zJ49_152 n zrec10 x2 x3 x4 x5 x6 x7 M = some (r, m')) : sU (J49_152 n rec10 X2_ X3_ X4_ X5_ X6_ X7_ M_) m' := by
  unfold zJ49_152 at h
  unfold J49_152
  by_cases q1 : x6 = 4
  · rw [if_pos q1] at h
    rw [if_pos ((rp_eq hx6 (show rp 4 4 from rfl)).mpr q1)]
    by_cases q2 : x7 = 2
    · rw [if_pos q2] at h
      rw [if_pos ((rp_eq hx7 (show rp 2 2 from rfl)).mpr q2)]
      exact zJ49_186_r n _ _ hrec10 hx2 hx3 hx4 hx5 hx6 hx7 gM h
    · rw [if_neg q2] at h
      rw [if_neg (fun z => q2 ((rp_eq hx7 (show rp 2 2 from rfl)).mp z))]
      by_cases q3 : x5 < 0 ∨ 128 ≤ x5
      · rw [if_pos q3] at h
        rw [if_pos ((rp_ob hx5 128).mpr q3)]
        cases h
      · rw [if_neg q3] at h
        rw [if_neg (fun z => q3 ((rp_ob hx5 128).mp z))]
        by_cases q4 : x4 < 0 ∨ 512 ≤ x4
        · rw [if_pos q4] at h
          rw [if_pos ((rp_ob hx4 512).mpr q4)]
          cases h
        · rw [if_neg q4] at h
          rw [if_neg (fun z => q4 ((rp_ob hx4 512).mp z))]
          by_cases w5 : rg ((M.1 92 (Int.toNat x5)) + 1)
          · rw [if_pos w5] at h
            have gM25 : rm (m_i M_ 114 (X4_).toNatClampNeg ((M_.1 92 (X5_).toNatClampNeg) + (1 : Int32))) (z_i M 114 (Int.toNat x4) ((M.1 92 (Int.toNat x5)) + 1)) := rm_ix gM 114 hx4 (rp_add (rp_iz (rm_rdx gM 92 hx5)) (rp_iz (show rp 1 1 from rfl)) w5)
            rw [mlet]
            rw [zlet] at h
            generalize z_i M 114 (Int.toNat x4) ((M.1 92 (Int.toNat x5)) + 1) = M25 at h gM25
            generalize m_i M_ 114 (X4_).toNatClampNeg ((M_.1 92 (X5_).toNatClampNeg) + (1 : Int32)) = NM25 at gM25 ⊢
            exact zJ49_180_r n _ _ hrec10 hx2 hx3 hx4 hx5 hx6 hx7 gM25 h
          · rw [if_neg w5] at h
            cases h
  · rw [if_neg q1] at h
    rw [if_neg (fun z => q1 ((rp_eq hx6 (show rp 4 4 from rfl)).mp z))]
    exact zJ49_186_r n _ _ hrec10 hx2 hx3 hx4 hx5 hx6 hx7 gM h
def zJ49_129 (n : Nat) (zrec10 : Int → Int → Int → ZM → Option (Unit × ZM)) (x2 : Int) (x3 : Int) (x4 : Int) (x5 : Int) (x6 : Int) (x7 : Int) (M : ZM) : Option (Unit × ZM) :=
  if x6 = 4 then (if x4 < 0 ∨ 512 ≤ x4 then (none) else (if rg (x5 + 1) then (zlet (z_i M 114 (Int.toNat x4) (x5 + 1)) (fun M10 => if rg (x4 + 1) then (zJ49_152 n zrec10 x2 x3 (x4 + 1) x5 x6 x7 M10) else none)) else none)) else (zJ49_152 n zrec10 x2 x3 x4 x5 x6 x7 M)
set_option maxRecDepth 100000 in
set_option maxHeartbeats 4000000 in
theorem zJ49_129_r (n : Nat) (rec10 : Int32 → Int32 → Int32 → Mem → Option (Unit × Mem)) (zrec10 : Int → Int → Int → ZM → Option (Unit × ZM)) (hrec10 : ∀ {Y1 : Int32} {y1 : Int} (_ : rp Y1 y1) {Y2 : Int32} {y2 : Int} (_ : rp Y2 y2) {Y3 : Int32} {y3 : Int} (_ : rp Y3 y3) {M : Mem} {m : ZM} (_ : rm M m) {r : Unit} {m' : ZM} (_ : zrec10 y1 y2 y3 m = some (r, m')), sU (rec10 Y1 Y2 Y3 M) m') {X2_ : Int32} {x2 : Int} (hx2 : rp X2_ x2) {X3_ : Int32} {x3 : Int} (hx3 : rp X3_ x3) {X4_ : Int32} {x4 : Int} (hx4 : rp X4_ x4) {X5_ : Int32} {x5 : Int} (hx5 : rp X5_ x5) {X6_ : Int32} {x6 : Int} (hx6 : rp X6_ x6) {X7_ : Int32} {x7 : Int} (hx7 : rp X7_ x7) {M_ : Mem} {M : ZM} (gM : rm M_ M) {r : Unit} {m' : ZM} (h : zJ49_129 n zrec10 x2 x3 x4 x5 x6 x7 M = some (r, m')) : sU (J49_129 n rec10 X2_ X3_ X4_ X5_ X6_ X7_ M_) m' := by
  unfold zJ49_129 at h
  unfold J49_129
  by_cases q1 : x6 = 4
  · rw [if_pos q1] at h
    rw [if_pos ((rp_eq hx6 (show rp 4 4 from rfl)).mpr q1)]
    by_cases q2 : x4 < 0 ∨ 512 ≤ x4
    · rw [if_pos q2] at h
      rw [if_pos ((rp_ob hx4 512).mpr q2)]
      cases h
    · rw [if_neg q2] at h
      rw [if_neg (fun z => q2 ((rp_ob hx4 512).mp z))]
      by_cases w3 : rg (x5 + 1)
      · rw [if_pos w3] at h
        have gM10 : rm (m_i M_ 114 (X4_).toNatClampNeg (X5_ + (1 : Int32))) (z_i M 114 (Int.toNat x4) (x5 + 1)) := rm_ix gM 114 hx4 (rp_add (rp_iz hx5) (rp_iz (show rp 1 1 from rfl)) w3)
        rw [mlet]
        rw [zlet] at h
        generalize z_i M 114 (Int.toNat x4) (x5 + 1) = M10 at h gM10
        generalize m_i M_ 114 (X4_).toNatClampNeg (X5_ + (1 : Int32)) = NM10 at gM10 ⊢
        by_cases w4 : rg (x4 + 1)
        · rw [if_pos w4] at h
          exact zJ49_152_r n _ _ hrec10 hx2 hx3 (rp_add (rp_iz hx4) (rp_iz (show rp 1 1 from rfl)) w4) hx5 hx6 hx7 gM10 h
        · rw [if_neg w4] at h
          cases h
      · rw [if_neg w3] at h
        cases h
  · rw [if_neg q1] at h
    rw [if_neg (fun z => q1 ((rp_eq hx6 (show rp 4 4 from rfl)).mp z))]
    exact zJ49_152_r n _ _ hrec10 hx2 hx3 hx4 hx5 hx6 hx7 gM h
def zJ49_120 (n : Nat) (zrec10 : Int → Int → Int → ZM → Option (Unit × ZM)) (x2 : Int) (x3 : Int) (x4 : Int) (x5 : Int) (x6 : Int) (x7 : Int) (s0 : Int) (s1 : Int) (M : ZM) : Option (Unit × ZM) :=
  if s1 < 0 ∨ 128 ≤ s1 then (none) else (zlet (z_i M 109 (Int.toNat s1) s0) (fun M30 => if x5 < 0 ∨ 128 ≤ x5 then (none) else (zlet (z_i M30 110 (Int.toNat x5) x3) (fun M32 => zJ49_129 n zrec10 x2 x3 x4 x5 x6 x7 M32))))
set_option maxRecDepth 100000 in
set_option maxHeartbeats 4000000 in
theorem zJ49_120_r (n : Nat) (rec10 : Int32 → Int32 → Int32 → Mem → Option (Unit × Mem)) (zrec10 : Int → Int → Int → ZM → Option (Unit × ZM)) (hrec10 : ∀ {Y1 : Int32} {y1 : Int} (_ : rp Y1 y1) {Y2 : Int32} {y2 : Int} (_ : rp Y2 y2) {Y3 : Int32} {y3 : Int} (_ : rp Y3 y3) {M : Mem} {m : ZM} (_ : rm M m) {r : Unit} {m' : ZM} (_ : zrec10 y1 y2 y3 m = some (r, m')), sU (rec10 Y1 Y2 Y3 M) m') {X2_ : Int32} {x2 : Int} (hx2 : rp X2_ x2) {X3_ : Int32} {x3 : Int} (hx3 : rp X3_ x3) {X4_ : Int32} {x4 : Int} (hx4 : rp X4_ x4) {X5_ : Int32} {x5 : Int} (hx5 : rp X5_ x5) {X6_ : Int32} {x6 : Int} (hx6 : rp X6_ x6) {X7_ : Int32} {x7 : Int} (hx7 : rp X7_ x7) {S0_ : Int32} {s0 : Int} (hs0 : rp S0_ s0) {S1_ : Int32} {s1 : Int} (hs1 : rp S1_ s1) {M_ : Mem} {M : ZM} (gM : rm M_ M) {r : Unit} {m' : ZM} (h : zJ49_120 n zrec10 x2 x3 x4 x5 x6 x7 s0 s1 M = some (r, m')) : sU (J49_120 n rec10 X2_ X3_ X4_ X5_ X6_ X7_ S0_ S1_ M_) m' := by
  unfold zJ49_120 at h
  unfold J49_120
  by_cases q1 : s1 < 0 ∨ 128 ≤ s1
  · rw [if_pos q1] at h
    rw [if_pos ((rp_ob hs1 128).mpr q1)]
    cases h
  · rw [if_neg q1] at h
    rw [if_neg (fun z => q1 ((rp_ob hs1 128).mp z))]
    have gM30 : rm (m_i M_ 109 (S1_).toNatClampNeg S0_) (z_i M 109 (Int.toNat s1) s0) := rm_ix gM 109 hs1 hs0
    rw [mlet]
    rw [zlet] at h
    generalize z_i M 109 (Int.toNat s1) s0 = M30 at h gM30
    generalize m_i M_ 109 (S1_).toNatClampNeg S0_ = NM30 at gM30 ⊢
    by_cases q2 : x5 < 0 ∨ 128 ≤ x5
    · rw [if_pos q2] at h
      rw [if_pos ((rp_ob hx5 128).mpr q2)]
      cases h
    · rw [if_neg q2] at h
      rw [if_neg (fun z => q2 ((rp_ob hx5 128).mp z))]
      have gM32 : rm (m_i NM30 110 (X5_).toNatClampNeg X3_) (z_i M30 110 (Int.toNat x5) x3) := rm_ix gM30 110 hx5 hx3
      rw [mlet]
      rw [zlet] at h
      generalize z_i M30 110 (Int.toNat x5) x3 = M32 at h gM32
      generalize m_i NM30 110 (X5_).toNatClampNeg X3_ = NM32 at gM32 ⊢
      exact zJ49_129_r n _ _ hrec10 hx2 hx3 hx4 hx5 hx6 hx7 gM32 h
def zJ49_81 (n : Nat) (zrec10 : Int → Int → Int → ZM → Option (Unit × ZM)) (x2 : Int) (x3 : Int) (x4 : Int) (x5 : Int) (x6 : Int) (x7 : Int) (s0 : Int) (M : ZM) : Option (Unit × ZM) :=
  if s0 = 0 then (zJ49_129 n zrec10 x2 x3 x4 x5 x6 x7 M) else (if x5 < 0 ∨ 128 ≤ x5 then (none) else (if rg ((M.1 109 (Int.toNat x5)) + x2) then (if ((M.1 109 (Int.toNat x5)) + x2) ≤ 2 then (zJ49_120 n zrec10 x2 x3 x4 x5 x6 x7 ((M.1 109 (Int.toNat x5)) + x2) x5 M) else (zJ49_120 n zrec10 x2 x3 x4 x5 x6 x7 2 x5 M)) else none))
set_option maxRecDepth 100000 in
set_option maxHeartbeats 4000000 in
theorem zJ49_81_r (n : Nat) (rec10 : Int32 → Int32 → Int32 → Mem → Option (Unit × Mem)) (zrec10 : Int → Int → Int → ZM → Option (Unit × ZM)) (hrec10 : ∀ {Y1 : Int32} {y1 : Int} (_ : rp Y1 y1) {Y2 : Int32} {y2 : Int} (_ : rp Y2 y2) {Y3 : Int32} {y3 : Int} (_ : rp Y3 y3) {M : Mem} {m : ZM} (_ : rm M m) {r : Unit} {m' : ZM} (_ : zrec10 y1 y2 y3 m = some (r, m')), sU (rec10 Y1 Y2 Y3 M) m') {X2_ : Int32} {x2 : Int} (hx2 : rp X2_ x2) {X3_ : Int32} {x3 : Int} (hx3 : rp X3_ x3) {X4_ : Int32} {x4 : Int} (hx4 : rp X4_ x4) {X5_ : Int32} {x5 : Int} (hx5 : rp X5_ x5) {X6_ : Int32} {x6 : Int} (hx6 : rp X6_ x6) {X7_ : Int32} {x7 : Int} (hx7 : rp X7_ x7) {S0_ : Int32} {s0 : Int} (hs0 : rp S0_ s0) {M_ : Mem} {M : ZM} (gM : rm M_ M) {r : Unit} {m' : ZM} (h : zJ49_81 n zrec10 x2 x3 x4 x5 x6 x7 s0 M = some (r, m')) : sU (J49_81 n rec10 X2_ X3_ X4_ X5_ X6_ X7_ S0_ M_) m' := by
  unfold zJ49_81 at h
  unfold J49_81
  by_cases q1 : s0 = 0
  · rw [if_pos q1] at h
    rw [if_pos ((rp_eq hs0 (show rp 0 0 from rfl)).mpr q1)]
    exact zJ49_129_r n _ _ hrec10 hx2 hx3 hx4 hx5 hx6 hx7 gM h
  · rw [if_neg q1] at h
    rw [if_neg (fun z => q1 ((rp_eq hs0 (show rp 0 0 from rfl)).mp z))]
    by_cases q2 : x5 < 0 ∨ 128 ≤ x5
    · rw [if_pos q2] at h
      rw [if_pos ((rp_ob hx5 128).mpr q2)]
      cases h
    · rw [if_neg q2] at h
      rw [if_neg (fun z => q2 ((rp_ob hx5 128).mp z))]
      by_cases w3 : rg ((M.1 109 (Int.toNat x5)) + x2)
      · rw [if_pos w3] at h
        by_cases q4 : ((M.1 109 (Int.toNat x5)) + x2) ≤ 2
        · rw [if_pos q4] at h
          rw [if_pos ((rp_le (rp_add (rp_iz (rm_rdx gM 109 hx5)) (rp_iz hx2) w3) (show rp 2 2 from rfl)).mpr q4)]
          rw [if_neg (fun z => q2 ((rp_ob hx5 128).mp z))]
          exact zJ49_120_r n _ _ hrec10 hx2 hx3 hx4 hx5 hx6 hx7 (rp_add (rp_iz (rm_rdx gM 109 hx5)) (rp_iz hx2) w3) hx5 gM h
        · rw [if_neg q4] at h
          rw [if_neg (fun z => q4 ((rp_le (rp_add (rp_iz (rm_rdx gM 109 hx5)) (rp_iz hx2) w3) (show rp 2 2 from rfl)).mp z))]
          exact zJ49_120_r n _ _ hrec10 hx2 hx3 hx4 hx5 hx6 hx7 (show rp 2 2 from rfl) hx5 gM h
      · rw [if_neg w3] at h
        cases h
def zJ49_80 (n : Nat) (zrec10 : Int → Int → Int → ZM → Option (Unit × ZM)) (x2 : Int) (x3 : Int) (x4 : Int) (x5 : Int) (x6 : Int) (x7 : Int) (M : ZM) : Option (Unit × ZM) :=
  zJ49_81 n zrec10 x2 x3 x4 x5 x6 x7 0 M
set_option maxRecDepth 100000 in
set_option maxHeartbeats 4000000 in
theorem zJ49_80_r (n : Nat) (rec10 : Int32 → Int32 → Int32 → Mem → Option (Unit × Mem)) (zrec10 : Int → Int → Int → ZM → Option (Unit × ZM)) (hrec10 : ∀ {Y1 : Int32} {y1 : Int} (_ : rp Y1 y1) {Y2 : Int32} {y2 : Int} (_ : rp Y2 y2) {Y3 : Int32} {y3 : Int} (_ : rp Y3 y3) {M : Mem} {m : ZM} (_ : rm M m) {r : Unit} {m' : ZM} (_ : zrec10 y1 y2 y3 m = some (r, m')), sU (rec10 Y1 Y2 Y3 M) m') {X2_ : Int32} {x2 : Int} (hx2 : rp X2_ x2) {X3_ : Int32} {x3 : Int} (hx3 : rp X3_ x3) {X4_ : Int32} {x4 : Int} (hx4 : rp X4_ x4) {X5_ : Int32} {x5 : Int} (hx5 : rp X5_ x5) {X6_ : Int32} {x6 : Int} (hx6 : rp X6_ x6) {X7_ : Int32} {x7 : Int} (hx7 : rp X7_ x7) {M_ : Mem} {M : ZM} (gM : rm M_ M) {r : Unit} {m' : ZM} (h : zJ49_80 n zrec10 x2 x3 x4 x5 x6 x7 M = some (r, m')) : sU (J49_80 n rec10 X2_ X3_ X4_ X5_ X6_ X7_ M_) m' := by
  unfold zJ49_80 at h
  unfold J49_80
  exact zJ49_81_r n _ _ hrec10 hx2 hx3 hx4 hx5 hx6 hx7 (show rp 0 0 from rfl) gM h
def zJ49_76 (n : Nat) (zrec10 : Int → Int → Int → ZM → Option (Unit × ZM)) (x2 : Int) (x3 : Int) (x4 : Int) (x5 : Int) (x6 : Int) (x7 : Int) (M : ZM) : Option (Unit × ZM) :=
  zJ49_81 n zrec10 x2 x3 x4 x5 x6 x7 1 M
set_option maxRecDepth 100000 in
set_option maxHeartbeats 4000000 in
theorem zJ49_76_r (n : Nat) (rec10 : Int32 → Int32 → Int32 → Mem → Option (Unit × Mem)) (zrec10 : Int → Int → Int → ZM → Option (Unit × ZM)) (hrec10 : ∀ {Y1 : Int32} {y1 : Int} (_ : rp Y1 y1) {Y2 : Int32} {y2 : Int} (_ : rp Y2 y2) {Y3 : Int32} {y3 : Int} (_ : rp Y3 y3) {M : Mem} {m : ZM} (_ : rm M m) {r : Unit} {m' : ZM} (_ : zrec10 y1 y2 y3 m = some (r, m')), sU (rec10 Y1 Y2 Y3 M) m') {X2_ : Int32} {x2 : Int} (hx2 : rp X2_ x2) {X3_ : Int32} {x3 : Int} (hx3 : rp X3_ x3) {X4_ : Int32} {x4 : Int} (hx4 : rp X4_ x4) {X5_ : Int32} {x5 : Int} (hx5 : rp X5_ x5) {X6_ : Int32} {x6 : Int} (hx6 : rp X6_ x6) {X7_ : Int32} {x7 : Int} (hx7 : rp X7_ x7) {M_ : Mem} {M : ZM} (gM : rm M_ M) {r : Unit} {m' : ZM} (h : zJ49_76 n zrec10 x2 x3 x4 x5 x6 x7 M = some (r, m')) : sU (J49_76 n rec10 X2_ X3_ X4_ X5_ X6_ X7_ M_) m' := by
  unfold zJ49_76 at h
  unfold J49_76
  exact zJ49_81_r n _ _ hrec10 hx2 hx3 hx4 hx5 hx6 hx7 (show rp 1 1 from rfl) gM h
def zJ49_48 (n : Nat) (zrec10 : Int → Int → Int → ZM → Option (Unit × ZM)) (x2 : Int) (x3 : Int) (x4 : Int) (x5 : Int) (x6 : Int) (x7 : Int) (M : ZM) : Option (Unit × ZM) :=
  if x6 = 4 then (zJ49_80 n zrec10 x2 x3 x4 x5 x6 x7 M) else (if x6 = 5 then (if x7 = 3 then (zJ49_80 n zrec10 x2 x3 x4 x5 x6 x7 M) else (if x5 < 0 ∨ 128 ≤ x5 then (none) else (if (M.1 93 (Int.toNat x5)) = 0 then (zJ49_80 n zrec10 x2 x3 x4 x5 x6 x7 M) else (zJ49_76 n zrec10 x2 x3 x4 x5 x6 x7 M)))) else (zJ49_76 n zrec10 x2 x3 x4 x5 x6 x7 M))
set_option maxRecDepth 100000 in
set_option maxHeartbeats 4000000 in
theorem zJ49_48_r (n : Nat) (rec10 : Int32 → Int32 → Int32 → Mem → Option (Unit × Mem)) (zrec10 : Int → Int → Int → ZM → Option (Unit × ZM)) (hrec10 : ∀ {Y1 : Int32} {y1 : Int} (_ : rp Y1 y1) {Y2 : Int32} {y2 : Int} (_ : rp Y2 y2) {Y3 : Int32} {y3 : Int} (_ : rp Y3 y3) {M : Mem} {m : ZM} (_ : rm M m) {r : Unit} {m' : ZM} (_ : zrec10 y1 y2 y3 m = some (r, m')), sU (rec10 Y1 Y2 Y3 M) m') {X2_ : Int32} {x2 : Int} (hx2 : rp X2_ x2) {X3_ : Int32} {x3 : Int} (hx3 : rp X3_ x3) {X4_ : Int32} {x4 : Int} (hx4 : rp X4_ x4) {X5_ : Int32} {x5 : Int} (hx5 : rp X5_ x5) {X6_ : Int32} {x6 : Int} (hx6 : rp X6_ x6) {X7_ : Int32} {x7 : Int} (hx7 : rp X7_ x7) {M_ : Mem} {M : ZM} (gM : rm M_ M) {r : Unit} {m' : ZM} (h : zJ49_48 n zrec10 x2 x3 x4 x5 x6 x7 M = some (r, m')) : sU (J49_48 n rec10 X2_ X3_ X4_ X5_ X6_ X7_ M_) m' := by
  unfold zJ49_48 at h
  unfold J49_48
  by_cases q1 : x6 = 4
  · rw [if_pos q1] at h
    rw [if_pos ((rp_eq hx6 (show rp 4 4 from rfl)).mpr q1)]
    exact zJ49_80_r n _ _ hrec10 hx2 hx3 hx4 hx5 hx6 hx7 gM h
  · rw [if_neg q1] at h
    rw [if_neg (fun z => q1 ((rp_eq hx6 (show rp 4 4 from rfl)).mp z))]
    by_cases q2 : x6 = 5
    · rw [if_pos q2] at h
      rw [if_pos ((rp_eq hx6 (show rp 5 5 from rfl)).mpr q2)]
      by_cases q3 : x7 = 3
      · rw [if_pos q3] at h
        rw [if_pos ((rp_eq hx7 (show rp 3 3 from rfl)).mpr q3)]
        exact zJ49_80_r n _ _ hrec10 hx2 hx3 hx4 hx5 hx6 hx7 gM h
      · rw [if_neg q3] at h
        rw [if_neg (fun z => q3 ((rp_eq hx7 (show rp 3 3 from rfl)).mp z))]
        by_cases q4 : x5 < 0 ∨ 128 ≤ x5
        · rw [if_pos q4] at h
          rw [if_pos ((rp_ob hx5 128).mpr q4)]
          cases h
        · rw [if_neg q4] at h
          rw [if_neg (fun z => q4 ((rp_ob hx5 128).mp z))]
          by_cases q5 : (M.1 93 (Int.toNat x5)) = 0
          · rw [if_pos q5] at h
            rw [if_pos ((rp_eq (rm_rdx gM 93 hx5) (show rp 0 0 from rfl)).mpr q5)]
            exact zJ49_80_r n _ _ hrec10 hx2 hx3 hx4 hx5 hx6 hx7 gM h
          · rw [if_neg q5] at h
            rw [if_neg (fun z => q5 ((rp_eq (rm_rdx gM 93 hx5) (show rp 0 0 from rfl)).mp z))]
            exact zJ49_76_r n _ _ hrec10 hx2 hx3 hx4 hx5 hx6 hx7 gM h
    · rw [if_neg q2] at h
      rw [if_neg (fun z => q2 ((rp_eq hx6 (show rp 5 5 from rfl)).mp z))]
      exact zJ49_76_r n _ _ hrec10 hx2 hx3 hx4 hx5 hx6 hx7 gM h
def zL49_10 (n : Nat) : Nat → Int → Int → Int → ZM → Option (Unit × ZM)
  | 0, _, _, _, _ => none
  | k + 1, x2, x3, x4, M => if x4 ≤ 0 then (some ((), M)) else (if rg (x4 - 1) then (if (x4 - 1) < 0 ∨ 512 ≤ (x4 - 1) then (none) else (if (M.1 114 (Int.toNat (x4 - 1))) < 0 ∨ 128 ≤ (M.1 114 (Int.toNat (x4 - 1))) then (none) else (zJ49_48 n (zL49_10 n k) x2 x3 (x4 - 1) (M.1 114 (Int.toNat (x4 - 1))) (M.1 90 (Int.toNat (M.1 114 (Int.toNat (x4 - 1))))) (M.1 94 (Int.toNat (M.1 114 (Int.toNat (x4 - 1))))) M))) else none)
set_option maxRecDepth 100000 in
set_option maxHeartbeats 4000000 in
theorem zL49_10_r (n : Nat) : ∀ (k : Nat) {X2_ : Int32} {x2 : Int} (hx2 : rp X2_ x2) {X3_ : Int32} {x3 : Int} (hx3 : rp X3_ x3) {X4_ : Int32} {x4 : Int} (hx4 : rp X4_ x4) {M_ : Mem} {M : ZM} (gM : rm M_ M) {r : Unit} {m' : ZM} (_ : zL49_10 n k x2 x3 x4 M = some (r, m')), sU (L49_10 n k X2_ X3_ X4_ M_) m' := by
  intro k
  induction k with
  | zero => intro X2_ x2 hx2 X3_ x3 hx3 X4_ x4 hx4 M_ M gM r m' h; cases h
  | succ k ih =>
    intro X2_ x2 hx2 X3_ x3 hx3 X4_ x4 hx4 M_ M gM r m' h
    rw [zL49_10] at h
    rw [L49_10]
    by_cases q1 : x4 ≤ 0
    · rw [if_pos q1] at h
      rw [if_pos ((rp_le hx4 (show rp 0 0 from rfl)).mpr q1)]
      obtain ⟨_, rfl⟩ := Prod.mk.inj (Option.some.inj h)
      exact ⟨_, rfl, gM⟩
    · rw [if_neg q1] at h
      rw [if_neg (fun z => q1 ((rp_le hx4 (show rp 0 0 from rfl)).mp z))]
      by_cases w2 : rg (x4 - 1)
      · rw [if_pos w2] at h
        by_cases q3 : (x4 - 1) < 0 ∨ 512 ≤ (x4 - 1)
        · rw [if_pos q3] at h
          rw [if_pos ((rp_ob (rp_sub (rp_iz hx4) (rp_iz (show rp 1 1 from rfl)) w2) 512).mpr q3)]
          cases h
        · rw [if_neg q3] at h
          rw [if_neg (fun z => q3 ((rp_ob (rp_sub (rp_iz hx4) (rp_iz (show rp 1 1 from rfl)) w2) 512).mp z))]
          by_cases q4 : (M.1 114 (Int.toNat (x4 - 1))) < 0 ∨ 128 ≤ (M.1 114 (Int.toNat (x4 - 1)))
          · rw [if_pos q4] at h
            rw [if_pos ((rp_ob (rm_rdx gM 114 (rp_sub (rp_iz hx4) (rp_iz (show rp 1 1 from rfl)) w2)) 128).mpr q4)]
            cases h
          · rw [if_neg q4] at h
            rw [if_neg (fun z => q4 ((rp_ob (rm_rdx gM 114 (rp_sub (rp_iz hx4) (rp_iz (show rp 1 1 from rfl)) w2)) 128).mp z))]
            rw [if_neg (fun z => q4 ((rp_ob (rm_rdx gM 114 (rp_sub (rp_iz hx4) (rp_iz (show rp 1 1 from rfl)) w2)) 128).mp z))]
            exact zJ49_48_r n _ _ ih hx2 hx3 (rp_sub (rp_iz hx4) (rp_iz (show rp 1 1 from rfl)) w2) (rm_rdx gM 114 (rp_sub (rp_iz hx4) (rp_iz (show rp 1 1 from rfl)) w2)) (rm_rdx gM 90 (rm_rdx gM 114 (rp_sub (rp_iz hx4) (rp_iz (show rp 1 1 from rfl)) w2))) (rm_rdx gM 94 (rm_rdx gM 114 (rp_sub (rp_iz hx4) (rp_iz (show rp 1 1 from rfl)) w2))) gM h
      · rw [if_neg w2] at h
        cases h
/-- ArmExpanderModel.spread -/
def zF49 (n : Nat) (a0 : Int) (a1 : Int) (a2 : Int) (M : ZM) : Option (Unit × ZM) :=
  zlet (z_i M 114 0 a0) (fun M1 => zL49_10 n n a1 a2 1 M1)
set_option maxRecDepth 100000 in
set_option maxHeartbeats 4000000 in
theorem zF49_r (n : Nat) {A0_ : Int32} {a0 : Int} (ha0 : rp A0_ a0) {A1_ : Int32} {a1 : Int} (ha1 : rp A1_ a1) {A2_ : Int32} {a2 : Int} (ha2 : rp A2_ a2) {M_ : Mem} {M : ZM} (gM : rm M_ M) {r : Unit} {m' : ZM} (h : zF49 n a0 a1 a2 M = some (r, m')) : sU (F49 n A0_ A1_ A2_ M_) m' := by
  unfold zF49 at h
  unfold F49
  have gM1 : rm (m_i M_ 114 0 A0_) (z_i M 114 0 a0) := rm_i gM 114 0 ha0
  rw [mlet]
  rw [zlet] at h
  generalize z_i M 114 0 a0 = M1 at h gM1
  generalize m_i M_ 114 0 A0_ = NM1 at gM1 ⊢
  exact zL49_10_r n n ha1 ha2 (show rp 1 1 from rfl) gM1 h
def zJ50_23 (n : Nat) (zrec2 : Int → ZM → Option (Unit × ZM)) (x1 : Int) (M : ZM) : Option (Unit × ZM) :=
  if rg (x1 + 1) then (zrec2 (x1 + 1) M) else none
set_option maxRecDepth 100000 in
set_option maxHeartbeats 4000000 in
theorem zJ50_23_r (n : Nat) (rec2 : Int32 → Mem → Option (Unit × Mem)) (zrec2 : Int → ZM → Option (Unit × ZM)) (hrec2 : ∀ {Y1 : Int32} {y1 : Int} (_ : rp Y1 y1) {M : Mem} {m : ZM} (_ : rm M m) {r : Unit} {m' : ZM} (_ : zrec2 y1 m = some (r, m')), sU (rec2 Y1 M) m') {X1_ : Int32} {x1 : Int} (hx1 : rp X1_ x1) {M_ : Mem} {M : ZM} (gM : rm M_ M) {r : Unit} {m' : ZM} (h : zJ50_23 n zrec2 x1 M = some (r, m')) : sU (J50_23 n rec2 X1_ M_) m' := by
  unfold zJ50_23 at h
  unfold J50_23
  by_cases w1 : rg (x1 + 1)
  · rw [if_pos w1] at h
    exact hrec2 (rp_add (rp_iz hx1) (rp_iz (show rp 1 1 from rfl)) w1) gM h
  · rw [if_neg w1] at h
    cases h
def zL50_2 (n : Nat) : Nat → Int → ZM → Option (Unit × ZM)
  | 0, _, _ => none
  | k + 1, x1, M => if 128 ≤ x1 then (some ((), M)) else (if x1 < 0 ∨ 128 ≤ x1 then (none) else (zlet (z_i M 109 (Int.toNat x1) 0) (fun M3 => zlet (z_i M3 110 (Int.toNat x1) 0) (fun M5 => zJ50_23 n (zL50_2 n k) x1 M5))))
set_option maxRecDepth 100000 in
set_option maxHeartbeats 4000000 in
theorem zL50_2_r (n : Nat) : ∀ (k : Nat) {X1_ : Int32} {x1 : Int} (hx1 : rp X1_ x1) {M_ : Mem} {M : ZM} (gM : rm M_ M) {r : Unit} {m' : ZM} (_ : zL50_2 n k x1 M = some (r, m')), sU (L50_2 n k X1_ M_) m' := by
  intro k
  induction k with
  | zero => intro X1_ x1 hx1 M_ M gM r m' h; cases h
  | succ k ih =>
    intro X1_ x1 hx1 M_ M gM r m' h
    rw [zL50_2] at h
    rw [L50_2]
    by_cases q1 : 128 ≤ x1
    · rw [if_pos q1] at h
      rw [if_pos ((rp_le (show rp 128 128 from rfl) hx1).mpr q1)]
      obtain ⟨_, rfl⟩ := Prod.mk.inj (Option.some.inj h)
      exact ⟨_, rfl, gM⟩
    · rw [if_neg q1] at h
      rw [if_neg (fun z => q1 ((rp_le (show rp 128 128 from rfl) hx1).mp z))]
      by_cases q2 : x1 < 0 ∨ 128 ≤ x1
      · rw [if_pos q2] at h
        rw [if_pos ((rp_ob hx1 128).mpr q2)]
        cases h
      · rw [if_neg q2] at h
        rw [if_neg (fun z => q2 ((rp_ob hx1 128).mp z))]
        have gM3 : rm (m_i M_ 109 (X1_).toNatClampNeg (0 : Int32)) (z_i M 109 (Int.toNat x1) 0) := rm_ix gM 109 hx1 (show rp 0 0 from rfl)
        rw [mlet]
        rw [zlet] at h
        generalize z_i M 109 (Int.toNat x1) 0 = M3 at h gM3
        generalize m_i M_ 109 (X1_).toNatClampNeg (0 : Int32) = NM3 at gM3 ⊢
        rw [if_neg (fun z => q2 ((rp_ob hx1 128).mp z))]
        have gM5 : rm (m_i NM3 110 (X1_).toNatClampNeg (0 : Int32)) (z_i M3 110 (Int.toNat x1) 0) := rm_ix gM3 110 hx1 (show rp 0 0 from rfl)
        rw [mlet]
        rw [zlet] at h
        generalize z_i M3 110 (Int.toNat x1) 0 = M5 at h gM5
        generalize m_i NM3 110 (X1_).toNatClampNeg (0 : Int32) = NM5 at gM5 ⊢
        exact zJ50_23_r n _ _ ih hx1 gM5 h
/-- ArmExpanderModel.clear -/
def zF50 (n : Nat) (M : ZM) : Option (Unit × ZM) :=
  zL50_2 n n 0 M
set_option maxRecDepth 100000 in
set_option maxHeartbeats 4000000 in
theorem zF50_r (n : Nat) {M_ : Mem} {M : ZM} (gM : rm M_ M) {r : Unit} {m' : ZM} (h : zF50 n M = some (r, m')) : sU (F50 n M_) m' := by
  unfold zF50 at h
  unfold F50
  exact zL50_2_r n n (show rp 0 0 from rfl) gM h
/-- ArmExpanderModel.sourceOf -/
def zF52 (n : Nat) (a0 : Int) (a1 : Int) (M : ZM) : Option (Int × ZM) :=
  if rg ((20 * a0) + (Int.tdiv a1 7)) then (if ((20 * a0) + (Int.tdiv a1 7)) < 0 ∨ 3220 ≤ ((20 * a0) + (Int.tdiv a1 7)) then (none) else (if rg (9 * (a1 - ((Int.tdiv a1 7) * 7))) then (some (((((((M.2.2 (Int.toNat ((20 * a0) + (Int.tdiv a1 7)))) >>> (((iz (9 * (a1 - ((Int.tdiv a1 7) * 7)))) : Int32).toInt64 &&& 63)) &&& 511)).toInt32 : Int32).toInt), M)) else none)) else none
set_option maxRecDepth 100000 in
set_option maxHeartbeats 4000000 in
theorem zF52_r (n : Nat) {A0_ : Int32} {a0 : Int} (ha0 : rp A0_ a0) {A1_ : Int32} {a1 : Int} (ha1 : rp A1_ a1) {M_ : Mem} {M : ZM} (gM : rm M_ M) {r : Int} {m' : ZM} (h : zF52 n a0 a1 M = some (r, m')) : sI (F52 n A0_ A1_ M_) r m' := by
  unfold zF52 at h
  unfold F52
  by_cases w1 : rg ((20 * a0) + (Int.tdiv a1 7))
  · rw [if_pos w1] at h
    by_cases q2 : ((20 * a0) + (Int.tdiv a1 7)) < 0 ∨ 3220 ≤ ((20 * a0) + (Int.tdiv a1 7))
    · rw [if_pos q2] at h
      rw [if_pos ((rp_ob (rp_add (rw_mul (rp_iz (show rp 20 20 from rfl)) (rp_iz ha0)) (rp_iz (rp_div ha1 (show rp 7 7 from rfl) (by decide))) w1) 3220).mpr q2)]
      cases h
    · rw [if_neg q2] at h
      rw [if_neg (fun z => q2 ((rp_ob (rp_add (rw_mul (rp_iz (show rp 20 20 from rfl)) (rp_iz ha0)) (rp_iz (rp_div ha1 (show rp 7 7 from rfl) (by decide))) w1) 3220).mp z))]
      by_cases w3 : rg (9 * (a1 - ((Int.tdiv a1 7) * 7)))
      · rw [if_pos w3] at h
        obtain ⟨rfl, rfl⟩ := Prod.mk.inj (Option.some.inj h)
        exact ⟨_, _, rfl, (show rp ((((M_.2.2 ((((20 : Int32) * A0_) + (A1_ / (7 : Int32)))).toNatClampNeg) >>> ((((9 : Int32) * (A1_ - ((A1_ / (7 : Int32)) * (7 : Int32))))).toInt64 &&& 63)) &&& 511)).toInt32 ((((((M.2.2 (Int.toNat ((20 * a0) + (Int.tdiv a1 7)))) >>> (((iz (9 * (a1 - ((Int.tdiv a1 7) * 7)))) : Int32).toInt64 &&& 63)) &&& 511)).toInt32 : Int32).toInt) from congrArg Int32.toInt (by rw [rm_rlx gM (rp_add (rw_mul (rp_iz (show rp 20 20 from rfl)) (rp_iz ha0)) (rp_iz (rp_div ha1 (show rp 7 7 from rfl) (by decide))) w1), (rw_mul (rp_iz (show rp 9 9 from rfl)) (rw_sub (rp_iz ha1) (rw_mul (rp_iz (rp_div ha1 (show rp 7 7 from rfl) (by decide))) (rp_iz (show rp 7 7 from rfl)))))])), gM⟩
      · rw [if_neg w3] at h
        cases h
  · rw [if_neg w1] at h
    cases h
def zJ53_50 (n : Nat) (s0 : Int) (M : ZM) : Option (Int × ZM) :=
  some (s0, M)
set_option maxRecDepth 100000 in
set_option maxHeartbeats 4000000 in
theorem zJ53_50_r (n : Nat) {S0_ : Int32} {s0 : Int} (hs0 : rp S0_ s0) {M_ : Mem} {M : ZM} (gM : rm M_ M) {r : Int} {m' : ZM} (h : zJ53_50 n s0 M = some (r, m')) : sI (J53_50 n S0_ M_) r m' := by
  unfold zJ53_50 at h
  unfold J53_50
  obtain ⟨rfl, rfl⟩ := Prod.mk.inj (Option.some.inj h)
  exact ⟨_, _, rfl, hs0, gM⟩
def zJ53_40 (n : Nat) (M : ZM) : Option (Int × ZM) :=
  zJ53_50 n 0 M
set_option maxRecDepth 100000 in
set_option maxHeartbeats 4000000 in
theorem zJ53_40_r (n : Nat) {M_ : Mem} {M : ZM} (gM : rm M_ M) {r : Int} {m' : ZM} (h : zJ53_40 n M = some (r, m')) : sI (J53_40 n M_) r m' := by
  unfold zJ53_40 at h
  unfold J53_40
  exact zJ53_50_r n (show rp 0 0 from rfl) gM h
def zJ53_29 (n : Nat) (x1 : Int) (M : ZM) : Option (Int × ZM) :=
  if x1 < 0 ∨ 128 ≤ x1 then (none) else (if (M.1 90 (Int.toNat x1)) = 6 then (zJ53_40 n M) else (zJ53_50 n (M.1 91 (Int.toNat x1)) M))
set_option maxRecDepth 100000 in
set_option maxHeartbeats 4000000 in
theorem zJ53_29_r (n : Nat) {X1_ : Int32} {x1 : Int} (hx1 : rp X1_ x1) {M_ : Mem} {M : ZM} (gM : rm M_ M) {r : Int} {m' : ZM} (h : zJ53_29 n x1 M = some (r, m')) : sI (J53_29 n X1_ M_) r m' := by
  unfold zJ53_29 at h
  unfold J53_29
  by_cases q1 : x1 < 0 ∨ 128 ≤ x1
  · rw [if_pos q1] at h
    rw [if_pos ((rp_ob hx1 128).mpr q1)]
    cases h
  · rw [if_neg q1] at h
    rw [if_neg (fun z => q1 ((rp_ob hx1 128).mp z))]
    by_cases q2 : (M.1 90 (Int.toNat x1)) = 6
    · rw [if_pos q2] at h
      rw [if_pos ((rp_eq (rm_rdx gM 90 hx1) (show rp 6 6 from rfl)).mpr q2)]
      exact zJ53_40_r n gM h
    · rw [if_neg q2] at h
      rw [if_neg (fun z => q2 ((rp_eq (rm_rdx gM 90 hx1) (show rp 6 6 from rfl)).mp z))]
      rw [if_neg (fun z => q1 ((rp_ob hx1 128).mp z))]
      exact zJ53_50_r n (rm_rdx gM 91 hx1) gM h
/-- ArmExpanderModel.before -/
def zF53 (n : Nat) (a0 : Int) (M : ZM) : Option (Int × ZM) :=
  if a0 < 0 ∨ 128 ≤ a0 then (none) else (if (M.1 90 (Int.toNat a0)) = 5 then (zJ53_50 n (M.1 93 (Int.toNat a0)) M) else (if (M.1 90 (Int.toNat a0)) = 3 then (zJ53_40 n M) else (zJ53_29 n a0 M)))
set_option maxRecDepth 100000 in
set_option maxHeartbeats 4000000 in
theorem zF53_r (n : Nat) {A0_ : Int32} {a0 : Int} (ha0 : rp A0_ a0) {M_ : Mem} {M : ZM} (gM : rm M_ M) {r : Int} {m' : ZM} (h : zF53 n a0 M = some (r, m')) : sI (F53 n A0_ M_) r m' := by
  unfold zF53 at h
  unfold F53
  by_cases q1 : a0 < 0 ∨ 128 ≤ a0
  · rw [if_pos q1] at h
    rw [if_pos ((rp_ob ha0 128).mpr q1)]
    cases h
  · rw [if_neg q1] at h
    rw [if_neg (fun z => q1 ((rp_ob ha0 128).mp z))]
    by_cases q2 : (M.1 90 (Int.toNat a0)) = 5
    · rw [if_pos q2] at h
      rw [if_pos ((rp_eq (rm_rdx gM 90 ha0) (show rp 5 5 from rfl)).mpr q2)]
      rw [if_neg (fun z => q1 ((rp_ob ha0 128).mp z))]
      exact zJ53_50_r n (rm_rdx gM 93 ha0) gM h
    · rw [if_neg q2] at h
      rw [if_neg (fun z => q2 ((rp_eq (rm_rdx gM 90 ha0) (show rp 5 5 from rfl)).mp z))]
      rw [if_neg (fun z => q1 ((rp_ob ha0 128).mp z))]
      by_cases q3 : (M.1 90 (Int.toNat a0)) = 3
      · rw [if_pos q3] at h
        rw [if_pos ((rp_eq (rm_rdx gM 90 ha0) (show rp 3 3 from rfl)).mpr q3)]
        exact zJ53_40_r n gM h
      · rw [if_neg q3] at h
        rw [if_neg (fun z => q3 ((rp_eq (rm_rdx gM 90 ha0) (show rp 3 3 from rfl)).mp z))]
        exact zJ53_29_r n ha0 gM h
def zJ54_147 (n : Nat) (zrec4 : Int → Int → ZM → Option (Int × ZM)) (x1 : Int) (x2 : Int) (M : ZM) : Option (Int × ZM) :=
  if rg (x2 + 1) then (zrec4 x1 (x2 + 1) M) else none
set_option maxRecDepth 100000 in
set_option maxHeartbeats 4000000 in
theorem zJ54_147_r (n : Nat) (rec4 : Int32 → Int32 → Mem → Option (Int32 × Mem)) (zrec4 : Int → Int → ZM → Option (Int × ZM)) (hrec4 : ∀ {Y1 : Int32} {y1 : Int} (_ : rp Y1 y1) {Y2 : Int32} {y2 : Int} (_ : rp Y2 y2) {M : Mem} {m : ZM} (_ : rm M m) {r : Int} {m' : ZM} (_ : zrec4 y1 y2 m = some (r, m')), sI (rec4 Y1 Y2 M) r m') {X1_ : Int32} {x1 : Int} (hx1 : rp X1_ x1) {X2_ : Int32} {x2 : Int} (hx2 : rp X2_ x2) {M_ : Mem} {M : ZM} (gM : rm M_ M) {r : Int} {m' : ZM} (h : zJ54_147 n zrec4 x1 x2 M = some (r, m')) : sI (J54_147 n rec4 X1_ X2_ M_) r m' := by
  unfold zJ54_147 at h
  unfold J54_147
  by_cases w1 : rg (x2 + 1)
  · rw [if_pos w1] at h
    exact hrec4 hx1 (rp_add (rp_iz hx2) (rp_iz (show rp 1 1 from rfl)) w1) gM h
  · rw [if_neg w1] at h
    cases h
def zJ54_140 (n : Nat) (zrec4 : Int → Int → ZM → Option (Int × ZM)) (zrec50 : Int → Int → Int → ZM → Option (Int × ZM)) (x2 : Int) (x3 : Int) (s0 : Int) (M : ZM) : Option (Int × ZM) :=
  if rg (x3 + 1) then (zrec50 s0 x2 (x3 + 1) M) else none
set_option maxRecDepth 100000 in
set_option maxHeartbeats 4000000 in
theorem zJ54_140_r (n : Nat) (rec4 : Int32 → Int32 → Mem → Option (Int32 × Mem)) (zrec4 : Int → Int → ZM → Option (Int × ZM)) (hrec4 : ∀ {Y1 : Int32} {y1 : Int} (_ : rp Y1 y1) {Y2 : Int32} {y2 : Int} (_ : rp Y2 y2) {M : Mem} {m : ZM} (_ : rm M m) {r : Int} {m' : ZM} (_ : zrec4 y1 y2 m = some (r, m')), sI (rec4 Y1 Y2 M) r m') (rec50 : Int32 → Int32 → Int32 → Mem → Option (Int32 × Mem)) (zrec50 : Int → Int → Int → ZM → Option (Int × ZM)) (hrec50 : ∀ {Y1 : Int32} {y1 : Int} (_ : rp Y1 y1) {Y2 : Int32} {y2 : Int} (_ : rp Y2 y2) {Y3 : Int32} {y3 : Int} (_ : rp Y3 y3) {M : Mem} {m : ZM} (_ : rm M m) {r : Int} {m' : ZM} (_ : zrec50 y1 y2 y3 m = some (r, m')), sI (rec50 Y1 Y2 Y3 M) r m') {X2_ : Int32} {x2 : Int} (hx2 : rp X2_ x2) {X3_ : Int32} {x3 : Int} (hx3 : rp X3_ x3) {S0_ : Int32} {s0 : Int} (hs0 : rp S0_ s0) {M_ : Mem} {M : ZM} (gM : rm M_ M) {r : Int} {m' : ZM} (h : zJ54_140 n zrec4 zrec50 x2 x3 s0 M = some (r, m')) : sI (J54_140 n rec4 rec50 X2_ X3_ S0_ M_) r m' := by
  unfold zJ54_140 at h
  unfold J54_140
  by_cases w1 : rg (x3 + 1)
  · rw [if_pos w1] at h
    exact hrec50 hs0 hx2 (rp_add (rp_iz hx3) (rp_iz (show rp 1 1 from rfl)) w1) gM h
  · rw [if_neg w1] at h
    cases h
def zJ54_139 (n : Nat) (zrec4 : Int → Int → ZM → Option (Int × ZM)) (zrec50 : Int → Int → Int → ZM → Option (Int × ZM)) (x2 : Int) (x3 : Int) (M : ZM) : Option (Int × ZM) :=
  zJ54_140 n zrec4 zrec50 x2 x3 0 M
set_option maxRecDepth 100000 in
set_option maxHeartbeats 4000000 in
theorem zJ54_139_r (n : Nat) (rec4 : Int32 → Int32 → Mem → Option (Int32 × Mem)) (zrec4 : Int → Int → ZM → Option (Int × ZM)) (hrec4 : ∀ {Y1 : Int32} {y1 : Int} (_ : rp Y1 y1) {Y2 : Int32} {y2 : Int} (_ : rp Y2 y2) {M : Mem} {m : ZM} (_ : rm M m) {r : Int} {m' : ZM} (_ : zrec4 y1 y2 m = some (r, m')), sI (rec4 Y1 Y2 M) r m') (rec50 : Int32 → Int32 → Int32 → Mem → Option (Int32 × Mem)) (zrec50 : Int → Int → Int → ZM → Option (Int × ZM)) (hrec50 : ∀ {Y1 : Int32} {y1 : Int} (_ : rp Y1 y1) {Y2 : Int32} {y2 : Int} (_ : rp Y2 y2) {Y3 : Int32} {y3 : Int} (_ : rp Y3 y3) {M : Mem} {m : ZM} (_ : rm M m) {r : Int} {m' : ZM} (_ : zrec50 y1 y2 y3 m = some (r, m')), sI (rec50 Y1 Y2 Y3 M) r m') {X2_ : Int32} {x2 : Int} (hx2 : rp X2_ x2) {X3_ : Int32} {x3 : Int} (hx3 : rp X3_ x3) {M_ : Mem} {M : ZM} (gM : rm M_ M) {r : Int} {m' : ZM} (h : zJ54_139 n zrec4 zrec50 x2 x3 M = some (r, m')) : sI (J54_139 n rec4 rec50 X2_ X3_ M_) r m' := by
  unfold zJ54_139 at h
  unfold J54_139
  exact zJ54_140_r n _ _ hrec4 _ _ hrec50 hx2 hx3 (show rp 0 0 from rfl) gM h
def zJ54_124 (n : Nat) (zrec4 : Int → Int → ZM → Option (Int × ZM)) (zrec50 : Int → Int → Int → ZM → Option (Int × ZM)) (x1 : Int) (x2 : Int) (x3 : Int) (s0 : Int) (M : ZM) : Option (Int × ZM) :=
  if x1 = 0 then (zJ54_139 n zrec4 zrec50 x2 x3 M) else (if s0 = 0 then (zJ54_139 n zrec4 zrec50 x2 x3 M) else (zJ54_140 n zrec4 zrec50 x2 x3 1 M))
set_option maxRecDepth 100000 in
set_option maxHeartbeats 4000000 in
theorem zJ54_124_r (n : Nat) (rec4 : Int32 → Int32 → Mem → Option (Int32 × Mem)) (zrec4 : Int → Int → ZM → Option (Int × ZM)) (hrec4 : ∀ {Y1 : Int32} {y1 : Int} (_ : rp Y1 y1) {Y2 : Int32} {y2 : Int} (_ : rp Y2 y2) {M : Mem} {m : ZM} (_ : rm M m) {r : Int} {m' : ZM} (_ : zrec4 y1 y2 m = some (r, m')), sI (rec4 Y1 Y2 M) r m') (rec50 : Int32 → Int32 → Int32 → Mem → Option (Int32 × Mem)) (zrec50 : Int → Int → Int → ZM → Option (Int × ZM)) (hrec50 : ∀ {Y1 : Int32} {y1 : Int} (_ : rp Y1 y1) {Y2 : Int32} {y2 : Int} (_ : rp Y2 y2) {Y3 : Int32} {y3 : Int} (_ : rp Y3 y3) {M : Mem} {m : ZM} (_ : rm M m) {r : Int} {m' : ZM} (_ : zrec50 y1 y2 y3 m = some (r, m')), sI (rec50 Y1 Y2 Y3 M) r m') {X1_ : Int32} {x1 : Int} (hx1 : rp X1_ x1) {X2_ : Int32} {x2 : Int} (hx2 : rp X2_ x2) {X3_ : Int32} {x3 : Int} (hx3 : rp X3_ x3) {S0_ : Int32} {s0 : Int} (hs0 : rp S0_ s0) {M_ : Mem} {M : ZM} (gM : rm M_ M) {r : Int} {m' : ZM} (h : zJ54_124 n zrec4 zrec50 x1 x2 x3 s0 M = some (r, m')) : sI (J54_124 n rec4 rec50 X1_ X2_ X3_ S0_ M_) r m' := by
  unfold zJ54_124 at h
  unfold J54_124
  by_cases q1 : x1 = 0
  · rw [if_pos q1] at h
    rw [if_pos ((rp_eq hx1 (show rp 0 0 from rfl)).mpr q1)]
    exact zJ54_139_r n _ _ hrec4 _ _ hrec50 hx2 hx3 gM h
  · rw [if_neg q1] at h
    rw [if_neg (fun z => q1 ((rp_eq hx1 (show rp 0 0 from rfl)).mp z))]
    by_cases q2 : s0 = 0
    · rw [if_pos q2] at h
      rw [if_pos ((rp_eq hs0 (show rp 0 0 from rfl)).mpr q2)]
      exact zJ54_139_r n _ _ hrec4 _ _ hrec50 hx2 hx3 gM h
    · rw [if_neg q2] at h
      rw [if_neg (fun z => q2 ((rp_eq hs0 (show rp 0 0 from rfl)).mp z))]
      exact zJ54_140_r n _ _ hrec4 _ _ hrec50 hx2 hx3 (show rp 1 1 from rfl) gM h
def zJ54_119 (n : Nat) (zrec4 : Int → Int → ZM → Option (Int × ZM)) (zrec50 : Int → Int → Int → ZM → Option (Int × ZM)) (x1 : Int) (x2 : Int) (x3 : Int) (M : ZM) : Option (Int × ZM) :=
  zJ54_124 n zrec4 zrec50 x1 x2 x3 1 M
set_option maxRecDepth 100000 in
set_option maxHeartbeats 4000000 in
theorem zJ54_119_r (n : Nat) (rec4 : Int32 → Int32 → Mem → Option (Int32 × Mem)) (zrec4 : Int → Int → ZM → Option (Int × ZM)) (hrec4 : ∀ {Y1 : Int32} {y1 : Int} (_ : rp Y1 y1) {Y2 : Int32} {y2 : Int} (_ : rp Y2 y2) {M : Mem} {m : ZM} (_ : rm M m) {r : Int} {m' : ZM} (_ : zrec4 y1 y2 m = some (r, m')), sI (rec4 Y1 Y2 M) r m') (rec50 : Int32 → Int32 → Int32 → Mem → Option (Int32 × Mem)) (zrec50 : Int → Int → Int → ZM → Option (Int × ZM)) (hrec50 : ∀ {Y1 : Int32} {y1 : Int} (_ : rp Y1 y1) {Y2 : Int32} {y2 : Int} (_ : rp Y2 y2) {Y3 : Int32} {y3 : Int} (_ : rp Y3 y3) {M : Mem} {m : ZM} (_ : rm M m) {r : Int} {m' : ZM} (_ : zrec50 y1 y2 y3 m = some (r, m')), sI (rec50 Y1 Y2 Y3 M) r m') {X1_ : Int32} {x1 : Int} (hx1 : rp X1_ x1) {X2_ : Int32} {x2 : Int} (hx2 : rp X2_ x2) {X3_ : Int32} {x3 : Int} (hx3 : rp X3_ x3) {M_ : Mem} {M : ZM} (gM : rm M_ M) {r : Int} {m' : ZM} (h : zJ54_119 n zrec4 zrec50 x1 x2 x3 M = some (r, m')) : sI (J54_119 n rec4 rec50 X1_ X2_ X3_ M_) r m' := by
  unfold zJ54_119 at h
  unfold J54_119
  exact zJ54_124_r n _ _ hrec4 _ _ hrec50 hx1 hx2 hx3 (show rp 1 1 from rfl) gM h
def zJ54_123 (n : Nat) (zrec4 : Int → Int → ZM → Option (Int × ZM)) (zrec50 : Int → Int → Int → ZM → Option (Int × ZM)) (x1 : Int) (x2 : Int) (x3 : Int) (M : ZM) : Option (Int × ZM) :=
  zJ54_124 n zrec4 zrec50 x1 x2 x3 0 M
set_option maxRecDepth 100000 in
set_option maxHeartbeats 4000000 in
theorem zJ54_123_r (n : Nat) (rec4 : Int32 → Int32 → Mem → Option (Int32 × Mem)) (zrec4 : Int → Int → ZM → Option (Int × ZM)) (hrec4 : ∀ {Y1 : Int32} {y1 : Int} (_ : rp Y1 y1) {Y2 : Int32} {y2 : Int} (_ : rp Y2 y2) {M : Mem} {m : ZM} (_ : rm M m) {r : Int} {m' : ZM} (_ : zrec4 y1 y2 m = some (r, m')), sI (rec4 Y1 Y2 M) r m') (rec50 : Int32 → Int32 → Int32 → Mem → Option (Int32 × Mem)) (zrec50 : Int → Int → Int → ZM → Option (Int × ZM)) (hrec50 : ∀ {Y1 : Int32} {y1 : Int} (_ : rp Y1 y1) {Y2 : Int32} {y2 : Int} (_ : rp Y2 y2) {Y3 : Int32} {y3 : Int} (_ : rp Y3 y3) {M : Mem} {m : ZM} (_ : rm M m) {r : Int} {m' : ZM} (_ : zrec50 y1 y2 y3 m = some (r, m')), sI (rec50 Y1 Y2 Y3 M) r m') {X1_ : Int32} {x1 : Int} (hx1 : rp X1_ x1) {X2_ : Int32} {x2 : Int} (hx2 : rp X2_ x2) {X3_ : Int32} {x3 : Int} (hx3 : rp X3_ x3) {M_ : Mem} {M : ZM} (gM : rm M_ M) {r : Int} {m' : ZM} (h : zJ54_123 n zrec4 zrec50 x1 x2 x3 M = some (r, m')) : sI (J54_123 n rec4 rec50 X1_ X2_ X3_ M_) r m' := by
  unfold zJ54_123 at h
  unfold J54_123
  exact zJ54_124_r n _ _ hrec4 _ _ hrec50 hx1 hx2 hx3 (show rp 0 0 from rfl) gM h
def zJ54_97 (n : Nat) (zrec4 : Int → Int → ZM → Option (Int × ZM)) (zrec50 : Int → Int → Int → ZM → Option (Int × ZM)) (x1 : Int) (x2 : Int) (x3 : Int) (x4 : Int) (M : ZM) : Option (Int × ZM) :=
  match zF22 n x4 M with | some (v23, M24) => (if v23 = 0 then (if x4 = 44 then (zJ54_119 n zrec4 zrec50 x1 x2 x3 M24) else (if x4 = 59 then (zJ54_119 n zrec4 zrec50 x1 x2 x3 M24) else (zJ54_123 n zrec4 zrec50 x1 x2 x3 M24))) else (zJ54_119 n zrec4 zrec50 x1 x2 x3 M24)) | none => none
set_option maxRecDepth 100000 in
set_option maxHeartbeats 4000000 in
theorem zJ54_97_r (n : Nat) (rec4 : Int32 → Int32 → Mem → Option (Int32 × Mem)) (zrec4 : Int → Int → ZM → Option (Int × ZM)) (hrec4 : ∀ {Y1 : Int32} {y1 : Int} (_ : rp Y1 y1) {Y2 : Int32} {y2 : Int} (_ : rp Y2 y2) {M : Mem} {m : ZM} (_ : rm M m) {r : Int} {m' : ZM} (_ : zrec4 y1 y2 m = some (r, m')), sI (rec4 Y1 Y2 M) r m') (rec50 : Int32 → Int32 → Int32 → Mem → Option (Int32 × Mem)) (zrec50 : Int → Int → Int → ZM → Option (Int × ZM)) (hrec50 : ∀ {Y1 : Int32} {y1 : Int} (_ : rp Y1 y1) {Y2 : Int32} {y2 : Int} (_ : rp Y2 y2) {Y3 : Int32} {y3 : Int} (_ : rp Y3 y3) {M : Mem} {m : ZM} (_ : rm M m) {r : Int} {m' : ZM} (_ : zrec50 y1 y2 y3 m = some (r, m')), sI (rec50 Y1 Y2 Y3 M) r m') {X1_ : Int32} {x1 : Int} (hx1 : rp X1_ x1) {X2_ : Int32} {x2 : Int} (hx2 : rp X2_ x2) {X3_ : Int32} {x3 : Int} (hx3 : rp X3_ x3) {X4_ : Int32} {x4 : Int} (hx4 : rp X4_ x4) {M_ : Mem} {M : ZM} (gM : rm M_ M) {r : Int} {m' : ZM} (h : zJ54_97 n zrec4 zrec50 x1 x2 x3 x4 M = some (r, m')) : sI (J54_97 n rec4 rec50 X1_ X2_ X3_ X4_ M_) r m' := by
  unfold zJ54_97 at h
  unfold J54_97
  cases hc1 : zF22 n x4 M with
  | none => rw [hc1] at h; cases h
  | some w =>
    obtain ⟨v23, M24⟩ := w
    rw [hc1] at h
    dsimp only at h
    obtain ⟨V23, NM24, ehc1, hv23, gM24⟩ := zF22_r n hx4 gM hc1
    rw [ehc1]
    dsimp only
    by_cases q2 : v23 = 0
    · rw [if_pos q2] at h
      rw [if_pos ((rp_eq hv23 (show rp 0 0 from rfl)).mpr q2)]
      by_cases q3 : x4 = 44
      · rw [if_pos q3] at h
        rw [if_pos ((rp_eq hx4 (show rp 44 44 from rfl)).mpr q3)]
        exact zJ54_119_r n _ _ hrec4 _ _ hrec50 hx1 hx2 hx3 gM24 h
      · rw [if_neg q3] at h
        rw [if_neg (fun z => q3 ((rp_eq hx4 (show rp 44 44 from rfl)).mp z))]
        by_cases q4 : x4 = 59
        · rw [if_pos q4] at h
          rw [if_pos ((rp_eq hx4 (show rp 59 59 from rfl)).mpr q4)]
          exact zJ54_119_r n _ _ hrec4 _ _ hrec50 hx1 hx2 hx3 gM24 h
        · rw [if_neg q4] at h
          rw [if_neg (fun z => q4 ((rp_eq hx4 (show rp 59 59 from rfl)).mp z))]
          exact zJ54_123_r n _ _ hrec4 _ _ hrec50 hx1 hx2 hx3 gM24 h
    · rw [if_neg q2] at h
      rw [if_neg (fun z => q2 ((rp_eq hv23 (show rp 0 0 from rfl)).mp z))]
      exact zJ54_119_r n _ _ hrec4 _ _ hrec50 hx1 hx2 hx3 gM24 h
def zJ54_75 (n : Nat) (zrec4 : Int → Int → ZM → Option (Int × ZM)) (zrec50 : Int → Int → Int → ZM → Option (Int × ZM)) (x1 : Int) (x2 : Int) (x3 : Int) (s0 : Int) (M : ZM) : Option (Int × ZM) :=
  if x3 < 0 ∨ 128 ≤ x3 then (none) else (if (M.1 109 (Int.toNat x3)) = 0 then (zJ54_119 n zrec4 zrec50 x1 x2 x3 M) else (if (M.1 90 (Int.toNat x3)) = 6 then (zJ54_119 n zrec4 zrec50 x1 x2 x3 M) else (zJ54_97 n zrec4 zrec50 x1 x2 x3 s0 M)))
set_option maxRecDepth 100000 in
set_option maxHeartbeats 4000000 in
theorem zJ54_75_r (n : Nat) (rec4 : Int32 → Int32 → Mem → Option (Int32 × Mem)) (zrec4 : Int → Int → ZM → Option (Int × ZM)) (hrec4 : ∀ {Y1 : Int32} {y1 : Int} (_ : rp Y1 y1) {Y2 : Int32} {y2 : Int} (_ : rp Y2 y2) {M : Mem} {m : ZM} (_ : rm M m) {r : Int} {m' : ZM} (_ : zrec4 y1 y2 m = some (r, m')), sI (rec4 Y1 Y2 M) r m') (rec50 : Int32 → Int32 → Int32 → Mem → Option (Int32 × Mem)) (zrec50 : Int → Int → Int → ZM → Option (Int × ZM)) (hrec50 : ∀ {Y1 : Int32} {y1 : Int} (_ : rp Y1 y1) {Y2 : Int32} {y2 : Int} (_ : rp Y2 y2) {Y3 : Int32} {y3 : Int} (_ : rp Y3 y3) {M : Mem} {m : ZM} (_ : rm M m) {r : Int} {m' : ZM} (_ : zrec50 y1 y2 y3 m = some (r, m')), sI (rec50 Y1 Y2 Y3 M) r m') {X1_ : Int32} {x1 : Int} (hx1 : rp X1_ x1) {X2_ : Int32} {x2 : Int} (hx2 : rp X2_ x2) {X3_ : Int32} {x3 : Int} (hx3 : rp X3_ x3) {S0_ : Int32} {s0 : Int} (hs0 : rp S0_ s0) {M_ : Mem} {M : ZM} (gM : rm M_ M) {r : Int} {m' : ZM} (h : zJ54_75 n zrec4 zrec50 x1 x2 x3 s0 M = some (r, m')) : sI (J54_75 n rec4 rec50 X1_ X2_ X3_ S0_ M_) r m' := by
  unfold zJ54_75 at h
  unfold J54_75
  by_cases q1 : x3 < 0 ∨ 128 ≤ x3
  · rw [if_pos q1] at h
    rw [if_pos ((rp_ob hx3 128).mpr q1)]
    cases h
  · rw [if_neg q1] at h
    rw [if_neg (fun z => q1 ((rp_ob hx3 128).mp z))]
    by_cases q2 : (M.1 109 (Int.toNat x3)) = 0
    · rw [if_pos q2] at h
      rw [if_pos ((rp_eq (rm_rdx gM 109 hx3) (show rp 0 0 from rfl)).mpr q2)]
      exact zJ54_119_r n _ _ hrec4 _ _ hrec50 hx1 hx2 hx3 gM h
    · rw [if_neg q2] at h
      rw [if_neg (fun z => q2 ((rp_eq (rm_rdx gM 109 hx3) (show rp 0 0 from rfl)).mp z))]
      rw [if_neg (fun z => q1 ((rp_ob hx3 128).mp z))]
      by_cases q3 : (M.1 90 (Int.toNat x3)) = 6
      · rw [if_pos q3] at h
        rw [if_pos ((rp_eq (rm_rdx gM 90 hx3) (show rp 6 6 from rfl)).mpr q3)]
        exact zJ54_119_r n _ _ hrec4 _ _ hrec50 hx1 hx2 hx3 gM h
      · rw [if_neg q3] at h
        rw [if_neg (fun z => q3 ((rp_eq (rm_rdx gM 90 hx3) (show rp 6 6 from rfl)).mp z))]
        exact zJ54_97_r n _ _ hrec4 _ _ hrec50 hx1 hx2 hx3 hs0 gM h
def zL54_50 (n : Nat) (zrec4 : Int → Int → ZM → Option (Int × ZM)) : Nat → Int → Int → Int → ZM → Option (Int × ZM)
  | 0, _, _, _, _ => none
  | k + 1, x1, x2, x3, M => if 128 ≤ x3 then (zJ54_147 n zrec4 x1 x2 M) else (if x3 < 0 ∨ 128 ≤ x3 then (none) else (if (M.1 109 (Int.toNat x3)) ≤ 0 then (zJ54_75 n zrec4 (zL54_50 n zrec4 k) x1 x2 x3 0 M) else (match zF53 n x3 M with | some (v29, M30) => (zJ54_75 n zrec4 (zL54_50 n zrec4 k) x1 x2 x3 v29 M30) | none => none)))
set_option maxRecDepth 100000 in
set_option maxHeartbeats 4000000 in
theorem zL54_50_r (n : Nat) (rec4 : Int32 → Int32 → Mem → Option (Int32 × Mem)) (zrec4 : Int → Int → ZM → Option (Int × ZM)) (hrec4 : ∀ {Y1 : Int32} {y1 : Int} (_ : rp Y1 y1) {Y2 : Int32} {y2 : Int} (_ : rp Y2 y2) {M : Mem} {m : ZM} (_ : rm M m) {r : Int} {m' : ZM} (_ : zrec4 y1 y2 m = some (r, m')), sI (rec4 Y1 Y2 M) r m') : ∀ (k : Nat) {X1_ : Int32} {x1 : Int} (hx1 : rp X1_ x1) {X2_ : Int32} {x2 : Int} (hx2 : rp X2_ x2) {X3_ : Int32} {x3 : Int} (hx3 : rp X3_ x3) {M_ : Mem} {M : ZM} (gM : rm M_ M) {r : Int} {m' : ZM} (_ : zL54_50 n zrec4 k x1 x2 x3 M = some (r, m')), sI (L54_50 n rec4 k X1_ X2_ X3_ M_) r m' := by
  intro k
  induction k with
  | zero => intro X1_ x1 hx1 X2_ x2 hx2 X3_ x3 hx3 M_ M gM r m' h; cases h
  | succ k ih =>
    intro X1_ x1 hx1 X2_ x2 hx2 X3_ x3 hx3 M_ M gM r m' h
    rw [zL54_50] at h
    rw [L54_50]
    by_cases q1 : 128 ≤ x3
    · rw [if_pos q1] at h
      rw [if_pos ((rp_le (show rp 128 128 from rfl) hx3).mpr q1)]
      exact zJ54_147_r n _ _ hrec4 hx1 hx2 gM h
    · rw [if_neg q1] at h
      rw [if_neg (fun z => q1 ((rp_le (show rp 128 128 from rfl) hx3).mp z))]
      by_cases q2 : x3 < 0 ∨ 128 ≤ x3
      · rw [if_pos q2] at h
        rw [if_pos ((rp_ob hx3 128).mpr q2)]
        cases h
      · rw [if_neg q2] at h
        rw [if_neg (fun z => q2 ((rp_ob hx3 128).mp z))]
        by_cases q3 : (M.1 109 (Int.toNat x3)) ≤ 0
        · rw [if_pos q3] at h
          rw [if_pos ((rp_le (rm_rdx gM 109 hx3) (show rp 0 0 from rfl)).mpr q3)]
          exact zJ54_75_r n _ _ hrec4 _ _ ih hx1 hx2 hx3 (show rp 0 0 from rfl) gM h
        · rw [if_neg q3] at h
          rw [if_neg (fun z => q3 ((rp_le (rm_rdx gM 109 hx3) (show rp 0 0 from rfl)).mp z))]
          cases hc4 : zF53 n x3 M with
          | none => rw [hc4] at h; cases h
          | some w =>
            obtain ⟨v29, M30⟩ := w
            rw [hc4] at h
            dsimp only at h
            obtain ⟨V29, NM30, ehc4, hv29, gM30⟩ := zF53_r n hx3 gM hc4
            rw [ehc4]
            dsimp only
            exact zJ54_75_r n _ _ hrec4 _ _ ih hx1 hx2 hx3 hv29 gM30 h
def zJ54_39 (n : Nat) (zrec4 : Int → Int → ZM → Option (Int × ZM)) (x1 : Int) (x2 : Int) (M : ZM) : Option (Int × ZM) :=
  if rg (x2 + 1) then (match zF49 n (x2 + 1) 1 0 M with | some (v11, M12) => (zL54_50 n zrec4 n x1 x2 0 M12) | none => none) else none
set_option maxRecDepth 100000 in
set_option maxHeartbeats 4000000 in
theorem zJ54_39_r (n : Nat) (rec4 : Int32 → Int32 → Mem → Option (Int32 × Mem)) (zrec4 : Int → Int → ZM → Option (Int × ZM)) (hrec4 : ∀ {Y1 : Int32} {y1 : Int} (_ : rp Y1 y1) {Y2 : Int32} {y2 : Int} (_ : rp Y2 y2) {M : Mem} {m : ZM} (_ : rm M m) {r : Int} {m' : ZM} (_ : zrec4 y1 y2 m = some (r, m')), sI (rec4 Y1 Y2 M) r m') {X1_ : Int32} {x1 : Int} (hx1 : rp X1_ x1) {X2_ : Int32} {x2 : Int} (hx2 : rp X2_ x2) {M_ : Mem} {M : ZM} (gM : rm M_ M) {r : Int} {m' : ZM} (h : zJ54_39 n zrec4 x1 x2 M = some (r, m')) : sI (J54_39 n rec4 X1_ X2_ M_) r m' := by
  unfold zJ54_39 at h
  unfold J54_39
  by_cases w1 : rg (x2 + 1)
  · rw [if_pos w1] at h
    cases hc2 : zF49 n (x2 + 1) 1 0 M with
    | none => rw [hc2] at h; cases h
    | some w =>
      obtain ⟨v11, M12⟩ := w
      rw [hc2] at h
      dsimp only at h
      obtain ⟨NM12, ehc2, gM12⟩ := zF49_r n (rp_add (rp_iz hx2) (rp_iz (show rp 1 1 from rfl)) w1) (show rp 1 1 from rfl) (show rp 0 0 from rfl) gM hc2
      rw [ehc2]
      dsimp only
      exact zL54_50_r n _ _ hrec4 n hx1 hx2 (show rp 0 0 from rfl) gM12 h
  · rw [if_neg w1] at h
    cases h
def zJ54_25 (n : Nat) (zrec4 : Int → Int → ZM → Option (Int × ZM)) (x1 : Int) (x2 : Int) (M : ZM) : Option (Int × ZM) :=
  if x2 < 0 ∨ 128 ≤ x2 then (none) else (if (M.1 94 (Int.toNat x2)) = 4 then (match zF50 n M with | some (v8, M9) => (zJ54_39 n zrec4 x1 x2 M9) | none => none) else (zJ54_147 n zrec4 x1 x2 M))
set_option maxRecDepth 100000 in
set_option maxHeartbeats 4000000 in
theorem zJ54_25_r (n : Nat) (rec4 : Int32 → Int32 → Mem → Option (Int32 × Mem)) (zrec4 : Int → Int → ZM → Option (Int × ZM)) (hrec4 : ∀ {Y1 : Int32} {y1 : Int} (_ : rp Y1 y1) {Y2 : Int32} {y2 : Int} (_ : rp Y2 y2) {M : Mem} {m : ZM} (_ : rm M m) {r : Int} {m' : ZM} (_ : zrec4 y1 y2 m = some (r, m')), sI (rec4 Y1 Y2 M) r m') {X1_ : Int32} {x1 : Int} (hx1 : rp X1_ x1) {X2_ : Int32} {x2 : Int} (hx2 : rp X2_ x2) {M_ : Mem} {M : ZM} (gM : rm M_ M) {r : Int} {m' : ZM} (h : zJ54_25 n zrec4 x1 x2 M = some (r, m')) : sI (J54_25 n rec4 X1_ X2_ M_) r m' := by
  unfold zJ54_25 at h
  unfold J54_25
  by_cases q1 : x2 < 0 ∨ 128 ≤ x2
  · rw [if_pos q1] at h
    rw [if_pos ((rp_ob hx2 128).mpr q1)]
    cases h
  · rw [if_neg q1] at h
    rw [if_neg (fun z => q1 ((rp_ob hx2 128).mp z))]
    by_cases q2 : (M.1 94 (Int.toNat x2)) = 4
    · rw [if_pos q2] at h
      rw [if_pos ((rp_eq (rm_rdx gM 94 hx2) (show rp 4 4 from rfl)).mpr q2)]
      cases hc3 : zF50 n M with
      | none => rw [hc3] at h; cases h
      | some w =>
        obtain ⟨v8, M9⟩ := w
        rw [hc3] at h
        dsimp only at h
        obtain ⟨NM9, ehc3, gM9⟩ := zF50_r n gM hc3
        rw [ehc3]
        dsimp only
        exact zJ54_39_r n _ _ hrec4 hx1 hx2 gM9 h
    · rw [if_neg q2] at h
      rw [if_neg (fun z => q2 ((rp_eq (rm_rdx gM 94 hx2) (show rp 4 4 from rfl)).mp z))]
      exact zJ54_147_r n _ _ hrec4 hx1 hx2 gM h
def zL54_4 (n : Nat) : Nat → Int → Int → ZM → Option (Int × ZM)
  | 0, _, _, _ => none
  | k + 1, x1, x2, M => if x2 < 0 ∨ 128 ≤ x2 then (none) else (if (M.1 90 (Int.toNat x2)) = 6 then (if x1 = 0 ∨ x1 = 1 then (some (x1, M)) else (none)) else (if (M.1 90 (Int.toNat x2)) = 3 then (zJ54_25 n (zL54_4 n k) x1 x2 M) else (zJ54_147 n (zL54_4 n k) x1 x2 M)))
set_option maxRecDepth 100000 in
set_option maxHeartbeats 4000000 in
theorem zL54_4_r (n : Nat) : ∀ (k : Nat) {X1_ : Int32} {x1 : Int} (hx1 : rp X1_ x1) {X2_ : Int32} {x2 : Int} (hx2 : rp X2_ x2) {M_ : Mem} {M : ZM} (gM : rm M_ M) {r : Int} {m' : ZM} (_ : zL54_4 n k x1 x2 M = some (r, m')), sI (L54_4 n k X1_ X2_ M_) r m' := by
  intro k
  induction k with
  | zero => intro X1_ x1 hx1 X2_ x2 hx2 M_ M gM r m' h; cases h
  | succ k ih =>
    intro X1_ x1 hx1 X2_ x2 hx2 M_ M gM r m' h
    rw [zL54_4] at h
    rw [L54_4]
    by_cases q1 : x2 < 0 ∨ 128 ≤ x2
    · rw [if_pos q1] at h
      rw [if_pos ((rp_ob hx2 128).mpr q1)]
      cases h
    · rw [if_neg q1] at h
      rw [if_neg (fun z => q1 ((rp_ob hx2 128).mp z))]
      by_cases q2 : (M.1 90 (Int.toNat x2)) = 6
      · rw [if_pos q2] at h
        rw [if_pos ((rp_eq (rm_rdx gM 90 hx2) (show rp 6 6 from rfl)).mpr q2)]
        by_cases q3 : x1 = 0 ∨ x1 = 1
        · rw [if_pos q3] at h
          rw [if_pos ((or_congr (rp_eq hx1 (show rp 0 0 from rfl)) (rp_eq hx1 (show rp 1 1 from rfl))).mpr q3)]
          obtain ⟨rfl, rfl⟩ := Prod.mk.inj (Option.some.inj h)
          exact ⟨_, _, rfl, hx1, gM⟩
        · rw [if_neg q3] at h
          rw [if_neg (fun z => q3 ((or_congr (rp_eq hx1 (show rp 0 0 from rfl)) (rp_eq hx1 (show rp 1 1 from rfl))).mp z))]
          cases h
      · rw [if_neg q2] at h
        rw [if_neg (fun z => q2 ((rp_eq (rm_rdx gM 90 hx2) (show rp 6 6 from rfl)).mp z))]
        rw [if_neg (fun z => q1 ((rp_ob hx2 128).mp z))]
        by_cases q4 : (M.1 90 (Int.toNat x2)) = 3
        · rw [if_pos q4] at h
          rw [if_pos ((rp_eq (rm_rdx gM 90 hx2) (show rp 3 3 from rfl)).mpr q4)]
          exact zJ54_25_r n _ _ ih hx1 hx2 gM h
        · rw [if_neg q4] at h
          rw [if_neg (fun z => q4 ((rp_eq (rm_rdx gM 90 hx2) (show rp 3 3 from rfl)).mp z))]
          exact zJ54_147_r n _ _ ih hx1 hx2 gM h
/-- ArmExpanderModel.followed -/
def zF54 (n : Nat) (M : ZM) : Option (Int × ZM) :=
  zL54_4 n n 1 0 M
set_option maxRecDepth 100000 in
set_option maxHeartbeats 4000000 in
theorem zF54_r (n : Nat) {M_ : Mem} {M : ZM} (gM : rm M_ M) {r : Int} {m' : ZM} (h : zF54 n M = some (r, m')) : sI (F54 n M_) r m' := by
  unfold zF54 at h
  unfold F54
  exact zL54_4_r n n (show rp 1 1 from rfl) (show rp 0 0 from rfl) gM h
def zJ55_34 (n : Nat) (zrec4 : Int → Int → Int → ZM → Option (Int × ZM)) (x1 : Int) (x3 : Int) (s0 : Int) (M : ZM) : Option (Int × ZM) :=
  if rg (x3 + 1) then (zrec4 x1 s0 (x3 + 1) M) else none
set_option maxRecDepth 100000 in
set_option maxHeartbeats 4000000 in
theorem zJ55_34_r (n : Nat) (rec4 : Int32 → Int32 → Int32 → Mem → Option (Int32 × Mem)) (zrec4 : Int → Int → Int → ZM → Option (Int × ZM)) (hrec4 : ∀ {Y1 : Int32} {y1 : Int} (_ : rp Y1 y1) {Y2 : Int32} {y2 : Int} (_ : rp Y2 y2) {Y3 : Int32} {y3 : Int} (_ : rp Y3 y3) {M : Mem} {m : ZM} (_ : rm M m) {r : Int} {m' : ZM} (_ : zrec4 y1 y2 y3 m = some (r, m')), sI (rec4 Y1 Y2 Y3 M) r m') {X1_ : Int32} {x1 : Int} (hx1 : rp X1_ x1) {X3_ : Int32} {x3 : Int} (hx3 : rp X3_ x3) {S0_ : Int32} {s0 : Int} (hs0 : rp S0_ s0) {M_ : Mem} {M : ZM} (gM : rm M_ M) {r : Int} {m' : ZM} (h : zJ55_34 n zrec4 x1 x3 s0 M = some (r, m')) : sI (J55_34 n rec4 X1_ X3_ S0_ M_) r m' := by
  unfold zJ55_34 at h
  unfold J55_34
  by_cases w1 : rg (x3 + 1)
  · rw [if_pos w1] at h
    exact hrec4 hx1 hs0 (rp_add (rp_iz hx3) (rp_iz (show rp 1 1 from rfl)) w1) gM h
  · rw [if_neg w1] at h
    cases h
def zJ55_29 (n : Nat) (zrec4 : Int → Int → Int → ZM → Option (Int × ZM)) (x1 : Int) (x3 : Int) (M : ZM) : Option (Int × ZM) :=
  zJ55_34 n zrec4 x1 x3 1 M
set_option maxRecDepth 100000 in
set_option maxHeartbeats 4000000 in
theorem zJ55_29_r (n : Nat) (rec4 : Int32 → Int32 → Int32 → Mem → Option (Int32 × Mem)) (zrec4 : Int → Int → Int → ZM → Option (Int × ZM)) (hrec4 : ∀ {Y1 : Int32} {y1 : Int} (_ : rp Y1 y1) {Y2 : Int32} {y2 : Int} (_ : rp Y2 y2) {Y3 : Int32} {y3 : Int} (_ : rp Y3 y3) {M : Mem} {m : ZM} (_ : rm M m) {r : Int} {m' : ZM} (_ : zrec4 y1 y2 y3 m = some (r, m')), sI (rec4 Y1 Y2 Y3 M) r m') {X1_ : Int32} {x1 : Int} (hx1 : rp X1_ x1) {X3_ : Int32} {x3 : Int} (hx3 : rp X3_ x3) {M_ : Mem} {M : ZM} (gM : rm M_ M) {r : Int} {m' : ZM} (h : zJ55_29 n zrec4 x1 x3 M = some (r, m')) : sI (J55_29 n rec4 X1_ X3_ M_) r m' := by
  unfold zJ55_29 at h
  unfold J55_29
  exact zJ55_34_r n _ _ hrec4 hx1 hx3 (show rp 1 1 from rfl) gM h
def zJ55_33 (n : Nat) (zrec4 : Int → Int → Int → ZM → Option (Int × ZM)) (x1 : Int) (x3 : Int) (M : ZM) : Option (Int × ZM) :=
  zJ55_34 n zrec4 x1 x3 0 M
set_option maxRecDepth 100000 in
set_option maxHeartbeats 4000000 in
theorem zJ55_33_r (n : Nat) (rec4 : Int32 → Int32 → Int32 → Mem → Option (Int32 × Mem)) (zrec4 : Int → Int → Int → ZM → Option (Int × ZM)) (hrec4 : ∀ {Y1 : Int32} {y1 : Int} (_ : rp Y1 y1) {Y2 : Int32} {y2 : Int} (_ : rp Y2 y2) {Y3 : Int32} {y3 : Int} (_ : rp Y3 y3) {M : Mem} {m : ZM} (_ : rm M m) {r : Int} {m' : ZM} (_ : zrec4 y1 y2 y3 m = some (r, m')), sI (rec4 Y1 Y2 Y3 M) r m') {X1_ : Int32} {x1 : Int} (hx1 : rp X1_ x1) {X3_ : Int32} {x3 : Int} (hx3 : rp X3_ x3) {M_ : Mem} {M : ZM} (gM : rm M_ M) {r : Int} {m' : ZM} (h : zJ55_33 n zrec4 x1 x3 M = some (r, m')) : sI (J55_33 n rec4 X1_ X3_ M_) r m' := by
  unfold zJ55_33 at h
  unfold J55_33
  exact zJ55_34_r n _ _ hrec4 hx1 hx3 (show rp 0 0 from rfl) gM h
def zL55_4 (n : Nat) : Nat → Int → Int → Int → ZM → Option (Int × ZM)
  | 0, _, _, _, _ => none
  | k + 1, x1, x2, x3, M => if x1 < 0 ∨ 128 ≤ x1 then (none) else (if (M.1 99 (Int.toNat x1)) ≤ x3 then (if x2 = 0 ∨ x2 = 1 then (some (x2, M)) else (none)) else (if x2 = 0 then (if x3 < 0 ∨ 128 ≤ x3 then (none) else (if (M.1 97 (Int.toNat x3)) = 7 then (zJ55_29 n (zL55_4 n k) x1 x3 M) else (zJ55_33 n (zL55_4 n k) x1 x3 M))) else (zJ55_29 n (zL55_4 n k) x1 x3 M)))
set_option maxRecDepth 100000 in
set_option maxHeartbeats 4000000 in
theorem zL55_4_r (n : Nat) : ∀ (k : Nat) {X1_ : Int32} {x1 : Int} (hx1 : rp X1_ x1) {X2_ : Int32} {x2 : Int} (hx2 : rp X2_ x2) {X3_ : Int32} {x3 : Int} (hx3 : rp X3_ x3) {M_ : Mem} {M : ZM} (gM : rm M_ M) {r : Int} {m' : ZM} (_ : zL55_4 n k x1 x2 x3 M = some (r, m')), sI (L55_4 n k X1_ X2_ X3_ M_) r m' := by
  intro k
  induction k with
  | zero => intro X1_ x1 hx1 X2_ x2 hx2 X3_ x3 hx3 M_ M gM r m' h; cases h
  | succ k ih =>
    intro X1_ x1 hx1 X2_ x2 hx2 X3_ x3 hx3 M_ M gM r m' h
    rw [zL55_4] at h
    rw [L55_4]
    by_cases q1 : x1 < 0 ∨ 128 ≤ x1
    · rw [if_pos q1] at h
      rw [if_pos ((rp_ob hx1 128).mpr q1)]
      cases h
    · rw [if_neg q1] at h
      rw [if_neg (fun z => q1 ((rp_ob hx1 128).mp z))]
      by_cases q2 : (M.1 99 (Int.toNat x1)) ≤ x3
      · rw [if_pos q2] at h
        rw [if_pos ((rp_le (rm_rdx gM 99 hx1) hx3).mpr q2)]
        by_cases q3 : x2 = 0 ∨ x2 = 1
        · rw [if_pos q3] at h
          rw [if_pos ((or_congr (rp_eq hx2 (show rp 0 0 from rfl)) (rp_eq hx2 (show rp 1 1 from rfl))).mpr q3)]
          obtain ⟨rfl, rfl⟩ := Prod.mk.inj (Option.some.inj h)
          exact ⟨_, _, rfl, hx2, gM⟩
        · rw [if_neg q3] at h
          rw [if_neg (fun z => q3 ((or_congr (rp_eq hx2 (show rp 0 0 from rfl)) (rp_eq hx2 (show rp 1 1 from rfl))).mp z))]
          cases h
      · rw [if_neg q2] at h
        rw [if_neg (fun z => q2 ((rp_le (rm_rdx gM 99 hx1) hx3).mp z))]
        by_cases q4 : x2 = 0
        · rw [if_pos q4] at h
          rw [if_pos ((rp_eq hx2 (show rp 0 0 from rfl)).mpr q4)]
          by_cases q5 : x3 < 0 ∨ 128 ≤ x3
          · rw [if_pos q5] at h
            rw [if_pos ((rp_ob hx3 128).mpr q5)]
            cases h
          · rw [if_neg q5] at h
            rw [if_neg (fun z => q5 ((rp_ob hx3 128).mp z))]
            by_cases q6 : (M.1 97 (Int.toNat x3)) = 7
            · rw [if_pos q6] at h
              rw [if_pos ((rp_eq (rm_rdx gM 97 hx3) (show rp 7 7 from rfl)).mpr q6)]
              exact zJ55_29_r n _ _ ih hx1 hx3 gM h
            · rw [if_neg q6] at h
              rw [if_neg (fun z => q6 ((rp_eq (rm_rdx gM 97 hx3) (show rp 7 7 from rfl)).mp z))]
              exact zJ55_33_r n _ _ ih hx1 hx3 gM h
        · rw [if_neg q4] at h
          rw [if_neg (fun z => q4 ((rp_eq hx2 (show rp 0 0 from rfl)).mp z))]
          exact zJ55_29_r n _ _ ih hx1 hx3 gM h
/-- ArmExpanderModel.isUsed -/
def zF55 (n : Nat) (a0 : Int) (M : ZM) : Option (Int × ZM) :=
  zL55_4 n n a0 0 a0 M
set_option maxRecDepth 100000 in
set_option maxHeartbeats 4000000 in
theorem zF55_r (n : Nat) {A0_ : Int32} {a0 : Int} (ha0 : rp A0_ a0) {M_ : Mem} {M : ZM} (gM : rm M_ M) {r : Int} {m' : ZM} (h : zF55 n a0 M = some (r, m')) : sI (F55 n A0_ M_) r m' := by
  unfold zF55 at h
  unfold F55
  exact zL55_4_r n n ha0 (show rp 0 0 from rfl) ha0 gM h
