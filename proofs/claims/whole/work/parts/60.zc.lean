/-! The methods over whole numbers; written by program. -/
def zJ56_17 (n : Nat) (s0 : Int) (M : ZM) : Option (Int × ZM) :=
  some (s0, M)
set_option maxRecDepth 100000 in
set_option maxHeartbeats 4000000 in
theorem zJ56_17_r (n : Nat) {S0_ : Int32} {s0 : Int} (hs0 : rp S0_ s0) {M_ : Mem} {M : ZM} (gM : rm M_ M) {r : Int} {m' : ZM} (h : zJ56_17 n s0 M = some (r, m')) : sI (J56_17 n S0_ M_) r m' := by
  unfold zJ56_17 at h
  unfold J56_17
  obtain ⟨rfl, rfl⟩ := Prod.mk.inj (Option.some.inj h)
  exact ⟨_, _, rfl, hs0, gM⟩
/-- ArmExpanderModel.depth -/
def zF56 (n : Nat) (a0 : Int) (a1 : Int) (M : ZM) : Option (Int × ZM) :=
  if 0 ≤ a0 then (if 0 ≤ a1 then (zJ56_17 n 2 M) else (zJ56_17 n 1 M)) else (zJ56_17 n 0 M)
set_option maxRecDepth 100000 in
set_option maxHeartbeats 4000000 in
theorem zF56_r (n : Nat) {A0_ : Int32} {a0 : Int} (ha0 : rp A0_ a0) {A1_ : Int32} {a1 : Int} (ha1 : rp A1_ a1) {M_ : Mem} {M : ZM} (gM : rm M_ M) {r : Int} {m' : ZM} (h : zF56 n a0 a1 M = some (r, m')) : sI (F56 n A0_ A1_ M_) r m' := by
  unfold zF56 at h
  unfold F56
  by_cases q1 : 0 ≤ a0
  · rw [if_pos q1] at h
    rw [if_pos ((rp_le (show rp 0 0 from rfl) ha0).mpr q1)]
    by_cases q2 : 0 ≤ a1
    · rw [if_pos q2] at h
      rw [if_pos ((rp_le (show rp 0 0 from rfl) ha1).mpr q2)]
      exact zJ56_17_r n (show rp 2 2 from rfl) gM h
    · rw [if_neg q2] at h
      rw [if_neg (fun z => q2 ((rp_le (show rp 0 0 from rfl) ha1).mp z))]
      exact zJ56_17_r n (show rp 1 1 from rfl) gM h
  · rw [if_neg q1] at h
    rw [if_neg (fun z => q1 ((rp_le (show rp 0 0 from rfl) ha0).mp z))]
    exact zJ56_17_r n (show rp 0 0 from rfl) gM h
def zJ57_128 (n : Nat) (zrec4 : Int → Int → ZM → Option (Int × ZM)) (x2 : Int) (s0 : Int) (M : ZM) : Option (Int × ZM) :=
  if rg (x2 + 1) then (zrec4 s0 (x2 + 1) M) else none
set_option maxRecDepth 100000 in
set_option maxHeartbeats 4000000 in
theorem zJ57_128_r (n : Nat) (rec4 : Int32 → Int32 → Mem → Option (Int32 × Mem)) (zrec4 : Int → Int → ZM → Option (Int × ZM)) (hrec4 : ∀ {Y1 : Int32} {y1 : Int} (_ : rp Y1 y1) {Y2 : Int32} {y2 : Int} (_ : rp Y2 y2) {M : Mem} {m : ZM} (_ : rm M m) {r : Int} {m' : ZM} (_ : zrec4 y1 y2 m = some (r, m')), sI (rec4 Y1 Y2 M) r m') {X2_ : Int32} {x2 : Int} (hx2 : rp X2_ x2) {S0_ : Int32} {s0 : Int} (hs0 : rp S0_ s0) {M_ : Mem} {M : ZM} (gM : rm M_ M) {r : Int} {m' : ZM} (h : zJ57_128 n zrec4 x2 s0 M = some (r, m')) : sI (J57_128 n rec4 X2_ S0_ M_) r m' := by
  unfold zJ57_128 at h
  unfold J57_128
  by_cases w1 : rg (x2 + 1)
  · rw [if_pos w1] at h
    exact hrec4 hs0 (rp_add (rp_iz hx2) (rp_iz (show rp 1 1 from rfl)) w1) gM h
  · rw [if_neg w1] at h
    cases h
def zJ57_127 (n : Nat) (zrec4 : Int → Int → ZM → Option (Int × ZM)) (x2 : Int) (M : ZM) : Option (Int × ZM) :=
  zJ57_128 n zrec4 x2 0 M
set_option maxRecDepth 100000 in
set_option maxHeartbeats 4000000 in
theorem zJ57_127_r (n : Nat) (rec4 : Int32 → Int32 → Mem → Option (Int32 × Mem)) (zrec4 : Int → Int → ZM → Option (Int × ZM)) (hrec4 : ∀ {Y1 : Int32} {y1 : Int} (_ : rp Y1 y1) {Y2 : Int32} {y2 : Int} (_ : rp Y2 y2) {M : Mem} {m : ZM} (_ : rm M m) {r : Int} {m' : ZM} (_ : zrec4 y1 y2 m = some (r, m')), sI (rec4 Y1 Y2 M) r m') {X2_ : Int32} {x2 : Int} (hx2 : rp X2_ x2) {M_ : Mem} {M : ZM} (gM : rm M_ M) {r : Int} {m' : ZM} (h : zJ57_127 n zrec4 x2 M = some (r, m')) : sI (J57_127 n rec4 X2_ M_) r m' := by
  unfold zJ57_127 at h
  unfold J57_127
  exact zJ57_128_r n _ _ hrec4 hx2 (show rp 0 0 from rfl) gM h
def zJ57_123 (n : Nat) (zrec4 : Int → Int → ZM → Option (Int × ZM)) (x2 : Int) (M : ZM) : Option (Int × ZM) :=
  zJ57_128 n zrec4 x2 1 M
set_option maxRecDepth 100000 in
set_option maxHeartbeats 4000000 in
theorem zJ57_123_r (n : Nat) (rec4 : Int32 → Int32 → Mem → Option (Int32 × Mem)) (zrec4 : Int → Int → ZM → Option (Int × ZM)) (hrec4 : ∀ {Y1 : Int32} {y1 : Int} (_ : rp Y1 y1) {Y2 : Int32} {y2 : Int} (_ : rp Y2 y2) {M : Mem} {m : ZM} (_ : rm M m) {r : Int} {m' : ZM} (_ : zrec4 y1 y2 m = some (r, m')), sI (rec4 Y1 Y2 M) r m') {X2_ : Int32} {x2 : Int} (hx2 : rp X2_ x2) {M_ : Mem} {M : ZM} (gM : rm M_ M) {r : Int} {m' : ZM} (h : zJ57_123 n zrec4 x2 M = some (r, m')) : sI (J57_123 n rec4 X2_ M_) r m' := by
  unfold zJ57_123 at h
  unfold J57_123
  exact zJ57_128_r n _ _ hrec4 hx2 (show rp 1 1 from rfl) gM h
def zJ57_105 (n : Nat) (zrec4 : Int → Int → ZM → Option (Int × ZM)) (x2 : Int) (M : ZM) : Option (Int × ZM) :=
  if x2 < 0 ∨ 128 ≤ x2 then (none) else (if (M.1 97 (Int.toNat x2)) = 4 then (match zF55 n x2 M with | some (v17, M18) => (if v17 = 0 then (zJ57_127 n zrec4 x2 M18) else (zJ57_123 n zrec4 x2 M18)) | none => none) else (zJ57_123 n zrec4 x2 M))
set_option maxRecDepth 100000 in
set_option maxHeartbeats 4000000 in
theorem zJ57_105_r (n : Nat) (rec4 : Int32 → Int32 → Mem → Option (Int32 × Mem)) (zrec4 : Int → Int → ZM → Option (Int × ZM)) (hrec4 : ∀ {Y1 : Int32} {y1 : Int} (_ : rp Y1 y1) {Y2 : Int32} {y2 : Int} (_ : rp Y2 y2) {M : Mem} {m : ZM} (_ : rm M m) {r : Int} {m' : ZM} (_ : zrec4 y1 y2 m = some (r, m')), sI (rec4 Y1 Y2 M) r m') {X2_ : Int32} {x2 : Int} (hx2 : rp X2_ x2) {M_ : Mem} {M : ZM} (gM : rm M_ M) {r : Int} {m' : ZM} (h : zJ57_105 n zrec4 x2 M = some (r, m')) : sI (J57_105 n rec4 X2_ M_) r m' := by
  unfold zJ57_105 at h
  unfold J57_105
  by_cases q1 : x2 < 0 ∨ 128 ≤ x2
  · rw [if_pos q1] at h
    rw [if_pos ((rp_ob hx2 128).mpr q1)]
    cases h
  · rw [if_neg q1] at h
    rw [if_neg (fun z => q1 ((rp_ob hx2 128).mp z))]
    by_cases q2 : (M.1 97 (Int.toNat x2)) = 4
    · rw [if_pos q2] at h
      rw [if_pos ((rp_eq (rm_rdx gM 97 hx2) (show rp 4 4 from rfl)).mpr q2)]
      cases hc3 : zF55 n x2 M with
      | none => rw [hc3] at h; cases h
      | some w =>
        obtain ⟨v17, M18⟩ := w
        rw [hc3] at h
        dsimp only at h
        obtain ⟨V17, NM18, ehc3, hv17, gM18⟩ := zF55_r n hx2 gM hc3
        rw [ehc3]
        dsimp only
        by_cases q4 : v17 = 0
        · rw [if_pos q4] at h
          rw [if_pos ((rp_eq hv17 (show rp 0 0 from rfl)).mpr q4)]
          exact zJ57_127_r n _ _ hrec4 hx2 gM18 h
        · rw [if_neg q4] at h
          rw [if_neg (fun z => q4 ((rp_eq hv17 (show rp 0 0 from rfl)).mp z))]
          exact zJ57_123_r n _ _ hrec4 hx2 gM18 h
    · rw [if_neg q2] at h
      rw [if_neg (fun z => q2 ((rp_eq (rm_rdx gM 97 hx2) (show rp 4 4 from rfl)).mp z))]
      exact zJ57_123_r n _ _ hrec4 hx2 gM h
def zJ57_83 (n : Nat) (zrec4 : Int → Int → ZM → Option (Int × ZM)) (x1 : Int) (x2 : Int) (s0 : Int) (M : ZM) : Option (Int × ZM) :=
  if x1 = 0 then (zJ57_127 n zrec4 x2 M) else (if x2 < 0 ∨ 128 ≤ x2 then (none) else (if (M.1 97 (Int.toNat x2)) = 7 then (if s0 = 0 then (zJ57_127 n zrec4 x2 M) else (zJ57_105 n zrec4 x2 M)) else (zJ57_105 n zrec4 x2 M)))
set_option maxRecDepth 100000 in
set_option maxHeartbeats 4000000 in
theorem zJ57_83_r (n : Nat) (rec4 : Int32 → Int32 → Mem → Option (Int32 × Mem)) (zrec4 : Int → Int → ZM → Option (Int × ZM)) (hrec4 : ∀ {Y1 : Int32} {y1 : Int} (_ : rp Y1 y1) {Y2 : Int32} {y2 : Int} (_ : rp Y2 y2) {M : Mem} {m : ZM} (_ : rm M m) {r : Int} {m' : ZM} (_ : zrec4 y1 y2 m = some (r, m')), sI (rec4 Y1 Y2 M) r m') {X1_ : Int32} {x1 : Int} (hx1 : rp X1_ x1) {X2_ : Int32} {x2 : Int} (hx2 : rp X2_ x2) {S0_ : Int32} {s0 : Int} (hs0 : rp S0_ s0) {M_ : Mem} {M : ZM} (gM : rm M_ M) {r : Int} {m' : ZM} (h : zJ57_83 n zrec4 x1 x2 s0 M = some (r, m')) : sI (J57_83 n rec4 X1_ X2_ S0_ M_) r m' := by
  unfold zJ57_83 at h
  unfold J57_83
  by_cases q1 : x1 = 0
  · rw [if_pos q1] at h
    rw [if_pos ((rp_eq hx1 (show rp 0 0 from rfl)).mpr q1)]
    exact zJ57_127_r n _ _ hrec4 hx2 gM h
  · rw [if_neg q1] at h
    rw [if_neg (fun z => q1 ((rp_eq hx1 (show rp 0 0 from rfl)).mp z))]
    by_cases q2 : x2 < 0 ∨ 128 ≤ x2
    · rw [if_pos q2] at h
      rw [if_pos ((rp_ob hx2 128).mpr q2)]
      cases h
    · rw [if_neg q2] at h
      rw [if_neg (fun z => q2 ((rp_ob hx2 128).mp z))]
      by_cases q3 : (M.1 97 (Int.toNat x2)) = 7
      · rw [if_pos q3] at h
        rw [if_pos ((rp_eq (rm_rdx gM 97 hx2) (show rp 7 7 from rfl)).mpr q3)]
        by_cases q4 : s0 = 0
        · rw [if_pos q4] at h
          rw [if_pos ((rp_eq hs0 (show rp 0 0 from rfl)).mpr q4)]
          exact zJ57_127_r n _ _ hrec4 hx2 gM h
        · rw [if_neg q4] at h
          rw [if_neg (fun z => q4 ((rp_eq hs0 (show rp 0 0 from rfl)).mp z))]
          exact zJ57_105_r n _ _ hrec4 hx2 gM h
      · rw [if_neg q3] at h
        rw [if_neg (fun z => q3 ((rp_eq (rm_rdx gM 97 hx2) (show rp 7 7 from rfl)).mp z))]
        exact zJ57_105_r n _ _ hrec4 hx2 gM h
def zJ57_82 (n : Nat) (zrec4 : Int → Int → ZM → Option (Int × ZM)) (x1 : Int) (x2 : Int) (M : ZM) : Option (Int × ZM) :=
  zJ57_83 n zrec4 x1 x2 0 M
set_option maxRecDepth 100000 in
set_option maxHeartbeats 4000000 in
theorem zJ57_82_r (n : Nat) (rec4 : Int32 → Int32 → Mem → Option (Int32 × Mem)) (zrec4 : Int → Int → ZM → Option (Int × ZM)) (hrec4 : ∀ {Y1 : Int32} {y1 : Int} (_ : rp Y1 y1) {Y2 : Int32} {y2 : Int} (_ : rp Y2 y2) {M : Mem} {m : ZM} (_ : rm M m) {r : Int} {m' : ZM} (_ : zrec4 y1 y2 m = some (r, m')), sI (rec4 Y1 Y2 M) r m') {X1_ : Int32} {x1 : Int} (hx1 : rp X1_ x1) {X2_ : Int32} {x2 : Int} (hx2 : rp X2_ x2) {M_ : Mem} {M : ZM} (gM : rm M_ M) {r : Int} {m' : ZM} (h : zJ57_82 n zrec4 x1 x2 M = some (r, m')) : sI (J57_82 n rec4 X1_ X2_ M_) r m' := by
  unfold zJ57_82 at h
  unfold J57_82
  exact zJ57_83_r n _ _ hrec4 hx1 hx2 (show rp 0 0 from rfl) gM h
def zJ57_78 (n : Nat) (zrec4 : Int → Int → ZM → Option (Int × ZM)) (x1 : Int) (x2 : Int) (M : ZM) : Option (Int × ZM) :=
  zJ57_83 n zrec4 x1 x2 1 M
set_option maxRecDepth 100000 in
set_option maxHeartbeats 4000000 in
theorem zJ57_78_r (n : Nat) (rec4 : Int32 → Int32 → Mem → Option (Int32 × Mem)) (zrec4 : Int → Int → ZM → Option (Int × ZM)) (hrec4 : ∀ {Y1 : Int32} {y1 : Int} (_ : rp Y1 y1) {Y2 : Int32} {y2 : Int} (_ : rp Y2 y2) {M : Mem} {m : ZM} (_ : rm M m) {r : Int} {m' : ZM} (_ : zrec4 y1 y2 m = some (r, m')), sI (rec4 Y1 Y2 M) r m') {X1_ : Int32} {x1 : Int} (hx1 : rp X1_ x1) {X2_ : Int32} {x2 : Int} (hx2 : rp X2_ x2) {M_ : Mem} {M : ZM} (gM : rm M_ M) {r : Int} {m' : ZM} (h : zJ57_78 n zrec4 x1 x2 M = some (r, m')) : sI (J57_78 n rec4 X1_ X2_ M_) r m' := by
  unfold zJ57_78 at h
  unfold J57_78
  exact zJ57_83_r n _ _ hrec4 hx1 hx2 (show rp 1 1 from rfl) gM h
def zJ57_40 (n : Nat) (zrec4 : Int → Int → ZM → Option (Int × ZM)) (x1 : Int) (x2 : Int) (s0 : Int) (M : ZM) : Option (Int × ZM) :=
  if s0 < 0 then (zJ57_82 n zrec4 x1 x2 M) else (if s0 < 0 ∨ 128 ≤ s0 then (none) else (match zF56 n (M.1 95 (Int.toNat s0)) (M.1 96 (Int.toNat s0)) M with | some (v23, M24) => (if x2 < 0 ∨ 128 ≤ x2 then (none) else (match zF56 n (M24.1 101 (Int.toNat x2)) (M24.1 102 (Int.toNat x2)) M24 with | some (v28, M29) => (if v23 = v28 then (zJ57_78 n zrec4 x1 x2 M29) else (zJ57_82 n zrec4 x1 x2 M29)) | none => none)) | none => none))
set_option maxRecDepth 100000 in
set_option maxHeartbeats 4000000 in
theorem zJ57_40_r (n : Nat) (rec4 : Int32 → Int32 → Mem → Option (Int32 × Mem)) (zrec4 : Int → Int → ZM → Option (Int × ZM)) (hrec4 : ∀ {Y1 : Int32} {y1 : Int} (_ : rp Y1 y1) {Y2 : Int32} {y2 : Int} (_ : rp Y2 y2) {M : Mem} {m : ZM} (_ : rm M m) {r : Int} {m' : ZM} (_ : zrec4 y1 y2 m = some (r, m')), sI (rec4 Y1 Y2 M) r m') {X1_ : Int32} {x1 : Int} (hx1 : rp X1_ x1) {X2_ : Int32} {x2 : Int} (hx2 : rp X2_ x2) {S0_ : Int32} {s0 : Int} (hs0 : rp S0_ s0) {M_ : Mem} {M : ZM} (gM : rm M_ M) {r : Int} {m' : ZM} (h : zJ57_40 n zrec4 x1 x2 s0 M = some (r, m')) : sI (J57_40 n rec4 X1_ X2_ S0_ M_) r m' := by
  unfold zJ57_40 at h
  unfold J57_40
  by_cases q1 : s0 < 0
  · rw [if_pos q1] at h
    rw [if_pos ((rp_lt hs0 (show rp 0 0 from rfl)).mpr q1)]
    exact zJ57_82_r n _ _ hrec4 hx1 hx2 gM h
  · rw [if_neg q1] at h
    rw [if_neg (fun z => q1 ((rp_lt hs0 (show rp 0 0 from rfl)).mp z))]
    by_cases q2 : s0 < 0 ∨ 128 ≤ s0
    · rw [if_pos q2] at h
      rw [if_pos ((rp_ob hs0 128).mpr q2)]
      cases h
    · rw [if_neg q2] at h
      rw [if_neg (fun z => q2 ((rp_ob hs0 128).mp z))]
      rw [if_neg (fun z => q2 ((rp_ob hs0 128).mp z))]
      cases hc3 : zF56 n (M.1 95 (Int.toNat s0)) (M.1 96 (Int.toNat s0)) M with
      | none => rw [hc3] at h; cases h
      | some w =>
        obtain ⟨v23, M24⟩ := w
        rw [hc3] at h
        dsimp only at h
        obtain ⟨V23, NM24, ehc3, hv23, gM24⟩ := zF56_r n (rm_rdx gM 95 hs0) (rm_rdx gM 96 hs0) gM hc3
        rw [ehc3]
        dsimp only
        by_cases q4 : x2 < 0 ∨ 128 ≤ x2
        · rw [if_pos q4] at h
          rw [if_pos ((rp_ob hx2 128).mpr q4)]
          cases h
        · rw [if_neg q4] at h
          rw [if_neg (fun z => q4 ((rp_ob hx2 128).mp z))]
          rw [if_neg (fun z => q4 ((rp_ob hx2 128).mp z))]
          cases hc5 : zF56 n (M24.1 101 (Int.toNat x2)) (M24.1 102 (Int.toNat x2)) M24 with
          | none => rw [hc5] at h; cases h
          | some w =>
            obtain ⟨v28, M29⟩ := w
            rw [hc5] at h
            dsimp only at h
            obtain ⟨V28, NM29, ehc5, hv28, gM29⟩ := zF56_r n (rm_rdx gM24 101 hx2) (rm_rdx gM24 102 hx2) gM24 hc5
            rw [ehc5]
            dsimp only
            by_cases q6 : v23 = v28
            · rw [if_pos q6] at h
              rw [if_pos ((rp_eq hv23 hv28).mpr q6)]
              exact zJ57_78_r n _ _ hrec4 hx1 hx2 gM29 h
            · rw [if_neg q6] at h
              rw [if_neg (fun z => q6 ((rp_eq hv23 hv28).mp z))]
              exact zJ57_82_r n _ _ hrec4 hx1 hx2 gM29 h
def zJ57_26 (n : Nat) (zrec4 : Int → Int → ZM → Option (Int × ZM)) (x1 : Int) (x2 : Int) (M : ZM) : Option (Int × ZM) :=
  if x2 < 0 ∨ 128 ≤ x2 then (none) else (match zF46 n (M.1 98 (Int.toNat x2)) M with | some (v7, M8) => (zJ57_40 n zrec4 x1 x2 v7 M8) | none => none)
set_option maxRecDepth 100000 in
set_option maxHeartbeats 4000000 in
theorem zJ57_26_r (n : Nat) (rec4 : Int32 → Int32 → Mem → Option (Int32 × Mem)) (zrec4 : Int → Int → ZM → Option (Int × ZM)) (hrec4 : ∀ {Y1 : Int32} {y1 : Int} (_ : rp Y1 y1) {Y2 : Int32} {y2 : Int} (_ : rp Y2 y2) {M : Mem} {m : ZM} (_ : rm M m) {r : Int} {m' : ZM} (_ : zrec4 y1 y2 m = some (r, m')), sI (rec4 Y1 Y2 M) r m') {X1_ : Int32} {x1 : Int} (hx1 : rp X1_ x1) {X2_ : Int32} {x2 : Int} (hx2 : rp X2_ x2) {M_ : Mem} {M : ZM} (gM : rm M_ M) {r : Int} {m' : ZM} (h : zJ57_26 n zrec4 x1 x2 M = some (r, m')) : sI (J57_26 n rec4 X1_ X2_ M_) r m' := by
  unfold zJ57_26 at h
  unfold J57_26
  by_cases q1 : x2 < 0 ∨ 128 ≤ x2
  · rw [if_pos q1] at h
    rw [if_pos ((rp_ob hx2 128).mpr q1)]
    cases h
  · rw [if_neg q1] at h
    rw [if_neg (fun z => q1 ((rp_ob hx2 128).mp z))]
    cases hc2 : zF46 n (M.1 98 (Int.toNat x2)) M with
    | none => rw [hc2] at h; cases h
    | some w =>
      obtain ⟨v7, M8⟩ := w
      rw [hc2] at h
      dsimp only at h
      obtain ⟨V7, NM8, ehc2, hv7, gM8⟩ := zF46_r n (rm_rdx gM 98 hx2) gM hc2
      rw [ehc2]
      dsimp only
      exact zJ57_40_r n _ _ hrec4 hx1 hx2 hv7 gM8 h
def zJ57_39 (n : Nat) (zrec4 : Int → Int → ZM → Option (Int × ZM)) (x1 : Int) (x2 : Int) (M : ZM) : Option (Int × ZM) :=
  zJ57_40 n zrec4 x1 x2 (-1) M
set_option maxRecDepth 100000 in
set_option maxHeartbeats 4000000 in
theorem zJ57_39_r (n : Nat) (rec4 : Int32 → Int32 → Mem → Option (Int32 × Mem)) (zrec4 : Int → Int → ZM → Option (Int × ZM)) (hrec4 : ∀ {Y1 : Int32} {y1 : Int} (_ : rp Y1 y1) {Y2 : Int32} {y2 : Int} (_ : rp Y2 y2) {M : Mem} {m : ZM} (_ : rm M m) {r : Int} {m' : ZM} (_ : zrec4 y1 y2 m = some (r, m')), sI (rec4 Y1 Y2 M) r m') {X1_ : Int32} {x1 : Int} (hx1 : rp X1_ x1) {X2_ : Int32} {x2 : Int} (hx2 : rp X2_ x2) {M_ : Mem} {M : ZM} (gM : rm M_ M) {r : Int} {m' : ZM} (h : zJ57_39 n zrec4 x1 x2 M = some (r, m')) : sI (J57_39 n rec4 X1_ X2_ M_) r m' := by
  unfold zJ57_39 at h
  unfold J57_39
  exact zJ57_40_r n _ _ hrec4 hx1 hx2 (show rp (-1) (-1) from rfl) gM h
def zL57_4 (n : Nat) : Nat → Int → Int → ZM → Option (Int × ZM)
  | 0, _, _, _ => none
  | k + 1, x1, x2, M => if x2 < 0 ∨ 128 ≤ x2 then (none) else (if (M.1 97 (Int.toNat x2)) = 6 then (if x1 = 0 ∨ x1 = 1 then (some (x1, M)) else (none)) else (if (M.1 97 (Int.toNat x2)) = 7 then (zJ57_26 n (zL57_4 n k) x1 x2 M) else (zJ57_39 n (zL57_4 n k) x1 x2 M)))
set_option maxRecDepth 100000 in
set_option maxHeartbeats 4000000 in
theorem zL57_4_r (n : Nat) : ∀ (k : Nat) {X1_ : Int32} {x1 : Int} (hx1 : rp X1_ x1) {X2_ : Int32} {x2 : Int} (hx2 : rp X2_ x2) {M_ : Mem} {M : ZM} (gM : rm M_ M) {r : Int} {m' : ZM} (_ : zL57_4 n k x1 x2 M = some (r, m')), sI (L57_4 n k X1_ X2_ M_) r m' := by
  intro k
  induction k with
  | zero => intro X1_ x1 hx1 X2_ x2 hx2 M_ M gM r m' h; cases h
  | succ k ih =>
    intro X1_ x1 hx1 X2_ x2 hx2 M_ M gM r m' h
    rw [zL57_4] at h
    rw [L57_4]
    by_cases q1 : x2 < 0 ∨ 128 ≤ x2
    · rw [if_pos q1] at h
      rw [if_pos ((rp_ob hx2 128).mpr q1)]
      cases h
    · rw [if_neg q1] at h
      rw [if_neg (fun z => q1 ((rp_ob hx2 128).mp z))]
      by_cases q2 : (M.1 97 (Int.toNat x2)) = 6
      · rw [if_pos q2] at h
        rw [if_pos ((rp_eq (rm_rdx gM 97 hx2) (show rp 6 6 from rfl)).mpr q2)]
        by_cases q3 : x1 = 0 ∨ x1 = 1
        · rw [if_pos q3] at h
          rw [if_pos ((or_congr (rp_eq hx1 (show rp 0 0 from rfl)) (rp_eq hx1 (show rp 1 1 from rfl))).mpr q3)]
          obtain ⟨rfl, rfl⟩ := Prod.mk.inj (Option.some.inj h)
          exact ⟨_, _, rfl, hx1, gM⟩
        · rw [if_neg q3] at h
          rw [if_neg (fun z => q3 ((or_congr (rp_eq hx1 (show rp 0 0 from rfl)) (rp_eq hx1 (show rp 1 1 from rfl))).mp z))]
          cases h
      · rw [if_neg q2] at h
        rw [if_neg (fun z => q2 ((rp_eq (rm_rdx gM 97 hx2) (show rp 6 6 from rfl)).mp z))]
        rw [if_neg (fun z => q1 ((rp_ob hx2 128).mp z))]
        by_cases q4 : (M.1 97 (Int.toNat x2)) = 7
        · rw [if_pos q4] at h
          rw [if_pos ((rp_eq (rm_rdx gM 97 hx2) (show rp 7 7 from rfl)).mpr q4)]
          exact zJ57_26_r n _ _ ih hx1 hx2 gM h
        · rw [if_neg q4] at h
          rw [if_neg (fun z => q4 ((rp_eq (rm_rdx gM 97 hx2) (show rp 7 7 from rfl)).mp z))]
          exact zJ57_39_r n _ _ ih hx1 hx2 gM h
/-- ArmExpanderModel.usesRight -/
def zF57 (n : Nat) (M : ZM) : Option (Int × ZM) :=
  zL57_4 n n 1 0 M
set_option maxRecDepth 100000 in
set_option maxHeartbeats 4000000 in
theorem zF57_r (n : Nat) {M_ : Mem} {M : ZM} (gM : rm M_ M) {r : Int} {m' : ZM} (h : zF57 n M = some (r, m')) : sI (F57 n M_) r m' := by
  unfold zF57 at h
  unfold F57
  exact zL57_4_r n n (show rp 1 1 from rfl) (show rp 0 0 from rfl) gM h
/-- ArmExpanderModel.definitions -/
def zF59 (n : Nat) (M : ZM) : Option (Int × ZM) :=
  some ((M.1 83 9), M)
set_option maxRecDepth 100000 in
set_option maxHeartbeats 4000000 in
theorem zF59_r (n : Nat) {M_ : Mem} {M : ZM} (gM : rm M_ M) {r : Int} {m' : ZM} (h : zF59 n M = some (r, m')) : sI (F59 n M_) r m' := by
  unfold zF59 at h
  unfold F59
  obtain ⟨rfl, rfl⟩ := Prod.mk.inj (Option.some.inj h)
  exact ⟨_, _, rfl, (rm_rd gM 83 9), gM⟩
def zJ60_24 (n : Nat) (s0 : Int) (M : ZM) : Option (Int × ZM) :=
  some (s0, M)
set_option maxRecDepth 100000 in
set_option maxHeartbeats 4000000 in
theorem zJ60_24_r (n : Nat) {S0_ : Int32} {s0 : Int} (hs0 : rp S0_ s0) {M_ : Mem} {M : ZM} (gM : rm M_ M) {r : Int} {m' : ZM} (h : zJ60_24 n s0 M = some (r, m')) : sI (J60_24 n S0_ M_) r m' := by
  unfold zJ60_24 at h
  unfold J60_24
  obtain ⟨rfl, rfl⟩ := Prod.mk.inj (Option.some.inj h)
  exact ⟨_, _, rfl, hs0, gM⟩
/-- ArmExpanderModel.arms -/
def zF60 (n : Nat) (a0 : Int) (M : ZM) : Option (Int × ZM) :=
  if rg ((M.1 83 9) - 1) then (match zF19 n a0 0 ((M.1 83 9) - 1) M with | some (v1, M2) => (if v1 = 0 then (zJ60_24 n (-1) M2) else (if a0 < 0 ∨ 6 ≤ a0 then (none) else (zJ60_24 n (M2.1 89 (Int.toNat a0)) M2))) | none => none) else none
set_option maxRecDepth 100000 in
set_option maxHeartbeats 4000000 in
theorem zF60_r (n : Nat) {A0_ : Int32} {a0 : Int} (ha0 : rp A0_ a0) {M_ : Mem} {M : ZM} (gM : rm M_ M) {r : Int} {m' : ZM} (h : zF60 n a0 M = some (r, m')) : sI (F60 n A0_ M_) r m' := by
  unfold zF60 at h
  unfold F60
  by_cases w1 : rg ((M.1 83 9) - 1)
  · rw [if_pos w1] at h
    cases hc2 : zF19 n a0 0 ((M.1 83 9) - 1) M with
    | none => rw [hc2] at h; cases h
    | some w =>
      obtain ⟨v1, M2⟩ := w
      rw [hc2] at h
      dsimp only at h
      obtain ⟨V1, NM2, ehc2, hv1, gM2⟩ := zF19_r n ha0 (show rp 0 0 from rfl) (rp_sub (rp_iz (rm_rd gM 83 9)) (rp_iz (show rp 1 1 from rfl)) w1) gM hc2
      rw [ehc2]
      dsimp only
      by_cases q3 : v1 = 0
      · rw [if_pos q3] at h
        rw [if_pos ((rp_eq hv1 (show rp 0 0 from rfl)).mpr q3)]
        exact zJ60_24_r n (show rp (-1) (-1) from rfl) gM2 h
      · rw [if_neg q3] at h
        rw [if_neg (fun z => q3 ((rp_eq hv1 (show rp 0 0 from rfl)).mp z))]
        by_cases q4 : a0 < 0 ∨ 6 ≤ a0
        · rw [if_pos q4] at h
          rw [if_pos ((rp_ob ha0 6).mpr q4)]
          cases h
        · rw [if_neg q4] at h
          rw [if_neg (fun z => q4 ((rp_ob ha0 6).mp z))]
          exact zJ60_24_r n (rm_rdx gM2 89 ha0) gM2 h
  · rw [if_neg w1] at h
    cases h
def zJ61_49 (n : Nat) (zrec4 : Int → Int → ZM → Option (Int × ZM)) (x3 : Int) (s0 : Int) (M : ZM) : Option (Int × ZM) :=
  zrec4 s0 x3 M
set_option maxRecDepth 100000 in
set_option maxHeartbeats 4000000 in
theorem zJ61_49_r (n : Nat) (rec4 : Int32 → Int32 → Mem → Option (Int32 × Mem)) (zrec4 : Int → Int → ZM → Option (Int × ZM)) (hrec4 : ∀ {Y1 : Int32} {y1 : Int} (_ : rp Y1 y1) {Y2 : Int32} {y2 : Int} (_ : rp Y2 y2) {M : Mem} {m : ZM} (_ : rm M m) {r : Int} {m' : ZM} (_ : zrec4 y1 y2 m = some (r, m')), sI (rec4 Y1 Y2 M) r m') {X3_ : Int32} {x3 : Int} (hx3 : rp X3_ x3) {S0_ : Int32} {s0 : Int} (hs0 : rp S0_ s0) {M_ : Mem} {M : ZM} (gM : rm M_ M) {r : Int} {m' : ZM} (h : zJ61_49 n zrec4 x3 s0 M = some (r, m')) : sI (J61_49 n rec4 X3_ S0_ M_) r m' := by
  unfold zJ61_49 at h
  unfold J61_49
  exact hrec4 hs0 hx3 gM h
def zJ61_30 (n : Nat) (zrec4 : Int → Int → ZM → Option (Int × ZM)) (x2 : Int) (x3 : Int) (M : ZM) : Option (Int × ZM) :=
  if x3 < 0 ∨ 320 ≤ x3 then (none) else (match zF22 n (M.1 105 (Int.toNat x3)) M with | some (v8, M9) => (if v8 = 0 then (zJ61_49 n zrec4 x3 x2 M9) else (if rg (x2 - 1) then (zJ61_49 n zrec4 x3 (x2 - 1) M9) else none)) | none => none)
set_option maxRecDepth 100000 in
set_option maxHeartbeats 4000000 in
theorem zJ61_30_r (n : Nat) (rec4 : Int32 → Int32 → Mem → Option (Int32 × Mem)) (zrec4 : Int → Int → ZM → Option (Int × ZM)) (hrec4 : ∀ {Y1 : Int32} {y1 : Int} (_ : rp Y1 y1) {Y2 : Int32} {y2 : Int} (_ : rp Y2 y2) {M : Mem} {m : ZM} (_ : rm M m) {r : Int} {m' : ZM} (_ : zrec4 y1 y2 m = some (r, m')), sI (rec4 Y1 Y2 M) r m') {X2_ : Int32} {x2 : Int} (hx2 : rp X2_ x2) {X3_ : Int32} {x3 : Int} (hx3 : rp X3_ x3) {M_ : Mem} {M : ZM} (gM : rm M_ M) {r : Int} {m' : ZM} (h : zJ61_30 n zrec4 x2 x3 M = some (r, m')) : sI (J61_30 n rec4 X2_ X3_ M_) r m' := by
  unfold zJ61_30 at h
  unfold J61_30
  by_cases q1 : x3 < 0 ∨ 320 ≤ x3
  · rw [if_pos q1] at h
    rw [if_pos ((rp_ob hx3 320).mpr q1)]
    cases h
  · rw [if_neg q1] at h
    rw [if_neg (fun z => q1 ((rp_ob hx3 320).mp z))]
    cases hc2 : zF22 n (M.1 105 (Int.toNat x3)) M with
    | none => rw [hc2] at h; cases h
    | some w =>
      obtain ⟨v8, M9⟩ := w
      rw [hc2] at h
      dsimp only at h
      obtain ⟨V8, NM9, ehc2, hv8, gM9⟩ := zF22_r n (rm_rdx gM 105 hx3) gM hc2
      rw [ehc2]
      dsimp only
      by_cases q3 : v8 = 0
      · rw [if_pos q3] at h
        rw [if_pos ((rp_eq hv8 (show rp 0 0 from rfl)).mpr q3)]
        exact zJ61_49_r n _ _ hrec4 hx3 hx2 gM9 h
      · rw [if_neg q3] at h
        rw [if_neg (fun z => q3 ((rp_eq hv8 (show rp 0 0 from rfl)).mp z))]
        by_cases w4 : rg (x2 - 1)
        · rw [if_pos w4] at h
          exact zJ61_49_r n _ _ hrec4 hx3 (rp_sub (rp_iz hx2) (rp_iz (show rp 1 1 from rfl)) w4) gM9 h
        · rw [if_neg w4] at h
          cases h
def zJ61_24 (n : Nat) (zrec4 : Int → Int → ZM → Option (Int × ZM)) (x2 : Int) (x3 : Int) (M : ZM) : Option (Int × ZM) :=
  if rg (x2 + 1) then (zJ61_49 n zrec4 x3 (x2 + 1) M) else none
set_option maxRecDepth 100000 in
set_option maxHeartbeats 4000000 in
theorem zJ61_24_r (n : Nat) (rec4 : Int32 → Int32 → Mem → Option (Int32 × Mem)) (zrec4 : Int → Int → ZM → Option (Int × ZM)) (hrec4 : ∀ {Y1 : Int32} {y1 : Int} (_ : rp Y1 y1) {Y2 : Int32} {y2 : Int} (_ : rp Y2 y2) {M : Mem} {m : ZM} (_ : rm M m) {r : Int} {m' : ZM} (_ : zrec4 y1 y2 m = some (r, m')), sI (rec4 Y1 Y2 M) r m') {X2_ : Int32} {x2 : Int} (hx2 : rp X2_ x2) {X3_ : Int32} {x3 : Int} (hx3 : rp X3_ x3) {M_ : Mem} {M : ZM} (gM : rm M_ M) {r : Int} {m' : ZM} (h : zJ61_24 n zrec4 x2 x3 M = some (r, m')) : sI (J61_24 n rec4 X2_ X3_ M_) r m' := by
  unfold zJ61_24 at h
  unfold J61_24
  by_cases w1 : rg (x2 + 1)
  · rw [if_pos w1] at h
    exact zJ61_49_r n _ _ hrec4 hx3 (rp_add (rp_iz hx2) (rp_iz (show rp 1 1 from rfl)) w1) gM h
  · rw [if_neg w1] at h
    cases h
def zL61_4 (n : Nat) : Nat → Int → Int → ZM → Option (Int × ZM)
  | 0, _, _, _ => none
  | k + 1, x2, x3, M => if x2 ≤ 0 then (some (x3, M)) else (if rg (x3 + 1) then (if (x3 + 1) < 0 ∨ 320 ≤ (x3 + 1) then (none) else (match zF21 n (M.1 105 (Int.toNat (x3 + 1))) M with | some (v3, M4) => (if v3 = 0 then (zJ61_30 n (zL61_4 n k) x2 (x3 + 1) M4) else (zJ61_24 n (zL61_4 n k) x2 (x3 + 1) M4)) | none => none)) else none)
set_option maxRecDepth 100000 in
set_option maxHeartbeats 4000000 in
theorem zL61_4_r (n : Nat) : ∀ (k : Nat) {X2_ : Int32} {x2 : Int} (hx2 : rp X2_ x2) {X3_ : Int32} {x3 : Int} (hx3 : rp X3_ x3) {M_ : Mem} {M : ZM} (gM : rm M_ M) {r : Int} {m' : ZM} (_ : zL61_4 n k x2 x3 M = some (r, m')), sI (L61_4 n k X2_ X3_ M_) r m' := by
  intro k
  induction k with
  | zero => intro X2_ x2 hx2 X3_ x3 hx3 M_ M gM r m' h; cases h
  | succ k ih =>
    intro X2_ x2 hx2 X3_ x3 hx3 M_ M gM r m' h
    rw [zL61_4] at h
    rw [L61_4]
    by_cases q1 : x2 ≤ 0
    · rw [if_pos q1] at h
      rw [if_pos ((rp_le hx2 (show rp 0 0 from rfl)).mpr q1)]
      obtain ⟨rfl, rfl⟩ := Prod.mk.inj (Option.some.inj h)
      exact ⟨_, _, rfl, hx3, gM⟩
    · rw [if_neg q1] at h
      rw [if_neg (fun z => q1 ((rp_le hx2 (show rp 0 0 from rfl)).mp z))]
      by_cases w2 : rg (x3 + 1)
      · rw [if_pos w2] at h
        by_cases q3 : (x3 + 1) < 0 ∨ 320 ≤ (x3 + 1)
        · rw [if_pos q3] at h
          rw [if_pos ((rp_ob (rp_add (rp_iz hx3) (rp_iz (show rp 1 1 from rfl)) w2) 320).mpr q3)]
          cases h
        · rw [if_neg q3] at h
          rw [if_neg (fun z => q3 ((rp_ob (rp_add (rp_iz hx3) (rp_iz (show rp 1 1 from rfl)) w2) 320).mp z))]
          cases hc4 : zF21 n (M.1 105 (Int.toNat (x3 + 1))) M with
          | none => rw [hc4] at h; cases h
          | some w =>
            obtain ⟨v3, M4⟩ := w
            rw [hc4] at h
            dsimp only at h
            obtain ⟨V3, NM4, ehc4, hv3, gM4⟩ := zF21_r n (rm_rdx gM 105 (rp_add (rp_iz hx3) (rp_iz (show rp 1 1 from rfl)) w2)) gM hc4
            rw [ehc4]
            dsimp only
            by_cases q5 : v3 = 0
            · rw [if_pos q5] at h
              rw [if_pos ((rp_eq hv3 (show rp 0 0 from rfl)).mpr q5)]
              exact zJ61_30_r n _ _ ih hx2 (rp_add (rp_iz hx3) (rp_iz (show rp 1 1 from rfl)) w2) gM4 h
            · rw [if_neg q5] at h
              rw [if_neg (fun z => q5 ((rp_eq hv3 (show rp 0 0 from rfl)).mp z))]
              exact zJ61_24_r n _ _ ih hx2 (rp_add (rp_iz hx3) (rp_iz (show rp 1 1 from rfl)) w2) gM4 h
      · rw [if_neg w2] at h
        cases h
/-- ArmExpanderModel.close -/
def zF61 (n : Nat) (a0 : Int) (M : ZM) : Option (Int × ZM) :=
  zL61_4 n n 1 a0 M
set_option maxRecDepth 100000 in
set_option maxHeartbeats 4000000 in
theorem zF61_r (n : Nat) {A0_ : Int32} {a0 : Int} (ha0 : rp A0_ a0) {M_ : Mem} {M : ZM} (gM : rm M_ M) {r : Int} {m' : ZM} (h : zF61 n a0 M = some (r, m')) : sI (F61 n A0_ M_) r m' := by
  unfold zF61 at h
  unfold F61
  exact zL61_4_r n n (show rp 1 1 from rfl) ha0 gM h
def zJ62_202 (n : Nat) (s0 : Int) (M : ZM) : Option (Int × ZM) :=
  some (s0, M)
set_option maxRecDepth 100000 in
set_option maxHeartbeats 4000000 in
theorem zJ62_202_r (n : Nat) {S0_ : Int32} {s0 : Int} (hs0 : rp S0_ s0) {M_ : Mem} {M : ZM} (gM : rm M_ M) {r : Int} {m' : ZM} (h : zJ62_202 n s0 M = some (r, m')) : sI (J62_202 n S0_ M_) r m' := by
  unfold zJ62_202 at h
  unfold J62_202
  obtain ⟨rfl, rfl⟩ := Prod.mk.inj (Option.some.inj h)
  exact ⟨_, _, rfl, hs0, gM⟩
def zJ62_190 (n : Nat) (x3 : Int) (x6 : Int) (M : ZM) : Option (Int × ZM) :=
  if x6 = 0 then (zJ62_202 n (-1) M) else (if rg (x3 + 1) then (zJ62_202 n (x3 + 1) M) else none)
set_option maxRecDepth 100000 in
set_option maxHeartbeats 4000000 in
theorem zJ62_190_r (n : Nat) {X3_ : Int32} {x3 : Int} (hx3 : rp X3_ x3) {X6_ : Int32} {x6 : Int} (hx6 : rp X6_ x6) {M_ : Mem} {M : ZM} (gM : rm M_ M) {r : Int} {m' : ZM} (h : zJ62_190 n x3 x6 M = some (r, m')) : sI (J62_190 n X3_ X6_ M_) r m' := by
  unfold zJ62_190 at h
  unfold J62_190
  by_cases q1 : x6 = 0
  · rw [if_pos q1] at h
    rw [if_pos ((rp_eq hx6 (show rp 0 0 from rfl)).mpr q1)]
    exact zJ62_202_r n (show rp (-1) (-1) from rfl) gM h
  · rw [if_neg q1] at h
    rw [if_neg (fun z => q1 ((rp_eq hx6 (show rp 0 0 from rfl)).mp z))]
    by_cases w2 : rg (x3 + 1)
    · rw [if_pos w2] at h
      exact zJ62_202_r n (rp_add (rp_iz hx3) (rp_iz (show rp 1 1 from rfl)) w2) gM h
    · rw [if_neg w2] at h
      cases h
def zJ62_184 (n : Nat) (zrec54 : Int → Int → Int → Int → Int → ZM → Option (Int × ZM)) (x3 : Int) (x4 : Int) (x5 : Int) (x6 : Int) (x7 : Int) (M : ZM) : Option (Int × ZM) :=
  if rg (x7 + 1) then (zrec54 x3 x4 x5 x6 (x7 + 1) M) else none
set_option maxRecDepth 100000 in
set_option maxHeartbeats 4000000 in
theorem zJ62_184_r (n : Nat) (rec54 : Int32 → Int32 → Int32 → Int32 → Int32 → Mem → Option (Int32 × Mem)) (zrec54 : Int → Int → Int → Int → Int → ZM → Option (Int × ZM)) (hrec54 : ∀ {Y1 : Int32} {y1 : Int} (_ : rp Y1 y1) {Y2 : Int32} {y2 : Int} (_ : rp Y2 y2) {Y3 : Int32} {y3 : Int} (_ : rp Y3 y3) {Y4 : Int32} {y4 : Int} (_ : rp Y4 y4) {Y5 : Int32} {y5 : Int} (_ : rp Y5 y5) {M : Mem} {m : ZM} (_ : rm M m) {r : Int} {m' : ZM} (_ : zrec54 y1 y2 y3 y4 y5 m = some (r, m')), sI (rec54 Y1 Y2 Y3 Y4 Y5 M) r m') {X3_ : Int32} {x3 : Int} (hx3 : rp X3_ x3) {X4_ : Int32} {x4 : Int} (hx4 : rp X4_ x4) {X5_ : Int32} {x5 : Int} (hx5 : rp X5_ x5) {X6_ : Int32} {x6 : Int} (hx6 : rp X6_ x6) {X7_ : Int32} {x7 : Int} (hx7 : rp X7_ x7) {M_ : Mem} {M : ZM} (gM : rm M_ M) {r : Int} {m' : ZM} (h : zJ62_184 n zrec54 x3 x4 x5 x6 x7 M = some (r, m')) : sI (J62_184 n rec54 X3_ X4_ X5_ X6_ X7_ M_) r m' := by
  unfold zJ62_184 at h
  unfold J62_184
  by_cases w1 : rg (x7 + 1)
  · rw [if_pos w1] at h
    exact hrec54 hx3 hx4 hx5 hx6 (rp_add (rp_iz hx7) (rp_iz (show rp 1 1 from rfl)) w1) gM h
  · rw [if_neg w1] at h
    cases h
def zJ62_122 (n : Nat) (zrec54 : Int → Int → Int → Int → Int → ZM → Option (Int × ZM)) (x3 : Int) (x4 : Int) (x5 : Int) (x7 : Int) (s0 : Int) (M : ZM) : Option (Int × ZM) :=
  zJ62_184 n zrec54 x3 x4 x5 s0 x7 M
set_option maxRecDepth 100000 in
set_option maxHeartbeats 4000000 in
theorem zJ62_122_r (n : Nat) (rec54 : Int32 → Int32 → Int32 → Int32 → Int32 → Mem → Option (Int32 × Mem)) (zrec54 : Int → Int → Int → Int → Int → ZM → Option (Int × ZM)) (hrec54 : ∀ {Y1 : Int32} {y1 : Int} (_ : rp Y1 y1) {Y2 : Int32} {y2 : Int} (_ : rp Y2 y2) {Y3 : Int32} {y3 : Int} (_ : rp Y3 y3) {Y4 : Int32} {y4 : Int} (_ : rp Y4 y4) {Y5 : Int32} {y5 : Int} (_ : rp Y5 y5) {M : Mem} {m : ZM} (_ : rm M m) {r : Int} {m' : ZM} (_ : zrec54 y1 y2 y3 y4 y5 m = some (r, m')), sI (rec54 Y1 Y2 Y3 Y4 Y5 M) r m') {X3_ : Int32} {x3 : Int} (hx3 : rp X3_ x3) {X4_ : Int32} {x4 : Int} (hx4 : rp X4_ x4) {X5_ : Int32} {x5 : Int} (hx5 : rp X5_ x5) {X7_ : Int32} {x7 : Int} (hx7 : rp X7_ x7) {S0_ : Int32} {s0 : Int} (hs0 : rp S0_ s0) {M_ : Mem} {M : ZM} (gM : rm M_ M) {r : Int} {m' : ZM} (h : zJ62_122 n zrec54 x3 x4 x5 x7 s0 M = some (r, m')) : sI (J62_122 n rec54 X3_ X4_ X5_ X7_ S0_ M_) r m' := by
  unfold zJ62_122 at h
  unfold J62_122
  exact zJ62_184_r n _ _ hrec54 hx3 hx4 hx5 hs0 hx7 gM h
def zJ62_121 (n : Nat) (zrec54 : Int → Int → Int → Int → Int → ZM → Option (Int × ZM)) (x3 : Int) (x4 : Int) (x5 : Int) (x7 : Int) (M : ZM) : Option (Int × ZM) :=
  zJ62_122 n zrec54 x3 x4 x5 x7 0 M
set_option maxRecDepth 100000 in
set_option maxHeartbeats 4000000 in
theorem zJ62_121_r (n : Nat) (rec54 : Int32 → Int32 → Int32 → Int32 → Int32 → Mem → Option (Int32 × Mem)) (zrec54 : Int → Int → Int → Int → Int → ZM → Option (Int × ZM)) (hrec54 : ∀ {Y1 : Int32} {y1 : Int} (_ : rp Y1 y1) {Y2 : Int32} {y2 : Int} (_ : rp Y2 y2) {Y3 : Int32} {y3 : Int} (_ : rp Y3 y3) {Y4 : Int32} {y4 : Int} (_ : rp Y4 y4) {Y5 : Int32} {y5 : Int} (_ : rp Y5 y5) {M : Mem} {m : ZM} (_ : rm M m) {r : Int} {m' : ZM} (_ : zrec54 y1 y2 y3 y4 y5 m = some (r, m')), sI (rec54 Y1 Y2 Y3 Y4 Y5 M) r m') {X3_ : Int32} {x3 : Int} (hx3 : rp X3_ x3) {X4_ : Int32} {x4 : Int} (hx4 : rp X4_ x4) {X5_ : Int32} {x5 : Int} (hx5 : rp X5_ x5) {X7_ : Int32} {x7 : Int} (hx7 : rp X7_ x7) {M_ : Mem} {M : ZM} (gM : rm M_ M) {r : Int} {m' : ZM} (h : zJ62_121 n zrec54 x3 x4 x5 x7 M = some (r, m')) : sI (J62_121 n rec54 X3_ X4_ X5_ X7_ M_) r m' := by
  unfold zJ62_121 at h
  unfold J62_121
  exact zJ62_122_r n _ _ hrec54 hx3 hx4 hx5 hx7 (show rp 0 0 from rfl) gM h
def zJ62_150 (n : Nat) (zrec54 : Int → Int → Int → Int → Int → ZM → Option (Int × ZM)) (x3 : Int) (x4 : Int) (x5 : Int) (x7 : Int) (s0 : Int) (M : ZM) : Option (Int × ZM) :=
  zJ62_184 n zrec54 x3 x4 x5 s0 x7 M
set_option maxRecDepth 100000 in
set_option maxHeartbeats 4000000 in
theorem zJ62_150_r (n : Nat) (rec54 : Int32 → Int32 → Int32 → Int32 → Int32 → Mem → Option (Int32 × Mem)) (zrec54 : Int → Int → Int → Int → Int → ZM → Option (Int × ZM)) (hrec54 : ∀ {Y1 : Int32} {y1 : Int} (_ : rp Y1 y1) {Y2 : Int32} {y2 : Int} (_ : rp Y2 y2) {Y3 : Int32} {y3 : Int} (_ : rp Y3 y3) {Y4 : Int32} {y4 : Int} (_ : rp Y4 y4) {Y5 : Int32} {y5 : Int} (_ : rp Y5 y5) {M : Mem} {m : ZM} (_ : rm M m) {r : Int} {m' : ZM} (_ : zrec54 y1 y2 y3 y4 y5 m = some (r, m')), sI (rec54 Y1 Y2 Y3 Y4 Y5 M) r m') {X3_ : Int32} {x3 : Int} (hx3 : rp X3_ x3) {X4_ : Int32} {x4 : Int} (hx4 : rp X4_ x4) {X5_ : Int32} {x5 : Int} (hx5 : rp X5_ x5) {X7_ : Int32} {x7 : Int} (hx7 : rp X7_ x7) {S0_ : Int32} {s0 : Int} (hs0 : rp S0_ s0) {M_ : Mem} {M : ZM} (gM : rm M_ M) {r : Int} {m' : ZM} (h : zJ62_150 n zrec54 x3 x4 x5 x7 s0 M = some (r, m')) : sI (J62_150 n rec54 X3_ X4_ X5_ X7_ S0_ M_) r m' := by
  unfold zJ62_150 at h
  unfold J62_150
  exact zJ62_184_r n _ _ hrec54 hx3 hx4 hx5 hs0 hx7 gM h
def zJ62_179 (n : Nat) (zrec54 : Int → Int → Int → Int → Int → ZM → Option (Int × ZM)) (x3 : Int) (x4 : Int) (x7 : Int) (s0 : Int) (M : ZM) : Option (Int × ZM) :=
  zJ62_184 n zrec54 x3 x4 1 s0 x7 M
set_option maxRecDepth 100000 in
set_option maxHeartbeats 4000000 in
theorem zJ62_179_r (n : Nat) (rec54 : Int32 → Int32 → Int32 → Int32 → Int32 → Mem → Option (Int32 × Mem)) (zrec54 : Int → Int → Int → Int → Int → ZM → Option (Int × ZM)) (hrec54 : ∀ {Y1 : Int32} {y1 : Int} (_ : rp Y1 y1) {Y2 : Int32} {y2 : Int} (_ : rp Y2 y2) {Y3 : Int32} {y3 : Int} (_ : rp Y3 y3) {Y4 : Int32} {y4 : Int} (_ : rp Y4 y4) {Y5 : Int32} {y5 : Int} (_ : rp Y5 y5) {M : Mem} {m : ZM} (_ : rm M m) {r : Int} {m' : ZM} (_ : zrec54 y1 y2 y3 y4 y5 m = some (r, m')), sI (rec54 Y1 Y2 Y3 Y4 Y5 M) r m') {X3_ : Int32} {x3 : Int} (hx3 : rp X3_ x3) {X4_ : Int32} {x4 : Int} (hx4 : rp X4_ x4) {X7_ : Int32} {x7 : Int} (hx7 : rp X7_ x7) {S0_ : Int32} {s0 : Int} (hs0 : rp S0_ s0) {M_ : Mem} {M : ZM} (gM : rm M_ M) {r : Int} {m' : ZM} (h : zJ62_179 n zrec54 x3 x4 x7 s0 M = some (r, m')) : sI (J62_179 n rec54 X3_ X4_ X7_ S0_ M_) r m' := by
  unfold zJ62_179 at h
  unfold J62_179
  exact zJ62_184_r n _ _ hrec54 hx3 hx4 (show rp 1 1 from rfl) hs0 hx7 gM h
def zJ62_174 (n : Nat) (zrec54 : Int → Int → Int → Int → Int → ZM → Option (Int × ZM)) (x3 : Int) (x4 : Int) (x7 : Int) (M : ZM) : Option (Int × ZM) :=
  zJ62_179 n zrec54 x3 x4 x7 1 M
set_option maxRecDepth 100000 in
set_option maxHeartbeats 4000000 in
theorem zJ62_174_r (n : Nat) (rec54 : Int32 → Int32 → Int32 → Int32 → Int32 → Mem → Option (Int32 × Mem)) (zrec54 : Int → Int → Int → Int → Int → ZM → Option (Int × ZM)) (hrec54 : ∀ {Y1 : Int32} {y1 : Int} (_ : rp Y1 y1) {Y2 : Int32} {y2 : Int} (_ : rp Y2 y2) {Y3 : Int32} {y3 : Int} (_ : rp Y3 y3) {Y4 : Int32} {y4 : Int} (_ : rp Y4 y4) {Y5 : Int32} {y5 : Int} (_ : rp Y5 y5) {M : Mem} {m : ZM} (_ : rm M m) {r : Int} {m' : ZM} (_ : zrec54 y1 y2 y3 y4 y5 m = some (r, m')), sI (rec54 Y1 Y2 Y3 Y4 Y5 M) r m') {X3_ : Int32} {x3 : Int} (hx3 : rp X3_ x3) {X4_ : Int32} {x4 : Int} (hx4 : rp X4_ x4) {X7_ : Int32} {x7 : Int} (hx7 : rp X7_ x7) {M_ : Mem} {M : ZM} (gM : rm M_ M) {r : Int} {m' : ZM} (h : zJ62_174 n zrec54 x3 x4 x7 M = some (r, m')) : sI (J62_174 n rec54 X3_ X4_ X7_ M_) r m' := by
  unfold zJ62_174 at h
  unfold J62_174
  exact zJ62_179_r n _ _ hrec54 hx3 hx4 hx7 (show rp 1 1 from rfl) gM h
def zJ62_178 (n : Nat) (zrec54 : Int → Int → Int → Int → Int → ZM → Option (Int × ZM)) (x3 : Int) (x4 : Int) (x7 : Int) (M : ZM) : Option (Int × ZM) :=
  zJ62_179 n zrec54 x3 x4 x7 0 M
set_option maxRecDepth 100000 in
set_option maxHeartbeats 4000000 in
theorem zJ62_178_r (n : Nat) (rec54 : Int32 → Int32 → Int32 → Int32 → Int32 → Mem → Option (Int32 × Mem)) (zrec54 : Int → Int → Int → Int → Int → ZM → Option (Int × ZM)) (hrec54 : ∀ {Y1 : Int32} {y1 : Int} (_ : rp Y1 y1) {Y2 : Int32} {y2 : Int} (_ : rp Y2 y2) {Y3 : Int32} {y3 : Int} (_ : rp Y3 y3) {Y4 : Int32} {y4 : Int} (_ : rp Y4 y4) {Y5 : Int32} {y5 : Int} (_ : rp Y5 y5) {M : Mem} {m : ZM} (_ : rm M m) {r : Int} {m' : ZM} (_ : zrec54 y1 y2 y3 y4 y5 m = some (r, m')), sI (rec54 Y1 Y2 Y3 Y4 Y5 M) r m') {X3_ : Int32} {x3 : Int} (hx3 : rp X3_ x3) {X4_ : Int32} {x4 : Int} (hx4 : rp X4_ x4) {X7_ : Int32} {x7 : Int} (hx7 : rp X7_ x7) {M_ : Mem} {M : ZM} (gM : rm M_ M) {r : Int} {m' : ZM} (h : zJ62_178 n zrec54 x3 x4 x7 M = some (r, m')) : sI (J62_178 n rec54 X3_ X4_ X7_ M_) r m' := by
  unfold zJ62_178 at h
  unfold J62_178
  exact zJ62_179_r n _ _ hrec54 hx3 hx4 hx7 (show rp 0 0 from rfl) gM h
def zJ62_92 (n : Nat) (zrec54 : Int → Int → Int → Int → Int → ZM → Option (Int × ZM)) (x3 : Int) (x4 : Int) (x5 : Int) (x7 : Int) (x8 : Int) (M : ZM) : Option (Int × ZM) :=
  if x8 = 40 then (if x5 = 0 then (if rg (x4 + 1) then (zJ62_121 n zrec54 x3 (x4 + 1) x5 x7 M) else none) else (if rg (x4 + 1) then (if 6 < (x4 + 1) then (zJ62_121 n zrec54 x3 (x4 + 1) x5 x7 M) else (zJ62_122 n zrec54 x3 (x4 + 1) x5 x7 1 M)) else none)) else (if x8 = 41 then (if x5 = 0 then (if rg (x4 - 1) then (zJ62_150 n zrec54 x3 (x4 - 1) x5 x7 1 M) else none) else (if rg (x4 - 1) then (zJ62_150 n zrec54 x3 (x4 - 1) x5 x7 0 M) else none)) else (if x5 = 0 then (if x8 = 43 then (zJ62_174 n zrec54 x3 x4 x7 M) else (if x8 = 42 then (zJ62_174 n zrec54 x3 x4 x7 M) else (zJ62_178 n zrec54 x3 x4 x7 M))) else (zJ62_178 n zrec54 x3 x4 x7 M)))
set_option maxRecDepth 100000 in
set_option maxHeartbeats 4000000 in
theorem zJ62_92_r (n : Nat) (rec54 : Int32 → Int32 → Int32 → Int32 → Int32 → Mem → Option (Int32 × Mem)) (zrec54 : Int → Int → Int → Int → Int → ZM → Option (Int × ZM)) (hrec54 : ∀ {Y1 : Int32} {y1 : Int} (_ : rp Y1 y1) {Y2 : Int32} {y2 : Int} (_ : rp Y2 y2) {Y3 : Int32} {y3 : Int} (_ : rp Y3 y3) {Y4 : Int32} {y4 : Int} (_ : rp Y4 y4) {Y5 : Int32} {y5 : Int} (_ : rp Y5 y5) {M : Mem} {m : ZM} (_ : rm M m) {r : Int} {m' : ZM} (_ : zrec54 y1 y2 y3 y4 y5 m = some (r, m')), sI (rec54 Y1 Y2 Y3 Y4 Y5 M) r m') {X3_ : Int32} {x3 : Int} (hx3 : rp X3_ x3) {X4_ : Int32} {x4 : Int} (hx4 : rp X4_ x4) {X5_ : Int32} {x5 : Int} (hx5 : rp X5_ x5) {X7_ : Int32} {x7 : Int} (hx7 : rp X7_ x7) {X8_ : Int32} {x8 : Int} (hx8 : rp X8_ x8) {M_ : Mem} {M : ZM} (gM : rm M_ M) {r : Int} {m' : ZM} (h : zJ62_92 n zrec54 x3 x4 x5 x7 x8 M = some (r, m')) : sI (J62_92 n rec54 X3_ X4_ X5_ X7_ X8_ M_) r m' := by
  unfold zJ62_92 at h
  unfold J62_92
  by_cases q1 : x8 = 40
  · rw [if_pos q1] at h
    rw [if_pos ((rp_eq hx8 (show rp 40 40 from rfl)).mpr q1)]
    by_cases q2 : x5 = 0
    · rw [if_pos q2] at h
      rw [if_pos ((rp_eq hx5 (show rp 0 0 from rfl)).mpr q2)]
      by_cases w3 : rg (x4 + 1)
      · rw [if_pos w3] at h
        exact zJ62_121_r n _ _ hrec54 hx3 (rp_add (rp_iz hx4) (rp_iz (show rp 1 1 from rfl)) w3) hx5 hx7 gM h
      · rw [if_neg w3] at h
        cases h
    · rw [if_neg q2] at h
      rw [if_neg (fun z => q2 ((rp_eq hx5 (show rp 0 0 from rfl)).mp z))]
      by_cases w4 : rg (x4 + 1)
      · rw [if_pos w4] at h
        by_cases q5 : 6 < (x4 + 1)
        · rw [if_pos q5] at h
          rw [if_pos ((rp_lt (show rp 6 6 from rfl) (rp_add (rp_iz hx4) (rp_iz (show rp 1 1 from rfl)) w4)).mpr q5)]
          exact zJ62_121_r n _ _ hrec54 hx3 (rp_add (rp_iz hx4) (rp_iz (show rp 1 1 from rfl)) w4) hx5 hx7 gM h
        · rw [if_neg q5] at h
          rw [if_neg (fun z => q5 ((rp_lt (show rp 6 6 from rfl) (rp_add (rp_iz hx4) (rp_iz (show rp 1 1 from rfl)) w4)).mp z))]
          exact zJ62_122_r n _ _ hrec54 hx3 (rp_add (rp_iz hx4) (rp_iz (show rp 1 1 from rfl)) w4) hx5 hx7 (show rp 1 1 from rfl) gM h
      · rw [if_neg w4] at h
        cases h
  · rw [if_neg q1] at h
    rw [if_neg (fun z => q1 ((rp_eq hx8 (show rp 40 40 from rfl)).mp z))]
    by_cases q6 : x8 = 41
    · rw [if_pos q6] at h
      rw [if_pos ((rp_eq hx8 (show rp 41 41 from rfl)).mpr q6)]
      by_cases q7 : x5 = 0
      · rw [if_pos q7] at h
        rw [if_pos ((rp_eq hx5 (show rp 0 0 from rfl)).mpr q7)]
        by_cases w8 : rg (x4 - 1)
        · rw [if_pos w8] at h
          exact zJ62_150_r n _ _ hrec54 hx3 (rp_sub (rp_iz hx4) (rp_iz (show rp 1 1 from rfl)) w8) hx5 hx7 (show rp 1 1 from rfl) gM h
        · rw [if_neg w8] at h
          cases h
      · rw [if_neg q7] at h
        rw [if_neg (fun z => q7 ((rp_eq hx5 (show rp 0 0 from rfl)).mp z))]
        by_cases w9 : rg (x4 - 1)
        · rw [if_pos w9] at h
          exact zJ62_150_r n _ _ hrec54 hx3 (rp_sub (rp_iz hx4) (rp_iz (show rp 1 1 from rfl)) w9) hx5 hx7 (show rp 0 0 from rfl) gM h
        · rw [if_neg w9] at h
          cases h
    · rw [if_neg q6] at h
      rw [if_neg (fun z => q6 ((rp_eq hx8 (show rp 41 41 from rfl)).mp z))]
      by_cases q10 : x5 = 0
      · rw [if_pos q10] at h
        rw [if_pos ((rp_eq hx5 (show rp 0 0 from rfl)).mpr q10)]
        by_cases q11 : x8 = 43
        · rw [if_pos q11] at h
          rw [if_pos ((rp_eq hx8 (show rp 43 43 from rfl)).mpr q11)]
          exact zJ62_174_r n _ _ hrec54 hx3 hx4 hx7 gM h
        · rw [if_neg q11] at h
          rw [if_neg (fun z => q11 ((rp_eq hx8 (show rp 43 43 from rfl)).mp z))]
          by_cases q12 : x8 = 42
          · rw [if_pos q12] at h
            rw [if_pos ((rp_eq hx8 (show rp 42 42 from rfl)).mpr q12)]
            exact zJ62_174_r n _ _ hrec54 hx3 hx4 hx7 gM h
          · rw [if_neg q12] at h
            rw [if_neg (fun z => q12 ((rp_eq hx8 (show rp 42 42 from rfl)).mp z))]
            exact zJ62_178_r n _ _ hrec54 hx3 hx4 hx7 gM h
      · rw [if_neg q10] at h
        rw [if_neg (fun z => q10 ((rp_eq hx5 (show rp 0 0 from rfl)).mp z))]
        exact zJ62_178_r n _ _ hrec54 hx3 hx4 hx7 gM h
def zJ62_82 (n : Nat) (zrec54 : Int → Int → Int → Int → Int → ZM → Option (Int × ZM)) (x3 : Int) (x4 : Int) (x5 : Int) (x7 : Int) (M : ZM) : Option (Int × ZM) :=
  zJ62_184 n zrec54 x3 x4 0 x5 x7 M
set_option maxRecDepth 100000 in
set_option maxHeartbeats 4000000 in
theorem zJ62_82_r (n : Nat) (rec54 : Int32 → Int32 → Int32 → Int32 → Int32 → Mem → Option (Int32 × Mem)) (zrec54 : Int → Int → Int → Int → Int → ZM → Option (Int × ZM)) (hrec54 : ∀ {Y1 : Int32} {y1 : Int} (_ : rp Y1 y1) {Y2 : Int32} {y2 : Int} (_ : rp Y2 y2) {Y3 : Int32} {y3 : Int} (_ : rp Y3 y3) {Y4 : Int32} {y4 : Int} (_ : rp Y4 y4) {Y5 : Int32} {y5 : Int} (_ : rp Y5 y5) {M : Mem} {m : ZM} (_ : rm M m) {r : Int} {m' : ZM} (_ : zrec54 y1 y2 y3 y4 y5 m = some (r, m')), sI (rec54 Y1 Y2 Y3 Y4 Y5 M) r m') {X3_ : Int32} {x3 : Int} (hx3 : rp X3_ x3) {X4_ : Int32} {x4 : Int} (hx4 : rp X4_ x4) {X5_ : Int32} {x5 : Int} (hx5 : rp X5_ x5) {X7_ : Int32} {x7 : Int} (hx7 : rp X7_ x7) {M_ : Mem} {M : ZM} (gM : rm M_ M) {r : Int} {m' : ZM} (h : zJ62_82 n zrec54 x3 x4 x5 x7 M = some (r, m')) : sI (J62_82 n rec54 X3_ X4_ X5_ X7_ M_) r m' := by
  unfold zJ62_82 at h
  unfold J62_82
  exact zJ62_184_r n _ _ hrec54 hx3 hx4 (show rp 0 0 from rfl) hx5 hx7 gM h
def zL62_54 (n : Nat) : Nat → Int → Int → Int → Int → Int → ZM → Option (Int × ZM)
  | 0, _, _, _, _, _, _ => none
  | k + 1, x3, x4, x5, x6, x7, M => if x3 < x7 then (zJ62_190 n x3 x6 M) else (if x6 = 0 then (zJ62_190 n x3 x6 M) else (if x7 < 0 ∨ 320 ≤ x7 then (none) else (if (M.1 105 (Int.toNat x7)) < 300 then (zJ62_92 n (zL62_54 n k) x3 x4 x5 x7 (M.1 105 (Int.toNat x7)) M) else (zJ62_82 n (zL62_54 n k) x3 x4 x5 x7 M))))
set_option maxRecDepth 100000 in
set_option maxHeartbeats 4000000 in
theorem zL62_54_r (n : Nat) : ∀ (k : Nat) {X3_ : Int32} {x3 : Int} (hx3 : rp X3_ x3) {X4_ : Int32} {x4 : Int} (hx4 : rp X4_ x4) {X5_ : Int32} {x5 : Int} (hx5 : rp X5_ x5) {X6_ : Int32} {x6 : Int} (hx6 : rp X6_ x6) {X7_ : Int32} {x7 : Int} (hx7 : rp X7_ x7) {M_ : Mem} {M : ZM} (gM : rm M_ M) {r : Int} {m' : ZM} (_ : zL62_54 n k x3 x4 x5 x6 x7 M = some (r, m')), sI (L62_54 n k X3_ X4_ X5_ X6_ X7_ M_) r m' := by
  intro k
  induction k with
  | zero => intro X3_ x3 hx3 X4_ x4 hx4 X5_ x5 hx5 X6_ x6 hx6 X7_ x7 hx7 M_ M gM r m' h; cases h
  | succ k ih =>
    intro X3_ x3 hx3 X4_ x4 hx4 X5_ x5 hx5 X6_ x6 hx6 X7_ x7 hx7 M_ M gM r m' h
    rw [zL62_54] at h
    rw [L62_54]
    by_cases q1 : x3 < x7
    · rw [if_pos q1] at h
      rw [if_pos ((rp_lt hx3 hx7).mpr q1)]
      exact zJ62_190_r n hx3 hx6 gM h
    · rw [if_neg q1] at h
      rw [if_neg (fun z => q1 ((rp_lt hx3 hx7).mp z))]
      by_cases q2 : x6 = 0
      · rw [if_pos q2] at h
        rw [if_pos ((rp_eq hx6 (show rp 0 0 from rfl)).mpr q2)]
        exact zJ62_190_r n hx3 hx6 gM h
      · rw [if_neg q2] at h
        rw [if_neg (fun z => q2 ((rp_eq hx6 (show rp 0 0 from rfl)).mp z))]
        by_cases q3 : x7 < 0 ∨ 320 ≤ x7
        · rw [if_pos q3] at h
          rw [if_pos ((rp_ob hx7 320).mpr q3)]
          cases h
        · rw [if_neg q3] at h
          rw [if_neg (fun z => q3 ((rp_ob hx7 320).mp z))]
          by_cases q4 : (M.1 105 (Int.toNat x7)) < 300
          · rw [if_pos q4] at h
            rw [if_pos ((rp_lt (rm_rdx gM 105 hx7) (show rp 300 300 from rfl)).mpr q4)]
            exact zJ62_92_r n _ _ ih hx3 hx4 hx5 hx7 (rm_rdx gM 105 hx7) gM h
          · rw [if_neg q4] at h
            rw [if_neg (fun z => q4 ((rp_lt (rm_rdx gM 105 hx7) (show rp 300 300 from rfl)).mp z))]
            exact zJ62_82_r n _ _ ih hx3 hx4 hx5 hx7 gM h
def zJ62_36 (n : Nat) (x1 : Int) (M : ZM) : Option (Int × ZM) :=
  match zF61 n x1 M with | some (v6, M7) => (zL62_54 n n v6 0 1 1 x1 M7) | none => none
set_option maxRecDepth 100000 in
set_option maxHeartbeats 4000000 in
theorem zJ62_36_r (n : Nat) {X1_ : Int32} {x1 : Int} (hx1 : rp X1_ x1) {M_ : Mem} {M : ZM} (gM : rm M_ M) {r : Int} {m' : ZM} (h : zJ62_36 n x1 M = some (r, m')) : sI (J62_36 n X1_ M_) r m' := by
  unfold zJ62_36 at h
  unfold J62_36
  cases hc1 : zF61 n x1 M with
  | none => rw [hc1] at h; cases h
  | some w =>
    obtain ⟨v6, M7⟩ := w
    rw [hc1] at h
    dsimp only at h
    obtain ⟨V6, NM7, ehc1, hv6, gM7⟩ := zF61_r n hx1 gM hc1
    rw [ehc1]
    dsimp only
    exact zL62_54_r n n hv6 (show rp 0 0 from rfl) (show rp 1 1 from rfl) (show rp 1 1 from rfl) hx1 gM7 h
def zJ62_34 (n : Nat) (M : ZM) : Option (Int × ZM) :=
  some ((-1), M)
set_option maxRecDepth 100000 in
set_option maxHeartbeats 4000000 in
theorem zJ62_34_r (n : Nat) {M_ : Mem} {M : ZM} (gM : rm M_ M) {r : Int} {m' : ZM} (h : zJ62_34 n M = some (r, m')) : sI (J62_34 n M_) r m' := by
  unfold zJ62_34 at h
  unfold J62_34
  obtain ⟨rfl, rfl⟩ := Prod.mk.inj (Option.some.inj h)
  exact ⟨_, _, rfl, (show rp (-1) (-1) from rfl), gM⟩
/-- ArmExpanderModel.operand -/
def zF62 (n : Nat) (a0 : Int) (a1 : Int) (M : ZM) : Option (Int × ZM) :=
  if a0 < a1 then (if a0 < 0 ∨ 320 ≤ a0 then (none) else (if (M.1 105 (Int.toNat a0)) < 300 then (if (M.1 105 (Int.toNat a0)) = 40 then (zJ62_36 n a0 M) else (zJ62_34 n M)) else (if rg (a0 + 1) then (some ((a0 + 1), M)) else none))) else (some ((-1), M))
set_option maxRecDepth 100000 in
set_option maxHeartbeats 4000000 in
theorem zF62_r (n : Nat) {A0_ : Int32} {a0 : Int} (ha0 : rp A0_ a0) {A1_ : Int32} {a1 : Int} (ha1 : rp A1_ a1) {M_ : Mem} {M : ZM} (gM : rm M_ M) {r : Int} {m' : ZM} (h : zF62 n a0 a1 M = some (r, m')) : sI (F62 n A0_ A1_ M_) r m' := by
  unfold zF62 at h
  unfold F62
  by_cases q1 : a0 < a1
  · rw [if_pos q1] at h
    rw [if_pos ((rp_lt ha0 ha1).mpr q1)]
    by_cases q2 : a0 < 0 ∨ 320 ≤ a0
    · rw [if_pos q2] at h
      rw [if_pos ((rp_ob ha0 320).mpr q2)]
      cases h
    · rw [if_neg q2] at h
      rw [if_neg (fun z => q2 ((rp_ob ha0 320).mp z))]
      by_cases q3 : (M.1 105 (Int.toNat a0)) < 300
      · rw [if_pos q3] at h
        rw [if_pos ((rp_lt (rm_rdx gM 105 ha0) (show rp 300 300 from rfl)).mpr q3)]
        rw [if_neg (fun z => q2 ((rp_ob ha0 320).mp z))]
        by_cases q4 : (M.1 105 (Int.toNat a0)) = 40
        · rw [if_pos q4] at h
          rw [if_pos ((rp_eq (rm_rdx gM 105 ha0) (show rp 40 40 from rfl)).mpr q4)]
          exact zJ62_36_r n ha0 gM h
        · rw [if_neg q4] at h
          rw [if_neg (fun z => q4 ((rp_eq (rm_rdx gM 105 ha0) (show rp 40 40 from rfl)).mp z))]
          exact zJ62_34_r n gM h
      · rw [if_neg q3] at h
        rw [if_neg (fun z => q3 ((rp_lt (rm_rdx gM 105 ha0) (show rp 300 300 from rfl)).mp z))]
        by_cases w5 : rg (a0 + 1)
        · rw [if_pos w5] at h
          obtain ⟨rfl, rfl⟩ := Prod.mk.inj (Option.some.inj h)
          exact ⟨_, _, rfl, (rp_add (rp_iz ha0) (rp_iz (show rp 1 1 from rfl)) w5), gM⟩
        · rw [if_neg w5] at h
          cases h
  · rw [if_neg q1] at h
    rw [if_neg (fun z => q1 ((rp_lt ha0 ha1).mp z))]
    obtain ⟨rfl, rfl⟩ := Prod.mk.inj (Option.some.inj h)
    exact ⟨_, _, rfl, (show rp (-1) (-1) from rfl), gM⟩
def zJ63_87 (n : Nat) (zrec18 : Int → Int → Int → ZM → Option (Int × ZM)) (x2 : Int) (x4 : Int) (s0 : Int) (M : ZM) : Option (Int × ZM) :=
  zrec18 x2 s0 x4 M
set_option maxRecDepth 100000 in
set_option maxHeartbeats 4000000 in
theorem zJ63_87_r (n : Nat) (rec18 : Int32 → Int32 → Int32 → Mem → Option (Int32 × Mem)) (zrec18 : Int → Int → Int → ZM → Option (Int × ZM)) (hrec18 : ∀ {Y1 : Int32} {y1 : Int} (_ : rp Y1 y1) {Y2 : Int32} {y2 : Int} (_ : rp Y2 y2) {Y3 : Int32} {y3 : Int} (_ : rp Y3 y3) {M : Mem} {m : ZM} (_ : rm M m) {r : Int} {m' : ZM} (_ : zrec18 y1 y2 y3 m = some (r, m')), sI (rec18 Y1 Y2 Y3 M) r m') {X2_ : Int32} {x2 : Int} (hx2 : rp X2_ x2) {X4_ : Int32} {x4 : Int} (hx4 : rp X4_ x4) {S0_ : Int32} {s0 : Int} (hs0 : rp S0_ s0) {M_ : Mem} {M : ZM} (gM : rm M_ M) {r : Int} {m' : ZM} (h : zJ63_87 n zrec18 x2 x4 s0 M = some (r, m')) : sI (J63_87 n rec18 X2_ X4_ S0_ M_) r m' := by
  unfold zJ63_87 at h
  unfold J63_87
  exact hrec18 hx2 hs0 hx4 gM h
def zJ63_74 (n : Nat) (zrec18 : Int → Int → Int → ZM → Option (Int × ZM)) (x2 : Int) (x3 : Int) (x5 : Int) (s0 : Int) (M : ZM) : Option (Int × ZM) :=
  if s0 = 0 then (zJ63_87 n zrec18 x2 s0 x3 M) else (zJ63_87 n zrec18 x2 s0 x5 M)
set_option maxRecDepth 100000 in
set_option maxHeartbeats 4000000 in
theorem zJ63_74_r (n : Nat) (rec18 : Int32 → Int32 → Int32 → Mem → Option (Int32 × Mem)) (zrec18 : Int → Int → Int → ZM → Option (Int × ZM)) (hrec18 : ∀ {Y1 : Int32} {y1 : Int} (_ : rp Y1 y1) {Y2 : Int32} {y2 : Int} (_ : rp Y2 y2) {Y3 : Int32} {y3 : Int} (_ : rp Y3 y3) {M : Mem} {m : ZM} (_ : rm M m) {r : Int} {m' : ZM} (_ : zrec18 y1 y2 y3 m = some (r, m')), sI (rec18 Y1 Y2 Y3 M) r m') {X2_ : Int32} {x2 : Int} (hx2 : rp X2_ x2) {X3_ : Int32} {x3 : Int} (hx3 : rp X3_ x3) {X5_ : Int32} {x5 : Int} (hx5 : rp X5_ x5) {S0_ : Int32} {s0 : Int} (hs0 : rp S0_ s0) {M_ : Mem} {M : ZM} (gM : rm M_ M) {r : Int} {m' : ZM} (h : zJ63_74 n zrec18 x2 x3 x5 s0 M = some (r, m')) : sI (J63_74 n rec18 X2_ X3_ X5_ S0_ M_) r m' := by
  unfold zJ63_74 at h
  unfold J63_74
  by_cases q1 : s0 = 0
  · rw [if_pos q1] at h
    rw [if_pos ((rp_eq hs0 (show rp 0 0 from rfl)).mpr q1)]
    exact zJ63_87_r n _ _ hrec18 hx2 hs0 hx3 gM h
  · rw [if_neg q1] at h
    rw [if_neg (fun z => q1 ((rp_eq hs0 (show rp 0 0 from rfl)).mp z))]
    exact zJ63_87_r n _ _ hrec18 hx2 hs0 hx5 gM h
def zJ63_62 (n : Nat) (zrec18 : Int → Int → Int → ZM → Option (Int × ZM)) (x2 : Int) (x3 : Int) (s0 : Int) (M : ZM) : Option (Int × ZM) :=
  if s0 < 0 then (zJ63_74 n zrec18 x2 x3 s0 0 M) else (zJ63_74 n zrec18 x2 x3 s0 1 M)
set_option maxRecDepth 100000 in
set_option maxHeartbeats 4000000 in
theorem zJ63_62_r (n : Nat) (rec18 : Int32 → Int32 → Int32 → Mem → Option (Int32 × Mem)) (zrec18 : Int → Int → Int → ZM → Option (Int × ZM)) (hrec18 : ∀ {Y1 : Int32} {y1 : Int} (_ : rp Y1 y1) {Y2 : Int32} {y2 : Int} (_ : rp Y2 y2) {Y3 : Int32} {y3 : Int} (_ : rp Y3 y3) {M : Mem} {m : ZM} (_ : rm M m) {r : Int} {m' : ZM} (_ : zrec18 y1 y2 y3 m = some (r, m')), sI (rec18 Y1 Y2 Y3 M) r m') {X2_ : Int32} {x2 : Int} (hx2 : rp X2_ x2) {X3_ : Int32} {x3 : Int} (hx3 : rp X3_ x3) {S0_ : Int32} {s0 : Int} (hs0 : rp S0_ s0) {M_ : Mem} {M : ZM} (gM : rm M_ M) {r : Int} {m' : ZM} (h : zJ63_62 n zrec18 x2 x3 s0 M = some (r, m')) : sI (J63_62 n rec18 X2_ X3_ S0_ M_) r m' := by
  unfold zJ63_62 at h
  unfold J63_62
  by_cases q1 : s0 < 0
  · rw [if_pos q1] at h
    rw [if_pos ((rp_lt hs0 (show rp 0 0 from rfl)).mpr q1)]
    exact zJ63_74_r n _ _ hrec18 hx2 hx3 hs0 (show rp 0 0 from rfl) gM h
  · rw [if_neg q1] at h
    rw [if_neg (fun z => q1 ((rp_lt hs0 (show rp 0 0 from rfl)).mp z))]
    exact zJ63_74_r n _ _ hrec18 hx2 hx3 hs0 (show rp 1 1 from rfl) gM h
def zJ63_61 (n : Nat) (zrec18 : Int → Int → Int → ZM → Option (Int × ZM)) (x2 : Int) (x3 : Int) (M : ZM) : Option (Int × ZM) :=
  zJ63_62 n zrec18 x2 x3 (-1) M
set_option maxRecDepth 100000 in
set_option maxHeartbeats 4000000 in
theorem zJ63_61_r (n : Nat) (rec18 : Int32 → Int32 → Int32 → Mem → Option (Int32 × Mem)) (zrec18 : Int → Int → Int → ZM → Option (Int × ZM)) (hrec18 : ∀ {Y1 : Int32} {y1 : Int} (_ : rp Y1 y1) {Y2 : Int32} {y2 : Int} (_ : rp Y2 y2) {Y3 : Int32} {y3 : Int} (_ : rp Y3 y3) {M : Mem} {m : ZM} (_ : rm M m) {r : Int} {m' : ZM} (_ : zrec18 y1 y2 y3 m = some (r, m')), sI (rec18 Y1 Y2 Y3 M) r m') {X2_ : Int32} {x2 : Int} (hx2 : rp X2_ x2) {X3_ : Int32} {x3 : Int} (hx3 : rp X3_ x3) {M_ : Mem} {M : ZM} (gM : rm M_ M) {r : Int} {m' : ZM} (h : zJ63_61 n zrec18 x2 x3 M = some (r, m')) : sI (J63_61 n rec18 X2_ X3_ M_) r m' := by
  unfold zJ63_61 at h
  unfold J63_61
  exact zJ63_62_r n _ _ hrec18 hx2 hx3 (show rp (-1) (-1) from rfl) gM h
def zJ63_50 (n : Nat) (zrec18 : Int → Int → Int → ZM → Option (Int × ZM)) (x2 : Int) (x3 : Int) (M : ZM) : Option (Int × ZM) :=
  if rg (x3 + 1) then (match zF62 n (x3 + 1) x2 M with | some (v11, M12) => (zJ63_62 n zrec18 x2 x3 v11 M12) | none => none) else none
set_option maxRecDepth 100000 in
set_option maxHeartbeats 4000000 in
theorem zJ63_50_r (n : Nat) (rec18 : Int32 → Int32 → Int32 → Mem → Option (Int32 × Mem)) (zrec18 : Int → Int → Int → ZM → Option (Int × ZM)) (hrec18 : ∀ {Y1 : Int32} {y1 : Int} (_ : rp Y1 y1) {Y2 : Int32} {y2 : Int} (_ : rp Y2 y2) {Y3 : Int32} {y3 : Int} (_ : rp Y3 y3) {M : Mem} {m : ZM} (_ : rm M m) {r : Int} {m' : ZM} (_ : zrec18 y1 y2 y3 m = some (r, m')), sI (rec18 Y1 Y2 Y3 M) r m') {X2_ : Int32} {x2 : Int} (hx2 : rp X2_ x2) {X3_ : Int32} {x3 : Int} (hx3 : rp X3_ x3) {M_ : Mem} {M : ZM} (gM : rm M_ M) {r : Int} {m' : ZM} (h : zJ63_50 n zrec18 x2 x3 M = some (r, m')) : sI (J63_50 n rec18 X2_ X3_ M_) r m' := by
  unfold zJ63_50 at h
  unfold J63_50
  by_cases w1 : rg (x3 + 1)
  · rw [if_pos w1] at h
    cases hc2 : zF62 n (x3 + 1) x2 M with
    | none => rw [hc2] at h; cases h
    | some w =>
      obtain ⟨v11, M12⟩ := w
      rw [hc2] at h
      dsimp only at h
      obtain ⟨V11, NM12, ehc2, hv11, gM12⟩ := zF62_r n (rp_add (rp_iz hx3) (rp_iz (show rp 1 1 from rfl)) w1) hx2 gM hc2
      rw [ehc2]
      dsimp only
      exact zJ63_62_r n _ _ hrec18 hx2 hx3 hv11 gM12 h
  · rw [if_neg w1] at h
    cases h
def zJ63_39 (n : Nat) (zrec18 : Int → Int → Int → ZM → Option (Int × ZM)) (x2 : Int) (x3 : Int) (M : ZM) : Option (Int × ZM) :=
  if x3 < 0 ∨ 320 ≤ x3 then (none) else (if (M.1 105 (Int.toNat x3)) = 42 then (zJ63_50 n zrec18 x2 x3 M) else (zJ63_61 n zrec18 x2 x3 M))
set_option maxRecDepth 100000 in
set_option maxHeartbeats 4000000 in
theorem zJ63_39_r (n : Nat) (rec18 : Int32 → Int32 → Int32 → Mem → Option (Int32 × Mem)) (zrec18 : Int → Int → Int → ZM → Option (Int × ZM)) (hrec18 : ∀ {Y1 : Int32} {y1 : Int} (_ : rp Y1 y1) {Y2 : Int32} {y2 : Int} (_ : rp Y2 y2) {Y3 : Int32} {y3 : Int} (_ : rp Y3 y3) {M : Mem} {m : ZM} (_ : rm M m) {r : Int} {m' : ZM} (_ : zrec18 y1 y2 y3 m = some (r, m')), sI (rec18 Y1 Y2 Y3 M) r m') {X2_ : Int32} {x2 : Int} (hx2 : rp X2_ x2) {X3_ : Int32} {x3 : Int} (hx3 : rp X3_ x3) {M_ : Mem} {M : ZM} (gM : rm M_ M) {r : Int} {m' : ZM} (h : zJ63_39 n zrec18 x2 x3 M = some (r, m')) : sI (J63_39 n rec18 X2_ X3_ M_) r m' := by
  unfold zJ63_39 at h
  unfold J63_39
  by_cases q1 : x3 < 0 ∨ 320 ≤ x3
  · rw [if_pos q1] at h
    rw [if_pos ((rp_ob hx3 320).mpr q1)]
    cases h
  · rw [if_neg q1] at h
    rw [if_neg (fun z => q1 ((rp_ob hx3 320).mp z))]
    by_cases q2 : (M.1 105 (Int.toNat x3)) = 42
    · rw [if_pos q2] at h
      rw [if_pos ((rp_eq (rm_rdx gM 105 hx3) (show rp 42 42 from rfl)).mpr q2)]
      exact zJ63_50_r n _ _ hrec18 hx2 hx3 gM h
    · rw [if_neg q2] at h
      rw [if_neg (fun z => q2 ((rp_eq (rm_rdx gM 105 hx3) (show rp 42 42 from rfl)).mp z))]
      exact zJ63_61_r n _ _ hrec18 hx2 hx3 gM h
def zL63_18 (n : Nat) : Nat → Int → Int → Int → ZM → Option (Int × ZM)
  | 0, _, _, _, _ => none
  | k + 1, x2, x3, x4, M => if x4 = 0 then (some (x3, M)) else (if x2 ≤ x3 then (zJ63_61 n (zL63_18 n k) x2 x3 M) else (if x3 < 0 ∨ 320 ≤ x3 then (none) else (if (M.1 105 (Int.toNat x3)) = 43 then (zJ63_50 n (zL63_18 n k) x2 x3 M) else (zJ63_39 n (zL63_18 n k) x2 x3 M))))
set_option maxRecDepth 100000 in
set_option maxHeartbeats 4000000 in
theorem zL63_18_r (n : Nat) : ∀ (k : Nat) {X2_ : Int32} {x2 : Int} (hx2 : rp X2_ x2) {X3_ : Int32} {x3 : Int} (hx3 : rp X3_ x3) {X4_ : Int32} {x4 : Int} (hx4 : rp X4_ x4) {M_ : Mem} {M : ZM} (gM : rm M_ M) {r : Int} {m' : ZM} (_ : zL63_18 n k x2 x3 x4 M = some (r, m')), sI (L63_18 n k X2_ X3_ X4_ M_) r m' := by
  intro k
  induction k with
  | zero => intro X2_ x2 hx2 X3_ x3 hx3 X4_ x4 hx4 M_ M gM r m' h; cases h
  | succ k ih =>
    intro X2_ x2 hx2 X3_ x3 hx3 X4_ x4 hx4 M_ M gM r m' h
    rw [zL63_18] at h
    rw [L63_18]
    by_cases q1 : x4 = 0
    · rw [if_pos q1] at h
      rw [if_pos ((rp_eq hx4 (show rp 0 0 from rfl)).mpr q1)]
      obtain ⟨rfl, rfl⟩ := Prod.mk.inj (Option.some.inj h)
      exact ⟨_, _, rfl, hx3, gM⟩
    · rw [if_neg q1] at h
      rw [if_neg (fun z => q1 ((rp_eq hx4 (show rp 0 0 from rfl)).mp z))]
      by_cases q2 : x2 ≤ x3
      · rw [if_pos q2] at h
        rw [if_pos ((rp_le hx2 hx3).mpr q2)]
        exact zJ63_61_r n _ _ ih hx2 hx3 gM h
      · rw [if_neg q2] at h
        rw [if_neg (fun z => q2 ((rp_le hx2 hx3).mp z))]
        by_cases q3 : x3 < 0 ∨ 320 ≤ x3
        · rw [if_pos q3] at h
          rw [if_pos ((rp_ob hx3 320).mpr q3)]
          cases h
        · rw [if_neg q3] at h
          rw [if_neg (fun z => q3 ((rp_ob hx3 320).mp z))]
          by_cases q4 : (M.1 105 (Int.toNat x3)) = 43
          · rw [if_pos q4] at h
            rw [if_pos ((rp_eq (rm_rdx gM 105 hx3) (show rp 43 43 from rfl)).mpr q4)]
            exact zJ63_50_r n _ _ ih hx2 hx3 gM h
          · rw [if_neg q4] at h
            rw [if_neg (fun z => q4 ((rp_eq (rm_rdx gM 105 hx3) (show rp 43 43 from rfl)).mp z))]
            exact zJ63_39_r n _ _ ih hx2 hx3 gM h
def zJ63_16 (n : Nat) (x2 : Int) (x3 : Int) (s0 : Int) (M : ZM) : Option (Int × ZM) :=
  zL63_18 n n x2 x3 s0 M
set_option maxRecDepth 100000 in
set_option maxHeartbeats 4000000 in
theorem zJ63_16_r (n : Nat) {X2_ : Int32} {x2 : Int} (hx2 : rp X2_ x2) {X3_ : Int32} {x3 : Int} (hx3 : rp X3_ x3) {S0_ : Int32} {s0 : Int} (hs0 : rp S0_ s0) {M_ : Mem} {M : ZM} (gM : rm M_ M) {r : Int} {m' : ZM} (h : zJ63_16 n x2 x3 s0 M = some (r, m')) : sI (J63_16 n X2_ X3_ S0_ M_) r m' := by
  unfold zJ63_16 at h
  unfold J63_16
  exact zL63_18_r n n hx2 hx3 hs0 gM h
/-- ArmExpanderModel.expression -/
def zF63 (n : Nat) (a0 : Int) (a1 : Int) (M : ZM) : Option (Int × ZM) :=
  match zF62 n a0 a1 M with | some (v1, M2) => (if v1 < 0 then (zJ63_16 n a1 v1 0 M2) else (zJ63_16 n a1 v1 1 M2)) | none => none
set_option maxRecDepth 100000 in
set_option maxHeartbeats 4000000 in
theorem zF63_r (n : Nat) {A0_ : Int32} {a0 : Int} (ha0 : rp A0_ a0) {A1_ : Int32} {a1 : Int} (ha1 : rp A1_ a1) {M_ : Mem} {M : ZM} (gM : rm M_ M) {r : Int} {m' : ZM} (h : zF63 n a0 a1 M = some (r, m')) : sI (F63 n A0_ A1_ M_) r m' := by
  unfold zF63 at h
  unfold F63
  cases hc1 : zF62 n a0 a1 M with
  | none => rw [hc1] at h; cases h
  | some w =>
    obtain ⟨v1, M2⟩ := w
    rw [hc1] at h
    dsimp only at h
    obtain ⟨V1, NM2, ehc1, hv1, gM2⟩ := zF62_r n ha0 ha1 gM hc1
    rw [ehc1]
    dsimp only
    by_cases q2 : v1 < 0
    · rw [if_pos q2] at h
      rw [if_pos ((rp_lt hv1 (show rp 0 0 from rfl)).mpr q2)]
      exact zJ63_16_r n ha1 hv1 (show rp 0 0 from rfl) gM2 h
    · rw [if_neg q2] at h
      rw [if_neg (fun z => q2 ((rp_lt hv1 (show rp 0 0 from rfl)).mp z))]
      exact zJ63_16_r n ha1 hv1 (show rp 1 1 from rfl) gM2 h
def zJ64_17 (n : Nat) (s0 : Int) (M : ZM) : Option (Int × ZM) :=
  if s0 = 0 ∨ s0 = 1 then (some (s0, M)) else (none)
set_option maxRecDepth 100000 in
set_option maxHeartbeats 4000000 in
theorem zJ64_17_r (n : Nat) {S0_ : Int32} {s0 : Int} (hs0 : rp S0_ s0) {M_ : Mem} {M : ZM} (gM : rm M_ M) {r : Int} {m' : ZM} (h : zJ64_17 n s0 M = some (r, m')) : sI (J64_17 n S0_ M_) r m' := by
  unfold zJ64_17 at h
  unfold J64_17
  by_cases q1 : s0 = 0 ∨ s0 = 1
  · rw [if_pos q1] at h
    rw [if_pos ((or_congr (rp_eq hs0 (show rp 0 0 from rfl)) (rp_eq hs0 (show rp 1 1 from rfl))).mpr q1)]
    obtain ⟨rfl, rfl⟩ := Prod.mk.inj (Option.some.inj h)
    exact ⟨_, _, rfl, hs0, gM⟩
  · rw [if_neg q1] at h
    rw [if_neg (fun z => q1 ((or_congr (rp_eq hs0 (show rp 0 0 from rfl)) (rp_eq hs0 (show rp 1 1 from rfl))).mp z))]
    cases h
def zJ64_42 (n : Nat) (s0 : Int) (M : ZM) : Option (Int × ZM) :=
  if s0 = 0 ∨ s0 = 1 then (some (s0, M)) else (none)
set_option maxRecDepth 100000 in
set_option maxHeartbeats 4000000 in
theorem zJ64_42_r (n : Nat) {S0_ : Int32} {s0 : Int} (hs0 : rp S0_ s0) {M_ : Mem} {M : ZM} (gM : rm M_ M) {r : Int} {m' : ZM} (h : zJ64_42 n s0 M = some (r, m')) : sI (J64_42 n S0_ M_) r m' := by
  unfold zJ64_42 at h
  unfold J64_42
  by_cases q1 : s0 = 0 ∨ s0 = 1
  · rw [if_pos q1] at h
    rw [if_pos ((or_congr (rp_eq hs0 (show rp 0 0 from rfl)) (rp_eq hs0 (show rp 1 1 from rfl))).mpr q1)]
    obtain ⟨rfl, rfl⟩ := Prod.mk.inj (Option.some.inj h)
    exact ⟨_, _, rfl, hs0, gM⟩
  · rw [if_neg q1] at h
    rw [if_neg (fun z => q1 ((or_congr (rp_eq hs0 (show rp 0 0 from rfl)) (rp_eq hs0 (show rp 1 1 from rfl))).mp z))]
    cases h
def zJ64_41 (n : Nat) (M : ZM) : Option (Int × ZM) :=
  zJ64_42 n 0 M
set_option maxRecDepth 100000 in
set_option maxHeartbeats 4000000 in
theorem zJ64_41_r (n : Nat) {M_ : Mem} {M : ZM} (gM : rm M_ M) {r : Int} {m' : ZM} (h : zJ64_41 n M = some (r, m')) : sI (J64_41 n M_) r m' := by
  unfold zJ64_41 at h
  unfold J64_41
  exact zJ64_42_r n (show rp 0 0 from rfl) gM h
def zJ64_81 (n : Nat) (s0 : Int) (M : ZM) : Option (Int × ZM) :=
  if s0 = 0 ∨ s0 = 1 then (some (s0, M)) else (none)
set_option maxRecDepth 100000 in
set_option maxHeartbeats 4000000 in
theorem zJ64_81_r (n : Nat) {S0_ : Int32} {s0 : Int} (hs0 : rp S0_ s0) {M_ : Mem} {M : ZM} (gM : rm M_ M) {r : Int} {m' : ZM} (h : zJ64_81 n s0 M = some (r, m')) : sI (J64_81 n S0_ M_) r m' := by
  unfold zJ64_81 at h
  unfold J64_81
  by_cases q1 : s0 = 0 ∨ s0 = 1
  · rw [if_pos q1] at h
    rw [if_pos ((or_congr (rp_eq hs0 (show rp 0 0 from rfl)) (rp_eq hs0 (show rp 1 1 from rfl))).mpr q1)]
    obtain ⟨rfl, rfl⟩ := Prod.mk.inj (Option.some.inj h)
    exact ⟨_, _, rfl, hs0, gM⟩
  · rw [if_neg q1] at h
    rw [if_neg (fun z => q1 ((or_congr (rp_eq hs0 (show rp 0 0 from rfl)) (rp_eq hs0 (show rp 1 1 from rfl))).mp z))]
    cases h
def zJ64_55 (n : Nat) (M : ZM) : Option (Int × ZM) :=
  zJ64_81 n 1 M
set_option maxRecDepth 100000 in
set_option maxHeartbeats 4000000 in
theorem zJ64_55_r (n : Nat) {M_ : Mem} {M : ZM} (gM : rm M_ M) {r : Int} {m' : ZM} (h : zJ64_55 n M = some (r, m')) : sI (J64_55 n M_) r m' := by
  unfold zJ64_55 at h
  unfold J64_55
  exact zJ64_81_r n (show rp 1 1 from rfl) gM h
def zJ64_59 (n : Nat) (M : ZM) : Option (Int × ZM) :=
  zJ64_81 n 0 M
set_option maxRecDepth 100000 in
set_option maxHeartbeats 4000000 in
theorem zJ64_59_r (n : Nat) {M_ : Mem} {M : ZM} (gM : rm M_ M) {r : Int} {m' : ZM} (h : zJ64_59 n M = some (r, m')) : sI (J64_59 n M_) r m' := by
  unfold zJ64_59 at h
  unfold J64_59
  exact zJ64_81_r n (show rp 0 0 from rfl) gM h
def zJ64_76 (n : Nat) (M : ZM) : Option (Int × ZM) :=
  zJ64_81 n 1 M
set_option maxRecDepth 100000 in
set_option maxHeartbeats 4000000 in
theorem zJ64_76_r (n : Nat) {M_ : Mem} {M : ZM} (gM : rm M_ M) {r : Int} {m' : ZM} (h : zJ64_76 n M = some (r, m')) : sI (J64_76 n M_) r m' := by
  unfold zJ64_76 at h
  unfold J64_76
  exact zJ64_81_r n (show rp 1 1 from rfl) gM h
def zJ64_80 (n : Nat) (M : ZM) : Option (Int × ZM) :=
  zJ64_81 n 0 M
set_option maxRecDepth 100000 in
set_option maxHeartbeats 4000000 in
theorem zJ64_80_r (n : Nat) {M_ : Mem} {M : ZM} (gM : rm M_ M) {r : Int} {m' : ZM} (h : zJ64_80 n M = some (r, m')) : sI (J64_80 n M_) r m' := by
  unfold zJ64_80 at h
  unfold J64_80
  exact zJ64_81_r n (show rp 0 0 from rfl) gM h
/-- ArmExpanderModel.begins -/
def zF64 (n : Nat) (a0 : Int) (a1 : Int) (M : ZM) : Option (Int × ZM) :=
  if a0 = 1 then (if a1 < 1000 then (zJ64_17 n 0 M) else (zJ64_17 n 1 M)) else (if a0 = 2 then (if a1 < 300 then (zJ64_41 n M) else (if 1000 ≤ a1 then (zJ64_41 n M) else (zJ64_42 n 1 M))) else (if a0 = 3 then (match zF22 n a1 M with | some (v9, M10) => (if v9 = 0 then (zJ64_55 n M10) else (zJ64_59 n M10)) | none => none) else (if 300 ≤ a1 then (zJ64_76 n M) else (if a1 = 40 then (zJ64_76 n M) else (zJ64_80 n M)))))
set_option maxRecDepth 100000 in
set_option maxHeartbeats 4000000 in
theorem zF64_r (n : Nat) {A0_ : Int32} {a0 : Int} (ha0 : rp A0_ a0) {A1_ : Int32} {a1 : Int} (ha1 : rp A1_ a1) {M_ : Mem} {M : ZM} (gM : rm M_ M) {r : Int} {m' : ZM} (h : zF64 n a0 a1 M = some (r, m')) : sI (F64 n A0_ A1_ M_) r m' := by
  unfold zF64 at h
  unfold F64
  by_cases q1 : a0 = 1
  · rw [if_pos q1] at h
    rw [if_pos ((rp_eq ha0 (show rp 1 1 from rfl)).mpr q1)]
    by_cases q2 : a1 < 1000
    · rw [if_pos q2] at h
      rw [if_pos ((rp_lt ha1 (show rp 1000 1000 from rfl)).mpr q2)]
      exact zJ64_17_r n (show rp 0 0 from rfl) gM h
    · rw [if_neg q2] at h
      rw [if_neg (fun z => q2 ((rp_lt ha1 (show rp 1000 1000 from rfl)).mp z))]
      exact zJ64_17_r n (show rp 1 1 from rfl) gM h
  · rw [if_neg q1] at h
    rw [if_neg (fun z => q1 ((rp_eq ha0 (show rp 1 1 from rfl)).mp z))]
    by_cases q3 : a0 = 2
    · rw [if_pos q3] at h
      rw [if_pos ((rp_eq ha0 (show rp 2 2 from rfl)).mpr q3)]
      by_cases q4 : a1 < 300
      · rw [if_pos q4] at h
        rw [if_pos ((rp_lt ha1 (show rp 300 300 from rfl)).mpr q4)]
        exact zJ64_41_r n gM h
      · rw [if_neg q4] at h
        rw [if_neg (fun z => q4 ((rp_lt ha1 (show rp 300 300 from rfl)).mp z))]
        by_cases q5 : 1000 ≤ a1
        · rw [if_pos q5] at h
          rw [if_pos ((rp_le (show rp 1000 1000 from rfl) ha1).mpr q5)]
          exact zJ64_41_r n gM h
        · rw [if_neg q5] at h
          rw [if_neg (fun z => q5 ((rp_le (show rp 1000 1000 from rfl) ha1).mp z))]
          exact zJ64_42_r n (show rp 1 1 from rfl) gM h
    · rw [if_neg q3] at h
      rw [if_neg (fun z => q3 ((rp_eq ha0 (show rp 2 2 from rfl)).mp z))]
      by_cases q6 : a0 = 3
      · rw [if_pos q6] at h
        rw [if_pos ((rp_eq ha0 (show rp 3 3 from rfl)).mpr q6)]
        cases hc7 : zF22 n a1 M with
        | none => rw [hc7] at h; cases h
        | some w =>
          obtain ⟨v9, M10⟩ := w
          rw [hc7] at h
          dsimp only at h
          obtain ⟨V9, NM10, ehc7, hv9, gM10⟩ := zF22_r n ha1 gM hc7
          rw [ehc7]
          dsimp only
          by_cases q8 : v9 = 0
          · rw [if_pos q8] at h
            rw [if_pos ((rp_eq hv9 (show rp 0 0 from rfl)).mpr q8)]
            exact zJ64_55_r n gM10 h
          · rw [if_neg q8] at h
            rw [if_neg (fun z => q8 ((rp_eq hv9 (show rp 0 0 from rfl)).mp z))]
            exact zJ64_59_r n gM10 h
      · rw [if_neg q6] at h
        rw [if_neg (fun z => q6 ((rp_eq ha0 (show rp 3 3 from rfl)).mp z))]
        by_cases q9 : 300 ≤ a1
        · rw [if_pos q9] at h
          rw [if_pos ((rp_le (show rp 300 300 from rfl) ha1).mpr q9)]
          exact zJ64_76_r n gM h
        · rw [if_neg q9] at h
          rw [if_neg (fun z => q9 ((rp_le (show rp 300 300 from rfl) ha1).mp z))]
          by_cases q10 : a1 = 40
          · rw [if_pos q10] at h
            rw [if_pos ((rp_eq ha1 (show rp 40 40 from rfl)).mpr q10)]
            exact zJ64_76_r n gM h
          · rw [if_neg q10] at h
            rw [if_neg (fun z => q10 ((rp_eq ha1 (show rp 40 40 from rfl)).mp z))]
            exact zJ64_80_r n gM h
def zJ65_44 (n : Nat) (s0 : Int) (M : ZM) : Option (Int × ZM) :=
  some (s0, M)
set_option maxRecDepth 100000 in
set_option maxHeartbeats 4000000 in
theorem zJ65_44_r (n : Nat) {S0_ : Int32} {s0 : Int} (hs0 : rp S0_ s0) {M_ : Mem} {M : ZM} (gM : rm M_ M) {r : Int} {m' : ZM} (h : zJ65_44 n s0 M = some (r, m')) : sI (J65_44 n S0_ M_) r m' := by
  unfold zJ65_44 at h
  unfold J65_44
  obtain ⟨rfl, rfl⟩ := Prod.mk.inj (Option.some.inj h)
  exact ⟨_, _, rfl, hs0, gM⟩
def zJ65_41 (n : Nat) (x2 : Int) (M : ZM) : Option (Int × ZM) :=
  if rg (x2 + 1) then (zJ65_44 n (x2 + 1) M) else none
set_option maxRecDepth 100000 in
set_option maxHeartbeats 4000000 in
theorem zJ65_41_r (n : Nat) {X2_ : Int32} {x2 : Int} (hx2 : rp X2_ x2) {M_ : Mem} {M : ZM} (gM : rm M_ M) {r : Int} {m' : ZM} (h : zJ65_41 n x2 M = some (r, m')) : sI (J65_41 n X2_ M_) r m' := by
  unfold zJ65_41 at h
  unfold J65_41
  by_cases w1 : rg (x2 + 1)
  · rw [if_pos w1] at h
    exact zJ65_44_r n (rp_add (rp_iz hx2) (rp_iz (show rp 1 1 from rfl)) w1) gM h
  · rw [if_neg w1] at h
    cases h
def zJ65_31 (n : Nat) (x2 : Int) (M : ZM) : Option (Int × ZM) :=
  match zF61 n x2 M with | some (v11, M12) => (if rg (v11 + 1) then (zJ65_44 n (v11 + 1) M12) else none) | none => none
set_option maxRecDepth 100000 in
set_option maxHeartbeats 4000000 in
theorem zJ65_31_r (n : Nat) {X2_ : Int32} {x2 : Int} (hx2 : rp X2_ x2) {M_ : Mem} {M : ZM} (gM : rm M_ M) {r : Int} {m' : ZM} (h : zJ65_31 n x2 M = some (r, m')) : sI (J65_31 n X2_ M_) r m' := by
  unfold zJ65_31 at h
  unfold J65_31
  cases hc1 : zF61 n x2 M with
  | none => rw [hc1] at h; cases h
  | some w =>
    obtain ⟨v11, M12⟩ := w
    rw [hc1] at h
    dsimp only at h
    obtain ⟨V11, NM12, ehc1, hv11, gM12⟩ := zF61_r n hx2 gM hc1
    rw [ehc1]
    dsimp only
    by_cases w2 : rg (v11 + 1)
    · rw [if_pos w2] at h
      exact zJ65_44_r n (rp_add (rp_iz hv11) (rp_iz (show rp 1 1 from rfl)) w2) gM12 h
    · rw [if_neg w2] at h
      cases h
/-- ArmExpanderModel.take -/
def zF65 (n : Nat) (a0 : Int) (a1 : Int) (a2 : Int) (M : ZM) : Option (Int × ZM) :=
  if a0 = 4 then (match zF63 n a1 a2 M with | some (v2, M3) => (zJ65_44 n v2 M3) | none => none) else (if a0 = 3 then (if a1 < 0 ∨ 320 ≤ a1 then (none) else (match zF21 n (M.1 105 (Int.toNat a1)) M with | some (v7, M8) => (if v7 = 0 then (zJ65_41 n a1 M8) else (zJ65_31 n a1 M8)) | none => none)) else (zJ65_41 n a1 M))
set_option maxRecDepth 100000 in
set_option maxHeartbeats 4000000 in
theorem zF65_r (n : Nat) {A0_ : Int32} {a0 : Int} (ha0 : rp A0_ a0) {A1_ : Int32} {a1 : Int} (ha1 : rp A1_ a1) {A2_ : Int32} {a2 : Int} (ha2 : rp A2_ a2) {M_ : Mem} {M : ZM} (gM : rm M_ M) {r : Int} {m' : ZM} (h : zF65 n a0 a1 a2 M = some (r, m')) : sI (F65 n A0_ A1_ A2_ M_) r m' := by
  unfold zF65 at h
  unfold F65
  by_cases q1 : a0 = 4
  · rw [if_pos q1] at h
    rw [if_pos ((rp_eq ha0 (show rp 4 4 from rfl)).mpr q1)]
    cases hc2 : zF63 n a1 a2 M with
    | none => rw [hc2] at h; cases h
    | some w =>
      obtain ⟨v2, M3⟩ := w
      rw [hc2] at h
      dsimp only at h
      obtain ⟨V2, NM3, ehc2, hv2, gM3⟩ := zF63_r n ha1 ha2 gM hc2
      rw [ehc2]
      dsimp only
      exact zJ65_44_r n hv2 gM3 h
  · rw [if_neg q1] at h
    rw [if_neg (fun z => q1 ((rp_eq ha0 (show rp 4 4 from rfl)).mp z))]
    by_cases q3 : a0 = 3
    · rw [if_pos q3] at h
      rw [if_pos ((rp_eq ha0 (show rp 3 3 from rfl)).mpr q3)]
      by_cases q4 : a1 < 0 ∨ 320 ≤ a1
      · rw [if_pos q4] at h
        rw [if_pos ((rp_ob ha1 320).mpr q4)]
        cases h
      · rw [if_neg q4] at h
        rw [if_neg (fun z => q4 ((rp_ob ha1 320).mp z))]
        cases hc5 : zF21 n (M.1 105 (Int.toNat a1)) M with
        | none => rw [hc5] at h; cases h
        | some w =>
          obtain ⟨v7, M8⟩ := w
          rw [hc5] at h
          dsimp only at h
          obtain ⟨V7, NM8, ehc5, hv7, gM8⟩ := zF21_r n (rm_rdx gM 105 ha1) gM hc5
          rw [ehc5]
          dsimp only
          by_cases q6 : v7 = 0
          · rw [if_pos q6] at h
            rw [if_pos ((rp_eq hv7 (show rp 0 0 from rfl)).mpr q6)]
            exact zJ65_41_r n ha1 gM8 h
          · rw [if_neg q6] at h
            rw [if_neg (fun z => q6 ((rp_eq hv7 (show rp 0 0 from rfl)).mp z))]
            exact zJ65_31_r n ha1 gM8 h
    · rw [if_neg q3] at h
      rw [if_neg (fun z => q3 ((rp_eq ha0 (show rp 3 3 from rfl)).mp z))]
      exact zJ65_41_r n ha1 gM h
def zJ68_45 (n : Nat) (zrec8 : Int → Int → Int → Int → ZM → Option (Int × ZM)) (x1 : Int) (x2 : Int) (x4 : Int) (s0 : Int) (M : ZM) : Option (Int × ZM) :=
  if rg (x4 + 1) then (zrec8 x1 x2 s0 (x4 + 1) M) else none
set_option maxRecDepth 100000 in
set_option maxHeartbeats 4000000 in
theorem zJ68_45_r (n : Nat) (rec8 : Int32 → Int32 → Int32 → Int32 → Mem → Option (Int32 × Mem)) (zrec8 : Int → Int → Int → Int → ZM → Option (Int × ZM)) (hrec8 : ∀ {Y1 : Int32} {y1 : Int} (_ : rp Y1 y1) {Y2 : Int32} {y2 : Int} (_ : rp Y2 y2) {Y3 : Int32} {y3 : Int} (_ : rp Y3 y3) {Y4 : Int32} {y4 : Int} (_ : rp Y4 y4) {M : Mem} {m : ZM} (_ : rm M m) {r : Int} {m' : ZM} (_ : zrec8 y1 y2 y3 y4 m = some (r, m')), sI (rec8 Y1 Y2 Y3 Y4 M) r m') {X1_ : Int32} {x1 : Int} (hx1 : rp X1_ x1) {X2_ : Int32} {x2 : Int} (hx2 : rp X2_ x2) {X4_ : Int32} {x4 : Int} (hx4 : rp X4_ x4) {S0_ : Int32} {s0 : Int} (hs0 : rp S0_ s0) {M_ : Mem} {M : ZM} (gM : rm M_ M) {r : Int} {m' : ZM} (h : zJ68_45 n zrec8 x1 x2 x4 s0 M = some (r, m')) : sI (J68_45 n rec8 X1_ X2_ X4_ S0_ M_) r m' := by
  unfold zJ68_45 at h
  unfold J68_45
  by_cases w1 : rg (x4 + 1)
  · rw [if_pos w1] at h
    exact hrec8 hx1 hx2 hs0 (rp_add (rp_iz hx4) (rp_iz (show rp 1 1 from rfl)) w1) gM h
  · rw [if_neg w1] at h
    cases h
def zJ68_39 (n : Nat) (zrec8 : Int → Int → Int → Int → ZM → Option (Int × ZM)) (x1 : Int) (x2 : Int) (x4 : Int) (M : ZM) : Option (Int × ZM) :=
  zJ68_45 n zrec8 x1 x2 x4 x4 M
set_option maxRecDepth 100000 in
set_option maxHeartbeats 4000000 in
theorem zJ68_39_r (n : Nat) (rec8 : Int32 → Int32 → Int32 → Int32 → Mem → Option (Int32 × Mem)) (zrec8 : Int → Int → Int → Int → ZM → Option (Int × ZM)) (hrec8 : ∀ {Y1 : Int32} {y1 : Int} (_ : rp Y1 y1) {Y2 : Int32} {y2 : Int} (_ : rp Y2 y2) {Y3 : Int32} {y3 : Int} (_ : rp Y3 y3) {Y4 : Int32} {y4 : Int} (_ : rp Y4 y4) {M : Mem} {m : ZM} (_ : rm M m) {r : Int} {m' : ZM} (_ : zrec8 y1 y2 y3 y4 m = some (r, m')), sI (rec8 Y1 Y2 Y3 Y4 M) r m') {X1_ : Int32} {x1 : Int} (hx1 : rp X1_ x1) {X2_ : Int32} {x2 : Int} (hx2 : rp X2_ x2) {X4_ : Int32} {x4 : Int} (hx4 : rp X4_ x4) {M_ : Mem} {M : ZM} (gM : rm M_ M) {r : Int} {m' : ZM} (h : zJ68_39 n zrec8 x1 x2 x4 M = some (r, m')) : sI (J68_39 n rec8 X1_ X2_ X4_ M_) r m' := by
  unfold zJ68_39 at h
  unfold J68_39
  exact zJ68_45_r n _ _ hrec8 hx1 hx2 hx4 hx4 gM h
def zJ68_44 (n : Nat) (zrec8 : Int → Int → Int → Int → ZM → Option (Int × ZM)) (x1 : Int) (x2 : Int) (x3 : Int) (x4 : Int) (M : ZM) : Option (Int × ZM) :=
  zJ68_45 n zrec8 x1 x2 x4 x3 M
set_option maxRecDepth 100000 in
set_option maxHeartbeats 4000000 in
theorem zJ68_44_r (n : Nat) (rec8 : Int32 → Int32 → Int32 → Int32 → Mem → Option (Int32 × Mem)) (zrec8 : Int → Int → Int → Int → ZM → Option (Int × ZM)) (hrec8 : ∀ {Y1 : Int32} {y1 : Int} (_ : rp Y1 y1) {Y2 : Int32} {y2 : Int} (_ : rp Y2 y2) {Y3 : Int32} {y3 : Int} (_ : rp Y3 y3) {Y4 : Int32} {y4 : Int} (_ : rp Y4 y4) {M : Mem} {m : ZM} (_ : rm M m) {r : Int} {m' : ZM} (_ : zrec8 y1 y2 y3 y4 m = some (r, m')), sI (rec8 Y1 Y2 Y3 Y4 M) r m') {X1_ : Int32} {x1 : Int} (hx1 : rp X1_ x1) {X2_ : Int32} {x2 : Int} (hx2 : rp X2_ x2) {X3_ : Int32} {x3 : Int} (hx3 : rp X3_ x3) {X4_ : Int32} {x4 : Int} (hx4 : rp X4_ x4) {M_ : Mem} {M : ZM} (gM : rm M_ M) {r : Int} {m' : ZM} (h : zJ68_44 n zrec8 x1 x2 x3 x4 M = some (r, m')) : sI (J68_44 n rec8 X1_ X2_ X3_ X4_ M_) r m' := by
  unfold zJ68_44 at h
  unfold J68_44
  exact zJ68_45_r n _ _ hrec8 hx1 hx2 hx4 hx3 gM h
def zL68_8 (n : Nat) : Nat → Int → Int → Int → Int → ZM → Option (Int × ZM)
  | 0, _, _, _, _, _ => none
  | k + 1, x1, x2, x3, x4, M => if (M.1 83 52) ≤ x4 then (some (x3, M)) else (if x4 < 0 ∨ 512 ≤ x4 then (none) else (if (M.1 119 (Int.toNat x4)) = x1 then (if (M.1 120 (Int.toNat x4)) = x2 then (zJ68_39 n (zL68_8 n k) x1 x2 x4 M) else (zJ68_44 n (zL68_8 n k) x1 x2 x3 x4 M)) else (zJ68_44 n (zL68_8 n k) x1 x2 x3 x4 M)))
set_option maxRecDepth 100000 in
set_option maxHeartbeats 4000000 in
theorem zL68_8_r (n : Nat) : ∀ (k : Nat) {X1_ : Int32} {x1 : Int} (hx1 : rp X1_ x1) {X2_ : Int32} {x2 : Int} (hx2 : rp X2_ x2) {X3_ : Int32} {x3 : Int} (hx3 : rp X3_ x3) {X4_ : Int32} {x4 : Int} (hx4 : rp X4_ x4) {M_ : Mem} {M : ZM} (gM : rm M_ M) {r : Int} {m' : ZM} (_ : zL68_8 n k x1 x2 x3 x4 M = some (r, m')), sI (L68_8 n k X1_ X2_ X3_ X4_ M_) r m' := by
  intro k
  induction k with
  | zero => intro X1_ x1 hx1 X2_ x2 hx2 X3_ x3 hx3 X4_ x4 hx4 M_ M gM r m' h; cases h
  | succ k ih =>
    intro X1_ x1 hx1 X2_ x2 hx2 X3_ x3 hx3 X4_ x4 hx4 M_ M gM r m' h
    rw [zL68_8] at h
    rw [L68_8]
    by_cases q1 : (M.1 83 52) ≤ x4
    · rw [if_pos q1] at h
      rw [if_pos ((rp_le (rm_rd gM 83 52) hx4).mpr q1)]
      obtain ⟨rfl, rfl⟩ := Prod.mk.inj (Option.some.inj h)
      exact ⟨_, _, rfl, hx3, gM⟩
    · rw [if_neg q1] at h
      rw [if_neg (fun z => q1 ((rp_le (rm_rd gM 83 52) hx4).mp z))]
      by_cases q2 : x4 < 0 ∨ 512 ≤ x4
      · rw [if_pos q2] at h
        rw [if_pos ((rp_ob hx4 512).mpr q2)]
        cases h
      · rw [if_neg q2] at h
        rw [if_neg (fun z => q2 ((rp_ob hx4 512).mp z))]
        by_cases q3 : (M.1 119 (Int.toNat x4)) = x1
        · rw [if_pos q3] at h
          rw [if_pos ((rp_eq (rm_rdx gM 119 hx4) hx1).mpr q3)]
          rw [if_neg (fun z => q2 ((rp_ob hx4 512).mp z))]
          by_cases q4 : (M.1 120 (Int.toNat x4)) = x2
          · rw [if_pos q4] at h
            rw [if_pos ((rp_eq (rm_rdx gM 120 hx4) hx2).mpr q4)]
            exact zJ68_39_r n _ _ ih hx1 hx2 hx4 gM h
          · rw [if_neg q4] at h
            rw [if_neg (fun z => q4 ((rp_eq (rm_rdx gM 120 hx4) hx2).mp z))]
            exact zJ68_44_r n _ _ ih hx1 hx2 hx3 hx4 gM h
        · rw [if_neg q3] at h
          rw [if_neg (fun z => q3 ((rp_eq (rm_rdx gM 119 hx4) hx1).mp z))]
          exact zJ68_44_r n _ _ ih hx1 hx2 hx3 hx4 gM h
/-- ArmExpanderModel.entry -/
def zF68 (n : Nat) (a0 : Int) (a1 : Int) (M : ZM) : Option (Int × ZM) :=
  zL68_8 n n a0 a1 (M.1 83 52) 0 M
set_option maxRecDepth 100000 in
set_option maxHeartbeats 4000000 in
theorem zF68_r (n : Nat) {A0_ : Int32} {a0 : Int} (ha0 : rp A0_ a0) {A1_ : Int32} {a1 : Int} (ha1 : rp A1_ a1) {M_ : Mem} {M : ZM} (gM : rm M_ M) {r : Int} {m' : ZM} (h : zF68 n a0 a1 M = some (r, m')) : sI (F68 n A0_ A1_ M_) r m' := by
  unfold zF68 at h
  unfold F68
  exact zL68_8_r n n ha0 ha1 (rm_rd gM 83 52) (show rp 0 0 from rfl) gM h
def zJ69_25 (n : Nat) (s0 : Int) (M : ZM) : Option (Int × ZM) :=
  some (s0, M)
set_option maxRecDepth 100000 in
set_option maxHeartbeats 4000000 in
theorem zJ69_25_r (n : Nat) {S0_ : Int32} {s0 : Int} (hs0 : rp S0_ s0) {M_ : Mem} {M : ZM} (gM : rm M_ M) {r : Int} {m' : ZM} (h : zJ69_25 n s0 M = some (r, m')) : sI (J69_25 n S0_ M_) r m' := by
  unfold zJ69_25 at h
  unfold J69_25
  obtain ⟨rfl, rfl⟩ := Prod.mk.inj (Option.some.inj h)
  exact ⟨_, _, rfl, hs0, gM⟩
/-- ArmExpanderModel.innerCount -/
def zF69 (n : Nat) (a0 : Int) (a1 : Int) (M : ZM) : Option (Int × ZM) :=
  match zF68 n a0 a1 M with | some (v1, M2) => (if (M2.1 83 52) ≤ v1 then (zJ69_25 n 0 M2) else (if v1 < 0 ∨ 512 ≤ v1 then (none) else (zJ69_25 n (M2.1 121 (Int.toNat v1)) M2))) | none => none
set_option maxRecDepth 100000 in
set_option maxHeartbeats 4000000 in
theorem zF69_r (n : Nat) {A0_ : Int32} {a0 : Int} (ha0 : rp A0_ a0) {A1_ : Int32} {a1 : Int} (ha1 : rp A1_ a1) {M_ : Mem} {M : ZM} (gM : rm M_ M) {r : Int} {m' : ZM} (h : zF69 n a0 a1 M = some (r, m')) : sI (F69 n A0_ A1_ M_) r m' := by
  unfold zF69 at h
  unfold F69
  cases hc1 : zF68 n a0 a1 M with
  | none => rw [hc1] at h; cases h
  | some w =>
    obtain ⟨v1, M2⟩ := w
    rw [hc1] at h
    dsimp only at h
    obtain ⟨V1, NM2, ehc1, hv1, gM2⟩ := zF68_r n ha0 ha1 gM hc1
    rw [ehc1]
    dsimp only
    by_cases q2 : (M2.1 83 52) ≤ v1
    · rw [if_pos q2] at h
      rw [if_pos ((rp_le (rm_rd gM2 83 52) hv1).mpr q2)]
      exact zJ69_25_r n (show rp 0 0 from rfl) gM2 h
    · rw [if_neg q2] at h
      rw [if_neg (fun z => q2 ((rp_le (rm_rd gM2 83 52) hv1).mp z))]
      by_cases q3 : v1 < 0 ∨ 512 ≤ v1
      · rw [if_pos q3] at h
        rw [if_pos ((rp_ob hv1 512).mpr q3)]
        cases h
      · rw [if_neg q3] at h
        rw [if_neg (fun z => q3 ((rp_ob hv1 512).mp z))]
        exact zJ69_25_r n (rm_rdx gM2 121 hv1) gM2 h
def zJ70_100 (n : Nat) (M : ZM) : Option (Unit × ZM) :=
  some ((), M)
set_option maxRecDepth 100000 in
set_option maxHeartbeats 4000000 in
theorem zJ70_100_r (n : Nat) {M_ : Mem} {M : ZM} (gM : rm M_ M) {r : Unit} {m' : ZM} (h : zJ70_100 n M = some (r, m')) : sU (J70_100 n M_) m' := by
  unfold zJ70_100 at h
  unfold J70_100
  obtain ⟨_, rfl⟩ := Prod.mk.inj (Option.some.inj h)
  exact ⟨_, rfl, gM⟩
def zJ70_86 (n : Nat) (x3 : Int) (M : ZM) : Option (Unit × ZM) :=
  if x3 < 0 ∨ 512 ≤ x3 then (none) else (if rg ((M.1 121 (Int.toNat x3)) + 1) then (zlet (z_i M 121 (Int.toNat x3) ((M.1 121 (Int.toNat x3)) + 1)) (fun M18 => zJ70_100 n M18)) else none)
set_option maxRecDepth 100000 in
set_option maxHeartbeats 4000000 in
theorem zJ70_86_r (n : Nat) {X3_ : Int32} {x3 : Int} (hx3 : rp X3_ x3) {M_ : Mem} {M : ZM} (gM : rm M_ M) {r : Unit} {m' : ZM} (h : zJ70_86 n x3 M = some (r, m')) : sU (J70_86 n X3_ M_) m' := by
  unfold zJ70_86 at h
  unfold J70_86
  by_cases q1 : x3 < 0 ∨ 512 ≤ x3
  · rw [if_pos q1] at h
    rw [if_pos ((rp_ob hx3 512).mpr q1)]
    cases h
  · rw [if_neg q1] at h
    rw [if_neg (fun z => q1 ((rp_ob hx3 512).mp z))]
    rw [if_neg (fun z => q1 ((rp_ob hx3 512).mp z))]
    by_cases w2 : rg ((M.1 121 (Int.toNat x3)) + 1)
    · rw [if_pos w2] at h
      have gM18 : rm (m_i M_ 121 (X3_).toNatClampNeg ((M_.1 121 (X3_).toNatClampNeg) + (1 : Int32))) (z_i M 121 (Int.toNat x3) ((M.1 121 (Int.toNat x3)) + 1)) := rm_ix gM 121 hx3 (rp_add (rp_iz (rm_rdx gM 121 hx3)) (rp_iz (show rp 1 1 from rfl)) w2)
      rw [mlet]
      rw [zlet] at h
      generalize z_i M 121 (Int.toNat x3) ((M.1 121 (Int.toNat x3)) + 1) = M18 at h gM18
      generalize m_i M_ 121 (X3_).toNatClampNeg ((M_.1 121 (X3_).toNatClampNeg) + (1 : Int32)) = NM18 at gM18 ⊢
      exact zJ70_100_r n gM18 h
    · rw [if_neg w2] at h
      cases h
def zJ70_76 (n : Nat) (x3 : Int) (M : ZM) : Option (Unit × ZM) :=
  if rg ((M.1 83 52) + 1) then (zlet (z_i M 83 52 ((M.1 83 52) + 1)) (fun M15 => zJ70_86 n x3 M15)) else none
set_option maxRecDepth 100000 in
set_option maxHeartbeats 4000000 in
theorem zJ70_76_r (n : Nat) {X3_ : Int32} {x3 : Int} (hx3 : rp X3_ x3) {M_ : Mem} {M : ZM} (gM : rm M_ M) {r : Unit} {m' : ZM} (h : zJ70_76 n x3 M = some (r, m')) : sU (J70_76 n X3_ M_) m' := by
  unfold zJ70_76 at h
  unfold J70_76
  by_cases w1 : rg ((M.1 83 52) + 1)
  · rw [if_pos w1] at h
    have gM15 : rm (m_i M_ 83 52 ((M_.1 83 52) + (1 : Int32))) (z_i M 83 52 ((M.1 83 52) + 1)) := rm_i gM 83 52 (rp_add (rp_iz (rm_rd gM 83 52)) (rp_iz (show rp 1 1 from rfl)) w1)
    rw [mlet]
    rw [zlet] at h
    generalize z_i M 83 52 ((M.1 83 52) + 1) = M15 at h gM15
    generalize m_i M_ 83 52 ((M_.1 83 52) + (1 : Int32)) = NM15 at gM15 ⊢
    exact zJ70_86_r n hx3 gM15 h
  · rw [if_neg w1] at h
    cases h
def zJ70_62 (n : Nat) (x2 : Int) (x3 : Int) (M : ZM) : Option (Unit × ZM) :=
  if x3 < 0 ∨ 512 ≤ x3 then (none) else (zlet (z_i M 120 (Int.toNat x3) x2) (fun M12 => zlet (z_i M12 121 (Int.toNat x3) 0) (fun M14 => zJ70_76 n x3 M14)))
set_option maxRecDepth 100000 in
set_option maxHeartbeats 4000000 in
theorem zJ70_62_r (n : Nat) {X2_ : Int32} {x2 : Int} (hx2 : rp X2_ x2) {X3_ : Int32} {x3 : Int} (hx3 : rp X3_ x3) {M_ : Mem} {M : ZM} (gM : rm M_ M) {r : Unit} {m' : ZM} (h : zJ70_62 n x2 x3 M = some (r, m')) : sU (J70_62 n X2_ X3_ M_) m' := by
  unfold zJ70_62 at h
  unfold J70_62
  by_cases q1 : x3 < 0 ∨ 512 ≤ x3
  · rw [if_pos q1] at h
    rw [if_pos ((rp_ob hx3 512).mpr q1)]
    cases h
  · rw [if_neg q1] at h
    rw [if_neg (fun z => q1 ((rp_ob hx3 512).mp z))]
    have gM12 : rm (m_i M_ 120 (X3_).toNatClampNeg X2_) (z_i M 120 (Int.toNat x3) x2) := rm_ix gM 120 hx3 hx2
    rw [mlet]
    rw [zlet] at h
    generalize z_i M 120 (Int.toNat x3) x2 = M12 at h gM12
    generalize m_i M_ 120 (X3_).toNatClampNeg X2_ = NM12 at gM12 ⊢
    rw [if_neg (fun z => q1 ((rp_ob hx3 512).mp z))]
    have gM14 : rm (m_i NM12 121 (X3_).toNatClampNeg (0 : Int32)) (z_i M12 121 (Int.toNat x3) 0) := rm_ix gM12 121 hx3 (show rp 0 0 from rfl)
    rw [mlet]
    rw [zlet] at h
    generalize z_i M12 121 (Int.toNat x3) 0 = M14 at h gM14
    generalize m_i NM12 121 (X3_).toNatClampNeg (0 : Int32) = NM14 at gM14 ⊢
    exact zJ70_76_r n hx3 gM14 h
def zJ70_40 (n : Nat) (x1 : Int) (x2 : Int) (M : ZM) : Option (Unit × ZM) :=
  match zF68 n x1 x2 M with | some (v5, M6) => (if v5 = (M6.1 83 52) then (if v5 < 0 ∨ 512 ≤ v5 then (none) else (zlet (z_i M6 119 (Int.toNat v5) x1) (fun M10 => zJ70_62 n x2 v5 M10))) else (zJ70_86 n v5 M6)) | none => none
set_option maxRecDepth 100000 in
set_option maxHeartbeats 4000000 in
theorem zJ70_40_r (n : Nat) {X1_ : Int32} {x1 : Int} (hx1 : rp X1_ x1) {X2_ : Int32} {x2 : Int} (hx2 : rp X2_ x2) {M_ : Mem} {M : ZM} (gM : rm M_ M) {r : Unit} {m' : ZM} (h : zJ70_40 n x1 x2 M = some (r, m')) : sU (J70_40 n X1_ X2_ M_) m' := by
  unfold zJ70_40 at h
  unfold J70_40
  cases hc1 : zF68 n x1 x2 M with
  | none => rw [hc1] at h; cases h
  | some w =>
    obtain ⟨v5, M6⟩ := w
    rw [hc1] at h
    dsimp only at h
    obtain ⟨V5, NM6, ehc1, hv5, gM6⟩ := zF68_r n hx1 hx2 gM hc1
    rw [ehc1]
    dsimp only
    by_cases q2 : v5 = (M6.1 83 52)
    · rw [if_pos q2] at h
      rw [if_pos ((rp_eq hv5 (rm_rd gM6 83 52)).mpr q2)]
      by_cases q3 : v5 < 0 ∨ 512 ≤ v5
      · rw [if_pos q3] at h
        rw [if_pos ((rp_ob hv5 512).mpr q3)]
        cases h
      · rw [if_neg q3] at h
        rw [if_neg (fun z => q3 ((rp_ob hv5 512).mp z))]
        have gM10 : rm (m_i NM6 119 (V5).toNatClampNeg X1_) (z_i M6 119 (Int.toNat v5) x1) := rm_ix gM6 119 hv5 hx1
        rw [mlet]
        rw [zlet] at h
        generalize z_i M6 119 (Int.toNat v5) x1 = M10 at h gM10
        generalize m_i NM6 119 (V5).toNatClampNeg X1_ = NM10 at gM10 ⊢
        exact zJ70_62_r n hx2 hv5 gM10 h
    · rw [if_neg q2] at h
      rw [if_neg (fun z => q2 ((rp_eq hv5 (rm_rd gM6 83 52)).mp z))]
      exact zJ70_86_r n hv5 gM6 h
/-- ArmExpanderModel.newRound -/
def zF70 (n : Nat) (a0 : Int) (M : ZM) : Option (Unit × ZM) :=
  if a0 < 0 ∨ 128 ≤ a0 then (none) else (if 0 ≤ (M.1 95 (Int.toNat a0)) then (if (M.1 95 (Int.toNat a0)) < 0 ∨ 128 ≤ (M.1 95 (Int.toNat a0)) then (none) else (if rg ((M.1 118 (Int.toNat (M.1 95 (Int.toNat a0)))) - 1) then (zJ70_40 n a0 ((M.1 118 (Int.toNat (M.1 95 (Int.toNat a0)))) - 1) M) else none)) else (if rg ((M.1 118 (Int.toNat a0)) + 1) then (zlet (z_i M 118 (Int.toNat a0) ((M.1 118 (Int.toNat a0)) + 1)) (fun M21 => zJ70_100 n M21)) else none))
set_option maxRecDepth 100000 in
set_option maxHeartbeats 4000000 in
theorem zF70_r (n : Nat) {A0_ : Int32} {a0 : Int} (ha0 : rp A0_ a0) {M_ : Mem} {M : ZM} (gM : rm M_ M) {r : Unit} {m' : ZM} (h : zF70 n a0 M = some (r, m')) : sU (F70 n A0_ M_) m' := by
  unfold zF70 at h
  unfold F70
  by_cases q1 : a0 < 0 ∨ 128 ≤ a0
  · rw [if_pos q1] at h
    rw [if_pos ((rp_ob ha0 128).mpr q1)]
    cases h
  · rw [if_neg q1] at h
    rw [if_neg (fun z => q1 ((rp_ob ha0 128).mp z))]
    by_cases q2 : 0 ≤ (M.1 95 (Int.toNat a0))
    · rw [if_pos q2] at h
      rw [if_pos ((rp_le (show rp 0 0 from rfl) (rm_rdx gM 95 ha0)).mpr q2)]
      rw [if_neg (fun z => q1 ((rp_ob ha0 128).mp z))]
      by_cases q3 : (M.1 95 (Int.toNat a0)) < 0 ∨ 128 ≤ (M.1 95 (Int.toNat a0))
      · rw [if_pos q3] at h
        rw [if_pos ((rp_ob (rm_rdx gM 95 ha0) 128).mpr q3)]
        cases h
      · rw [if_neg q3] at h
        rw [if_neg (fun z => q3 ((rp_ob (rm_rdx gM 95 ha0) 128).mp z))]
        by_cases w4 : rg ((M.1 118 (Int.toNat (M.1 95 (Int.toNat a0)))) - 1)
        · rw [if_pos w4] at h
          exact zJ70_40_r n ha0 (rp_sub (rp_iz (rm_rdx gM 118 (rm_rdx gM 95 ha0))) (rp_iz (show rp 1 1 from rfl)) w4) gM h
        · rw [if_neg w4] at h
          cases h
    · rw [if_neg q2] at h
      rw [if_neg (fun z => q2 ((rp_le (show rp 0 0 from rfl) (rm_rdx gM 95 ha0)).mp z))]
      rw [if_neg (fun z => q1 ((rp_ob ha0 128).mp z))]
      rw [if_neg (fun z => q1 ((rp_ob ha0 128).mp z))]
      by_cases w5 : rg ((M.1 118 (Int.toNat a0)) + 1)
      · rw [if_pos w5] at h
        have gM21 : rm (m_i M_ 118 (A0_).toNatClampNeg ((M_.1 118 (A0_).toNatClampNeg) + (1 : Int32))) (z_i M 118 (Int.toNat a0) ((M.1 118 (Int.toNat a0)) + 1)) := rm_ix gM 118 ha0 (rp_add (rp_iz (rm_rdx gM 118 ha0)) (rp_iz (show rp 1 1 from rfl)) w5)
        rw [mlet]
        rw [zlet] at h
        generalize z_i M 118 (Int.toNat a0) ((M.1 118 (Int.toNat a0)) + 1) = M21 at h gM21
        generalize m_i M_ 118 (A0_).toNatClampNeg ((M_.1 118 (A0_).toNatClampNeg) + (1 : Int32)) = NM21 at gM21 ⊢
        exact zJ70_100_r n gM21 h
      · rw [if_neg w5] at h
        cases h
def zJ71_360 (n : Nat) (zrec259 : Int → Int → ZM → Option (Unit × ZM)) (x6 : Int) (M : ZM) : Option (Unit × ZM) :=
  if x6 < 0 ∨ 128 ≤ x6 then (none) else (if rg (x6 + (-1)) then (zrec259 (M.1 117 (Int.toNat x6)) (x6 + (-1)) M) else none)
set_option maxRecDepth 100000 in
set_option maxHeartbeats 4000000 in
theorem zJ71_360_r (n : Nat) (rec259 : Int32 → Int32 → Mem → Option (Unit × Mem)) (zrec259 : Int → Int → ZM → Option (Unit × ZM)) (hrec259 : ∀ {Y1 : Int32} {y1 : Int} (_ : rp Y1 y1) {Y2 : Int32} {y2 : Int} (_ : rp Y2 y2) {M : Mem} {m : ZM} (_ : rm M m) {r : Unit} {m' : ZM} (_ : zrec259 y1 y2 m = some (r, m')), sU (rec259 Y1 Y2 M) m') {X6_ : Int32} {x6 : Int} (hx6 : rp X6_ x6) {M_ : Mem} {M : ZM} (gM : rm M_ M) {r : Unit} {m' : ZM} (h : zJ71_360 n zrec259 x6 M = some (r, m')) : sU (J71_360 n rec259 X6_ M_) m' := by
  unfold zJ71_360 at h
  unfold J71_360
  by_cases q1 : x6 < 0 ∨ 128 ≤ x6
  · rw [if_pos q1] at h
    rw [if_pos ((rp_ob hx6 128).mpr q1)]
    cases h
  · rw [if_neg q1] at h
    rw [if_neg (fun z => q1 ((rp_ob hx6 128).mp z))]
    by_cases w2 : rg (x6 + (-1))
    · rw [if_pos w2] at h
      exact hrec259 (rm_rdx gM 117 hx6) (rp_add (rp_iz hx6) (rp_iz (show rp (-1) (-1) from rfl)) w2) gM h
    · rw [if_neg w2] at h
      cases h
def zJ71_344 (n : Nat) (zrec259 : Int → Int → ZM → Option (Unit × ZM)) (x5 : Int) (x6 : Int) (x8 : Int) (M : ZM) : Option (Unit × ZM) :=
  if x8 = 0 then (zJ71_360 n zrec259 x6 M) else (if x5 < 0 ∨ 128 ≤ x5 then (none) else (match zF70 n (M.1 92 (Int.toNat x5)) M with | some (v19, M20) => (zJ71_360 n zrec259 x6 M20) | none => none))
set_option maxRecDepth 100000 in
set_option maxHeartbeats 4000000 in
theorem zJ71_344_r (n : Nat) (rec259 : Int32 → Int32 → Mem → Option (Unit × Mem)) (zrec259 : Int → Int → ZM → Option (Unit × ZM)) (hrec259 : ∀ {Y1 : Int32} {y1 : Int} (_ : rp Y1 y1) {Y2 : Int32} {y2 : Int} (_ : rp Y2 y2) {M : Mem} {m : ZM} (_ : rm M m) {r : Unit} {m' : ZM} (_ : zrec259 y1 y2 m = some (r, m')), sU (rec259 Y1 Y2 M) m') {X5_ : Int32} {x5 : Int} (hx5 : rp X5_ x5) {X6_ : Int32} {x6 : Int} (hx6 : rp X6_ x6) {X8_ : Int32} {x8 : Int} (hx8 : rp X8_ x8) {M_ : Mem} {M : ZM} (gM : rm M_ M) {r : Unit} {m' : ZM} (h : zJ71_344 n zrec259 x5 x6 x8 M = some (r, m')) : sU (J71_344 n rec259 X5_ X6_ X8_ M_) m' := by
  unfold zJ71_344 at h
  unfold J71_344
  by_cases q1 : x8 = 0
  · rw [if_pos q1] at h
    rw [if_pos ((rp_eq hx8 (show rp 0 0 from rfl)).mpr q1)]
    exact zJ71_360_r n _ _ hrec259 hx6 gM h
  · rw [if_neg q1] at h
    rw [if_neg (fun z => q1 ((rp_eq hx8 (show rp 0 0 from rfl)).mp z))]
    by_cases q2 : x5 < 0 ∨ 128 ≤ x5
    · rw [if_pos q2] at h
      rw [if_pos ((rp_ob hx5 128).mpr q2)]
      cases h
    · rw [if_neg q2] at h
      rw [if_neg (fun z => q2 ((rp_ob hx5 128).mp z))]
      cases hc3 : zF70 n (M.1 92 (Int.toNat x5)) M with
      | none => rw [hc3] at h; cases h
      | some w =>
        obtain ⟨v19, M20⟩ := w
        rw [hc3] at h
        dsimp only at h
        obtain ⟨NM20, ehc3, gM20⟩ := zF70_r n (rm_rdx gM 92 hx5) gM hc3
        rw [ehc3]
        dsimp only
        exact zJ71_360_r n _ _ hrec259 hx6 gM20 h
def zJ71_331 (n : Nat) (zrec259 : Int → Int → ZM → Option (Unit × ZM)) (x5 : Int) (x6 : Int) (x7 : Int) (s0 : Int) (M : ZM) : Option (Unit × ZM) :=
  if x7 = 0 then (zJ71_344 n zrec259 x5 x6 s0 M) else (match zF70 n x5 M with | some (v22, M23) => (zJ71_344 n zrec259 x5 x6 s0 M23) | none => none)
set_option maxRecDepth 100000 in
set_option maxHeartbeats 4000000 in
theorem zJ71_331_r (n : Nat) (rec259 : Int32 → Int32 → Mem → Option (Unit × Mem)) (zrec259 : Int → Int → ZM → Option (Unit × ZM)) (hrec259 : ∀ {Y1 : Int32} {y1 : Int} (_ : rp Y1 y1) {Y2 : Int32} {y2 : Int} (_ : rp Y2 y2) {M : Mem} {m : ZM} (_ : rm M m) {r : Unit} {m' : ZM} (_ : zrec259 y1 y2 m = some (r, m')), sU (rec259 Y1 Y2 M) m') {X5_ : Int32} {x5 : Int} (hx5 : rp X5_ x5) {X6_ : Int32} {x6 : Int} (hx6 : rp X6_ x6) {X7_ : Int32} {x7 : Int} (hx7 : rp X7_ x7) {S0_ : Int32} {s0 : Int} (hs0 : rp S0_ s0) {M_ : Mem} {M : ZM} (gM : rm M_ M) {r : Unit} {m' : ZM} (h : zJ71_331 n zrec259 x5 x6 x7 s0 M = some (r, m')) : sU (J71_331 n rec259 X5_ X6_ X7_ S0_ M_) m' := by
  unfold zJ71_331 at h
  unfold J71_331
  by_cases q1 : x7 = 0
  · rw [if_pos q1] at h
    rw [if_pos ((rp_eq hx7 (show rp 0 0 from rfl)).mpr q1)]
    exact zJ71_344_r n _ _ hrec259 hx5 hx6 hs0 gM h
  · rw [if_neg q1] at h
    rw [if_neg (fun z => q1 ((rp_eq hx7 (show rp 0 0 from rfl)).mp z))]
    cases hc2 : zF70 n x5 M with
    | none => rw [hc2] at h; cases h
    | some w =>
      obtain ⟨v22, M23⟩ := w
      rw [hc2] at h
      dsimp only at h
      obtain ⟨NM23, ehc2, gM23⟩ := zF70_r n hx5 gM hc2
      rw [ehc2]
      dsimp only
      exact zJ71_344_r n _ _ hrec259 hx5 hx6 hs0 gM23 h
def zJ71_326 (n : Nat) (zrec259 : Int → Int → ZM → Option (Unit × ZM)) (x5 : Int) (x6 : Int) (x7 : Int) (M : ZM) : Option (Unit × ZM) :=
  zJ71_331 n zrec259 x5 x6 x7 1 M
set_option maxRecDepth 100000 in
set_option maxHeartbeats 4000000 in
theorem zJ71_326_r (n : Nat) (rec259 : Int32 → Int32 → Mem → Option (Unit × Mem)) (zrec259 : Int → Int → ZM → Option (Unit × ZM)) (hrec259 : ∀ {Y1 : Int32} {y1 : Int} (_ : rp Y1 y1) {Y2 : Int32} {y2 : Int} (_ : rp Y2 y2) {M : Mem} {m : ZM} (_ : rm M m) {r : Unit} {m' : ZM} (_ : zrec259 y1 y2 m = some (r, m')), sU (rec259 Y1 Y2 M) m') {X5_ : Int32} {x5 : Int} (hx5 : rp X5_ x5) {X6_ : Int32} {x6 : Int} (hx6 : rp X6_ x6) {X7_ : Int32} {x7 : Int} (hx7 : rp X7_ x7) {M_ : Mem} {M : ZM} (gM : rm M_ M) {r : Unit} {m' : ZM} (h : zJ71_326 n zrec259 x5 x6 x7 M = some (r, m')) : sU (J71_326 n rec259 X5_ X6_ X7_ M_) m' := by
  unfold zJ71_326 at h
  unfold J71_326
  exact zJ71_331_r n _ _ hrec259 hx5 hx6 hx7 (show rp 1 1 from rfl) gM h
def zJ71_330 (n : Nat) (zrec259 : Int → Int → ZM → Option (Unit × ZM)) (x5 : Int) (x6 : Int) (x7 : Int) (M : ZM) : Option (Unit × ZM) :=
  zJ71_331 n zrec259 x5 x6 x7 0 M
set_option maxRecDepth 100000 in
set_option maxHeartbeats 4000000 in
theorem zJ71_330_r (n : Nat) (rec259 : Int32 → Int32 → Mem → Option (Unit × Mem)) (zrec259 : Int → Int → ZM → Option (Unit × ZM)) (hrec259 : ∀ {Y1 : Int32} {y1 : Int} (_ : rp Y1 y1) {Y2 : Int32} {y2 : Int} (_ : rp Y2 y2) {M : Mem} {m : ZM} (_ : rm M m) {r : Unit} {m' : ZM} (_ : zrec259 y1 y2 m = some (r, m')), sU (rec259 Y1 Y2 M) m') {X5_ : Int32} {x5 : Int} (hx5 : rp X5_ x5) {X6_ : Int32} {x6 : Int} (hx6 : rp X6_ x6) {X7_ : Int32} {x7 : Int} (hx7 : rp X7_ x7) {M_ : Mem} {M : ZM} (gM : rm M_ M) {r : Unit} {m' : ZM} (h : zJ71_330 n zrec259 x5 x6 x7 M = some (r, m')) : sU (J71_330 n rec259 X5_ X6_ X7_ M_) m' := by
  unfold zJ71_330 at h
  unfold J71_330
  exact zJ71_331_r n _ _ hrec259 hx5 hx6 hx7 (show rp 0 0 from rfl) gM h
def zJ71_294 (n : Nat) (zrec259 : Int → Int → ZM → Option (Unit × ZM)) (x5 : Int) (x6 : Int) (s0 : Int) (M : ZM) : Option (Unit × ZM) :=
  if x5 < 0 ∨ 128 ≤ x5 then (none) else (if (M.1 90 (Int.toNat x5)) = 5 then (if x6 < 0 ∨ 128 ≤ x6 then (none) else (if rg ((M.1 92 (Int.toNat x5)) + 1) then (if (M.1 117 (Int.toNat x6)) = ((M.1 92 (Int.toNat x5)) + 1) then (zJ71_326 n zrec259 x5 x6 s0 M) else (zJ71_330 n zrec259 x5 x6 s0 M)) else none)) else (zJ71_330 n zrec259 x5 x6 s0 M))
set_option maxRecDepth 100000 in
set_option maxHeartbeats 4000000 in
theorem zJ71_294_r (n : Nat) (rec259 : Int32 → Int32 → Mem → Option (Unit × Mem)) (zrec259 : Int → Int → ZM → Option (Unit × ZM)) (hrec259 : ∀ {Y1 : Int32} {y1 : Int} (_ : rp Y1 y1) {Y2 : Int32} {y2 : Int} (_ : rp Y2 y2) {M : Mem} {m : ZM} (_ : rm M m) {r : Unit} {m' : ZM} (_ : zrec259 y1 y2 m = some (r, m')), sU (rec259 Y1 Y2 M) m') {X5_ : Int32} {x5 : Int} (hx5 : rp X5_ x5) {X6_ : Int32} {x6 : Int} (hx6 : rp X6_ x6) {S0_ : Int32} {s0 : Int} (hs0 : rp S0_ s0) {M_ : Mem} {M : ZM} (gM : rm M_ M) {r : Unit} {m' : ZM} (h : zJ71_294 n zrec259 x5 x6 s0 M = some (r, m')) : sU (J71_294 n rec259 X5_ X6_ S0_ M_) m' := by
  unfold zJ71_294 at h
  unfold J71_294
  by_cases q1 : x5 < 0 ∨ 128 ≤ x5
  · rw [if_pos q1] at h
    rw [if_pos ((rp_ob hx5 128).mpr q1)]
    cases h
  · rw [if_neg q1] at h
    rw [if_neg (fun z => q1 ((rp_ob hx5 128).mp z))]
    by_cases q2 : (M.1 90 (Int.toNat x5)) = 5
    · rw [if_pos q2] at h
      rw [if_pos ((rp_eq (rm_rdx gM 90 hx5) (show rp 5 5 from rfl)).mpr q2)]
      by_cases q3 : x6 < 0 ∨ 128 ≤ x6
      · rw [if_pos q3] at h
        rw [if_pos ((rp_ob hx6 128).mpr q3)]
        cases h
      · rw [if_neg q3] at h
        rw [if_neg (fun z => q3 ((rp_ob hx6 128).mp z))]
        rw [if_neg (fun z => q1 ((rp_ob hx5 128).mp z))]
        by_cases w4 : rg ((M.1 92 (Int.toNat x5)) + 1)
        · rw [if_pos w4] at h
          by_cases q5 : (M.1 117 (Int.toNat x6)) = ((M.1 92 (Int.toNat x5)) + 1)
          · rw [if_pos q5] at h
            rw [if_pos ((rp_eq (rm_rdx gM 117 hx6) (rp_add (rp_iz (rm_rdx gM 92 hx5)) (rp_iz (show rp 1 1 from rfl)) w4)).mpr q5)]
            exact zJ71_326_r n _ _ hrec259 hx5 hx6 hs0 gM h
          · rw [if_neg q5] at h
            rw [if_neg (fun z => q5 ((rp_eq (rm_rdx gM 117 hx6) (rp_add (rp_iz (rm_rdx gM 92 hx5)) (rp_iz (show rp 1 1 from rfl)) w4)).mp z))]
            exact zJ71_330_r n _ _ hrec259 hx5 hx6 hs0 gM h
        · rw [if_neg w4] at h
          cases h
    · rw [if_neg q2] at h
      rw [if_neg (fun z => q2 ((rp_eq (rm_rdx gM 90 hx5) (show rp 5 5 from rfl)).mp z))]
      exact zJ71_330_r n _ _ hrec259 hx5 hx6 hs0 gM h
def zJ71_289 (n : Nat) (zrec259 : Int → Int → ZM → Option (Unit × ZM)) (x5 : Int) (x6 : Int) (M : ZM) : Option (Unit × ZM) :=
  zJ71_294 n zrec259 x5 x6 1 M
set_option maxRecDepth 100000 in
set_option maxHeartbeats 4000000 in
theorem zJ71_289_r (n : Nat) (rec259 : Int32 → Int32 → Mem → Option (Unit × Mem)) (zrec259 : Int → Int → ZM → Option (Unit × ZM)) (hrec259 : ∀ {Y1 : Int32} {y1 : Int} (_ : rp Y1 y1) {Y2 : Int32} {y2 : Int} (_ : rp Y2 y2) {M : Mem} {m : ZM} (_ : rm M m) {r : Unit} {m' : ZM} (_ : zrec259 y1 y2 m = some (r, m')), sU (rec259 Y1 Y2 M) m') {X5_ : Int32} {x5 : Int} (hx5 : rp X5_ x5) {X6_ : Int32} {x6 : Int} (hx6 : rp X6_ x6) {M_ : Mem} {M : ZM} (gM : rm M_ M) {r : Unit} {m' : ZM} (h : zJ71_289 n zrec259 x5 x6 M = some (r, m')) : sU (J71_289 n rec259 X5_ X6_ M_) m' := by
  unfold zJ71_289 at h
  unfold J71_289
  exact zJ71_294_r n _ _ hrec259 hx5 hx6 (show rp 1 1 from rfl) gM h
def zJ71_293 (n : Nat) (zrec259 : Int → Int → ZM → Option (Unit × ZM)) (x5 : Int) (x6 : Int) (M : ZM) : Option (Unit × ZM) :=
  zJ71_294 n zrec259 x5 x6 0 M
set_option maxRecDepth 100000 in
set_option maxHeartbeats 4000000 in
theorem zJ71_293_r (n : Nat) (rec259 : Int32 → Int32 → Mem → Option (Unit × Mem)) (zrec259 : Int → Int → ZM → Option (Unit × ZM)) (hrec259 : ∀ {Y1 : Int32} {y1 : Int} (_ : rp Y1 y1) {Y2 : Int32} {y2 : Int} (_ : rp Y2 y2) {M : Mem} {m : ZM} (_ : rm M m) {r : Unit} {m' : ZM} (_ : zrec259 y1 y2 m = some (r, m')), sU (rec259 Y1 Y2 M) m') {X5_ : Int32} {x5 : Int} (hx5 : rp X5_ x5) {X6_ : Int32} {x6 : Int} (hx6 : rp X6_ x6) {M_ : Mem} {M : ZM} (gM : rm M_ M) {r : Unit} {m' : ZM} (h : zJ71_293 n zrec259 x5 x6 M = some (r, m')) : sU (J71_293 n rec259 X5_ X6_ M_) m' := by
  unfold zJ71_293 at h
  unfold J71_293
  exact zJ71_294_r n _ _ hrec259 hx5 hx6 (show rp 0 0 from rfl) gM h
def zL71_259 (n : Nat) : Nat → Int → Int → ZM → Option (Unit × ZM)
  | 0, _, _, _ => none
  | k + 1, x5, x6, M => if x6 < 0 then (some ((), M)) else (if x5 < 0 ∨ 128 ≤ x5 then (none) else (if (M.1 90 (Int.toNat x5)) = 4 then (if x6 < 0 ∨ 128 ≤ x6 then (none) else (if rg (x5 + 1) then (if (M.1 117 (Int.toNat x6)) = (x5 + 1) then (zJ71_289 n (zL71_259 n k) x5 x6 M) else (zJ71_293 n (zL71_259 n k) x5 x6 M)) else none)) else (zJ71_293 n (zL71_259 n k) x5 x6 M)))
set_option maxRecDepth 100000 in
set_option maxHeartbeats 4000000 in
theorem zL71_259_r (n : Nat) : ∀ (k : Nat) {X5_ : Int32} {x5 : Int} (hx5 : rp X5_ x5) {X6_ : Int32} {x6 : Int} (hx6 : rp X6_ x6) {M_ : Mem} {M : ZM} (gM : rm M_ M) {r : Unit} {m' : ZM} (_ : zL71_259 n k x5 x6 M = some (r, m')), sU (L71_259 n k X5_ X6_ M_) m' := by
  intro k
  induction k with
  | zero => intro X5_ x5 hx5 X6_ x6 hx6 M_ M gM r m' h; cases h
  | succ k ih =>
    intro X5_ x5 hx5 X6_ x6 hx6 M_ M gM r m' h
    rw [zL71_259] at h
    rw [L71_259]
    by_cases q1 : x6 < 0
    · rw [if_pos q1] at h
      rw [if_pos ((rp_lt hx6 (show rp 0 0 from rfl)).mpr q1)]
      obtain ⟨_, rfl⟩ := Prod.mk.inj (Option.some.inj h)
      exact ⟨_, rfl, gM⟩
    · rw [if_neg q1] at h
      rw [if_neg (fun z => q1 ((rp_lt hx6 (show rp 0 0 from rfl)).mp z))]
      by_cases q2 : x5 < 0 ∨ 128 ≤ x5
      · rw [if_pos q2] at h
        rw [if_pos ((rp_ob hx5 128).mpr q2)]
        cases h
      · rw [if_neg q2] at h
        rw [if_neg (fun z => q2 ((rp_ob hx5 128).mp z))]
        by_cases q3 : (M.1 90 (Int.toNat x5)) = 4
        · rw [if_pos q3] at h
          rw [if_pos ((rp_eq (rm_rdx gM 90 hx5) (show rp 4 4 from rfl)).mpr q3)]
          by_cases q4 : x6 < 0 ∨ 128 ≤ x6
          · rw [if_pos q4] at h
            rw [if_pos ((rp_ob hx6 128).mpr q4)]
            cases h
          · rw [if_neg q4] at h
            rw [if_neg (fun z => q4 ((rp_ob hx6 128).mp z))]
            by_cases w5 : rg (x5 + 1)
            · rw [if_pos w5] at h
              by_cases q6 : (M.1 117 (Int.toNat x6)) = (x5 + 1)
              · rw [if_pos q6] at h
                rw [if_pos ((rp_eq (rm_rdx gM 117 hx6) (rp_add (rp_iz hx5) (rp_iz (show rp 1 1 from rfl)) w5)).mpr q6)]
                exact zJ71_289_r n _ _ ih hx5 hx6 gM h
              · rw [if_neg q6] at h
                rw [if_neg (fun z => q6 ((rp_eq (rm_rdx gM 117 hx6) (rp_add (rp_iz hx5) (rp_iz (show rp 1 1 from rfl)) w5)).mp z))]
                exact zJ71_293_r n _ _ ih hx5 hx6 gM h
            · rw [if_neg w5] at h
              cases h
        · rw [if_neg q3] at h
          rw [if_neg (fun z => q3 ((rp_eq (rm_rdx gM 90 hx5) (show rp 4 4 from rfl)).mp z))]
          exact zJ71_293_r n _ _ ih hx5 hx6 gM h
def zL71_217 (n : Nat) : Nat → Int → Int → Int → ZM → Option (Unit × ZM)
  | 0, _, _, _, _ => none
  | k + 1, x1, x4, x5, M => if x5 = x1 then (if rg (x4 - 1) then (zL71_259 n n x1 (x4 - 1) M) else none) else (if x4 < 0 ∨ 128 ≤ x4 then (none) else (zlet (z_i M 117 (Int.toNat x4) x5) (fun M26 => if x5 < 0 ∨ 128 ≤ x5 then (none) else (if rg (x4 + 1) then ((zL71_217 n k) x1 (x4 + 1) (M26.1 115 (Int.toNat x5)) M26) else none))))
set_option maxRecDepth 100000 in
set_option maxHeartbeats 4000000 in
theorem zL71_217_r (n : Nat) : ∀ (k : Nat) {X1_ : Int32} {x1 : Int} (hx1 : rp X1_ x1) {X4_ : Int32} {x4 : Int} (hx4 : rp X4_ x4) {X5_ : Int32} {x5 : Int} (hx5 : rp X5_ x5) {M_ : Mem} {M : ZM} (gM : rm M_ M) {r : Unit} {m' : ZM} (_ : zL71_217 n k x1 x4 x5 M = some (r, m')), sU (L71_217 n k X1_ X4_ X5_ M_) m' := by
  intro k
  induction k with
  | zero => intro X1_ x1 hx1 X4_ x4 hx4 X5_ x5 hx5 M_ M gM r m' h; cases h
  | succ k ih =>
    intro X1_ x1 hx1 X4_ x4 hx4 X5_ x5 hx5 M_ M gM r m' h
    rw [zL71_217] at h
    rw [L71_217]
    by_cases q1 : x5 = x1
    · rw [if_pos q1] at h
      rw [if_pos ((rp_eq hx5 hx1).mpr q1)]
      by_cases w2 : rg (x4 - 1)
      · rw [if_pos w2] at h
        exact zL71_259_r n n hx1 (rp_sub (rp_iz hx4) (rp_iz (show rp 1 1 from rfl)) w2) gM h
      · rw [if_neg w2] at h
        cases h
    · rw [if_neg q1] at h
      rw [if_neg (fun z => q1 ((rp_eq hx5 hx1).mp z))]
      by_cases q3 : x4 < 0 ∨ 128 ≤ x4
      · rw [if_pos q3] at h
        rw [if_pos ((rp_ob hx4 128).mpr q3)]
        cases h
      · rw [if_neg q3] at h
        rw [if_neg (fun z => q3 ((rp_ob hx4 128).mp z))]
        have gM26 : rm (m_i M_ 117 (X4_).toNatClampNeg X5_) (z_i M 117 (Int.toNat x4) x5) := rm_ix gM 117 hx4 hx5
        rw [mlet]
        rw [zlet] at h
        generalize z_i M 117 (Int.toNat x4) x5 = M26 at h gM26
        generalize m_i M_ 117 (X4_).toNatClampNeg X5_ = NM26 at gM26 ⊢
        by_cases q4 : x5 < 0 ∨ 128 ≤ x5
        · rw [if_pos q4] at h
          rw [if_pos ((rp_ob hx5 128).mpr q4)]
          cases h
        · rw [if_neg q4] at h
          rw [if_neg (fun z => q4 ((rp_ob hx5 128).mp z))]
          by_cases w5 : rg (x4 + 1)
          · rw [if_pos w5] at h
            exact ih hx1 (rp_add (rp_iz hx4) (rp_iz (show rp 1 1 from rfl)) w5) (rm_rdx gM26 115 hx5) gM26 h
          · rw [if_neg w5] at h
            cases h
def zJ71_208 (n : Nat) (zrec31 : Int → Int → Int → ZM → Option (Unit × ZM)) (x1 : Int) (x2 : Int) (x3 : Int) (M : ZM) : Option (Unit × ZM) :=
  zrec31 x1 x2 x3 M
set_option maxRecDepth 100000 in
set_option maxHeartbeats 4000000 in
theorem zJ71_208_r (n : Nat) (rec31 : Int32 → Int32 → Int32 → Mem → Option (Unit × Mem)) (zrec31 : Int → Int → Int → ZM → Option (Unit × ZM)) (hrec31 : ∀ {Y1 : Int32} {y1 : Int} (_ : rp Y1 y1) {Y2 : Int32} {y2 : Int} (_ : rp Y2 y2) {Y3 : Int32} {y3 : Int} (_ : rp Y3 y3) {M : Mem} {m : ZM} (_ : rm M m) {r : Unit} {m' : ZM} (_ : zrec31 y1 y2 y3 m = some (r, m')), sU (rec31 Y1 Y2 Y3 M) m') {X1_ : Int32} {x1 : Int} (hx1 : rp X1_ x1) {X2_ : Int32} {x2 : Int} (hx2 : rp X2_ x2) {X3_ : Int32} {x3 : Int} (hx3 : rp X3_ x3) {M_ : Mem} {M : ZM} (gM : rm M_ M) {r : Unit} {m' : ZM} (h : zJ71_208 n zrec31 x1 x2 x3 M = some (r, m')) : sU (J71_208 n rec31 X1_ X2_ X3_ M_) m' := by
  unfold zJ71_208 at h
  unfold J71_208
  exact hrec31 hx1 hx2 hx3 gM h
def zJ71_196 (n : Nat) (zrec31 : Int → Int → Int → ZM → Option (Unit × ZM)) (x1 : Int) (x2 : Int) (x3 : Int) (x8 : Int) (M : ZM) : Option (Unit × ZM) :=
  if x3 < 0 ∨ 512 ≤ x3 then (none) else (zlet (z_i M 114 (Int.toNat x3) x8) (fun M43 => if rg (x3 + 1) then (zJ71_208 n zrec31 x1 x2 (x3 + 1) M43) else none))
set_option maxRecDepth 100000 in
set_option maxHeartbeats 4000000 in
theorem zJ71_196_r (n : Nat) (rec31 : Int32 → Int32 → Int32 → Mem → Option (Unit × Mem)) (zrec31 : Int → Int → Int → ZM → Option (Unit × ZM)) (hrec31 : ∀ {Y1 : Int32} {y1 : Int} (_ : rp Y1 y1) {Y2 : Int32} {y2 : Int} (_ : rp Y2 y2) {Y3 : Int32} {y3 : Int} (_ : rp Y3 y3) {M : Mem} {m : ZM} (_ : rm M m) {r : Unit} {m' : ZM} (_ : zrec31 y1 y2 y3 m = some (r, m')), sU (rec31 Y1 Y2 Y3 M) m') {X1_ : Int32} {x1 : Int} (hx1 : rp X1_ x1) {X2_ : Int32} {x2 : Int} (hx2 : rp X2_ x2) {X3_ : Int32} {x3 : Int} (hx3 : rp X3_ x3) {X8_ : Int32} {x8 : Int} (hx8 : rp X8_ x8) {M_ : Mem} {M : ZM} (gM : rm M_ M) {r : Unit} {m' : ZM} (h : zJ71_196 n zrec31 x1 x2 x3 x8 M = some (r, m')) : sU (J71_196 n rec31 X1_ X2_ X3_ X8_ M_) m' := by
  unfold zJ71_196 at h
  unfold J71_196
  by_cases q1 : x3 < 0 ∨ 512 ≤ x3
  · rw [if_pos q1] at h
    rw [if_pos ((rp_ob hx3 512).mpr q1)]
    cases h
  · rw [if_neg q1] at h
    rw [if_neg (fun z => q1 ((rp_ob hx3 512).mp z))]
    have gM43 : rm (m_i M_ 114 (X3_).toNatClampNeg X8_) (z_i M 114 (Int.toNat x3) x8) := rm_ix gM 114 hx3 hx8
    rw [mlet]
    rw [zlet] at h
    generalize z_i M 114 (Int.toNat x3) x8 = M43 at h gM43
    generalize m_i M_ 114 (X3_).toNatClampNeg X8_ = NM43 at gM43 ⊢
    by_cases w2 : rg (x3 + 1)
    · rw [if_pos w2] at h
      exact zJ71_208_r n _ _ hrec31 hx1 hx2 (rp_add (rp_iz hx3) (rp_iz (show rp 1 1 from rfl)) w2) gM43 h
    · rw [if_neg w2] at h
      cases h
def zJ71_172 (n : Nat) (zrec31 : Int → Int → Int → ZM → Option (Unit × ZM)) (x1 : Int) (x2 : Int) (x3 : Int) (x4 : Int) (x8 : Int) (M : ZM) : Option (Unit × ZM) :=
  if x8 < 0 then (zJ71_208 n zrec31 x1 x2 x3 M) else (if x8 < 0 ∨ 128 ≤ x8 then (none) else (if 0 ≤ (M.1 115 (Int.toNat x8)) then (zJ71_208 n zrec31 x1 x2 x3 M) else (zlet (z_i M 115 (Int.toNat x8) x4) (fun M41 => zJ71_196 n zrec31 x1 x2 x3 x8 M41))))
set_option maxRecDepth 100000 in
set_option maxHeartbeats 4000000 in
theorem zJ71_172_r (n : Nat) (rec31 : Int32 → Int32 → Int32 → Mem → Option (Unit × Mem)) (zrec31 : Int → Int → Int → ZM → Option (Unit × ZM)) (hrec31 : ∀ {Y1 : Int32} {y1 : Int} (_ : rp Y1 y1) {Y2 : Int32} {y2 : Int} (_ : rp Y2 y2) {Y3 : Int32} {y3 : Int} (_ : rp Y3 y3) {M : Mem} {m : ZM} (_ : rm M m) {r : Unit} {m' : ZM} (_ : zrec31 y1 y2 y3 m = some (r, m')), sU (rec31 Y1 Y2 Y3 M) m') {X1_ : Int32} {x1 : Int} (hx1 : rp X1_ x1) {X2_ : Int32} {x2 : Int} (hx2 : rp X2_ x2) {X3_ : Int32} {x3 : Int} (hx3 : rp X3_ x3) {X4_ : Int32} {x4 : Int} (hx4 : rp X4_ x4) {X8_ : Int32} {x8 : Int} (hx8 : rp X8_ x8) {M_ : Mem} {M : ZM} (gM : rm M_ M) {r : Unit} {m' : ZM} (h : zJ71_172 n zrec31 x1 x2 x3 x4 x8 M = some (r, m')) : sU (J71_172 n rec31 X1_ X2_ X3_ X4_ X8_ M_) m' := by
  unfold zJ71_172 at h
  unfold J71_172
  by_cases q1 : x8 < 0
  · rw [if_pos q1] at h
    rw [if_pos ((rp_lt hx8 (show rp 0 0 from rfl)).mpr q1)]
    exact zJ71_208_r n _ _ hrec31 hx1 hx2 hx3 gM h
  · rw [if_neg q1] at h
    rw [if_neg (fun z => q1 ((rp_lt hx8 (show rp 0 0 from rfl)).mp z))]
    by_cases q2 : x8 < 0 ∨ 128 ≤ x8
    · rw [if_pos q2] at h
      rw [if_pos ((rp_ob hx8 128).mpr q2)]
      cases h
    · rw [if_neg q2] at h
      rw [if_neg (fun z => q2 ((rp_ob hx8 128).mp z))]
      by_cases q3 : 0 ≤ (M.1 115 (Int.toNat x8))
      · rw [if_pos q3] at h
        rw [if_pos ((rp_le (show rp 0 0 from rfl) (rm_rdx gM 115 hx8)).mpr q3)]
        exact zJ71_208_r n _ _ hrec31 hx1 hx2 hx3 gM h
      · rw [if_neg q3] at h
        rw [if_neg (fun z => q3 ((rp_le (show rp 0 0 from rfl) (rm_rdx gM 115 hx8)).mp z))]
        rw [if_neg (fun z => q2 ((rp_ob hx8 128).mp z))]
        have gM41 : rm (m_i M_ 115 (X8_).toNatClampNeg X4_) (z_i M 115 (Int.toNat x8) x4) := rm_ix gM 115 hx8 hx4
        rw [mlet]
        rw [zlet] at h
        generalize z_i M 115 (Int.toNat x8) x4 = M41 at h gM41
        generalize m_i M_ 115 (X8_).toNatClampNeg X4_ = NM41 at gM41 ⊢
        exact zJ71_196_r n _ _ hrec31 hx1 hx2 hx3 hx8 gM41 h
def zJ71_160 (n : Nat) (zrec31 : Int → Int → Int → ZM → Option (Unit × ZM)) (x1 : Int) (x2 : Int) (x3 : Int) (x4 : Int) (x7 : Int) (x8 : Int) (M : ZM) : Option (Unit × ZM) :=
  if x3 < 0 ∨ 512 ≤ x3 then (none) else (zlet (z_i M 114 (Int.toNat x3) x7) (fun M49 => if rg (x3 + 1) then (zJ71_172 n zrec31 x1 x2 (x3 + 1) x4 x8 M49) else none))
set_option maxRecDepth 100000 in
set_option maxHeartbeats 4000000 in
theorem zJ71_160_r (n : Nat) (rec31 : Int32 → Int32 → Int32 → Mem → Option (Unit × Mem)) (zrec31 : Int → Int → Int → ZM → Option (Unit × ZM)) (hrec31 : ∀ {Y1 : Int32} {y1 : Int} (_ : rp Y1 y1) {Y2 : Int32} {y2 : Int} (_ : rp Y2 y2) {Y3 : Int32} {y3 : Int} (_ : rp Y3 y3) {M : Mem} {m : ZM} (_ : rm M m) {r : Unit} {m' : ZM} (_ : zrec31 y1 y2 y3 m = some (r, m')), sU (rec31 Y1 Y2 Y3 M) m') {X1_ : Int32} {x1 : Int} (hx1 : rp X1_ x1) {X2_ : Int32} {x2 : Int} (hx2 : rp X2_ x2) {X3_ : Int32} {x3 : Int} (hx3 : rp X3_ x3) {X4_ : Int32} {x4 : Int} (hx4 : rp X4_ x4) {X7_ : Int32} {x7 : Int} (hx7 : rp X7_ x7) {X8_ : Int32} {x8 : Int} (hx8 : rp X8_ x8) {M_ : Mem} {M : ZM} (gM : rm M_ M) {r : Unit} {m' : ZM} (h : zJ71_160 n zrec31 x1 x2 x3 x4 x7 x8 M = some (r, m')) : sU (J71_160 n rec31 X1_ X2_ X3_ X4_ X7_ X8_ M_) m' := by
  unfold zJ71_160 at h
  unfold J71_160
  by_cases q1 : x3 < 0 ∨ 512 ≤ x3
  · rw [if_pos q1] at h
    rw [if_pos ((rp_ob hx3 512).mpr q1)]
    cases h
  · rw [if_neg q1] at h
    rw [if_neg (fun z => q1 ((rp_ob hx3 512).mp z))]
    have gM49 : rm (m_i M_ 114 (X3_).toNatClampNeg X7_) (z_i M 114 (Int.toNat x3) x7) := rm_ix gM 114 hx3 hx7
    rw [mlet]
    rw [zlet] at h
    generalize z_i M 114 (Int.toNat x3) x7 = M49 at h gM49
    generalize m_i M_ 114 (X3_).toNatClampNeg X7_ = NM49 at gM49 ⊢
    by_cases w2 : rg (x3 + 1)
    · rw [if_pos w2] at h
      exact zJ71_172_r n _ _ hrec31 hx1 hx2 (rp_add (rp_iz hx3) (rp_iz (show rp 1 1 from rfl)) w2) hx4 hx8 gM49 h
    · rw [if_neg w2] at h
      cases h
def zJ71_134 (n : Nat) (zrec31 : Int → Int → Int → ZM → Option (Unit × ZM)) (x1 : Int) (x2 : Int) (x3 : Int) (x4 : Int) (x7 : Int) (s0 : Int) (M : ZM) : Option (Unit × ZM) :=
  if x7 < 0 then (zJ71_172 n zrec31 x1 x2 x3 x4 s0 M) else (if x7 < 0 ∨ 128 ≤ x7 then (none) else (if 0 ≤ (M.1 115 (Int.toNat x7)) then (zJ71_172 n zrec31 x1 x2 x3 x4 s0 M) else (zlet (z_i M 115 (Int.toNat x7) x4) (fun M47 => zJ71_160 n zrec31 x1 x2 x3 x4 x7 s0 M47))))
set_option maxRecDepth 100000 in
set_option maxHeartbeats 4000000 in
theorem zJ71_134_r (n : Nat) (rec31 : Int32 → Int32 → Int32 → Mem → Option (Unit × Mem)) (zrec31 : Int → Int → Int → ZM → Option (Unit × ZM)) (hrec31 : ∀ {Y1 : Int32} {y1 : Int} (_ : rp Y1 y1) {Y2 : Int32} {y2 : Int} (_ : rp Y2 y2) {Y3 : Int32} {y3 : Int} (_ : rp Y3 y3) {M : Mem} {m : ZM} (_ : rm M m) {r : Unit} {m' : ZM} (_ : zrec31 y1 y2 y3 m = some (r, m')), sU (rec31 Y1 Y2 Y3 M) m') {X1_ : Int32} {x1 : Int} (hx1 : rp X1_ x1) {X2_ : Int32} {x2 : Int} (hx2 : rp X2_ x2) {X3_ : Int32} {x3 : Int} (hx3 : rp X3_ x3) {X4_ : Int32} {x4 : Int} (hx4 : rp X4_ x4) {X7_ : Int32} {x7 : Int} (hx7 : rp X7_ x7) {S0_ : Int32} {s0 : Int} (hs0 : rp S0_ s0) {M_ : Mem} {M : ZM} (gM : rm M_ M) {r : Unit} {m' : ZM} (h : zJ71_134 n zrec31 x1 x2 x3 x4 x7 s0 M = some (r, m')) : sU (J71_134 n rec31 X1_ X2_ X3_ X4_ X7_ S0_ M_) m' := by
  unfold zJ71_134 at h
  unfold J71_134
  by_cases q1 : x7 < 0
  · rw [if_pos q1] at h
    rw [if_pos ((rp_lt hx7 (show rp 0 0 from rfl)).mpr q1)]
    exact zJ71_172_r n _ _ hrec31 hx1 hx2 hx3 hx4 hs0 gM h
  · rw [if_neg q1] at h
    rw [if_neg (fun z => q1 ((rp_lt hx7 (show rp 0 0 from rfl)).mp z))]
    by_cases q2 : x7 < 0 ∨ 128 ≤ x7
    · rw [if_pos q2] at h
      rw [if_pos ((rp_ob hx7 128).mpr q2)]
      cases h
    · rw [if_neg q2] at h
      rw [if_neg (fun z => q2 ((rp_ob hx7 128).mp z))]
      by_cases q3 : 0 ≤ (M.1 115 (Int.toNat x7))
      · rw [if_pos q3] at h
        rw [if_pos ((rp_le (show rp 0 0 from rfl) (rm_rdx gM 115 hx7)).mpr q3)]
        exact zJ71_172_r n _ _ hrec31 hx1 hx2 hx3 hx4 hs0 gM h
      · rw [if_neg q3] at h
        rw [if_neg (fun z => q3 ((rp_le (show rp 0 0 from rfl) (rm_rdx gM 115 hx7)).mp z))]
        rw [if_neg (fun z => q2 ((rp_ob hx7 128).mp z))]
        have gM47 : rm (m_i M_ 115 (X7_).toNatClampNeg X4_) (z_i M 115 (Int.toNat x7) x4) := rm_ix gM 115 hx7 hx4
        rw [mlet]
        rw [zlet] at h
        generalize z_i M 115 (Int.toNat x7) x4 = M47 at h gM47
        generalize m_i M_ 115 (X7_).toNatClampNeg X4_ = NM47 at gM47 ⊢
        exact zJ71_160_r n _ _ hrec31 hx1 hx2 hx3 hx4 hx7 hs0 gM47 h
def zJ71_133 (n : Nat) (zrec31 : Int → Int → Int → ZM → Option (Unit × ZM)) (x1 : Int) (x2 : Int) (x3 : Int) (x4 : Int) (x7 : Int) (M : ZM) : Option (Unit × ZM) :=
  zJ71_134 n zrec31 x1 x2 x3 x4 x7 (-1) M
set_option maxRecDepth 100000 in
set_option maxHeartbeats 4000000 in
theorem zJ71_133_r (n : Nat) (rec31 : Int32 → Int32 → Int32 → Mem → Option (Unit × Mem)) (zrec31 : Int → Int → Int → ZM → Option (Unit × ZM)) (hrec31 : ∀ {Y1 : Int32} {y1 : Int} (_ : rp Y1 y1) {Y2 : Int32} {y2 : Int} (_ : rp Y2 y2) {Y3 : Int32} {y3 : Int} (_ : rp Y3 y3) {M : Mem} {m : ZM} (_ : rm M m) {r : Unit} {m' : ZM} (_ : zrec31 y1 y2 y3 m = some (r, m')), sU (rec31 Y1 Y2 Y3 M) m') {X1_ : Int32} {x1 : Int} (hx1 : rp X1_ x1) {X2_ : Int32} {x2 : Int} (hx2 : rp X2_ x2) {X3_ : Int32} {x3 : Int} (hx3 : rp X3_ x3) {X4_ : Int32} {x4 : Int} (hx4 : rp X4_ x4) {X7_ : Int32} {x7 : Int} (hx7 : rp X7_ x7) {M_ : Mem} {M : ZM} (gM : rm M_ M) {r : Unit} {m' : ZM} (h : zJ71_133 n zrec31 x1 x2 x3 x4 x7 M = some (r, m')) : sU (J71_133 n rec31 X1_ X2_ X3_ X4_ X7_ M_) m' := by
  unfold zJ71_133 at h
  unfold J71_133
  exact zJ71_134_r n _ _ hrec31 hx1 hx2 hx3 hx4 hx7 (show rp (-1) (-1) from rfl) gM h
def zJ71_121 (n : Nat) (zrec31 : Int → Int → Int → ZM → Option (Unit × ZM)) (x1 : Int) (x2 : Int) (x3 : Int) (x4 : Int) (x7 : Int) (M : ZM) : Option (Unit × ZM) :=
  if x4 < 0 ∨ 128 ≤ x4 then (none) else (if rg ((M.1 92 (Int.toNat x4)) + 1) then (zJ71_134 n zrec31 x1 x2 x3 x4 x7 ((M.1 92 (Int.toNat x4)) + 1) M) else none)
set_option maxRecDepth 100000 in
set_option maxHeartbeats 4000000 in
theorem zJ71_121_r (n : Nat) (rec31 : Int32 → Int32 → Int32 → Mem → Option (Unit × Mem)) (zrec31 : Int → Int → Int → ZM → Option (Unit × ZM)) (hrec31 : ∀ {Y1 : Int32} {y1 : Int} (_ : rp Y1 y1) {Y2 : Int32} {y2 : Int} (_ : rp Y2 y2) {Y3 : Int32} {y3 : Int} (_ : rp Y3 y3) {M : Mem} {m : ZM} (_ : rm M m) {r : Unit} {m' : ZM} (_ : zrec31 y1 y2 y3 m = some (r, m')), sU (rec31 Y1 Y2 Y3 M) m') {X1_ : Int32} {x1 : Int} (hx1 : rp X1_ x1) {X2_ : Int32} {x2 : Int} (hx2 : rp X2_ x2) {X3_ : Int32} {x3 : Int} (hx3 : rp X3_ x3) {X4_ : Int32} {x4 : Int} (hx4 : rp X4_ x4) {X7_ : Int32} {x7 : Int} (hx7 : rp X7_ x7) {M_ : Mem} {M : ZM} (gM : rm M_ M) {r : Unit} {m' : ZM} (h : zJ71_121 n zrec31 x1 x2 x3 x4 x7 M = some (r, m')) : sU (J71_121 n rec31 X1_ X2_ X3_ X4_ X7_ M_) m' := by
  unfold zJ71_121 at h
  unfold J71_121
  by_cases q1 : x4 < 0 ∨ 128 ≤ x4
  · rw [if_pos q1] at h
    rw [if_pos ((rp_ob hx4 128).mpr q1)]
    cases h
  · rw [if_neg q1] at h
    rw [if_neg (fun z => q1 ((rp_ob hx4 128).mp z))]
    by_cases w2 : rg ((M.1 92 (Int.toNat x4)) + 1)
    · rw [if_pos w2] at h
      exact zJ71_134_r n _ _ hrec31 hx1 hx2 hx3 hx4 hx7 (rp_add (rp_iz (rm_rdx gM 92 hx4)) (rp_iz (show rp 1 1 from rfl)) w2) gM h
    · rw [if_neg w2] at h
      cases h
def zJ71_99 (n : Nat) (zrec31 : Int → Int → Int → ZM → Option (Unit × ZM)) (x1 : Int) (x2 : Int) (x3 : Int) (x4 : Int) (x5 : Int) (x6 : Int) (x7 : Int) (M : ZM) : Option (Unit × ZM) :=
  if x5 = 5 then (if x6 = 3 then (zJ71_133 n zrec31 x1 x2 x3 x4 x7 M) else (if x4 < 0 ∨ 128 ≤ x4 then (none) else (if (M.1 93 (Int.toNat x4)) = 0 then (zJ71_121 n zrec31 x1 x2 x3 x4 x7 M) else (zJ71_133 n zrec31 x1 x2 x3 x4 x7 M)))) else (zJ71_133 n zrec31 x1 x2 x3 x4 x7 M)
set_option maxRecDepth 100000 in
set_option maxHeartbeats 4000000 in
theorem zJ71_99_r (n : Nat) (rec31 : Int32 → Int32 → Int32 → Mem → Option (Unit × Mem)) (zrec31 : Int → Int → Int → ZM → Option (Unit × ZM)) (hrec31 : ∀ {Y1 : Int32} {y1 : Int} (_ : rp Y1 y1) {Y2 : Int32} {y2 : Int} (_ : rp Y2 y2) {Y3 : Int32} {y3 : Int} (_ : rp Y3 y3) {M : Mem} {m : ZM} (_ : rm M m) {r : Unit} {m' : ZM} (_ : zrec31 y1 y2 y3 m = some (r, m')), sU (rec31 Y1 Y2 Y3 M) m') {X1_ : Int32} {x1 : Int} (hx1 : rp X1_ x1) {X2_ : Int32} {x2 : Int} (hx2 : rp X2_ x2) {X3_ : Int32} {x3 : Int} (hx3 : rp X3_ x3) {X4_ : Int32} {x4 : Int} (hx4 : rp X4_ x4) {X5_ : Int32} {x5 : Int} (hx5 : rp X5_ x5) {X6_ : Int32} {x6 : Int} (hx6 : rp X6_ x6) {X7_ : Int32} {x7 : Int} (hx7 : rp X7_ x7) {M_ : Mem} {M : ZM} (gM : rm M_ M) {r : Unit} {m' : ZM} (h : zJ71_99 n zrec31 x1 x2 x3 x4 x5 x6 x7 M = some (r, m')) : sU (J71_99 n rec31 X1_ X2_ X3_ X4_ X5_ X6_ X7_ M_) m' := by
  unfold zJ71_99 at h
  unfold J71_99
  by_cases q1 : x5 = 5
  · rw [if_pos q1] at h
    rw [if_pos ((rp_eq hx5 (show rp 5 5 from rfl)).mpr q1)]
    by_cases q2 : x6 = 3
    · rw [if_pos q2] at h
      rw [if_pos ((rp_eq hx6 (show rp 3 3 from rfl)).mpr q2)]
      exact zJ71_133_r n _ _ hrec31 hx1 hx2 hx3 hx4 hx7 gM h
    · rw [if_neg q2] at h
      rw [if_neg (fun z => q2 ((rp_eq hx6 (show rp 3 3 from rfl)).mp z))]
      by_cases q3 : x4 < 0 ∨ 128 ≤ x4
      · rw [if_pos q3] at h
        rw [if_pos ((rp_ob hx4 128).mpr q3)]
        cases h
      · rw [if_neg q3] at h
        rw [if_neg (fun z => q3 ((rp_ob hx4 128).mp z))]
        by_cases q4 : (M.1 93 (Int.toNat x4)) = 0
        · rw [if_pos q4] at h
          rw [if_pos ((rp_eq (rm_rdx gM 93 hx4) (show rp 0 0 from rfl)).mpr q4)]
          exact zJ71_121_r n _ _ hrec31 hx1 hx2 hx3 hx4 hx7 gM h
        · rw [if_neg q4] at h
          rw [if_neg (fun z => q4 ((rp_eq (rm_rdx gM 93 hx4) (show rp 0 0 from rfl)).mp z))]
          exact zJ71_133_r n _ _ hrec31 hx1 hx2 hx3 hx4 hx7 gM h
  · rw [if_neg q1] at h
    rw [if_neg (fun z => q1 ((rp_eq hx5 (show rp 5 5 from rfl)).mp z))]
    exact zJ71_133_r n _ _ hrec31 hx1 hx2 hx3 hx4 hx7 gM h
def zJ71_85 (n : Nat) (zrec31 : Int → Int → Int → ZM → Option (Unit × ZM)) (x1 : Int) (x2 : Int) (x3 : Int) (x4 : Int) (x5 : Int) (x6 : Int) (s0 : Int) (M : ZM) : Option (Unit × ZM) :=
  if x5 = 4 then (if x6 = 2 then (zJ71_99 n zrec31 x1 x2 x3 x4 x5 x6 s0 M) else (zJ71_121 n zrec31 x1 x2 x3 x4 s0 M)) else (zJ71_99 n zrec31 x1 x2 x3 x4 x5 x6 s0 M)
set_option maxRecDepth 100000 in
set_option maxHeartbeats 4000000 in
theorem zJ71_85_r (n : Nat) (rec31 : Int32 → Int32 → Int32 → Mem → Option (Unit × Mem)) (zrec31 : Int → Int → Int → ZM → Option (Unit × ZM)) (hrec31 : ∀ {Y1 : Int32} {y1 : Int} (_ : rp Y1 y1) {Y2 : Int32} {y2 : Int} (_ : rp Y2 y2) {Y3 : Int32} {y3 : Int} (_ : rp Y3 y3) {M : Mem} {m : ZM} (_ : rm M m) {r : Unit} {m' : ZM} (_ : zrec31 y1 y2 y3 m = some (r, m')), sU (rec31 Y1 Y2 Y3 M) m') {X1_ : Int32} {x1 : Int} (hx1 : rp X1_ x1) {X2_ : Int32} {x2 : Int} (hx2 : rp X2_ x2) {X3_ : Int32} {x3 : Int} (hx3 : rp X3_ x3) {X4_ : Int32} {x4 : Int} (hx4 : rp X4_ x4) {X5_ : Int32} {x5 : Int} (hx5 : rp X5_ x5) {X6_ : Int32} {x6 : Int} (hx6 : rp X6_ x6) {S0_ : Int32} {s0 : Int} (hs0 : rp S0_ s0) {M_ : Mem} {M : ZM} (gM : rm M_ M) {r : Unit} {m' : ZM} (h : zJ71_85 n zrec31 x1 x2 x3 x4 x5 x6 s0 M = some (r, m')) : sU (J71_85 n rec31 X1_ X2_ X3_ X4_ X5_ X6_ S0_ M_) m' := by
  unfold zJ71_85 at h
  unfold J71_85
  by_cases q1 : x5 = 4
  · rw [if_pos q1] at h
    rw [if_pos ((rp_eq hx5 (show rp 4 4 from rfl)).mpr q1)]
    by_cases q2 : x6 = 2
    · rw [if_pos q2] at h
      rw [if_pos ((rp_eq hx6 (show rp 2 2 from rfl)).mpr q2)]
      exact zJ71_99_r n _ _ hrec31 hx1 hx2 hx3 hx4 hx5 hx6 hs0 gM h
    · rw [if_neg q2] at h
      rw [if_neg (fun z => q2 ((rp_eq hx6 (show rp 2 2 from rfl)).mp z))]
      exact zJ71_121_r n _ _ hrec31 hx1 hx2 hx3 hx4 hs0 gM h
  · rw [if_neg q1] at h
    rw [if_neg (fun z => q1 ((rp_eq hx5 (show rp 4 4 from rfl)).mp z))]
    exact zJ71_99_r n _ _ hrec31 hx1 hx2 hx3 hx4 hx5 hx6 hs0 gM h
def zJ71_77 (n : Nat) (zrec31 : Int → Int → Int → ZM → Option (Unit × ZM)) (x1 : Int) (x2 : Int) (x3 : Int) (x4 : Int) (x5 : Int) (x6 : Int) (M : ZM) : Option (Unit × ZM) :=
  if rg (x4 + 1) then (zJ71_85 n zrec31 x1 x2 x3 x4 x5 x6 (x4 + 1) M) else none
set_option maxRecDepth 100000 in
set_option maxHeartbeats 4000000 in
theorem zJ71_77_r (n : Nat) (rec31 : Int32 → Int32 → Int32 → Mem → Option (Unit × Mem)) (zrec31 : Int → Int → Int → ZM → Option (Unit × ZM)) (hrec31 : ∀ {Y1 : Int32} {y1 : Int} (_ : rp Y1 y1) {Y2 : Int32} {y2 : Int} (_ : rp Y2 y2) {Y3 : Int32} {y3 : Int} (_ : rp Y3 y3) {M : Mem} {m : ZM} (_ : rm M m) {r : Unit} {m' : ZM} (_ : zrec31 y1 y2 y3 m = some (r, m')), sU (rec31 Y1 Y2 Y3 M) m') {X1_ : Int32} {x1 : Int} (hx1 : rp X1_ x1) {X2_ : Int32} {x2 : Int} (hx2 : rp X2_ x2) {X3_ : Int32} {x3 : Int} (hx3 : rp X3_ x3) {X4_ : Int32} {x4 : Int} (hx4 : rp X4_ x4) {X5_ : Int32} {x5 : Int} (hx5 : rp X5_ x5) {X6_ : Int32} {x6 : Int} (hx6 : rp X6_ x6) {M_ : Mem} {M : ZM} (gM : rm M_ M) {r : Unit} {m' : ZM} (h : zJ71_77 n zrec31 x1 x2 x3 x4 x5 x6 M = some (r, m')) : sU (J71_77 n rec31 X1_ X2_ X3_ X4_ X5_ X6_ M_) m' := by
  unfold zJ71_77 at h
  unfold J71_77
  by_cases w1 : rg (x4 + 1)
  · rw [if_pos w1] at h
    exact zJ71_85_r n _ _ hrec31 hx1 hx2 hx3 hx4 hx5 hx6 (rp_add (rp_iz hx4) (rp_iz (show rp 1 1 from rfl)) w1) gM h
  · rw [if_neg w1] at h
    cases h
def zJ71_65 (n : Nat) (zrec31 : Int → Int → Int → ZM → Option (Unit × ZM)) (x1 : Int) (x2 : Int) (x3 : Int) (x4 : Int) (x5 : Int) (x6 : Int) (M : ZM) : Option (Unit × ZM) :=
  if x5 = 4 then (zJ71_77 n zrec31 x1 x2 x3 x4 x5 x6 M) else (if x5 = 5 then (zJ71_77 n zrec31 x1 x2 x3 x4 x5 x6 M) else (zJ71_85 n zrec31 x1 x2 x3 x4 x5 x6 (-1) M))
set_option maxRecDepth 100000 in
set_option maxHeartbeats 4000000 in
theorem zJ71_65_r (n : Nat) (rec31 : Int32 → Int32 → Int32 → Mem → Option (Unit × Mem)) (zrec31 : Int → Int → Int → ZM → Option (Unit × ZM)) (hrec31 : ∀ {Y1 : Int32} {y1 : Int} (_ : rp Y1 y1) {Y2 : Int32} {y2 : Int} (_ : rp Y2 y2) {Y3 : Int32} {y3 : Int} (_ : rp Y3 y3) {M : Mem} {m : ZM} (_ : rm M m) {r : Unit} {m' : ZM} (_ : zrec31 y1 y2 y3 m = some (r, m')), sU (rec31 Y1 Y2 Y3 M) m') {X1_ : Int32} {x1 : Int} (hx1 : rp X1_ x1) {X2_ : Int32} {x2 : Int} (hx2 : rp X2_ x2) {X3_ : Int32} {x3 : Int} (hx3 : rp X3_ x3) {X4_ : Int32} {x4 : Int} (hx4 : rp X4_ x4) {X5_ : Int32} {x5 : Int} (hx5 : rp X5_ x5) {X6_ : Int32} {x6 : Int} (hx6 : rp X6_ x6) {M_ : Mem} {M : ZM} (gM : rm M_ M) {r : Unit} {m' : ZM} (h : zJ71_65 n zrec31 x1 x2 x3 x4 x5 x6 M = some (r, m')) : sU (J71_65 n rec31 X1_ X2_ X3_ X4_ X5_ X6_ M_) m' := by
  unfold zJ71_65 at h
  unfold J71_65
  by_cases q1 : x5 = 4
  · rw [if_pos q1] at h
    rw [if_pos ((rp_eq hx5 (show rp 4 4 from rfl)).mpr q1)]
    exact zJ71_77_r n _ _ hrec31 hx1 hx2 hx3 hx4 hx5 hx6 gM h
  · rw [if_neg q1] at h
    rw [if_neg (fun z => q1 ((rp_eq hx5 (show rp 4 4 from rfl)).mp z))]
    by_cases q2 : x5 = 5
    · rw [if_pos q2] at h
      rw [if_pos ((rp_eq hx5 (show rp 5 5 from rfl)).mpr q2)]
      exact zJ71_77_r n _ _ hrec31 hx1 hx2 hx3 hx4 hx5 hx6 gM h
    · rw [if_neg q2] at h
      rw [if_neg (fun z => q2 ((rp_eq hx5 (show rp 5 5 from rfl)).mp z))]
      exact zJ71_85_r n _ _ hrec31 hx1 hx2 hx3 hx4 hx5 hx6 (show rp (-1) (-1) from rfl) gM h
def zL71_31 (n : Nat) : Nat → Int → Int → Int → ZM → Option (Unit × ZM)
  | 0, _, _, _, _ => none
  | k + 1, x1, x2, x3, M => if x3 ≤ 0 then (zL71_217 n n x1 0 x2 M) else (if rg (x3 - 1) then (if (x3 - 1) < 0 ∨ 512 ≤ (x3 - 1) then (none) else (if (M.1 114 (Int.toNat (x3 - 1))) < 0 ∨ 128 ≤ (M.1 114 (Int.toNat (x3 - 1))) then (none) else (zJ71_65 n (zL71_31 n k) x1 x2 (x3 - 1) (M.1 114 (Int.toNat (x3 - 1))) (M.1 90 (Int.toNat (M.1 114 (Int.toNat (x3 - 1))))) (M.1 94 (Int.toNat (M.1 114 (Int.toNat (x3 - 1))))) M))) else none)
set_option maxRecDepth 100000 in
set_option maxHeartbeats 4000000 in
theorem zL71_31_r (n : Nat) : ∀ (k : Nat) {X1_ : Int32} {x1 : Int} (hx1 : rp X1_ x1) {X2_ : Int32} {x2 : Int} (hx2 : rp X2_ x2) {X3_ : Int32} {x3 : Int} (hx3 : rp X3_ x3) {M_ : Mem} {M : ZM} (gM : rm M_ M) {r : Unit} {m' : ZM} (_ : zL71_31 n k x1 x2 x3 M = some (r, m')), sU (L71_31 n k X1_ X2_ X3_ M_) m' := by
  intro k
  induction k with
  | zero => intro X1_ x1 hx1 X2_ x2 hx2 X3_ x3 hx3 M_ M gM r m' h; cases h
  | succ k ih =>
    intro X1_ x1 hx1 X2_ x2 hx2 X3_ x3 hx3 M_ M gM r m' h
    rw [zL71_31] at h
    rw [L71_31]
    by_cases q1 : x3 ≤ 0
    · rw [if_pos q1] at h
      rw [if_pos ((rp_le hx3 (show rp 0 0 from rfl)).mpr q1)]
      exact zL71_217_r n n hx1 (show rp 0 0 from rfl) hx2 gM h
    · rw [if_neg q1] at h
      rw [if_neg (fun z => q1 ((rp_le hx3 (show rp 0 0 from rfl)).mp z))]
      by_cases w2 : rg (x3 - 1)
      · rw [if_pos w2] at h
        by_cases q3 : (x3 - 1) < 0 ∨ 512 ≤ (x3 - 1)
        · rw [if_pos q3] at h
          rw [if_pos ((rp_ob (rp_sub (rp_iz hx3) (rp_iz (show rp 1 1 from rfl)) w2) 512).mpr q3)]
          cases h
        · rw [if_neg q3] at h
          rw [if_neg (fun z => q3 ((rp_ob (rp_sub (rp_iz hx3) (rp_iz (show rp 1 1 from rfl)) w2) 512).mp z))]
          by_cases q4 : (M.1 114 (Int.toNat (x3 - 1))) < 0 ∨ 128 ≤ (M.1 114 (Int.toNat (x3 - 1)))
          · rw [if_pos q4] at h
            rw [if_pos ((rp_ob (rm_rdx gM 114 (rp_sub (rp_iz hx3) (rp_iz (show rp 1 1 from rfl)) w2)) 128).mpr q4)]
            cases h
          · rw [if_neg q4] at h
            rw [if_neg (fun z => q4 ((rp_ob (rm_rdx gM 114 (rp_sub (rp_iz hx3) (rp_iz (show rp 1 1 from rfl)) w2)) 128).mp z))]
            rw [if_neg (fun z => q4 ((rp_ob (rm_rdx gM 114 (rp_sub (rp_iz hx3) (rp_iz (show rp 1 1 from rfl)) w2)) 128).mp z))]
            exact zJ71_65_r n _ _ ih hx1 hx2 (rp_sub (rp_iz hx3) (rp_iz (show rp 1 1 from rfl)) w2) (rm_rdx gM 114 (rp_sub (rp_iz hx3) (rp_iz (show rp 1 1 from rfl)) w2)) (rm_rdx gM 90 (rm_rdx gM 114 (rp_sub (rp_iz hx3) (rp_iz (show rp 1 1 from rfl)) w2))) (rm_rdx gM 94 (rm_rdx gM 114 (rp_sub (rp_iz hx3) (rp_iz (show rp 1 1 from rfl)) w2))) gM h
      · rw [if_neg w2] at h
        cases h
def zL71_2 (n : Nat) : Nat → Int → Int → Int → ZM → Option (Unit × ZM)
  | 0, _, _, _, _ => none
  | k + 1, x1, x2, x3, M => if 128 ≤ x3 then (zlet (z_i M 114 0 x1) (fun M2 => zL71_31 n n x1 x2 1 M2)) else (if x3 < 0 ∨ 128 ≤ x3 then (none) else (zlet (z_i M 115 (Int.toNat x3) (-1)) (fun M55 => if rg (x3 + 1) then ((zL71_2 n k) x1 x2 (x3 + 1) M55) else none)))
set_option maxRecDepth 100000 in
set_option maxHeartbeats 4000000 in
theorem zL71_2_r (n : Nat) : ∀ (k : Nat) {X1_ : Int32} {x1 : Int} (hx1 : rp X1_ x1) {X2_ : Int32} {x2 : Int} (hx2 : rp X2_ x2) {X3_ : Int32} {x3 : Int} (hx3 : rp X3_ x3) {M_ : Mem} {M : ZM} (gM : rm M_ M) {r : Unit} {m' : ZM} (_ : zL71_2 n k x1 x2 x3 M = some (r, m')), sU (L71_2 n k X1_ X2_ X3_ M_) m' := by
  intro k
  induction k with
  | zero => intro X1_ x1 hx1 X2_ x2 hx2 X3_ x3 hx3 M_ M gM r m' h; cases h
  | succ k ih =>
    intro X1_ x1 hx1 X2_ x2 hx2 X3_ x3 hx3 M_ M gM r m' h
    rw [zL71_2] at h
    rw [L71_2]
    by_cases q1 : 128 ≤ x3
    · rw [if_pos q1] at h
      rw [if_pos ((rp_le (show rp 128 128 from rfl) hx3).mpr q1)]
      have gM2 : rm (m_i M_ 114 0 X1_) (z_i M 114 0 x1) := rm_i gM 114 0 hx1
      rw [mlet]
      rw [zlet] at h
      generalize z_i M 114 0 x1 = M2 at h gM2
      generalize m_i M_ 114 0 X1_ = NM2 at gM2 ⊢
      exact zL71_31_r n n hx1 hx2 (show rp 1 1 from rfl) gM2 h
    · rw [if_neg q1] at h
      rw [if_neg (fun z => q1 ((rp_le (show rp 128 128 from rfl) hx3).mp z))]
      by_cases q2 : x3 < 0 ∨ 128 ≤ x3
      · rw [if_pos q2] at h
        rw [if_pos ((rp_ob hx3 128).mpr q2)]
        cases h
      · rw [if_neg q2] at h
        rw [if_neg (fun z => q2 ((rp_ob hx3 128).mp z))]
        have gM55 : rm (m_i M_ 115 (X3_).toNatClampNeg (-1 : Int32)) (z_i M 115 (Int.toNat x3) (-1)) := rm_ix gM 115 hx3 (show rp (-1) (-1) from rfl)
        rw [mlet]
        rw [zlet] at h
        generalize z_i M 115 (Int.toNat x3) (-1) = M55 at h gM55
        generalize m_i M_ 115 (X3_).toNatClampNeg (-1 : Int32) = NM55 at gM55 ⊢
        by_cases w3 : rg (x3 + 1)
        · rw [if_pos w3] at h
          exact ih hx1 hx2 (rp_add (rp_iz hx3) (rp_iz (show rp 1 1 from rfl)) w3) gM55 h
        · rw [if_neg w3] at h
          cases h
/-- ArmExpanderModel.goTo -/
def zF71 (n : Nat) (a0 : Int) (a1 : Int) (M : ZM) : Option (Unit × ZM) :=
  zL71_2 n n a0 a1 0 M
set_option maxRecDepth 100000 in
set_option maxHeartbeats 4000000 in
theorem zF71_r (n : Nat) {A0_ : Int32} {a0 : Int} (ha0 : rp A0_ a0) {A1_ : Int32} {a1 : Int} (ha1 : rp A1_ a1) {M_ : Mem} {M : ZM} (gM : rm M_ M) {r : Unit} {m' : ZM} (h : zF71 n a0 a1 M = some (r, m')) : sU (F71 n A0_ A1_ M_) m' := by
  unfold zF71 at h
  unfold F71
  exact zL71_2_r n n ha0 ha1 (show rp 0 0 from rfl) gM h
def zJ72_42 (n : Nat) (s0 : Int) (M : ZM) : Option (Int × ZM) :=
  if rg (s0 - 1) then (some ((s0 - 1), M)) else none
set_option maxRecDepth 100000 in
set_option maxHeartbeats 4000000 in
theorem zJ72_42_r (n : Nat) {S0_ : Int32} {s0 : Int} (hs0 : rp S0_ s0) {M_ : Mem} {M : ZM} (gM : rm M_ M) {r : Int} {m' : ZM} (h : zJ72_42 n s0 M = some (r, m')) : sI (J72_42 n S0_ M_) r m' := by
  unfold zJ72_42 at h
  unfold J72_42
  by_cases w1 : rg (s0 - 1)
  · rw [if_pos w1] at h
    obtain ⟨rfl, rfl⟩ := Prod.mk.inj (Option.some.inj h)
    exact ⟨_, _, rfl, (rp_sub (rp_iz hs0) (rp_iz (show rp 1 1 from rfl)) w1), gM⟩
  · rw [if_neg w1] at h
    cases h
/-- ArmExpanderModel.present -/
def zF72 (n : Nat) (a0 : Int) (M : ZM) : Option (Int × ZM) :=
  if 0 ≤ a0 then (if a0 < 0 ∨ 128 ≤ a0 then (none) else (if 0 ≤ (M.1 95 (Int.toNat a0)) then (if (M.1 95 (Int.toNat a0)) < 0 ∨ 128 ≤ (M.1 95 (Int.toNat a0)) then (none) else (if rg ((M.1 118 (Int.toNat (M.1 95 (Int.toNat a0)))) - 1) then (match zF69 n a0 ((M.1 118 (Int.toNat (M.1 95 (Int.toNat a0)))) - 1) M with | some (v6, M7) => (zJ72_42 n v6 M7) | none => none) else none)) else (zJ72_42 n (M.1 118 (Int.toNat a0)) M))) else (some (0, M))
set_option maxRecDepth 100000 in
set_option maxHeartbeats 4000000 in
theorem zF72_r (n : Nat) {A0_ : Int32} {a0 : Int} (ha0 : rp A0_ a0) {M_ : Mem} {M : ZM} (gM : rm M_ M) {r : Int} {m' : ZM} (h : zF72 n a0 M = some (r, m')) : sI (F72 n A0_ M_) r m' := by
  unfold zF72 at h
  unfold F72
  by_cases q1 : 0 ≤ a0
  · rw [if_pos q1] at h
    rw [if_pos ((rp_le (show rp 0 0 from rfl) ha0).mpr q1)]
    by_cases q2 : a0 < 0 ∨ 128 ≤ a0
    · rw [if_pos q2] at h
      rw [if_pos ((rp_ob ha0 128).mpr q2)]
      cases h
    · rw [if_neg q2] at h
      rw [if_neg (fun z => q2 ((rp_ob ha0 128).mp z))]
      by_cases q3 : 0 ≤ (M.1 95 (Int.toNat a0))
      · rw [if_pos q3] at h
        rw [if_pos ((rp_le (show rp 0 0 from rfl) (rm_rdx gM 95 ha0)).mpr q3)]
        rw [if_neg (fun z => q2 ((rp_ob ha0 128).mp z))]
        by_cases q4 : (M.1 95 (Int.toNat a0)) < 0 ∨ 128 ≤ (M.1 95 (Int.toNat a0))
        · rw [if_pos q4] at h
          rw [if_pos ((rp_ob (rm_rdx gM 95 ha0) 128).mpr q4)]
          cases h
        · rw [if_neg q4] at h
          rw [if_neg (fun z => q4 ((rp_ob (rm_rdx gM 95 ha0) 128).mp z))]
          by_cases w5 : rg ((M.1 118 (Int.toNat (M.1 95 (Int.toNat a0)))) - 1)
          · rw [if_pos w5] at h
            cases hc6 : zF69 n a0 ((M.1 118 (Int.toNat (M.1 95 (Int.toNat a0)))) - 1) M with
            | none => rw [hc6] at h; cases h
            | some w =>
              obtain ⟨v6, M7⟩ := w
              rw [hc6] at h
              dsimp only at h
              obtain ⟨V6, NM7, ehc6, hv6, gM7⟩ := zF69_r n ha0 (rp_sub (rp_iz (rm_rdx gM 118 (rm_rdx gM 95 ha0))) (rp_iz (show rp 1 1 from rfl)) w5) gM hc6
              rw [ehc6]
              dsimp only
              exact zJ72_42_r n hv6 gM7 h
          · rw [if_neg w5] at h
            cases h
      · rw [if_neg q3] at h
        rw [if_neg (fun z => q3 ((rp_le (show rp 0 0 from rfl) (rm_rdx gM 95 ha0)).mp z))]
        rw [if_neg (fun z => q2 ((rp_ob ha0 128).mp z))]
        exact zJ72_42_r n (rm_rdx gM 118 ha0) gM h
  · rw [if_neg q1] at h
    rw [if_neg (fun z => q1 ((rp_le (show rp 0 0 from rfl) ha0).mp z))]
    obtain ⟨rfl, rfl⟩ := Prod.mk.inj (Option.some.inj h)
    exact ⟨_, _, rfl, (show rp 0 0 from rfl), gM⟩
def zJ73_206 (n : Nat) (zrec36 : Int → Int → ZM → Option (Unit × ZM)) (x2 : Int) (s0 : Int) (M : ZM) : Option (Unit × ZM) :=
  if rg (x2 + 1) then (zrec36 s0 (x2 + 1) M) else none
set_option maxRecDepth 100000 in
set_option maxHeartbeats 4000000 in
theorem zJ73_206_r (n : Nat) (rec36 : Int32 → Int32 → Mem → Option (Unit × Mem)) (zrec36 : Int → Int → ZM → Option (Unit × ZM)) (hrec36 : ∀ {Y1 : Int32} {y1 : Int} (_ : rp Y1 y1) {Y2 : Int32} {y2 : Int} (_ : rp Y2 y2) {M : Mem} {m : ZM} (_ : rm M m) {r : Unit} {m' : ZM} (_ : zrec36 y1 y2 m = some (r, m')), sU (rec36 Y1 Y2 M) m') {X2_ : Int32} {x2 : Int} (hx2 : rp X2_ x2) {S0_ : Int32} {s0 : Int} (hs0 : rp S0_ s0) {M_ : Mem} {M : ZM} (gM : rm M_ M) {r : Unit} {m' : ZM} (h : zJ73_206 n zrec36 x2 s0 M = some (r, m')) : sU (J73_206 n rec36 X2_ S0_ M_) m' := by
  unfold zJ73_206 at h
  unfold J73_206
  by_cases w1 : rg (x2 + 1)
  · rw [if_pos w1] at h
    exact hrec36 hs0 (rp_add (rp_iz hx2) (rp_iz (show rp 1 1 from rfl)) w1) gM h
  · rw [if_neg w1] at h
    cases h
def zJ73_187 (n : Nat) (zrec36 : Int → Int → ZM → Option (Unit × ZM)) (x2 : Int) (x3 : Int) (x4 : Int) (M : ZM) : Option (Unit × ZM) :=
  if x4 = 0 then (if rg (x3 + 1) then (zJ73_206 n zrec36 x2 (x3 + 1) M) else none) else (if x3 < 0 ∨ 128 ≤ x3 then (none) else (if rg ((M.1 92 (Int.toNat x3)) + 1) then (zJ73_206 n zrec36 x2 ((M.1 92 (Int.toNat x3)) + 1) M) else none))
set_option maxRecDepth 100000 in
set_option maxHeartbeats 4000000 in
theorem zJ73_187_r (n : Nat) (rec36 : Int32 → Int32 → Mem → Option (Unit × Mem)) (zrec36 : Int → Int → ZM → Option (Unit × ZM)) (hrec36 : ∀ {Y1 : Int32} {y1 : Int} (_ : rp Y1 y1) {Y2 : Int32} {y2 : Int} (_ : rp Y2 y2) {M : Mem} {m : ZM} (_ : rm M m) {r : Unit} {m' : ZM} (_ : zrec36 y1 y2 m = some (r, m')), sU (rec36 Y1 Y2 M) m') {X2_ : Int32} {x2 : Int} (hx2 : rp X2_ x2) {X3_ : Int32} {x3 : Int} (hx3 : rp X3_ x3) {X4_ : Int32} {x4 : Int} (hx4 : rp X4_ x4) {M_ : Mem} {M : ZM} (gM : rm M_ M) {r : Unit} {m' : ZM} (h : zJ73_187 n zrec36 x2 x3 x4 M = some (r, m')) : sU (J73_187 n rec36 X2_ X3_ X4_ M_) m' := by
  unfold zJ73_187 at h
  unfold J73_187
  by_cases q1 : x4 = 0
  · rw [if_pos q1] at h
    rw [if_pos ((rp_eq hx4 (show rp 0 0 from rfl)).mpr q1)]
    by_cases w2 : rg (x3 + 1)
    · rw [if_pos w2] at h
      exact zJ73_206_r n _ _ hrec36 hx2 (rp_add (rp_iz hx3) (rp_iz (show rp 1 1 from rfl)) w2) gM h
    · rw [if_neg w2] at h
      cases h
  · rw [if_neg q1] at h
    rw [if_neg (fun z => q1 ((rp_eq hx4 (show rp 0 0 from rfl)).mp z))]
    by_cases q3 : x3 < 0 ∨ 128 ≤ x3
    · rw [if_pos q3] at h
      rw [if_pos ((rp_ob hx3 128).mpr q3)]
      cases h
    · rw [if_neg q3] at h
      rw [if_neg (fun z => q3 ((rp_ob hx3 128).mp z))]
      by_cases w4 : rg ((M.1 92 (Int.toNat x3)) + 1)
      · rw [if_pos w4] at h
        exact zJ73_206_r n _ _ hrec36 hx2 (rp_add (rp_iz (rm_rdx gM 92 hx3)) (rp_iz (show rp 1 1 from rfl)) w4) gM h
      · rw [if_neg w4] at h
        cases h
def zJ73_170 (n : Nat) (zrec36 : Int → Int → ZM → Option (Unit × ZM)) (x2 : Int) (x3 : Int) (s0 : Int) (M : ZM) : Option (Unit × ZM) :=
  if s0 = 0 then (zJ73_187 n zrec36 x2 x3 s0 M) else (if x3 < 0 ∨ 128 ≤ x3 then (none) else (match zF70 n (M.1 92 (Int.toNat x3)) M with | some (v38, M39) => (zJ73_187 n zrec36 x2 x3 s0 M39) | none => none))
set_option maxRecDepth 100000 in
set_option maxHeartbeats 4000000 in
theorem zJ73_170_r (n : Nat) (rec36 : Int32 → Int32 → Mem → Option (Unit × Mem)) (zrec36 : Int → Int → ZM → Option (Unit × ZM)) (hrec36 : ∀ {Y1 : Int32} {y1 : Int} (_ : rp Y1 y1) {Y2 : Int32} {y2 : Int} (_ : rp Y2 y2) {M : Mem} {m : ZM} (_ : rm M m) {r : Unit} {m' : ZM} (_ : zrec36 y1 y2 m = some (r, m')), sU (rec36 Y1 Y2 M) m') {X2_ : Int32} {x2 : Int} (hx2 : rp X2_ x2) {X3_ : Int32} {x3 : Int} (hx3 : rp X3_ x3) {S0_ : Int32} {s0 : Int} (hs0 : rp S0_ s0) {M_ : Mem} {M : ZM} (gM : rm M_ M) {r : Unit} {m' : ZM} (h : zJ73_170 n zrec36 x2 x3 s0 M = some (r, m')) : sU (J73_170 n rec36 X2_ X3_ S0_ M_) m' := by
  unfold zJ73_170 at h
  unfold J73_170
  by_cases q1 : s0 = 0
  · rw [if_pos q1] at h
    rw [if_pos ((rp_eq hs0 (show rp 0 0 from rfl)).mpr q1)]
    exact zJ73_187_r n _ _ hrec36 hx2 hx3 hs0 gM h
  · rw [if_neg q1] at h
    rw [if_neg (fun z => q1 ((rp_eq hs0 (show rp 0 0 from rfl)).mp z))]
    by_cases q2 : x3 < 0 ∨ 128 ≤ x3
    · rw [if_pos q2] at h
      rw [if_pos ((rp_ob hx3 128).mpr q2)]
      cases h
    · rw [if_neg q2] at h
      rw [if_neg (fun z => q2 ((rp_ob hx3 128).mp z))]
      cases hc3 : zF70 n (M.1 92 (Int.toNat x3)) M with
      | none => rw [hc3] at h; cases h
      | some w =>
        obtain ⟨v38, M39⟩ := w
        rw [hc3] at h
        dsimp only at h
        obtain ⟨NM39, ehc3, gM39⟩ := zF70_r n (rm_rdx gM 92 hx3) gM hc3
        rw [ehc3]
        dsimp only
        exact zJ73_187_r n _ _ hrec36 hx2 hx3 hs0 gM39 h
def zJ73_155 (n : Nat) (zrec36 : Int → Int → ZM → Option (Unit × ZM)) (x2 : Int) (x3 : Int) (M : ZM) : Option (Unit × ZM) :=
  if x3 < 0 ∨ 128 ≤ x3 then (none) else (if (M.1 90 (Int.toNat x3)) = 5 then (zJ73_170 n zrec36 x2 x3 1 M) else (zJ73_170 n zrec36 x2 x3 0 M))
set_option maxRecDepth 100000 in
set_option maxHeartbeats 4000000 in
theorem zJ73_155_r (n : Nat) (rec36 : Int32 → Int32 → Mem → Option (Unit × Mem)) (zrec36 : Int → Int → ZM → Option (Unit × ZM)) (hrec36 : ∀ {Y1 : Int32} {y1 : Int} (_ : rp Y1 y1) {Y2 : Int32} {y2 : Int} (_ : rp Y2 y2) {M : Mem} {m : ZM} (_ : rm M m) {r : Unit} {m' : ZM} (_ : zrec36 y1 y2 m = some (r, m')), sU (rec36 Y1 Y2 M) m') {X2_ : Int32} {x2 : Int} (hx2 : rp X2_ x2) {X3_ : Int32} {x3 : Int} (hx3 : rp X3_ x3) {M_ : Mem} {M : ZM} (gM : rm M_ M) {r : Unit} {m' : ZM} (h : zJ73_155 n zrec36 x2 x3 M = some (r, m')) : sU (J73_155 n rec36 X2_ X3_ M_) m' := by
  unfold zJ73_155 at h
  unfold J73_155
  by_cases q1 : x3 < 0 ∨ 128 ≤ x3
  · rw [if_pos q1] at h
    rw [if_pos ((rp_ob hx3 128).mpr q1)]
    cases h
  · rw [if_neg q1] at h
    rw [if_neg (fun z => q1 ((rp_ob hx3 128).mp z))]
    by_cases q2 : (M.1 90 (Int.toNat x3)) = 5
    · rw [if_pos q2] at h
      rw [if_pos ((rp_eq (rm_rdx gM 90 hx3) (show rp 5 5 from rfl)).mpr q2)]
      exact zJ73_170_r n _ _ hrec36 hx2 hx3 (show rp 1 1 from rfl) gM h
    · rw [if_neg q2] at h
      rw [if_neg (fun z => q2 ((rp_eq (rm_rdx gM 90 hx3) (show rp 5 5 from rfl)).mp z))]
      exact zJ73_170_r n _ _ hrec36 hx2 hx3 (show rp 0 0 from rfl) gM h
def zJ73_145 (n : Nat) (zrec36 : Int → Int → ZM → Option (Unit × ZM)) (x2 : Int) (x3 : Int) (M : ZM) : Option (Unit × ZM) :=
  if rg ((M.1 83 56) + 1) then (zlet (z_i M 83 56 ((M.1 83 56) + 1)) (fun M31 => zJ73_155 n zrec36 x2 x3 M31)) else none
set_option maxRecDepth 100000 in
set_option maxHeartbeats 4000000 in
theorem zJ73_145_r (n : Nat) (rec36 : Int32 → Int32 → Mem → Option (Unit × Mem)) (zrec36 : Int → Int → ZM → Option (Unit × ZM)) (hrec36 : ∀ {Y1 : Int32} {y1 : Int} (_ : rp Y1 y1) {Y2 : Int32} {y2 : Int} (_ : rp Y2 y2) {M : Mem} {m : ZM} (_ : rm M m) {r : Unit} {m' : ZM} (_ : zrec36 y1 y2 m = some (r, m')), sU (rec36 Y1 Y2 M) m') {X2_ : Int32} {x2 : Int} (hx2 : rp X2_ x2) {X3_ : Int32} {x3 : Int} (hx3 : rp X3_ x3) {M_ : Mem} {M : ZM} (gM : rm M_ M) {r : Unit} {m' : ZM} (h : zJ73_145 n zrec36 x2 x3 M = some (r, m')) : sU (J73_145 n rec36 X2_ X3_ M_) m' := by
  unfold zJ73_145 at h
  unfold J73_145
  by_cases w1 : rg ((M.1 83 56) + 1)
  · rw [if_pos w1] at h
    have gM31 : rm (m_i M_ 83 56 ((M_.1 83 56) + (1 : Int32))) (z_i M 83 56 ((M.1 83 56) + 1)) := rm_i gM 83 56 (rp_add (rp_iz (rm_rd gM 83 56)) (rp_iz (show rp 1 1 from rfl)) w1)
    rw [mlet]
    rw [zlet] at h
    generalize z_i M 83 56 ((M.1 83 56) + 1) = M31 at h gM31
    generalize m_i M_ 83 56 ((M_.1 83 56) + (1 : Int32)) = NM31 at gM31 ⊢
    exact zJ73_155_r n _ _ hrec36 hx2 hx3 gM31 h
  · rw [if_neg w1] at h
    cases h
def zJ73_115 (n : Nat) (zrec36 : Int → Int → ZM → Option (Unit × ZM)) (x2 : Int) (x3 : Int) (M : ZM) : Option (Unit × ZM) :=
  if x2 < 0 ∨ 161 ≤ x2 then (none) else (if (M.1 83 56) < 0 ∨ 160 ≤ (M.1 83 56) then (none) else (zlet (z_i M 125 (Int.toNat (M.1 83 56)) (M.1 112 (Int.toNat x2))) (fun M27 => if (M27.1 83 56) < 0 ∨ 160 ≤ (M27.1 83 56) then (none) else (zlet (z_i M27 126 (Int.toNat (M27.1 83 56)) (M27.1 113 (Int.toNat x2))) (fun M30 => zJ73_145 n zrec36 x2 x3 M30)))))
set_option maxRecDepth 100000 in
set_option maxHeartbeats 4000000 in
theorem zJ73_115_r (n : Nat) (rec36 : Int32 → Int32 → Mem → Option (Unit × Mem)) (zrec36 : Int → Int → ZM → Option (Unit × ZM)) (hrec36 : ∀ {Y1 : Int32} {y1 : Int} (_ : rp Y1 y1) {Y2 : Int32} {y2 : Int} (_ : rp Y2 y2) {M : Mem} {m : ZM} (_ : rm M m) {r : Unit} {m' : ZM} (_ : zrec36 y1 y2 m = some (r, m')), sU (rec36 Y1 Y2 M) m') {X2_ : Int32} {x2 : Int} (hx2 : rp X2_ x2) {X3_ : Int32} {x3 : Int} (hx3 : rp X3_ x3) {M_ : Mem} {M : ZM} (gM : rm M_ M) {r : Unit} {m' : ZM} (h : zJ73_115 n zrec36 x2 x3 M = some (r, m')) : sU (J73_115 n rec36 X2_ X3_ M_) m' := by
  unfold zJ73_115 at h
  unfold J73_115
  by_cases q1 : x2 < 0 ∨ 161 ≤ x2
  · rw [if_pos q1] at h
    rw [if_pos ((rp_ob hx2 161).mpr q1)]
    cases h
  · rw [if_neg q1] at h
    rw [if_neg (fun z => q1 ((rp_ob hx2 161).mp z))]
    by_cases q2 : (M.1 83 56) < 0 ∨ 160 ≤ (M.1 83 56)
    · rw [if_pos q2] at h
      rw [if_pos ((rp_ob (rm_rd gM 83 56) 160).mpr q2)]
      cases h
    · rw [if_neg q2] at h
      rw [if_neg (fun z => q2 ((rp_ob (rm_rd gM 83 56) 160).mp z))]
      have gM27 : rm (m_i M_ 125 ((M_.1 83 56)).toNatClampNeg (M_.1 112 (X2_).toNatClampNeg)) (z_i M 125 (Int.toNat (M.1 83 56)) (M.1 112 (Int.toNat x2))) := rm_ix gM 125 (rm_rd gM 83 56) (rm_rdx gM 112 hx2)
      rw [mlet]
      rw [zlet] at h
      generalize z_i M 125 (Int.toNat (M.1 83 56)) (M.1 112 (Int.toNat x2)) = M27 at h gM27
      generalize m_i M_ 125 ((M_.1 83 56)).toNatClampNeg (M_.1 112 (X2_).toNatClampNeg) = NM27 at gM27 ⊢
      rw [if_neg (fun z => q1 ((rp_ob hx2 161).mp z))]
      by_cases q3 : (M27.1 83 56) < 0 ∨ 160 ≤ (M27.1 83 56)
      · rw [if_pos q3] at h
        rw [if_pos ((rp_ob (rm_rd gM27 83 56) 160).mpr q3)]
        cases h
      · rw [if_neg q3] at h
        rw [if_neg (fun z => q3 ((rp_ob (rm_rd gM27 83 56) 160).mp z))]
        have gM30 : rm (m_i NM27 126 ((NM27.1 83 56)).toNatClampNeg (NM27.1 113 (X2_).toNatClampNeg)) (z_i M27 126 (Int.toNat (M27.1 83 56)) (M27.1 113 (Int.toNat x2))) := rm_ix gM27 126 (rm_rd gM27 83 56) (rm_rdx gM27 113 hx2)
        rw [mlet]
        rw [zlet] at h
        generalize z_i M27 126 (Int.toNat (M27.1 83 56)) (M27.1 113 (Int.toNat x2)) = M30 at h gM30
        generalize m_i NM27 126 ((NM27.1 83 56)).toNatClampNeg (NM27.1 113 (X2_).toNatClampNeg) = NM30 at gM30 ⊢
        exact zJ73_145_r n _ _ hrec36 hx2 hx3 gM30 h
def zJ73_96 (n : Nat) (zrec36 : Int → Int → ZM → Option (Unit × ZM)) (x2 : Int) (x3 : Int) (M : ZM) : Option (Unit × ZM) :=
  if x3 < 0 ∨ 128 ≤ x3 then (none) else (match zF72 n (M.1 96 (Int.toNat x3)) M with | some (v20, M21) => (if (M.1 83 56) < 0 ∨ 160 ≤ (M.1 83 56) then (none) else (zlet (z_i M21 124 (Int.toNat (M.1 83 56)) v20) (fun M24 => zJ73_115 n zrec36 x2 x3 M24))) | none => none)
set_option maxRecDepth 100000 in
set_option maxHeartbeats 4000000 in
theorem zJ73_96_r (n : Nat) (rec36 : Int32 → Int32 → Mem → Option (Unit × Mem)) (zrec36 : Int → Int → ZM → Option (Unit × ZM)) (hrec36 : ∀ {Y1 : Int32} {y1 : Int} (_ : rp Y1 y1) {Y2 : Int32} {y2 : Int} (_ : rp Y2 y2) {M : Mem} {m : ZM} (_ : rm M m) {r : Unit} {m' : ZM} (_ : zrec36 y1 y2 m = some (r, m')), sU (rec36 Y1 Y2 M) m') {X2_ : Int32} {x2 : Int} (hx2 : rp X2_ x2) {X3_ : Int32} {x3 : Int} (hx3 : rp X3_ x3) {M_ : Mem} {M : ZM} (gM : rm M_ M) {r : Unit} {m' : ZM} (h : zJ73_96 n zrec36 x2 x3 M = some (r, m')) : sU (J73_96 n rec36 X2_ X3_ M_) m' := by
  unfold zJ73_96 at h
  unfold J73_96
  by_cases q1 : x3 < 0 ∨ 128 ≤ x3
  · rw [if_pos q1] at h
    rw [if_pos ((rp_ob hx3 128).mpr q1)]
    cases h
  · rw [if_neg q1] at h
    rw [if_neg (fun z => q1 ((rp_ob hx3 128).mp z))]
    cases hc2 : zF72 n (M.1 96 (Int.toNat x3)) M with
    | none => rw [hc2] at h; cases h
    | some w =>
      obtain ⟨v20, M21⟩ := w
      rw [hc2] at h
      dsimp only at h
      obtain ⟨V20, NM21, ehc2, hv20, gM21⟩ := zF72_r n (rm_rdx gM 96 hx3) gM hc2
      rw [ehc2]
      dsimp only
      by_cases q3 : (M.1 83 56) < 0 ∨ 160 ≤ (M.1 83 56)
      · rw [if_pos q3] at h
        rw [if_pos ((rp_ob (rm_rd gM 83 56) 160).mpr q3)]
        cases h
      · rw [if_neg q3] at h
        rw [if_neg (fun z => q3 ((rp_ob (rm_rd gM 83 56) 160).mp z))]
        have gM24 : rm (m_i NM21 124 ((M_.1 83 56)).toNatClampNeg V20) (z_i M21 124 (Int.toNat (M.1 83 56)) v20) := rm_ix gM21 124 (rm_rd gM 83 56) hv20
        rw [mlet]
        rw [zlet] at h
        generalize z_i M21 124 (Int.toNat (M.1 83 56)) v20 = M24 at h gM24
        generalize m_i NM21 124 ((M_.1 83 56)).toNatClampNeg V20 = NM24 at gM24 ⊢
        exact zJ73_115_r n _ _ hrec36 hx2 hx3 gM24 h
