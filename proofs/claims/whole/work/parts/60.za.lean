/-! The methods over whole numbers; written by program. -/
/-- ArmExpander.definitions -/
def zF4 (n : Nat) (M : ZM) : Option (Int × ZM) :=
  some ((M.1 0 5), M)
set_option maxRecDepth 100000 in
set_option maxHeartbeats 4000000 in
theorem zF4_r (n : Nat) {M_ : Mem} {M : ZM} (gM : rm M_ M) {r : Int} {m' : ZM} (h : zF4 n M = some (r, m')) : sI (F4 n M_) r m' := by
  unfold zF4 at h
  unfold F4
  obtain ⟨rfl, rfl⟩ := Prod.mk.inj (Option.some.inj h)
  exact ⟨_, _, rfl, (rm_rd gM 0 5), gM⟩
def zJ11_12 (n : Nat) (s0 : Int) (M : ZM) : Option (Int × ZM) :=
  if s0 = 0 ∨ s0 = 1 then (some (s0, M)) else (none)
set_option maxRecDepth 100000 in
set_option maxHeartbeats 4000000 in
theorem zJ11_12_r (n : Nat) {S0_ : Int32} {s0 : Int} (hs0 : rp S0_ s0) {M_ : Mem} {M : ZM} (gM : rm M_ M) {r : Int} {m' : ZM} (h : zJ11_12 n s0 M = some (r, m')) : sI (J11_12 n S0_ M_) r m' := by
  unfold zJ11_12 at h
  unfold J11_12
  by_cases q1 : s0 = 0 ∨ s0 = 1
  · rw [if_pos q1] at h
    rw [if_pos ((or_congr (rp_eq hs0 (show rp 0 0 from rfl)) (rp_eq hs0 (show rp 1 1 from rfl))).mpr q1)]
    obtain ⟨rfl, rfl⟩ := Prod.mk.inj (Option.some.inj h)
    exact ⟨_, _, rfl, hs0, gM⟩
  · rw [if_neg q1] at h
    rw [if_neg (fun z => q1 ((or_congr (rp_eq hs0 (show rp 0 0 from rfl)) (rp_eq hs0 (show rp 1 1 from rfl))).mp z))]
    cases h
/-- ArmExpander.isWord -/
def zF11 (n : Nat) (a0 : Int) (M : ZM) : Option (Int × ZM) :=
  if a0 ≤ 1000 then (zJ11_12 n 0 M) else (zJ11_12 n 1 M)
set_option maxRecDepth 100000 in
set_option maxHeartbeats 4000000 in
theorem zF11_r (n : Nat) {A0_ : Int32} {a0 : Int} (ha0 : rp A0_ a0) {M_ : Mem} {M : ZM} (gM : rm M_ M) {r : Int} {m' : ZM} (h : zF11 n a0 M = some (r, m')) : sI (F11 n A0_ M_) r m' := by
  unfold zF11 at h
  unfold F11
  by_cases q1 : a0 ≤ 1000
  · rw [if_pos q1] at h
    rw [if_pos ((rp_le ha0 (show rp 1000 1000 from rfl)).mpr q1)]
    exact zJ11_12_r n (show rp 0 0 from rfl) gM h
  · rw [if_neg q1] at h
    rw [if_neg (fun z => q1 ((rp_le ha0 (show rp 1000 1000 from rfl)).mp z))]
    exact zJ11_12_r n (show rp 1 1 from rfl) gM h
def zJ12_19 (n : Nat) (s0 : Int) (M : ZM) : Option (Int × ZM) :=
  if s0 = 0 ∨ s0 = 1 then (some (s0, M)) else (none)
set_option maxRecDepth 100000 in
set_option maxHeartbeats 4000000 in
theorem zJ12_19_r (n : Nat) {S0_ : Int32} {s0 : Int} (hs0 : rp S0_ s0) {M_ : Mem} {M : ZM} (gM : rm M_ M) {r : Int} {m' : ZM} (h : zJ12_19 n s0 M = some (r, m')) : sI (J12_19 n S0_ M_) r m' := by
  unfold zJ12_19 at h
  unfold J12_19
  by_cases q1 : s0 = 0 ∨ s0 = 1
  · rw [if_pos q1] at h
    rw [if_pos ((or_congr (rp_eq hs0 (show rp 0 0 from rfl)) (rp_eq hs0 (show rp 1 1 from rfl))).mpr q1)]
    obtain ⟨rfl, rfl⟩ := Prod.mk.inj (Option.some.inj h)
    exact ⟨_, _, rfl, hs0, gM⟩
  · rw [if_neg q1] at h
    rw [if_neg (fun z => q1 ((or_congr (rp_eq hs0 (show rp 0 0 from rfl)) (rp_eq hs0 (show rp 1 1 from rfl))).mp z))]
    cases h
def zJ12_18 (n : Nat) (M : ZM) : Option (Int × ZM) :=
  zJ12_19 n 0 M
set_option maxRecDepth 100000 in
set_option maxHeartbeats 4000000 in
theorem zJ12_18_r (n : Nat) {M_ : Mem} {M : ZM} (gM : rm M_ M) {r : Int} {m' : ZM} (h : zJ12_18 n M = some (r, m')) : sI (J12_18 n M_) r m' := by
  unfold zJ12_18 at h
  unfold J12_18
  exact zJ12_19_r n (show rp 0 0 from rfl) gM h
/-- ArmExpander.isNumber -/
def zF12 (n : Nat) (a0 : Int) (M : ZM) : Option (Int × ZM) :=
  if a0 < 300 then (zJ12_18 n M) else (if 1000 ≤ a0 then (zJ12_18 n M) else (zJ12_19 n 1 M))
set_option maxRecDepth 100000 in
set_option maxHeartbeats 4000000 in
theorem zF12_r (n : Nat) {A0_ : Int32} {a0 : Int} (ha0 : rp A0_ a0) {M_ : Mem} {M : ZM} (gM : rm M_ M) {r : Int} {m' : ZM} (h : zF12 n a0 M = some (r, m')) : sI (F12 n A0_ M_) r m' := by
  unfold zF12 at h
  unfold F12
  by_cases q1 : a0 < 300
  · rw [if_pos q1] at h
    rw [if_pos ((rp_lt ha0 (show rp 300 300 from rfl)).mpr q1)]
    exact zJ12_18_r n gM h
  · rw [if_neg q1] at h
    rw [if_neg (fun z => q1 ((rp_lt ha0 (show rp 300 300 from rfl)).mp z))]
    by_cases q2 : 1000 ≤ a0
    · rw [if_pos q2] at h
      rw [if_pos ((rp_le (show rp 1000 1000 from rfl) ha0).mpr q2)]
      exact zJ12_18_r n gM h
    · rw [if_neg q2] at h
      rw [if_neg (fun z => q2 ((rp_le (show rp 1000 1000 from rfl) ha0).mp z))]
      exact zJ12_19_r n (show rp 1 1 from rfl) gM h
def zJ13_23 (n : Nat) (s0 : Int) (M : ZM) : Option (Int × ZM) :=
  if s0 = 0 ∨ s0 = 1 then (some (s0, M)) else (none)
set_option maxRecDepth 100000 in
set_option maxHeartbeats 4000000 in
theorem zJ13_23_r (n : Nat) {S0_ : Int32} {s0 : Int} (hs0 : rp S0_ s0) {M_ : Mem} {M : ZM} (gM : rm M_ M) {r : Int} {m' : ZM} (h : zJ13_23 n s0 M = some (r, m')) : sI (J13_23 n S0_ M_) r m' := by
  unfold zJ13_23 at h
  unfold J13_23
  by_cases q1 : s0 = 0 ∨ s0 = 1
  · rw [if_pos q1] at h
    rw [if_pos ((or_congr (rp_eq hs0 (show rp 0 0 from rfl)) (rp_eq hs0 (show rp 1 1 from rfl))).mpr q1)]
    obtain ⟨rfl, rfl⟩ := Prod.mk.inj (Option.some.inj h)
    exact ⟨_, _, rfl, hs0, gM⟩
  · rw [if_neg q1] at h
    rw [if_neg (fun z => q1 ((or_congr (rp_eq hs0 (show rp 0 0 from rfl)) (rp_eq hs0 (show rp 1 1 from rfl))).mp z))]
    cases h
def zJ13_18 (n : Nat) (M : ZM) : Option (Int × ZM) :=
  zJ13_23 n 1 M
set_option maxRecDepth 100000 in
set_option maxHeartbeats 4000000 in
theorem zJ13_18_r (n : Nat) {M_ : Mem} {M : ZM} (gM : rm M_ M) {r : Int} {m' : ZM} (h : zJ13_18 n M = some (r, m')) : sI (J13_18 n M_) r m' := by
  unfold zJ13_18 at h
  unfold J13_18
  exact zJ13_23_r n (show rp 1 1 from rfl) gM h
/-- ArmExpander.isOpening -/
def zF13 (n : Nat) (a0 : Int) (M : ZM) : Option (Int × ZM) :=
  if a0 = 40 then (zJ13_18 n M) else (if a0 = 91 then (zJ13_18 n M) else (if a0 = 123 then (zJ13_18 n M) else (zJ13_23 n 0 M)))
set_option maxRecDepth 100000 in
set_option maxHeartbeats 4000000 in
theorem zF13_r (n : Nat) {A0_ : Int32} {a0 : Int} (ha0 : rp A0_ a0) {M_ : Mem} {M : ZM} (gM : rm M_ M) {r : Int} {m' : ZM} (h : zF13 n a0 M = some (r, m')) : sI (F13 n A0_ M_) r m' := by
  unfold zF13 at h
  unfold F13
  by_cases q1 : a0 = 40
  · rw [if_pos q1] at h
    rw [if_pos ((rp_eq ha0 (show rp 40 40 from rfl)).mpr q1)]
    exact zJ13_18_r n gM h
  · rw [if_neg q1] at h
    rw [if_neg (fun z => q1 ((rp_eq ha0 (show rp 40 40 from rfl)).mp z))]
    by_cases q2 : a0 = 91
    · rw [if_pos q2] at h
      rw [if_pos ((rp_eq ha0 (show rp 91 91 from rfl)).mpr q2)]
      exact zJ13_18_r n gM h
    · rw [if_neg q2] at h
      rw [if_neg (fun z => q2 ((rp_eq ha0 (show rp 91 91 from rfl)).mp z))]
      by_cases q3 : a0 = 123
      · rw [if_pos q3] at h
        rw [if_pos ((rp_eq ha0 (show rp 123 123 from rfl)).mpr q3)]
        exact zJ13_18_r n gM h
      · rw [if_neg q3] at h
        rw [if_neg (fun z => q3 ((rp_eq ha0 (show rp 123 123 from rfl)).mp z))]
        exact zJ13_23_r n (show rp 0 0 from rfl) gM h
def zJ14_23 (n : Nat) (s0 : Int) (M : ZM) : Option (Int × ZM) :=
  if s0 = 0 ∨ s0 = 1 then (some (s0, M)) else (none)
set_option maxRecDepth 100000 in
set_option maxHeartbeats 4000000 in
theorem zJ14_23_r (n : Nat) {S0_ : Int32} {s0 : Int} (hs0 : rp S0_ s0) {M_ : Mem} {M : ZM} (gM : rm M_ M) {r : Int} {m' : ZM} (h : zJ14_23 n s0 M = some (r, m')) : sI (J14_23 n S0_ M_) r m' := by
  unfold zJ14_23 at h
  unfold J14_23
  by_cases q1 : s0 = 0 ∨ s0 = 1
  · rw [if_pos q1] at h
    rw [if_pos ((or_congr (rp_eq hs0 (show rp 0 0 from rfl)) (rp_eq hs0 (show rp 1 1 from rfl))).mpr q1)]
    obtain ⟨rfl, rfl⟩ := Prod.mk.inj (Option.some.inj h)
    exact ⟨_, _, rfl, hs0, gM⟩
  · rw [if_neg q1] at h
    rw [if_neg (fun z => q1 ((or_congr (rp_eq hs0 (show rp 0 0 from rfl)) (rp_eq hs0 (show rp 1 1 from rfl))).mp z))]
    cases h
def zJ14_18 (n : Nat) (M : ZM) : Option (Int × ZM) :=
  zJ14_23 n 1 M
set_option maxRecDepth 100000 in
set_option maxHeartbeats 4000000 in
theorem zJ14_18_r (n : Nat) {M_ : Mem} {M : ZM} (gM : rm M_ M) {r : Int} {m' : ZM} (h : zJ14_18 n M = some (r, m')) : sI (J14_18 n M_) r m' := by
  unfold zJ14_18 at h
  unfold J14_18
  exact zJ14_23_r n (show rp 1 1 from rfl) gM h
/-- ArmExpander.isClosing -/
def zF14 (n : Nat) (a0 : Int) (M : ZM) : Option (Int × ZM) :=
  if a0 = 41 then (zJ14_18 n M) else (if a0 = 93 then (zJ14_18 n M) else (if a0 = 125 then (zJ14_18 n M) else (zJ14_23 n 0 M)))
set_option maxRecDepth 100000 in
set_option maxHeartbeats 4000000 in
theorem zF14_r (n : Nat) {A0_ : Int32} {a0 : Int} (ha0 : rp A0_ a0) {M_ : Mem} {M : ZM} (gM : rm M_ M) {r : Int} {m' : ZM} (h : zF14 n a0 M = some (r, m')) : sI (F14 n A0_ M_) r m' := by
  unfold zF14 at h
  unfold F14
  by_cases q1 : a0 = 41
  · rw [if_pos q1] at h
    rw [if_pos ((rp_eq ha0 (show rp 41 41 from rfl)).mpr q1)]
    exact zJ14_18_r n gM h
  · rw [if_neg q1] at h
    rw [if_neg (fun z => q1 ((rp_eq ha0 (show rp 41 41 from rfl)).mp z))]
    by_cases q2 : a0 = 93
    · rw [if_pos q2] at h
      rw [if_pos ((rp_eq ha0 (show rp 93 93 from rfl)).mpr q2)]
      exact zJ14_18_r n gM h
    · rw [if_neg q2] at h
      rw [if_neg (fun z => q2 ((rp_eq ha0 (show rp 93 93 from rfl)).mp z))]
      by_cases q3 : a0 = 125
      · rw [if_pos q3] at h
        rw [if_pos ((rp_eq ha0 (show rp 125 125 from rfl)).mpr q3)]
        exact zJ14_18_r n gM h
      · rw [if_neg q3] at h
        rw [if_neg (fun z => q3 ((rp_eq ha0 (show rp 125 125 from rfl)).mp z))]
        exact zJ14_23_r n (show rp 0 0 from rfl) gM h
def zJ15_23 (n : Nat) (s0 : Int) (M : ZM) : Option (Int × ZM) :=
  if s0 = 0 ∨ s0 = 1 then (some (s0, M)) else (none)
set_option maxRecDepth 100000 in
set_option maxHeartbeats 4000000 in
theorem zJ15_23_r (n : Nat) {S0_ : Int32} {s0 : Int} (hs0 : rp S0_ s0) {M_ : Mem} {M : ZM} (gM : rm M_ M) {r : Int} {m' : ZM} (h : zJ15_23 n s0 M = some (r, m')) : sI (J15_23 n S0_ M_) r m' := by
  unfold zJ15_23 at h
  unfold J15_23
  by_cases q1 : s0 = 0 ∨ s0 = 1
  · rw [if_pos q1] at h
    rw [if_pos ((or_congr (rp_eq hs0 (show rp 0 0 from rfl)) (rp_eq hs0 (show rp 1 1 from rfl))).mpr q1)]
    obtain ⟨rfl, rfl⟩ := Prod.mk.inj (Option.some.inj h)
    exact ⟨_, _, rfl, hs0, gM⟩
  · rw [if_neg q1] at h
    rw [if_neg (fun z => q1 ((or_congr (rp_eq hs0 (show rp 0 0 from rfl)) (rp_eq hs0 (show rp 1 1 from rfl))).mp z))]
    cases h
def zJ15_18 (n : Nat) (M : ZM) : Option (Int × ZM) :=
  zJ15_23 n 1 M
set_option maxRecDepth 100000 in
set_option maxHeartbeats 4000000 in
theorem zJ15_18_r (n : Nat) {M_ : Mem} {M : ZM} (gM : rm M_ M) {r : Int} {m' : ZM} (h : zJ15_18 n M = some (r, m')) : sI (J15_18 n M_) r m' := by
  unfold zJ15_18 at h
  unfold J15_18
  exact zJ15_23_r n (show rp 1 1 from rfl) gM h
/-- ArmExpander.isRepetitionMark -/
def zF15 (n : Nat) (a0 : Int) (M : ZM) : Option (Int × ZM) :=
  if a0 = 42 then (zJ15_18 n M) else (if a0 = 43 then (zJ15_18 n M) else (if a0 = 63 then (zJ15_18 n M) else (zJ15_23 n 0 M)))
set_option maxRecDepth 100000 in
set_option maxHeartbeats 4000000 in
theorem zF15_r (n : Nat) {A0_ : Int32} {a0 : Int} (ha0 : rp A0_ a0) {M_ : Mem} {M : ZM} (gM : rm M_ M) {r : Int} {m' : ZM} (h : zF15 n a0 M = some (r, m')) : sI (F15 n A0_ M_) r m' := by
  unfold zF15 at h
  unfold F15
  by_cases q1 : a0 = 42
  · rw [if_pos q1] at h
    rw [if_pos ((rp_eq ha0 (show rp 42 42 from rfl)).mpr q1)]
    exact zJ15_18_r n gM h
  · rw [if_neg q1] at h
    rw [if_neg (fun z => q1 ((rp_eq ha0 (show rp 42 42 from rfl)).mp z))]
    by_cases q2 : a0 = 43
    · rw [if_pos q2] at h
      rw [if_pos ((rp_eq ha0 (show rp 43 43 from rfl)).mpr q2)]
      exact zJ15_18_r n gM h
    · rw [if_neg q2] at h
      rw [if_neg (fun z => q2 ((rp_eq ha0 (show rp 43 43 from rfl)).mp z))]
      by_cases q3 : a0 = 63
      · rw [if_pos q3] at h
        rw [if_pos ((rp_eq ha0 (show rp 63 63 from rfl)).mpr q3)]
        exact zJ15_18_r n gM h
      · rw [if_neg q3] at h
        rw [if_neg (fun z => q3 ((rp_eq ha0 (show rp 63 63 from rfl)).mp z))]
        exact zJ15_23_r n (show rp 0 0 from rfl) gM h
def zJ16_33 (n : Nat) (s0 : Int) (M : ZM) : Option (Int × ZM) :=
  if s0 = 0 ∨ s0 = 1 then (some (s0, M)) else (none)
set_option maxRecDepth 100000 in
set_option maxHeartbeats 4000000 in
theorem zJ16_33_r (n : Nat) {S0_ : Int32} {s0 : Int} (hs0 : rp S0_ s0) {M_ : Mem} {M : ZM} (gM : rm M_ M) {r : Int} {m' : ZM} (h : zJ16_33 n s0 M = some (r, m')) : sI (J16_33 n S0_ M_) r m' := by
  unfold zJ16_33 at h
  unfold J16_33
  by_cases q1 : s0 = 0 ∨ s0 = 1
  · rw [if_pos q1] at h
    rw [if_pos ((or_congr (rp_eq hs0 (show rp 0 0 from rfl)) (rp_eq hs0 (show rp 1 1 from rfl))).mpr q1)]
    obtain ⟨rfl, rfl⟩ := Prod.mk.inj (Option.some.inj h)
    exact ⟨_, _, rfl, hs0, gM⟩
  · rw [if_neg q1] at h
    rw [if_neg (fun z => q1 ((or_congr (rp_eq hs0 (show rp 0 0 from rfl)) (rp_eq hs0 (show rp 1 1 from rfl))).mp z))]
    cases h
def zJ16_28 (n : Nat) (M : ZM) : Option (Int × ZM) :=
  zJ16_33 n 1 M
set_option maxRecDepth 100000 in
set_option maxHeartbeats 4000000 in
theorem zJ16_28_r (n : Nat) {M_ : Mem} {M : ZM} (gM : rm M_ M) {r : Int} {m' : ZM} (h : zJ16_28 n M = some (r, m')) : sI (J16_28 n M_) r m' := by
  unfold zJ16_28 at h
  unfold J16_28
  exact zJ16_33_r n (show rp 1 1 from rfl) gM h
/-- ArmExpander.isKind -/
def zF16 (n : Nat) (a0 : Int) (M : ZM) : Option (Int × ZM) :=
  if a0 = 1247 then (zJ16_28 n M) else (if a0 = 11786 then (zJ16_28 n M) else (if a0 = 1560 then (zJ16_28 n M) else (if a0 = 1159 then (zJ16_28 n M) else (zJ16_33 n 0 M))))
set_option maxRecDepth 100000 in
set_option maxHeartbeats 4000000 in
theorem zF16_r (n : Nat) {A0_ : Int32} {a0 : Int} (ha0 : rp A0_ a0) {M_ : Mem} {M : ZM} (gM : rm M_ M) {r : Int} {m' : ZM} (h : zF16 n a0 M = some (r, m')) : sI (F16 n A0_ M_) r m' := by
  unfold zF16 at h
  unfold F16
  by_cases q1 : a0 = 1247
  · rw [if_pos q1] at h
    rw [if_pos ((rp_eq ha0 (show rp 1247 1247 from rfl)).mpr q1)]
    exact zJ16_28_r n gM h
  · rw [if_neg q1] at h
    rw [if_neg (fun z => q1 ((rp_eq ha0 (show rp 1247 1247 from rfl)).mp z))]
    by_cases q2 : a0 = 11786
    · rw [if_pos q2] at h
      rw [if_pos ((rp_eq ha0 (show rp 11786 11786 from rfl)).mpr q2)]
      exact zJ16_28_r n gM h
    · rw [if_neg q2] at h
      rw [if_neg (fun z => q2 ((rp_eq ha0 (show rp 11786 11786 from rfl)).mp z))]
      by_cases q3 : a0 = 1560
      · rw [if_pos q3] at h
        rw [if_pos ((rp_eq ha0 (show rp 1560 1560 from rfl)).mpr q3)]
        exact zJ16_28_r n gM h
      · rw [if_neg q3] at h
        rw [if_neg (fun z => q3 ((rp_eq ha0 (show rp 1560 1560 from rfl)).mp z))]
        by_cases q4 : a0 = 1159
        · rw [if_pos q4] at h
          rw [if_pos ((rp_eq ha0 (show rp 1159 1159 from rfl)).mpr q4)]
          exact zJ16_28_r n gM h
        · rw [if_neg q4] at h
          rw [if_neg (fun z => q4 ((rp_eq ha0 (show rp 1159 1159 from rfl)).mp z))]
          exact zJ16_33_r n (show rp 0 0 from rfl) gM h
def zJ17_24 (n : Nat) (s0 : Int) (M : ZM) : Option (Int × ZM) :=
  some (s0, M)
set_option maxRecDepth 100000 in
set_option maxHeartbeats 4000000 in
theorem zJ17_24_r (n : Nat) {S0_ : Int32} {s0 : Int} (hs0 : rp S0_ s0) {M_ : Mem} {M : ZM} (gM : rm M_ M) {r : Int} {m' : ZM} (h : zJ17_24 n s0 M = some (r, m')) : sI (J17_24 n S0_ M_) r m' := by
  unfold zJ17_24 at h
  unfold J17_24
  obtain ⟨rfl, rfl⟩ := Prod.mk.inj (Option.some.inj h)
  exact ⟨_, _, rfl, hs0, gM⟩
/-- ArmExpander.closingOf -/
def zF17 (n : Nat) (a0 : Int) (M : ZM) : Option (Int × ZM) :=
  if a0 = 40 then (zJ17_24 n 41 M) else (if a0 = 91 then (zJ17_24 n 93 M) else (zJ17_24 n 125 M))
set_option maxRecDepth 100000 in
set_option maxHeartbeats 4000000 in
theorem zF17_r (n : Nat) {A0_ : Int32} {a0 : Int} (ha0 : rp A0_ a0) {M_ : Mem} {M : ZM} (gM : rm M_ M) {r : Int} {m' : ZM} (h : zF17 n a0 M = some (r, m')) : sI (F17 n A0_ M_) r m' := by
  unfold zF17 at h
  unfold F17
  by_cases q1 : a0 = 40
  · rw [if_pos q1] at h
    rw [if_pos ((rp_eq ha0 (show rp 40 40 from rfl)).mpr q1)]
    exact zJ17_24_r n (show rp 41 41 from rfl) gM h
  · rw [if_neg q1] at h
    rw [if_neg (fun z => q1 ((rp_eq ha0 (show rp 40 40 from rfl)).mp z))]
    by_cases q2 : a0 = 91
    · rw [if_pos q2] at h
      rw [if_pos ((rp_eq ha0 (show rp 91 91 from rfl)).mpr q2)]
      exact zJ17_24_r n (show rp 93 93 from rfl) gM h
    · rw [if_neg q2] at h
      rw [if_neg (fun z => q2 ((rp_eq ha0 (show rp 91 91 from rfl)).mp z))]
      exact zJ17_24_r n (show rp 125 125 from rfl) gM h
def zJ19_15 (n : Nat) (s0 : Int) (M : ZM) : Option (Int × ZM) :=
  if s0 = 0 ∨ s0 = 1 then (some (s0, M)) else (none)
set_option maxRecDepth 100000 in
set_option maxHeartbeats 4000000 in
theorem zJ19_15_r (n : Nat) {S0_ : Int32} {s0 : Int} (hs0 : rp S0_ s0) {M_ : Mem} {M : ZM} (gM : rm M_ M) {r : Int} {m' : ZM} (h : zJ19_15 n s0 M = some (r, m')) : sI (J19_15 n S0_ M_) r m' := by
  unfold zJ19_15 at h
  unfold J19_15
  by_cases q1 : s0 = 0 ∨ s0 = 1
  · rw [if_pos q1] at h
    rw [if_pos ((or_congr (rp_eq hs0 (show rp 0 0 from rfl)) (rp_eq hs0 (show rp 1 1 from rfl))).mpr q1)]
    obtain ⟨rfl, rfl⟩ := Prod.mk.inj (Option.some.inj h)
    exact ⟨_, _, rfl, hs0, gM⟩
  · rw [if_neg q1] at h
    rw [if_neg (fun z => q1 ((or_congr (rp_eq hs0 (show rp 0 0 from rfl)) (rp_eq hs0 (show rp 1 1 from rfl))).mp z))]
    cases h
def zJ19_14 (n : Nat) (M : ZM) : Option (Int × ZM) :=
  zJ19_15 n 0 M
set_option maxRecDepth 100000 in
set_option maxHeartbeats 4000000 in
theorem zJ19_14_r (n : Nat) {M_ : Mem} {M : ZM} (gM : rm M_ M) {r : Int} {m' : ZM} (h : zJ19_14 n M = some (r, m')) : sI (J19_14 n M_) r m' := by
  unfold zJ19_14 at h
  unfold J19_14
  exact zJ19_15_r n (show rp 0 0 from rfl) gM h
/-- ArmExpanderModel.in -/
def zF19 (n : Nat) (a0 : Int) (a1 : Int) (a2 : Int) (M : ZM) : Option (Int × ZM) :=
  if a0 < a1 then (zJ19_14 n M) else (if a2 < a0 then (zJ19_14 n M) else (zJ19_15 n 1 M))
set_option maxRecDepth 100000 in
set_option maxHeartbeats 4000000 in
theorem zF19_r (n : Nat) {A0_ : Int32} {a0 : Int} (ha0 : rp A0_ a0) {A1_ : Int32} {a1 : Int} (ha1 : rp A1_ a1) {A2_ : Int32} {a2 : Int} (ha2 : rp A2_ a2) {M_ : Mem} {M : ZM} (gM : rm M_ M) {r : Int} {m' : ZM} (h : zF19 n a0 a1 a2 M = some (r, m')) : sI (F19 n A0_ A1_ A2_ M_) r m' := by
  unfold zF19 at h
  unfold F19
  by_cases q1 : a0 < a1
  · rw [if_pos q1] at h
    rw [if_pos ((rp_lt ha0 ha1).mpr q1)]
    exact zJ19_14_r n gM h
  · rw [if_neg q1] at h
    rw [if_neg (fun z => q1 ((rp_lt ha0 ha1).mp z))]
    by_cases q2 : a2 < a0
    · rw [if_pos q2] at h
      rw [if_pos ((rp_lt ha2 ha0).mpr q2)]
      exact zJ19_14_r n gM h
    · rw [if_neg q2] at h
      rw [if_neg (fun z => q2 ((rp_lt ha2 ha0).mp z))]
      exact zJ19_15_r n (show rp 1 1 from rfl) gM h
def zJ20_114 (n : Nat) (x3 : Int) (M : ZM) : Option (Int × ZM) :=
  if x3 = 0 ∨ x3 = 1 then (some (x3, M)) else (none)
set_option maxRecDepth 100000 in
set_option maxHeartbeats 4000000 in
theorem zJ20_114_r (n : Nat) {X3_ : Int32} {x3 : Int} (hx3 : rp X3_ x3) {M_ : Mem} {M : ZM} (gM : rm M_ M) {r : Int} {m' : ZM} (h : zJ20_114 n x3 M = some (r, m')) : sI (J20_114 n X3_ M_) r m' := by
  unfold zJ20_114 at h
  unfold J20_114
  by_cases q1 : x3 = 0 ∨ x3 = 1
  · rw [if_pos q1] at h
    rw [if_pos ((or_congr (rp_eq hx3 (show rp 0 0 from rfl)) (rp_eq hx3 (show rp 1 1 from rfl))).mpr q1)]
    obtain ⟨rfl, rfl⟩ := Prod.mk.inj (Option.some.inj h)
    exact ⟨_, _, rfl, hx3, gM⟩
  · rw [if_neg q1] at h
    rw [if_neg (fun z => q1 ((or_congr (rp_eq hx3 (show rp 0 0 from rfl)) (rp_eq hx3 (show rp 1 1 from rfl))).mp z))]
    cases h
def zJ20_98 (n : Nat) (zrec69 : Int → Int → Int → ZM → Option (Int × ZM)) (x1 : Int) (x3 : Int) (x4 : Int) (M : ZM) : Option (Int × ZM) :=
  if rg ((M.1 83 1) + 1) then (zlet (z_i M 83 1 ((M.1 83 1) + 1)) (fun M11 => if rg (x4 + (-1)) then (zrec69 x1 x3 (x4 + (-1)) M11) else none)) else none
set_option maxRecDepth 100000 in
set_option maxHeartbeats 4000000 in
theorem zJ20_98_r (n : Nat) (rec69 : Int32 → Int32 → Int32 → Mem → Option (Int32 × Mem)) (zrec69 : Int → Int → Int → ZM → Option (Int × ZM)) (hrec69 : ∀ {Y1 : Int32} {y1 : Int} (_ : rp Y1 y1) {Y2 : Int32} {y2 : Int} (_ : rp Y2 y2) {Y3 : Int32} {y3 : Int} (_ : rp Y3 y3) {M : Mem} {m : ZM} (_ : rm M m) {r : Int} {m' : ZM} (_ : zrec69 y1 y2 y3 m = some (r, m')), sI (rec69 Y1 Y2 Y3 M) r m') {X1_ : Int32} {x1 : Int} (hx1 : rp X1_ x1) {X3_ : Int32} {x3 : Int} (hx3 : rp X3_ x3) {X4_ : Int32} {x4 : Int} (hx4 : rp X4_ x4) {M_ : Mem} {M : ZM} (gM : rm M_ M) {r : Int} {m' : ZM} (h : zJ20_98 n zrec69 x1 x3 x4 M = some (r, m')) : sI (J20_98 n rec69 X1_ X3_ X4_ M_) r m' := by
  unfold zJ20_98 at h
  unfold J20_98
  by_cases w1 : rg ((M.1 83 1) + 1)
  · rw [if_pos w1] at h
    have gM11 : rm (m_i M_ 83 1 ((M_.1 83 1) + (1 : Int32))) (z_i M 83 1 ((M.1 83 1) + 1)) := rm_i gM 83 1 (rp_add (rp_iz (rm_rd gM 83 1)) (rp_iz (show rp 1 1 from rfl)) w1)
    rw [mlet]
    rw [zlet] at h
    generalize z_i M 83 1 ((M.1 83 1) + 1) = M11 at h gM11
    generalize m_i M_ 83 1 ((M_.1 83 1) + (1 : Int32)) = NM11 at gM11 ⊢
    by_cases w2 : rg (x4 + (-1))
    · rw [if_pos w2] at h
      exact hrec69 hx1 hx3 (rp_add (rp_iz hx4) (rp_iz (show rp (-1) (-1) from rfl)) w2) gM11 h
    · rw [if_neg w2] at h
      cases h
  · rw [if_neg w1] at h
    cases h
def zL20_69 (n : Nat) : Nat → Int → Int → Int → ZM → Option (Int × ZM)
  | 0, _, _, _, _ => none
  | k + 1, x1, x3, x4, M => if x4 < 0 then (zJ20_114 n x3 M) else (if x3 = 0 then (zJ20_114 n x3 M) else (if (M.1 83 1) < 0 ∨ 120 ≤ (M.1 83 1) then (none) else (if rg (8 * x4) then (zlet (z_i M 84 (Int.toNat (M.1 83 1)) (((((iz x1) >>> ((iz (8 * x4)) &&& 31)) &&& 255) : Int32).toInt)) (fun M10 => zJ20_98 n (zL20_69 n k) x1 x3 x4 M10)) else none)))
set_option maxRecDepth 100000 in
set_option maxHeartbeats 4000000 in
theorem zL20_69_r (n : Nat) : ∀ (k : Nat) {X1_ : Int32} {x1 : Int} (hx1 : rp X1_ x1) {X3_ : Int32} {x3 : Int} (hx3 : rp X3_ x3) {X4_ : Int32} {x4 : Int} (hx4 : rp X4_ x4) {M_ : Mem} {M : ZM} (gM : rm M_ M) {r : Int} {m' : ZM} (_ : zL20_69 n k x1 x3 x4 M = some (r, m')), sI (L20_69 n k X1_ X3_ X4_ M_) r m' := by
  intro k
  induction k with
  | zero => intro X1_ x1 hx1 X3_ x3 hx3 X4_ x4 hx4 M_ M gM r m' h; cases h
  | succ k ih =>
    intro X1_ x1 hx1 X3_ x3 hx3 X4_ x4 hx4 M_ M gM r m' h
    rw [zL20_69] at h
    rw [L20_69]
    by_cases q1 : x4 < 0
    · rw [if_pos q1] at h
      rw [if_pos ((rp_lt hx4 (show rp 0 0 from rfl)).mpr q1)]
      exact zJ20_114_r n hx3 gM h
    · rw [if_neg q1] at h
      rw [if_neg (fun z => q1 ((rp_lt hx4 (show rp 0 0 from rfl)).mp z))]
      by_cases q2 : x3 = 0
      · rw [if_pos q2] at h
        rw [if_pos ((rp_eq hx3 (show rp 0 0 from rfl)).mpr q2)]
        exact zJ20_114_r n hx3 gM h
      · rw [if_neg q2] at h
        rw [if_neg (fun z => q2 ((rp_eq hx3 (show rp 0 0 from rfl)).mp z))]
        by_cases q3 : (M.1 83 1) < 0 ∨ 120 ≤ (M.1 83 1)
        · rw [if_pos q3] at h
          rw [if_pos ((rp_ob (rm_rd gM 83 1) 120).mpr q3)]
          cases h
        · rw [if_neg q3] at h
          rw [if_neg (fun z => q3 ((rp_ob (rm_rd gM 83 1) 120).mp z))]
          by_cases w4 : rg (8 * x4)
          · rw [if_pos w4] at h
            have gM10 : rm (m_i M_ 84 ((M_.1 83 1)).toNatClampNeg ((X1_ >>> (((8 : Int32) * X4_) &&& (31 : Int32))) &&& (255 : Int32))) (z_i M 84 (Int.toNat (M.1 83 1)) (((((iz x1) >>> ((iz (8 * x4)) &&& 31)) &&& 255) : Int32).toInt)) := rm_ix gM 84 (rm_rd gM 83 1) (show rp ((X1_ >>> (((8 : Int32) * X4_) &&& (31 : Int32))) &&& (255 : Int32)) (((((iz x1) >>> ((iz (8 * x4)) &&& 31)) &&& 255) : Int32).toInt) from congrArg Int32.toInt (by rw [rp_iz hx1, (rw_mul (rp_iz (show rp 8 8 from rfl)) (rp_iz hx4))]))
            rw [mlet]
            rw [zlet] at h
            generalize z_i M 84 (Int.toNat (M.1 83 1)) (((((iz x1) >>> ((iz (8 * x4)) &&& 31)) &&& 255) : Int32).toInt) = M10 at h gM10
            generalize m_i M_ 84 ((M_.1 83 1)).toNatClampNeg ((X1_ >>> (((8 : Int32) * X4_) &&& (31 : Int32))) &&& (255 : Int32)) = NM10 at gM10 ⊢
            exact zJ20_98_r n _ _ ih hx1 hx3 hx4 gM10 h
          · rw [if_neg w4] at h
            cases h
def zJ20_64 (n : Nat) (x1 : Int) (x2 : Int) (x3 : Int) (M : ZM) : Option (Int × ZM) :=
  zL20_69 n n x1 x3 ((((iz x2) - 1) : Int32).toInt) M
set_option maxRecDepth 100000 in
set_option maxHeartbeats 4000000 in
theorem zJ20_64_r (n : Nat) {X1_ : Int32} {x1 : Int} (hx1 : rp X1_ x1) {X2_ : Int32} {x2 : Int} (hx2 : rp X2_ x2) {X3_ : Int32} {x3 : Int} (hx3 : rp X3_ x3) {M_ : Mem} {M : ZM} (gM : rm M_ M) {r : Int} {m' : ZM} (h : zJ20_64 n x1 x2 x3 M = some (r, m')) : sI (J20_64 n X1_ X2_ X3_ M_) r m' := by
  unfold zJ20_64 at h
  unfold J20_64
  exact zL20_69_r n n hx1 hx3 (show rp (X2_ - (1 : Int32)) ((((iz x2) - 1) : Int32).toInt) from congrArg Int32.toInt (by rw [rp_iz hx2])) gM h
def zL20_29 (n : Nat) : Nat → Int → Int → Int → Int → ZM → Option (Int × ZM)
  | 0, _, _, _, _, _ => none
  | k + 1, x1, x2, x3, x4, M => if x2 ≤ x4 then (zJ20_64 n x1 x2 x3 M) else (if x3 = 0 then (zJ20_64 n x1 x2 x3 M) else (if rg (8 * x4) then (match zF19 n (((((iz x1) >>> ((iz (8 * x4)) &&& 31)) &&& 255) : Int32).toInt) 32 126 M with | some (v13, M14) => (if rg (x4 + 1) then ((zL20_29 n k) x1 x2 v13 (x4 + 1) M14) else none) | none => none) else none))
set_option maxRecDepth 100000 in
set_option maxHeartbeats 4000000 in
theorem zL20_29_r (n : Nat) : ∀ (k : Nat) {X1_ : Int32} {x1 : Int} (hx1 : rp X1_ x1) {X2_ : Int32} {x2 : Int} (hx2 : rp X2_ x2) {X3_ : Int32} {x3 : Int} (hx3 : rp X3_ x3) {X4_ : Int32} {x4 : Int} (hx4 : rp X4_ x4) {M_ : Mem} {M : ZM} (gM : rm M_ M) {r : Int} {m' : ZM} (_ : zL20_29 n k x1 x2 x3 x4 M = some (r, m')), sI (L20_29 n k X1_ X2_ X3_ X4_ M_) r m' := by
  intro k
  induction k with
  | zero => intro X1_ x1 hx1 X2_ x2 hx2 X3_ x3 hx3 X4_ x4 hx4 M_ M gM r m' h; cases h
  | succ k ih =>
    intro X1_ x1 hx1 X2_ x2 hx2 X3_ x3 hx3 X4_ x4 hx4 M_ M gM r m' h
    rw [zL20_29] at h
    rw [L20_29]
    by_cases q1 : x2 ≤ x4
    · rw [if_pos q1] at h
      rw [if_pos ((rp_le hx2 hx4).mpr q1)]
      exact zJ20_64_r n hx1 hx2 hx3 gM h
    · rw [if_neg q1] at h
      rw [if_neg (fun z => q1 ((rp_le hx2 hx4).mp z))]
      by_cases q2 : x3 = 0
      · rw [if_pos q2] at h
        rw [if_pos ((rp_eq hx3 (show rp 0 0 from rfl)).mpr q2)]
        exact zJ20_64_r n hx1 hx2 hx3 gM h
      · rw [if_neg q2] at h
        rw [if_neg (fun z => q2 ((rp_eq hx3 (show rp 0 0 from rfl)).mp z))]
        by_cases w3 : rg (8 * x4)
        · rw [if_pos w3] at h
          cases hc4 : zF19 n (((((iz x1) >>> ((iz (8 * x4)) &&& 31)) &&& 255) : Int32).toInt) 32 126 M with
          | none => rw [hc4] at h; cases h
          | some w =>
            obtain ⟨v13, M14⟩ := w
            rw [hc4] at h
            dsimp only at h
            obtain ⟨V13, NM14, ehc4, hv13, gM14⟩ := zF19_r n (show rp ((X1_ >>> (((8 : Int32) * X4_) &&& (31 : Int32))) &&& (255 : Int32)) (((((iz x1) >>> ((iz (8 * x4)) &&& 31)) &&& 255) : Int32).toInt) from congrArg Int32.toInt (by rw [rp_iz hx1, (rw_mul (rp_iz (show rp 8 8 from rfl)) (rp_iz hx4))])) (show rp 32 32 from rfl) (show rp 126 126 from rfl) gM hc4
            rw [ehc4]
            dsimp only
            by_cases w5 : rg (x4 + 1)
            · rw [if_pos w5] at h
              exact ih hx1 hx2 hv13 (rp_add (rp_iz hx4) (rp_iz (show rp 1 1 from rfl)) w5) gM14 h
            · rw [if_neg w5] at h
              cases h
        · rw [if_neg w3] at h
          cases h
def zJ20_25 (n : Nat) (x1 : Int) (x2 : Int) (s0 : Int) (M : ZM) : Option (Int × ZM) :=
  zL20_29 n n x1 x2 s0 0 M
set_option maxRecDepth 100000 in
set_option maxHeartbeats 4000000 in
theorem zJ20_25_r (n : Nat) {X1_ : Int32} {x1 : Int} (hx1 : rp X1_ x1) {X2_ : Int32} {x2 : Int} (hx2 : rp X2_ x2) {S0_ : Int32} {s0 : Int} (hs0 : rp S0_ s0) {M_ : Mem} {M : ZM} (gM : rm M_ M) {r : Int} {m' : ZM} (h : zJ20_25 n x1 x2 s0 M = some (r, m')) : sI (J20_25 n X1_ X2_ S0_ M_) r m' := by
  unfold zJ20_25 at h
  unfold J20_25
  exact zL20_29_r n n hx1 hx2 hs0 (show rp 0 0 from rfl) gM h
def zJ20_24 (n : Nat) (x1 : Int) (x2 : Int) (M : ZM) : Option (Int × ZM) :=
  zJ20_25 n x1 x2 0 M
set_option maxRecDepth 100000 in
set_option maxHeartbeats 4000000 in
theorem zJ20_24_r (n : Nat) {X1_ : Int32} {x1 : Int} (hx1 : rp X1_ x1) {X2_ : Int32} {x2 : Int} (hx2 : rp X2_ x2) {M_ : Mem} {M : ZM} (gM : rm M_ M) {r : Int} {m' : ZM} (h : zJ20_24 n x1 x2 M = some (r, m')) : sI (J20_24 n X1_ X2_ M_) r m' := by
  unfold zJ20_24 at h
  unfold J20_24
  exact zJ20_25_r n hx1 hx2 (show rp 0 0 from rfl) gM h
/-- ArmExpanderModel.type -/
def zF20 (n : Nat) (a0 : Int) (a1 : Int) (M : ZM) : Option (Int × ZM) :=
  match zF19 n a1 1 4 M with | some (v1, M2) => (if v1 = 0 then (zJ20_24 n a0 a1 M2) else (if rg ((M2.1 83 1) + a1) then (if 120 < ((M2.1 83 1) + a1) then (zJ20_24 n a0 a1 M2) else (zJ20_25 n a0 a1 1 M2)) else none)) | none => none
set_option maxRecDepth 100000 in
set_option maxHeartbeats 4000000 in
theorem zF20_r (n : Nat) {A0_ : Int32} {a0 : Int} (ha0 : rp A0_ a0) {A1_ : Int32} {a1 : Int} (ha1 : rp A1_ a1) {M_ : Mem} {M : ZM} (gM : rm M_ M) {r : Int} {m' : ZM} (h : zF20 n a0 a1 M = some (r, m')) : sI (F20 n A0_ A1_ M_) r m' := by
  unfold zF20 at h
  unfold F20
  cases hc1 : zF19 n a1 1 4 M with
  | none => rw [hc1] at h; cases h
  | some w =>
    obtain ⟨v1, M2⟩ := w
    rw [hc1] at h
    dsimp only at h
    obtain ⟨V1, NM2, ehc1, hv1, gM2⟩ := zF19_r n ha1 (show rp 1 1 from rfl) (show rp 4 4 from rfl) gM hc1
    rw [ehc1]
    dsimp only
    by_cases q2 : v1 = 0
    · rw [if_pos q2] at h
      rw [if_pos ((rp_eq hv1 (show rp 0 0 from rfl)).mpr q2)]
      exact zJ20_24_r n ha0 ha1 gM2 h
    · rw [if_neg q2] at h
      rw [if_neg (fun z => q2 ((rp_eq hv1 (show rp 0 0 from rfl)).mp z))]
      by_cases w3 : rg ((M2.1 83 1) + a1)
      · rw [if_pos w3] at h
        by_cases q4 : 120 < ((M2.1 83 1) + a1)
        · rw [if_pos q4] at h
          rw [if_pos ((rp_lt (show rp 120 120 from rfl) (rp_add (rp_iz (rm_rd gM2 83 1)) (rp_iz ha1) w3)).mpr q4)]
          exact zJ20_24_r n ha0 ha1 gM2 h
        · rw [if_neg q4] at h
          rw [if_neg (fun z => q4 ((rp_lt (show rp 120 120 from rfl) (rp_add (rp_iz (rm_rd gM2 83 1)) (rp_iz ha1) w3)).mp z))]
          exact zJ20_25_r n ha0 ha1 (show rp 1 1 from rfl) gM2 h
      · rw [if_neg w3] at h
        cases h
def zJ21_23 (n : Nat) (s0 : Int) (M : ZM) : Option (Int × ZM) :=
  if s0 = 0 ∨ s0 = 1 then (some (s0, M)) else (none)
set_option maxRecDepth 100000 in
set_option maxHeartbeats 4000000 in
theorem zJ21_23_r (n : Nat) {S0_ : Int32} {s0 : Int} (hs0 : rp S0_ s0) {M_ : Mem} {M : ZM} (gM : rm M_ M) {r : Int} {m' : ZM} (h : zJ21_23 n s0 M = some (r, m')) : sI (J21_23 n S0_ M_) r m' := by
  unfold zJ21_23 at h
  unfold J21_23
  by_cases q1 : s0 = 0 ∨ s0 = 1
  · rw [if_pos q1] at h
    rw [if_pos ((or_congr (rp_eq hs0 (show rp 0 0 from rfl)) (rp_eq hs0 (show rp 1 1 from rfl))).mpr q1)]
    obtain ⟨rfl, rfl⟩ := Prod.mk.inj (Option.some.inj h)
    exact ⟨_, _, rfl, hs0, gM⟩
  · rw [if_neg q1] at h
    rw [if_neg (fun z => q1 ((or_congr (rp_eq hs0 (show rp 0 0 from rfl)) (rp_eq hs0 (show rp 1 1 from rfl))).mp z))]
    cases h
def zJ21_18 (n : Nat) (M : ZM) : Option (Int × ZM) :=
  zJ21_23 n 1 M
set_option maxRecDepth 100000 in
set_option maxHeartbeats 4000000 in
theorem zJ21_18_r (n : Nat) {M_ : Mem} {M : ZM} (gM : rm M_ M) {r : Int} {m' : ZM} (h : zJ21_18 n M = some (r, m')) : sI (J21_18 n M_) r m' := by
  unfold zJ21_18 at h
  unfold J21_18
  exact zJ21_23_r n (show rp 1 1 from rfl) gM h
/-- ArmExpanderModel.isOpening -/
def zF21 (n : Nat) (a0 : Int) (M : ZM) : Option (Int × ZM) :=
  if a0 = 40 then (zJ21_18 n M) else (if a0 = 91 then (zJ21_18 n M) else (if a0 = 123 then (zJ21_18 n M) else (zJ21_23 n 0 M)))
set_option maxRecDepth 100000 in
set_option maxHeartbeats 4000000 in
theorem zF21_r (n : Nat) {A0_ : Int32} {a0 : Int} (ha0 : rp A0_ a0) {M_ : Mem} {M : ZM} (gM : rm M_ M) {r : Int} {m' : ZM} (h : zF21 n a0 M = some (r, m')) : sI (F21 n A0_ M_) r m' := by
  unfold zF21 at h
  unfold F21
  by_cases q1 : a0 = 40
  · rw [if_pos q1] at h
    rw [if_pos ((rp_eq ha0 (show rp 40 40 from rfl)).mpr q1)]
    exact zJ21_18_r n gM h
  · rw [if_neg q1] at h
    rw [if_neg (fun z => q1 ((rp_eq ha0 (show rp 40 40 from rfl)).mp z))]
    by_cases q2 : a0 = 91
    · rw [if_pos q2] at h
      rw [if_pos ((rp_eq ha0 (show rp 91 91 from rfl)).mpr q2)]
      exact zJ21_18_r n gM h
    · rw [if_neg q2] at h
      rw [if_neg (fun z => q2 ((rp_eq ha0 (show rp 91 91 from rfl)).mp z))]
      by_cases q3 : a0 = 123
      · rw [if_pos q3] at h
        rw [if_pos ((rp_eq ha0 (show rp 123 123 from rfl)).mpr q3)]
        exact zJ21_18_r n gM h
      · rw [if_neg q3] at h
        rw [if_neg (fun z => q3 ((rp_eq ha0 (show rp 123 123 from rfl)).mp z))]
        exact zJ21_23_r n (show rp 0 0 from rfl) gM h
def zJ22_23 (n : Nat) (s0 : Int) (M : ZM) : Option (Int × ZM) :=
  if s0 = 0 ∨ s0 = 1 then (some (s0, M)) else (none)
set_option maxRecDepth 100000 in
set_option maxHeartbeats 4000000 in
theorem zJ22_23_r (n : Nat) {S0_ : Int32} {s0 : Int} (hs0 : rp S0_ s0) {M_ : Mem} {M : ZM} (gM : rm M_ M) {r : Int} {m' : ZM} (h : zJ22_23 n s0 M = some (r, m')) : sI (J22_23 n S0_ M_) r m' := by
  unfold zJ22_23 at h
  unfold J22_23
  by_cases q1 : s0 = 0 ∨ s0 = 1
  · rw [if_pos q1] at h
    rw [if_pos ((or_congr (rp_eq hs0 (show rp 0 0 from rfl)) (rp_eq hs0 (show rp 1 1 from rfl))).mpr q1)]
    obtain ⟨rfl, rfl⟩ := Prod.mk.inj (Option.some.inj h)
    exact ⟨_, _, rfl, hs0, gM⟩
  · rw [if_neg q1] at h
    rw [if_neg (fun z => q1 ((or_congr (rp_eq hs0 (show rp 0 0 from rfl)) (rp_eq hs0 (show rp 1 1 from rfl))).mp z))]
    cases h
def zJ22_18 (n : Nat) (M : ZM) : Option (Int × ZM) :=
  zJ22_23 n 1 M
set_option maxRecDepth 100000 in
set_option maxHeartbeats 4000000 in
theorem zJ22_18_r (n : Nat) {M_ : Mem} {M : ZM} (gM : rm M_ M) {r : Int} {m' : ZM} (h : zJ22_18 n M = some (r, m')) : sI (J22_18 n M_) r m' := by
  unfold zJ22_18 at h
  unfold J22_18
  exact zJ22_23_r n (show rp 1 1 from rfl) gM h
/-- ArmExpanderModel.isClosing -/
def zF22 (n : Nat) (a0 : Int) (M : ZM) : Option (Int × ZM) :=
  if a0 = 41 then (zJ22_18 n M) else (if a0 = 93 then (zJ22_18 n M) else (if a0 = 125 then (zJ22_18 n M) else (zJ22_23 n 0 M)))
set_option maxRecDepth 100000 in
set_option maxHeartbeats 4000000 in
theorem zF22_r (n : Nat) {A0_ : Int32} {a0 : Int} (ha0 : rp A0_ a0) {M_ : Mem} {M : ZM} (gM : rm M_ M) {r : Int} {m' : ZM} (h : zF22 n a0 M = some (r, m')) : sI (F22 n A0_ M_) r m' := by
  unfold zF22 at h
  unfold F22
  by_cases q1 : a0 = 41
  · rw [if_pos q1] at h
    rw [if_pos ((rp_eq ha0 (show rp 41 41 from rfl)).mpr q1)]
    exact zJ22_18_r n gM h
  · rw [if_neg q1] at h
    rw [if_neg (fun z => q1 ((rp_eq ha0 (show rp 41 41 from rfl)).mp z))]
    by_cases q2 : a0 = 93
    · rw [if_pos q2] at h
      rw [if_pos ((rp_eq ha0 (show rp 93 93 from rfl)).mpr q2)]
      exact zJ22_18_r n gM h
    · rw [if_neg q2] at h
      rw [if_neg (fun z => q2 ((rp_eq ha0 (show rp 93 93 from rfl)).mp z))]
      by_cases q3 : a0 = 125
      · rw [if_pos q3] at h
        rw [if_pos ((rp_eq ha0 (show rp 125 125 from rfl)).mpr q3)]
        exact zJ22_18_r n gM h
      · rw [if_neg q3] at h
        rw [if_neg (fun z => q3 ((rp_eq ha0 (show rp 125 125 from rfl)).mp z))]
        exact zJ22_23_r n (show rp 0 0 from rfl) gM h
def zJ23_24 (n : Nat) (s0 : Int) (M : ZM) : Option (Int × ZM) :=
  some (s0, M)
set_option maxRecDepth 100000 in
set_option maxHeartbeats 4000000 in
theorem zJ23_24_r (n : Nat) {S0_ : Int32} {s0 : Int} (hs0 : rp S0_ s0) {M_ : Mem} {M : ZM} (gM : rm M_ M) {r : Int} {m' : ZM} (h : zJ23_24 n s0 M = some (r, m')) : sI (J23_24 n S0_ M_) r m' := by
  unfold zJ23_24 at h
  unfold J23_24
  obtain ⟨rfl, rfl⟩ := Prod.mk.inj (Option.some.inj h)
  exact ⟨_, _, rfl, hs0, gM⟩
/-- ArmExpanderModel.closing -/
def zF23 (n : Nat) (a0 : Int) (M : ZM) : Option (Int × ZM) :=
  if a0 = 40 then (zJ23_24 n 41 M) else (if a0 = 91 then (zJ23_24 n 93 M) else (zJ23_24 n 125 M))
set_option maxRecDepth 100000 in
set_option maxHeartbeats 4000000 in
theorem zF23_r (n : Nat) {A0_ : Int32} {a0 : Int} (ha0 : rp A0_ a0) {M_ : Mem} {M : ZM} (gM : rm M_ M) {r : Int} {m' : ZM} (h : zF23 n a0 M = some (r, m')) : sI (F23 n A0_ M_) r m' := by
  unfold zF23 at h
  unfold F23
  by_cases q1 : a0 = 40
  · rw [if_pos q1] at h
    rw [if_pos ((rp_eq ha0 (show rp 40 40 from rfl)).mpr q1)]
    exact zJ23_24_r n (show rp 41 41 from rfl) gM h
  · rw [if_neg q1] at h
    rw [if_neg (fun z => q1 ((rp_eq ha0 (show rp 40 40 from rfl)).mp z))]
    by_cases q2 : a0 = 91
    · rw [if_pos q2] at h
      rw [if_pos ((rp_eq ha0 (show rp 91 91 from rfl)).mpr q2)]
      exact zJ23_24_r n (show rp 93 93 from rfl) gM h
    · rw [if_neg q2] at h
      rw [if_neg (fun z => q2 ((rp_eq ha0 (show rp 91 91 from rfl)).mp z))]
      exact zJ23_24_r n (show rp 125 125 from rfl) gM h
def zJ24_65 (n : Nat) (s0 : Int) (M : ZM) : Option (Int × ZM) :=
  if s0 = 0 ∨ s0 = 1 then (some (s0, M)) else (none)
set_option maxRecDepth 100000 in
set_option maxHeartbeats 4000000 in
theorem zJ24_65_r (n : Nat) {S0_ : Int32} {s0 : Int} (hs0 : rp S0_ s0) {M_ : Mem} {M : ZM} (gM : rm M_ M) {r : Int} {m' : ZM} (h : zJ24_65 n s0 M = some (r, m')) : sI (J24_65 n S0_ M_) r m' := by
  unfold zJ24_65 at h
  unfold J24_65
  by_cases q1 : s0 = 0 ∨ s0 = 1
  · rw [if_pos q1] at h
    rw [if_pos ((or_congr (rp_eq hs0 (show rp 0 0 from rfl)) (rp_eq hs0 (show rp 1 1 from rfl))).mpr q1)]
    obtain ⟨rfl, rfl⟩ := Prod.mk.inj (Option.some.inj h)
    exact ⟨_, _, rfl, hs0, gM⟩
  · rw [if_neg q1] at h
    rw [if_neg (fun z => q1 ((or_congr (rp_eq hs0 (show rp 0 0 from rfl)) (rp_eq hs0 (show rp 1 1 from rfl))).mp z))]
    cases h
def zJ24_60 (n : Nat) (M : ZM) : Option (Int × ZM) :=
  zJ24_65 n 1 M
set_option maxRecDepth 100000 in
set_option maxHeartbeats 4000000 in
theorem zJ24_60_r (n : Nat) {M_ : Mem} {M : ZM} (gM : rm M_ M) {r : Int} {m' : ZM} (h : zJ24_60 n M = some (r, m')) : sI (J24_60 n M_) r m' := by
  unfold zJ24_60 at h
  unfold J24_60
  exact zJ24_65_r n (show rp 1 1 from rfl) gM h
def zJ24_64 (n : Nat) (M : ZM) : Option (Int × ZM) :=
  zJ24_65 n 0 M
set_option maxRecDepth 100000 in
set_option maxHeartbeats 4000000 in
theorem zJ24_64_r (n : Nat) {M_ : Mem} {M : ZM} (gM : rm M_ M) {r : Int} {m' : ZM} (h : zJ24_64 n M = some (r, m')) : sI (J24_64 n M_) r m' := by
  unfold zJ24_64 at h
  unfold J24_64
  exact zJ24_65_r n (show rp 0 0 from rfl) gM h
def zJ24_30 (n : Nat) (x0 : Int) (M : ZM) : Option (Int × ZM) :=
  if x0 = 58 then (zJ24_60 n M) else (if x0 = 33 then (zJ24_60 n M) else (if x0 = 63 then (zJ24_60 n M) else (if x0 = 62 then (zJ24_60 n M) else (if x0 = 36 then (zJ24_60 n M) else (zJ24_64 n M)))))
set_option maxRecDepth 100000 in
set_option maxHeartbeats 4000000 in
theorem zJ24_30_r (n : Nat) {X0_ : Int32} {x0 : Int} (hx0 : rp X0_ x0) {M_ : Mem} {M : ZM} (gM : rm M_ M) {r : Int} {m' : ZM} (h : zJ24_30 n x0 M = some (r, m')) : sI (J24_30 n X0_ M_) r m' := by
  unfold zJ24_30 at h
  unfold J24_30
  by_cases q1 : x0 = 58
  · rw [if_pos q1] at h
    rw [if_pos ((rp_eq hx0 (show rp 58 58 from rfl)).mpr q1)]
    exact zJ24_60_r n gM h
  · rw [if_neg q1] at h
    rw [if_neg (fun z => q1 ((rp_eq hx0 (show rp 58 58 from rfl)).mp z))]
    by_cases q2 : x0 = 33
    · rw [if_pos q2] at h
      rw [if_pos ((rp_eq hx0 (show rp 33 33 from rfl)).mpr q2)]
      exact zJ24_60_r n gM h
    · rw [if_neg q2] at h
      rw [if_neg (fun z => q2 ((rp_eq hx0 (show rp 33 33 from rfl)).mp z))]
      by_cases q3 : x0 = 63
      · rw [if_pos q3] at h
        rw [if_pos ((rp_eq hx0 (show rp 63 63 from rfl)).mpr q3)]
        exact zJ24_60_r n gM h
      · rw [if_neg q3] at h
        rw [if_neg (fun z => q3 ((rp_eq hx0 (show rp 63 63 from rfl)).mp z))]
        by_cases q4 : x0 = 62
        · rw [if_pos q4] at h
          rw [if_pos ((rp_eq hx0 (show rp 62 62 from rfl)).mpr q4)]
          exact zJ24_60_r n gM h
        · rw [if_neg q4] at h
          rw [if_neg (fun z => q4 ((rp_eq hx0 (show rp 62 62 from rfl)).mp z))]
          by_cases q5 : x0 = 36
          · rw [if_pos q5] at h
            rw [if_pos ((rp_eq hx0 (show rp 36 36 from rfl)).mpr q5)]
            exact zJ24_60_r n gM h
          · rw [if_neg q5] at h
            rw [if_neg (fun z => q5 ((rp_eq hx0 (show rp 36 36 from rfl)).mp z))]
            exact zJ24_64_r n gM h
/-- ArmExpanderModel.isSign -/
def zF24 (n : Nat) (a0 : Int) (M : ZM) : Option (Int × ZM) :=
  if a0 = 43 then (zJ24_60 n M) else (if a0 = 42 then (zJ24_60 n M) else (if a0 = 44 then (zJ24_60 n M) else (if a0 = 59 then (zJ24_60 n M) else (if a0 = 61 then (zJ24_60 n M) else (zJ24_30 n a0 M)))))
set_option maxRecDepth 100000 in
set_option maxHeartbeats 4000000 in
theorem zF24_r (n : Nat) {A0_ : Int32} {a0 : Int} (ha0 : rp A0_ a0) {M_ : Mem} {M : ZM} (gM : rm M_ M) {r : Int} {m' : ZM} (h : zF24 n a0 M = some (r, m')) : sI (F24 n A0_ M_) r m' := by
  unfold zF24 at h
  unfold F24
  by_cases q1 : a0 = 43
  · rw [if_pos q1] at h
    rw [if_pos ((rp_eq ha0 (show rp 43 43 from rfl)).mpr q1)]
    exact zJ24_60_r n gM h
  · rw [if_neg q1] at h
    rw [if_neg (fun z => q1 ((rp_eq ha0 (show rp 43 43 from rfl)).mp z))]
    by_cases q2 : a0 = 42
    · rw [if_pos q2] at h
      rw [if_pos ((rp_eq ha0 (show rp 42 42 from rfl)).mpr q2)]
      exact zJ24_60_r n gM h
    · rw [if_neg q2] at h
      rw [if_neg (fun z => q2 ((rp_eq ha0 (show rp 42 42 from rfl)).mp z))]
      by_cases q3 : a0 = 44
      · rw [if_pos q3] at h
        rw [if_pos ((rp_eq ha0 (show rp 44 44 from rfl)).mpr q3)]
        exact zJ24_60_r n gM h
      · rw [if_neg q3] at h
        rw [if_neg (fun z => q3 ((rp_eq ha0 (show rp 44 44 from rfl)).mp z))]
        by_cases q4 : a0 = 59
        · rw [if_pos q4] at h
          rw [if_pos ((rp_eq ha0 (show rp 59 59 from rfl)).mpr q4)]
          exact zJ24_60_r n gM h
        · rw [if_neg q4] at h
          rw [if_neg (fun z => q4 ((rp_eq ha0 (show rp 59 59 from rfl)).mp z))]
          by_cases q5 : a0 = 61
          · rw [if_pos q5] at h
            rw [if_pos ((rp_eq ha0 (show rp 61 61 from rfl)).mpr q5)]
            exact zJ24_60_r n gM h
          · rw [if_neg q5] at h
            rw [if_neg (fun z => q5 ((rp_eq ha0 (show rp 61 61 from rfl)).mp z))]
            exact zJ24_30_r n ha0 gM h
/-- ArmExpanderModel.isLetter -/
def zF25 (n : Nat) (a0 : Int) (M : ZM) : Option (Int × ZM) :=
  match zF19 n a0 97 122 M with | some (v1, M2) => (if v1 = 0 ∨ v1 = 1 then (some (v1, M2)) else (none)) | none => none
set_option maxRecDepth 100000 in
set_option maxHeartbeats 4000000 in
theorem zF25_r (n : Nat) {A0_ : Int32} {a0 : Int} (ha0 : rp A0_ a0) {M_ : Mem} {M : ZM} (gM : rm M_ M) {r : Int} {m' : ZM} (h : zF25 n a0 M = some (r, m')) : sI (F25 n A0_ M_) r m' := by
  unfold zF25 at h
  unfold F25
  cases hc1 : zF19 n a0 97 122 M with
  | none => rw [hc1] at h; cases h
  | some w =>
    obtain ⟨v1, M2⟩ := w
    rw [hc1] at h
    dsimp only at h
    obtain ⟨V1, NM2, ehc1, hv1, gM2⟩ := zF19_r n ha0 (show rp 97 97 from rfl) (show rp 122 122 from rfl) gM hc1
    rw [ehc1]
    dsimp only
    by_cases q2 : v1 = 0 ∨ v1 = 1
    · rw [if_pos q2] at h
      rw [if_pos ((or_congr (rp_eq hv1 (show rp 0 0 from rfl)) (rp_eq hv1 (show rp 1 1 from rfl))).mpr q2)]
      obtain ⟨rfl, rfl⟩ := Prod.mk.inj (Option.some.inj h)
      exact ⟨_, _, rfl, hv1, gM2⟩
    · rw [if_neg q2] at h
      rw [if_neg (fun z => q2 ((or_congr (rp_eq hv1 (show rp 0 0 from rfl)) (rp_eq hv1 (show rp 1 1 from rfl))).mp z))]
      cases h
/-- ArmExpanderModel.isDigit -/
def zF26 (n : Nat) (a0 : Int) (M : ZM) : Option (Int × ZM) :=
  match zF19 n a0 48 57 M with | some (v1, M2) => (if v1 = 0 ∨ v1 = 1 then (some (v1, M2)) else (none)) | none => none
set_option maxRecDepth 100000 in
set_option maxHeartbeats 4000000 in
theorem zF26_r (n : Nat) {A0_ : Int32} {a0 : Int} (ha0 : rp A0_ a0) {M_ : Mem} {M : ZM} (gM : rm M_ M) {r : Int} {m' : ZM} (h : zF26 n a0 M = some (r, m')) : sI (F26 n A0_ M_) r m' := by
  unfold zF26 at h
  unfold F26
  cases hc1 : zF19 n a0 48 57 M with
  | none => rw [hc1] at h; cases h
  | some w =>
    obtain ⟨v1, M2⟩ := w
    rw [hc1] at h
    dsimp only at h
    obtain ⟨V1, NM2, ehc1, hv1, gM2⟩ := zF19_r n ha0 (show rp 48 48 from rfl) (show rp 57 57 from rfl) gM hc1
    rw [ehc1]
    dsimp only
    by_cases q2 : v1 = 0 ∨ v1 = 1
    · rw [if_pos q2] at h
      rw [if_pos ((or_congr (rp_eq hv1 (show rp 0 0 from rfl)) (rp_eq hv1 (show rp 1 1 from rfl))).mpr q2)]
      obtain ⟨rfl, rfl⟩ := Prod.mk.inj (Option.some.inj h)
      exact ⟨_, _, rfl, hv1, gM2⟩
    · rw [if_neg q2] at h
      rw [if_neg (fun z => q2 ((or_congr (rp_eq hv1 (show rp 0 0 from rfl)) (rp_eq hv1 (show rp 1 1 from rfl))).mp z))]
      cases h
def zJ27_35 (n : Nat) (s0 : Int) (s1 : Int) (M : ZM) : Option (Int × ZM) :=
  if rg (s1 + s0) then (some ((s1 + s0), M)) else none
set_option maxRecDepth 100000 in
set_option maxHeartbeats 4000000 in
theorem zJ27_35_r (n : Nat) {S0_ : Int32} {s0 : Int} (hs0 : rp S0_ s0) {S1_ : Int32} {s1 : Int} (hs1 : rp S1_ s1) {M_ : Mem} {M : ZM} (gM : rm M_ M) {r : Int} {m' : ZM} (h : zJ27_35 n s0 s1 M = some (r, m')) : sI (J27_35 n S0_ S1_ M_) r m' := by
  unfold zJ27_35 at h
  unfold J27_35
  by_cases w1 : rg (s1 + s0)
  · rw [if_pos w1] at h
    obtain ⟨rfl, rfl⟩ := Prod.mk.inj (Option.some.inj h)
    exact ⟨_, _, rfl, (rp_add (rp_iz hs1) (rp_iz hs0) w1), gM⟩
  · rw [if_neg w1] at h
    cases h
/-- ArmExpanderModel.letters -/
def zF27 (n : Nat) (a0 : Int) (a1 : Int) (a2 : Int) (M : ZM) : Option (Int × ZM) :=
  if a2 ≤ 0 then (if a1 ≤ 0 then (zJ27_35 n a0 1000 M) else (if rg ((a0 * 27) + a1) then (zJ27_35 n ((a0 * 27) + a1) 1000 M) else none)) else (if rg ((((a0 * 27) + a1) * 27) + a2) then (zJ27_35 n ((((a0 * 27) + a1) * 27) + a2) 1000 M) else none)
set_option maxRecDepth 100000 in
set_option maxHeartbeats 4000000 in
theorem zF27_r (n : Nat) {A0_ : Int32} {a0 : Int} (ha0 : rp A0_ a0) {A1_ : Int32} {a1 : Int} (ha1 : rp A1_ a1) {A2_ : Int32} {a2 : Int} (ha2 : rp A2_ a2) {M_ : Mem} {M : ZM} (gM : rm M_ M) {r : Int} {m' : ZM} (h : zF27 n a0 a1 a2 M = some (r, m')) : sI (F27 n A0_ A1_ A2_ M_) r m' := by
  unfold zF27 at h
  unfold F27
  by_cases q1 : a2 ≤ 0
  · rw [if_pos q1] at h
    rw [if_pos ((rp_le ha2 (show rp 0 0 from rfl)).mpr q1)]
    by_cases q2 : a1 ≤ 0
    · rw [if_pos q2] at h
      rw [if_pos ((rp_le ha1 (show rp 0 0 from rfl)).mpr q2)]
      exact zJ27_35_r n ha0 (show rp 1000 1000 from rfl) gM h
    · rw [if_neg q2] at h
      rw [if_neg (fun z => q2 ((rp_le ha1 (show rp 0 0 from rfl)).mp z))]
      by_cases w3 : rg ((a0 * 27) + a1)
      · rw [if_pos w3] at h
        exact zJ27_35_r n (rp_add (rw_mul (rp_iz ha0) (rp_iz (show rp 27 27 from rfl))) (rp_iz ha1) w3) (show rp 1000 1000 from rfl) gM h
      · rw [if_neg w3] at h
        cases h
  · rw [if_neg q1] at h
    rw [if_neg (fun z => q1 ((rp_le ha2 (show rp 0 0 from rfl)).mp z))]
    by_cases w4 : rg ((((a0 * 27) + a1) * 27) + a2)
    · rw [if_pos w4] at h
      exact zJ27_35_r n (rp_add (rw_mul (rw_add (rw_mul (rp_iz ha0) (rp_iz (show rp 27 27 from rfl))) (rp_iz ha1)) (rp_iz (show rp 27 27 from rfl))) (rp_iz ha2) w4) (show rp 1000 1000 from rfl) gM h
    · rw [if_neg w4] at h
      cases h
def zJ28_341 (n : Nat) (M : ZM) : Option (Unit × ZM) :=
  some ((), M)
set_option maxRecDepth 100000 in
set_option maxHeartbeats 4000000 in
theorem zJ28_341_r (n : Nat) {M_ : Mem} {M : ZM} (gM : rm M_ M) {r : Unit} {m' : ZM} (h : zJ28_341 n M = some (r, m')) : sU (J28_341 n M_) m' := by
  unfold zJ28_341 at h
  unfold J28_341
  obtain ⟨_, rfl⟩ := Prod.mk.inj (Option.some.inj h)
  exact ⟨_, rfl, gM⟩
def zJ28_338 (n : Nat) (s0 : Int) (M : ZM) : Option (Unit × ZM) :=
  zlet (z_i M 83 4 s0) (fun M29 => zJ28_341 n M29)
set_option maxRecDepth 100000 in
set_option maxHeartbeats 4000000 in
theorem zJ28_338_r (n : Nat) {S0_ : Int32} {s0 : Int} (hs0 : rp S0_ s0) {M_ : Mem} {M : ZM} (gM : rm M_ M) {r : Unit} {m' : ZM} (h : zJ28_338 n s0 M = some (r, m')) : sU (J28_338 n S0_ M_) m' := by
  unfold zJ28_338 at h
  unfold J28_338
  have gM29 : rm (m_i M_ 83 4 S0_) (z_i M 83 4 s0) := rm_i gM 83 4 hs0
  rw [mlet]
  rw [zlet] at h
  generalize z_i M 83 4 s0 = M29 at h gM29
  generalize m_i M_ 83 4 S0_ = NM29 at gM29 ⊢
  exact zJ28_341_r n gM29 h
def zJ28_287 (n : Nat) (x4 : Int) (s0 : Int) (M : ZM) : Option (Unit × ZM) :=
  zlet (z_i M 83 4 s0) (fun M31 => if rg (300 + x4) then (zlet (z_i M31 83 5 (300 + x4)) (fun M32 => zJ28_341 n M32)) else none)
set_option maxRecDepth 100000 in
set_option maxHeartbeats 4000000 in
theorem zJ28_287_r (n : Nat) {X4_ : Int32} {x4 : Int} (hx4 : rp X4_ x4) {S0_ : Int32} {s0 : Int} (hs0 : rp S0_ s0) {M_ : Mem} {M : ZM} (gM : rm M_ M) {r : Unit} {m' : ZM} (h : zJ28_287 n x4 s0 M = some (r, m')) : sU (J28_287 n X4_ S0_ M_) m' := by
  unfold zJ28_287 at h
  unfold J28_287
  have gM31 : rm (m_i M_ 83 4 S0_) (z_i M 83 4 s0) := rm_i gM 83 4 hs0
  rw [mlet]
  rw [zlet] at h
  generalize z_i M 83 4 s0 = M31 at h gM31
  generalize m_i M_ 83 4 S0_ = NM31 at gM31 ⊢
  by_cases w1 : rg (300 + x4)
  · rw [if_pos w1] at h
    have gM32 : rm (m_i NM31 83 5 ((300 : Int32) + X4_)) (z_i M31 83 5 (300 + x4)) := rm_i gM31 83 5 (rp_add (rp_iz (show rp 300 300 from rfl)) (rp_iz hx4) w1)
    rw [mlet]
    rw [zlet] at h
    generalize z_i M31 83 5 (300 + x4) = M32 at h gM32
    generalize m_i NM31 83 5 ((300 : Int32) + X4_) = NM32 at gM32 ⊢
    exact zJ28_341_r n gM32 h
  · rw [if_neg w1] at h
    cases h
def zJ28_282 (n : Nat) (x4 : Int) (M : ZM) : Option (Unit × ZM) :=
  zJ28_287 n x4 2 M
set_option maxRecDepth 100000 in
set_option maxHeartbeats 4000000 in
theorem zJ28_282_r (n : Nat) {X4_ : Int32} {x4 : Int} (hx4 : rp X4_ x4) {M_ : Mem} {M : ZM} (gM : rm M_ M) {r : Unit} {m' : ZM} (h : zJ28_282 n x4 M = some (r, m')) : sU (J28_282 n X4_ M_) m' := by
  unfold zJ28_282 at h
  unfold J28_282
  exact zJ28_287_r n hx4 (show rp 2 2 from rfl) gM h
def zJ28_286 (n : Nat) (x4 : Int) (M : ZM) : Option (Unit × ZM) :=
  zJ28_287 n x4 0 M
set_option maxRecDepth 100000 in
set_option maxHeartbeats 4000000 in
theorem zJ28_286_r (n : Nat) {X4_ : Int32} {x4 : Int} (hx4 : rp X4_ x4) {M_ : Mem} {M : ZM} (gM : rm M_ M) {r : Unit} {m' : ZM} (h : zJ28_286 n x4 M = some (r, m')) : sU (J28_286 n X4_ M_) m' := by
  unfold zJ28_286 at h
  unfold J28_286
  exact zJ28_287_r n hx4 (show rp 0 0 from rfl) gM h
def zJ28_256 (n : Nat) (x2 : Int) (x4 : Int) (x5 : Int) (M : ZM) : Option (Unit × ZM) :=
  match zF26 n x2 M with | some (v13, M14) => (if v13 = 0 then (match zF21 n x2 M14 with | some (v17, M18) => (if v17 = 0 then (match zF22 n x2 M18 with | some (v21, M22) => (if v21 = 0 then (match zF24 n x2 M22 with | some (v25, M26) => (if v25 = 0 then (zJ28_338 n 0 M26) else (zJ28_338 n 3 M26)) | none => none) else (zJ28_338 n 5 M22)) | none => none) else (zJ28_338 n 4 M18)) | none => none) else (if x5 = 1 then (zJ28_282 n x4 M14) else (if x5 = 2 then (if x2 = 48 then (zJ28_286 n x4 M14) else (zJ28_282 n x4 M14)) else (zJ28_286 n x4 M14)))) | none => none
set_option maxRecDepth 100000 in
set_option maxHeartbeats 4000000 in
theorem zJ28_256_r (n : Nat) {X2_ : Int32} {x2 : Int} (hx2 : rp X2_ x2) {X4_ : Int32} {x4 : Int} (hx4 : rp X4_ x4) {X5_ : Int32} {x5 : Int} (hx5 : rp X5_ x5) {M_ : Mem} {M : ZM} (gM : rm M_ M) {r : Unit} {m' : ZM} (h : zJ28_256 n x2 x4 x5 M = some (r, m')) : sU (J28_256 n X2_ X4_ X5_ M_) m' := by
  unfold zJ28_256 at h
  unfold J28_256
  cases hc1 : zF26 n x2 M with
  | none => rw [hc1] at h; cases h
  | some w =>
    obtain ⟨v13, M14⟩ := w
    rw [hc1] at h
    dsimp only at h
    obtain ⟨V13, NM14, ehc1, hv13, gM14⟩ := zF26_r n hx2 gM hc1
    rw [ehc1]
    dsimp only
    by_cases q2 : v13 = 0
    · rw [if_pos q2] at h
      rw [if_pos ((rp_eq hv13 (show rp 0 0 from rfl)).mpr q2)]
      cases hc3 : zF21 n x2 M14 with
      | none => rw [hc3] at h; cases h
      | some w =>
        obtain ⟨v17, M18⟩ := w
        rw [hc3] at h
        dsimp only at h
        obtain ⟨V17, NM18, ehc3, hv17, gM18⟩ := zF21_r n hx2 gM14 hc3
        rw [ehc3]
        dsimp only
        by_cases q4 : v17 = 0
        · rw [if_pos q4] at h
          rw [if_pos ((rp_eq hv17 (show rp 0 0 from rfl)).mpr q4)]
          cases hc5 : zF22 n x2 M18 with
          | none => rw [hc5] at h; cases h
          | some w =>
            obtain ⟨v21, M22⟩ := w
            rw [hc5] at h
            dsimp only at h
            obtain ⟨V21, NM22, ehc5, hv21, gM22⟩ := zF22_r n hx2 gM18 hc5
            rw [ehc5]
            dsimp only
            by_cases q6 : v21 = 0
            · rw [if_pos q6] at h
              rw [if_pos ((rp_eq hv21 (show rp 0 0 from rfl)).mpr q6)]
              cases hc7 : zF24 n x2 M22 with
              | none => rw [hc7] at h; cases h
              | some w =>
                obtain ⟨v25, M26⟩ := w
                rw [hc7] at h
                dsimp only at h
                obtain ⟨V25, NM26, ehc7, hv25, gM26⟩ := zF24_r n hx2 gM22 hc7
                rw [ehc7]
                dsimp only
                by_cases q8 : v25 = 0
                · rw [if_pos q8] at h
                  rw [if_pos ((rp_eq hv25 (show rp 0 0 from rfl)).mpr q8)]
                  exact zJ28_338_r n (show rp 0 0 from rfl) gM26 h
                · rw [if_neg q8] at h
                  rw [if_neg (fun z => q8 ((rp_eq hv25 (show rp 0 0 from rfl)).mp z))]
                  exact zJ28_338_r n (show rp 3 3 from rfl) gM26 h
            · rw [if_neg q6] at h
              rw [if_neg (fun z => q6 ((rp_eq hv21 (show rp 0 0 from rfl)).mp z))]
              exact zJ28_338_r n (show rp 5 5 from rfl) gM22 h
        · rw [if_neg q4] at h
          rw [if_neg (fun z => q4 ((rp_eq hv17 (show rp 0 0 from rfl)).mp z))]
          exact zJ28_338_r n (show rp 4 4 from rfl) gM18 h
    · rw [if_neg q2] at h
      rw [if_neg (fun z => q2 ((rp_eq hv13 (show rp 0 0 from rfl)).mp z))]
      by_cases q9 : x5 = 1
      · rw [if_pos q9] at h
        rw [if_pos ((rp_eq hx5 (show rp 1 1 from rfl)).mpr q9)]
        exact zJ28_282_r n hx4 gM14 h
      · rw [if_neg q9] at h
        rw [if_neg (fun z => q9 ((rp_eq hx5 (show rp 1 1 from rfl)).mp z))]
        by_cases q10 : x5 = 2
        · rw [if_pos q10] at h
          rw [if_pos ((rp_eq hx5 (show rp 2 2 from rfl)).mpr q10)]
          by_cases q11 : x2 = 48
          · rw [if_pos q11] at h
            rw [if_pos ((rp_eq hx2 (show rp 48 48 from rfl)).mpr q11)]
            exact zJ28_286_r n hx4 gM14 h
          · rw [if_neg q11] at h
            rw [if_neg (fun z => q11 ((rp_eq hx2 (show rp 48 48 from rfl)).mp z))]
            exact zJ28_282_r n hx4 gM14 h
        · rw [if_neg q10] at h
          rw [if_neg (fun z => q10 ((rp_eq hx5 (show rp 2 2 from rfl)).mp z))]
          exact zJ28_286_r n hx4 gM14 h
def zJ28_240 (n : Nat) (x4 : Int) (s0 : Int) (M : ZM) : Option (Unit × ZM) :=
  zlet (z_i M 83 4 s0) (fun M36 => if rg (1000 + x4) then (zlet (z_i M36 83 5 (1000 + x4)) (fun M37 => zJ28_341 n M37)) else none)
set_option maxRecDepth 100000 in
set_option maxHeartbeats 4000000 in
theorem zJ28_240_r (n : Nat) {X4_ : Int32} {x4 : Int} (hx4 : rp X4_ x4) {S0_ : Int32} {s0 : Int} (hs0 : rp S0_ s0) {M_ : Mem} {M : ZM} (gM : rm M_ M) {r : Unit} {m' : ZM} (h : zJ28_240 n x4 s0 M = some (r, m')) : sU (J28_240 n X4_ S0_ M_) m' := by
  unfold zJ28_240 at h
  unfold J28_240
  have gM36 : rm (m_i M_ 83 4 S0_) (z_i M 83 4 s0) := rm_i gM 83 4 hs0
  rw [mlet]
  rw [zlet] at h
  generalize z_i M 83 4 s0 = M36 at h gM36
  generalize m_i M_ 83 4 S0_ = NM36 at gM36 ⊢
  by_cases w1 : rg (1000 + x4)
  · rw [if_pos w1] at h
    have gM37 : rm (m_i NM36 83 5 ((1000 : Int32) + X4_)) (z_i M36 83 5 (1000 + x4)) := rm_i gM36 83 5 (rp_add (rp_iz (show rp 1000 1000 from rfl)) (rp_iz hx4) w1)
    rw [mlet]
    rw [zlet] at h
    generalize z_i M36 83 5 (1000 + x4) = M37 at h gM37
    generalize m_i NM36 83 5 ((1000 : Int32) + X4_) = NM37 at gM37 ⊢
    exact zJ28_341_r n gM37 h
  · rw [if_neg w1] at h
    cases h
def zJ28_228 (n : Nat) (x4 : Int) (x5 : Int) (M : ZM) : Option (Unit × ZM) :=
  if 3 < x5 then (zJ28_240 n x4 0 M) else (zJ28_240 n x4 1 M)
set_option maxRecDepth 100000 in
set_option maxHeartbeats 4000000 in
theorem zJ28_228_r (n : Nat) {X4_ : Int32} {x4 : Int} (hx4 : rp X4_ x4) {X5_ : Int32} {x5 : Int} (hx5 : rp X5_ x5) {M_ : Mem} {M : ZM} (gM : rm M_ M) {r : Unit} {m' : ZM} (h : zJ28_228 n x4 x5 M = some (r, m')) : sU (J28_228 n X4_ X5_ M_) m' := by
  unfold zJ28_228 at h
  unfold J28_228
  by_cases q1 : 3 < x5
  · rw [if_pos q1] at h
    rw [if_pos ((rp_lt (show rp 3 3 from rfl) hx5).mpr q1)]
    exact zJ28_240_r n hx4 (show rp 0 0 from rfl) gM h
  · rw [if_neg q1] at h
    rw [if_neg (fun z => q1 ((rp_lt (show rp 3 3 from rfl) hx5).mp z))]
    exact zJ28_240_r n hx4 (show rp 1 1 from rfl) gM h
def zJ28_213 (n : Nat) (x1 : Int) (M : ZM) : Option (Unit × ZM) :=
  zlet (z_i M 83 7 x1) (fun M39 => zJ28_341 n M39)
set_option maxRecDepth 100000 in
set_option maxHeartbeats 4000000 in
theorem zJ28_213_r (n : Nat) {X1_ : Int32} {x1 : Int} (hx1 : rp X1_ x1) {M_ : Mem} {M : ZM} (gM : rm M_ M) {r : Unit} {m' : ZM} (h : zJ28_213 n x1 M = some (r, m')) : sU (J28_213 n X1_ M_) m' := by
  unfold zJ28_213 at h
  unfold J28_213
  have gM39 : rm (m_i M_ 83 7 X1_) (z_i M 83 7 x1) := rm_i gM 83 7 hx1
  rw [mlet]
  rw [zlet] at h
  generalize z_i M 83 7 x1 = M39 at h gM39
  generalize m_i M_ 83 7 X1_ = NM39 at gM39 ⊢
  exact zJ28_341_r n gM39 h
def zJ28_191 (n : Nat) (x1 : Int) (x2 : Int) (x4 : Int) (x5 : Int) (s0 : Int) (M : ZM) : Option (Unit × ZM) :=
  zlet (z_i M 83 7 s0) (fun M6 => zlet (z_i M6 83 5 x2) (fun M7 => if x1 < (M7.1 83 3) then (match zF25 n x2 M7 with | some (v9, M10) => (if v9 = 0 then (zJ28_256 n x2 x4 x5 M10) else (zJ28_228 n x4 x5 M10)) | none => none) else (zlet (z_i M7 83 4 6) (fun M38 => zJ28_213 n x1 M38))))
set_option maxRecDepth 100000 in
set_option maxHeartbeats 4000000 in
theorem zJ28_191_r (n : Nat) {X1_ : Int32} {x1 : Int} (hx1 : rp X1_ x1) {X2_ : Int32} {x2 : Int} (hx2 : rp X2_ x2) {X4_ : Int32} {x4 : Int} (hx4 : rp X4_ x4) {X5_ : Int32} {x5 : Int} (hx5 : rp X5_ x5) {S0_ : Int32} {s0 : Int} (hs0 : rp S0_ s0) {M_ : Mem} {M : ZM} (gM : rm M_ M) {r : Unit} {m' : ZM} (h : zJ28_191 n x1 x2 x4 x5 s0 M = some (r, m')) : sU (J28_191 n X1_ X2_ X4_ X5_ S0_ M_) m' := by
  unfold zJ28_191 at h
  unfold J28_191
  have gM6 : rm (m_i M_ 83 7 S0_) (z_i M 83 7 s0) := rm_i gM 83 7 hs0
  rw [mlet]
  rw [zlet] at h
  generalize z_i M 83 7 s0 = M6 at h gM6
  generalize m_i M_ 83 7 S0_ = NM6 at gM6 ⊢
  have gM7 : rm (m_i NM6 83 5 X2_) (z_i M6 83 5 x2) := rm_i gM6 83 5 hx2
  rw [mlet]
  rw [zlet] at h
  generalize z_i M6 83 5 x2 = M7 at h gM7
  generalize m_i NM6 83 5 X2_ = NM7 at gM7 ⊢
  by_cases q1 : x1 < (M7.1 83 3)
  · rw [if_pos q1] at h
    rw [if_pos ((rp_lt hx1 (rm_rd gM7 83 3)).mpr q1)]
    cases hc2 : zF25 n x2 M7 with
    | none => rw [hc2] at h; cases h
    | some w =>
      obtain ⟨v9, M10⟩ := w
      rw [hc2] at h
      dsimp only at h
      obtain ⟨V9, NM10, ehc2, hv9, gM10⟩ := zF25_r n hx2 gM7 hc2
      rw [ehc2]
      dsimp only
      by_cases q3 : v9 = 0
      · rw [if_pos q3] at h
        rw [if_pos ((rp_eq hv9 (show rp 0 0 from rfl)).mpr q3)]
        exact zJ28_256_r n hx2 hx4 hx5 gM10 h
      · rw [if_neg q3] at h
        rw [if_neg (fun z => q3 ((rp_eq hv9 (show rp 0 0 from rfl)).mp z))]
        exact zJ28_228_r n hx4 hx5 gM10 h
  · rw [if_neg q1] at h
    rw [if_neg (fun z => q1 ((rp_lt hx1 (rm_rd gM7 83 3)).mp z))]
    have gM38 : rm (m_i NM7 83 4 (6 : Int32)) (z_i M7 83 4 6) := rm_i gM7 83 4 (show rp 6 6 from rfl)
    rw [mlet]
    rw [zlet] at h
    generalize z_i M7 83 4 6 = M38 at h gM38
    generalize m_i NM7 83 4 (6 : Int32) = NM38 at gM38 ⊢
    exact zJ28_213_r n hx1 gM38 h
def zJ28_173 (n : Nat) (x1 : Int) (x2 : Int) (x3 : Int) (x4 : Int) (M : ZM) : Option (Unit × ZM) :=
  if rg (x3 - x1) then (if (x3 - x1) ≤ 0 then (if rg (x1 + 1) then (zJ28_191 n x1 x2 x4 (x3 - x1) (x1 + 1) M) else none) else (zJ28_191 n x1 x2 x4 (x3 - x1) x3 M)) else none
set_option maxRecDepth 100000 in
set_option maxHeartbeats 4000000 in
theorem zJ28_173_r (n : Nat) {X1_ : Int32} {x1 : Int} (hx1 : rp X1_ x1) {X2_ : Int32} {x2 : Int} (hx2 : rp X2_ x2) {X3_ : Int32} {x3 : Int} (hx3 : rp X3_ x3) {X4_ : Int32} {x4 : Int} (hx4 : rp X4_ x4) {M_ : Mem} {M : ZM} (gM : rm M_ M) {r : Unit} {m' : ZM} (h : zJ28_173 n x1 x2 x3 x4 M = some (r, m')) : sU (J28_173 n X1_ X2_ X3_ X4_ M_) m' := by
  unfold zJ28_173 at h
  unfold J28_173
  by_cases w1 : rg (x3 - x1)
  · rw [if_pos w1] at h
    by_cases q2 : (x3 - x1) ≤ 0
    · rw [if_pos q2] at h
      rw [if_pos ((rp_le (rp_sub (rp_iz hx3) (rp_iz hx1) w1) (show rp 0 0 from rfl)).mpr q2)]
      by_cases w3 : rg (x1 + 1)
      · rw [if_pos w3] at h
        exact zJ28_191_r n hx1 hx2 hx4 (rp_sub (rp_iz hx3) (rp_iz hx1) w1) (rp_add (rp_iz hx1) (rp_iz (show rp 1 1 from rfl)) w3) gM h
      · rw [if_neg w3] at h
        cases h
    · rw [if_neg q2] at h
      rw [if_neg (fun z => q2 ((rp_le (rp_sub (rp_iz hx3) (rp_iz hx1) w1) (show rp 0 0 from rfl)).mp z))]
      exact zJ28_191_r n hx1 hx2 hx4 (rp_sub (rp_iz hx3) (rp_iz hx1) w1) hx3 gM h
  · rw [if_neg w1] at h
    cases h
def zJ28_164 (n : Nat) (zrec60 : Int → Int → Int → Int → ZM → Option (Unit × ZM)) (x1 : Int) (x2 : Int) (x3 : Int) (s0 : Int) (M : ZM) : Option (Unit × ZM) :=
  if rg (x3 + 1) then (zrec60 x1 x2 (x3 + 1) s0 M) else none
set_option maxRecDepth 100000 in
set_option maxHeartbeats 4000000 in
theorem zJ28_164_r (n : Nat) (rec60 : Int32 → Int32 → Int32 → Int32 → Mem → Option (Unit × Mem)) (zrec60 : Int → Int → Int → Int → ZM → Option (Unit × ZM)) (hrec60 : ∀ {Y1 : Int32} {y1 : Int} (_ : rp Y1 y1) {Y2 : Int32} {y2 : Int} (_ : rp Y2 y2) {Y3 : Int32} {y3 : Int} (_ : rp Y3 y3) {Y4 : Int32} {y4 : Int} (_ : rp Y4 y4) {M : Mem} {m : ZM} (_ : rm M m) {r : Unit} {m' : ZM} (_ : zrec60 y1 y2 y3 y4 m = some (r, m')), sU (rec60 Y1 Y2 Y3 Y4 M) m') {X1_ : Int32} {x1 : Int} (hx1 : rp X1_ x1) {X2_ : Int32} {x2 : Int} (hx2 : rp X2_ x2) {X3_ : Int32} {x3 : Int} (hx3 : rp X3_ x3) {S0_ : Int32} {s0 : Int} (hs0 : rp S0_ s0) {M_ : Mem} {M : ZM} (gM : rm M_ M) {r : Unit} {m' : ZM} (h : zJ28_164 n zrec60 x1 x2 x3 s0 M = some (r, m')) : sU (J28_164 n rec60 X1_ X2_ X3_ S0_ M_) m' := by
  unfold zJ28_164 at h
  unfold J28_164
  by_cases w1 : rg (x3 + 1)
  · rw [if_pos w1] at h
    exact hrec60 hx1 hx2 (rp_add (rp_iz hx3) (rp_iz (show rp 1 1 from rfl)) w1) hs0 gM h
  · rw [if_neg w1] at h
    cases h
def zJ28_149 (n : Nat) (zrec60 : Int → Int → Int → Int → ZM → Option (Unit × ZM)) (x1 : Int) (x2 : Int) (x3 : Int) (s0 : Int) (M : ZM) : Option (Unit × ZM) :=
  if rg (x3 - x1) then (if 4 ≤ (x3 - x1) then (zJ28_164 n zrec60 x1 x2 x3 0 M) else (zJ28_164 n zrec60 x1 x2 x3 s0 M)) else none
set_option maxRecDepth 100000 in
set_option maxHeartbeats 4000000 in
theorem zJ28_149_r (n : Nat) (rec60 : Int32 → Int32 → Int32 → Int32 → Mem → Option (Unit × Mem)) (zrec60 : Int → Int → Int → Int → ZM → Option (Unit × ZM)) (hrec60 : ∀ {Y1 : Int32} {y1 : Int} (_ : rp Y1 y1) {Y2 : Int32} {y2 : Int} (_ : rp Y2 y2) {Y3 : Int32} {y3 : Int} (_ : rp Y3 y3) {Y4 : Int32} {y4 : Int} (_ : rp Y4 y4) {M : Mem} {m : ZM} (_ : rm M m) {r : Unit} {m' : ZM} (_ : zrec60 y1 y2 y3 y4 m = some (r, m')), sU (rec60 Y1 Y2 Y3 Y4 M) m') {X1_ : Int32} {x1 : Int} (hx1 : rp X1_ x1) {X2_ : Int32} {x2 : Int} (hx2 : rp X2_ x2) {X3_ : Int32} {x3 : Int} (hx3 : rp X3_ x3) {S0_ : Int32} {s0 : Int} (hs0 : rp S0_ s0) {M_ : Mem} {M : ZM} (gM : rm M_ M) {r : Unit} {m' : ZM} (h : zJ28_149 n zrec60 x1 x2 x3 s0 M = some (r, m')) : sU (J28_149 n rec60 X1_ X2_ X3_ S0_ M_) m' := by
  unfold zJ28_149 at h
  unfold J28_149
  by_cases w1 : rg (x3 - x1)
  · rw [if_pos w1] at h
    by_cases q2 : 4 ≤ (x3 - x1)
    · rw [if_pos q2] at h
      rw [if_pos ((rp_le (show rp 4 4 from rfl) (rp_sub (rp_iz hx3) (rp_iz hx1) w1)).mpr q2)]
      exact zJ28_164_r n _ _ hrec60 hx1 hx2 hx3 (show rp 0 0 from rfl) gM h
    · rw [if_neg q2] at h
      rw [if_neg (fun z => q2 ((rp_le (show rp 4 4 from rfl) (rp_sub (rp_iz hx3) (rp_iz hx1) w1)).mp z))]
      exact zJ28_164_r n _ _ hrec60 hx1 hx2 hx3 hs0 gM h
  · rw [if_neg w1] at h
    cases h
def zJ28_109 (n : Nat) (zrec60 : Int → Int → Int → Int → ZM → Option (Unit × ZM)) (x1 : Int) (x2 : Int) (x3 : Int) (x4 : Int) (M : ZM) : Option (Unit × ZM) :=
  match zF25 n x2 M with | some (v53, M54) => (if v53 = 0 then (if x3 < 0 ∨ 120 ≤ x3 then (none) else (if rg (((x4 * 10) + (M54.1 85 (Int.toNat x3))) - 48) then (zJ28_149 n zrec60 x1 x2 x3 (((x4 * 10) + (M54.1 85 (Int.toNat x3))) - 48) M54) else none)) else (if x3 < 0 ∨ 120 ≤ x3 then (none) else (if rg (((x4 * 27) + (M54.1 85 (Int.toNat x3))) - 96) then (zJ28_149 n zrec60 x1 x2 x3 (((x4 * 27) + (M54.1 85 (Int.toNat x3))) - 96) M54) else none))) | none => none
set_option maxRecDepth 100000 in
set_option maxHeartbeats 4000000 in
theorem zJ28_109_r (n : Nat) (rec60 : Int32 → Int32 → Int32 → Int32 → Mem → Option (Unit × Mem)) (zrec60 : Int → Int → Int → Int → ZM → Option (Unit × ZM)) (hrec60 : ∀ {Y1 : Int32} {y1 : Int} (_ : rp Y1 y1) {Y2 : Int32} {y2 : Int} (_ : rp Y2 y2) {Y3 : Int32} {y3 : Int} (_ : rp Y3 y3) {Y4 : Int32} {y4 : Int} (_ : rp Y4 y4) {M : Mem} {m : ZM} (_ : rm M m) {r : Unit} {m' : ZM} (_ : zrec60 y1 y2 y3 y4 m = some (r, m')), sU (rec60 Y1 Y2 Y3 Y4 M) m') {X1_ : Int32} {x1 : Int} (hx1 : rp X1_ x1) {X2_ : Int32} {x2 : Int} (hx2 : rp X2_ x2) {X3_ : Int32} {x3 : Int} (hx3 : rp X3_ x3) {X4_ : Int32} {x4 : Int} (hx4 : rp X4_ x4) {M_ : Mem} {M : ZM} (gM : rm M_ M) {r : Unit} {m' : ZM} (h : zJ28_109 n zrec60 x1 x2 x3 x4 M = some (r, m')) : sU (J28_109 n rec60 X1_ X2_ X3_ X4_ M_) m' := by
  unfold zJ28_109 at h
  unfold J28_109
  cases hc1 : zF25 n x2 M with
  | none => rw [hc1] at h; cases h
  | some w =>
    obtain ⟨v53, M54⟩ := w
    rw [hc1] at h
    dsimp only at h
    obtain ⟨V53, NM54, ehc1, hv53, gM54⟩ := zF25_r n hx2 gM hc1
    rw [ehc1]
    dsimp only
    by_cases q2 : v53 = 0
    · rw [if_pos q2] at h
      rw [if_pos ((rp_eq hv53 (show rp 0 0 from rfl)).mpr q2)]
      by_cases q3 : x3 < 0 ∨ 120 ≤ x3
      · rw [if_pos q3] at h
        rw [if_pos ((rp_ob hx3 120).mpr q3)]
        cases h
      · rw [if_neg q3] at h
        rw [if_neg (fun z => q3 ((rp_ob hx3 120).mp z))]
        by_cases w4 : rg (((x4 * 10) + (M54.1 85 (Int.toNat x3))) - 48)
        · rw [if_pos w4] at h
          exact zJ28_149_r n _ _ hrec60 hx1 hx2 hx3 (rp_sub (rw_add (rw_mul (rp_iz hx4) (rp_iz (show rp 10 10 from rfl))) (rp_iz (rm_rdx gM54 85 hx3))) (rp_iz (show rp 48 48 from rfl)) w4) gM54 h
        · rw [if_neg w4] at h
          cases h
    · rw [if_neg q2] at h
      rw [if_neg (fun z => q2 ((rp_eq hv53 (show rp 0 0 from rfl)).mp z))]
      by_cases q5 : x3 < 0 ∨ 120 ≤ x3
      · rw [if_pos q5] at h
        rw [if_pos ((rp_ob hx3 120).mpr q5)]
        cases h
      · rw [if_neg q5] at h
        rw [if_neg (fun z => q5 ((rp_ob hx3 120).mp z))]
        by_cases w6 : rg (((x4 * 27) + (M54.1 85 (Int.toNat x3))) - 96)
        · rw [if_pos w6] at h
          exact zJ28_149_r n _ _ hrec60 hx1 hx2 hx3 (rp_sub (rw_add (rw_mul (rp_iz hx4) (rp_iz (show rp 27 27 from rfl))) (rp_iz (rm_rdx gM54 85 hx3))) (rp_iz (show rp 96 96 from rfl)) w6) gM54 h
        · rw [if_neg w6] at h
          cases h
def zJ28_97 (n : Nat) (zrec60 : Int → Int → Int → Int → ZM → Option (Unit × ZM)) (x1 : Int) (x2 : Int) (x3 : Int) (x4 : Int) (M : ZM) : Option (Unit × ZM) :=
  if x3 < 0 ∨ 120 ≤ x3 then (none) else (match zF26 n (M.1 85 (Int.toNat x3)) M with | some (v49, M50) => (if v49 = 0 then (zJ28_173 n x1 x2 x3 x4 M50) else (zJ28_109 n zrec60 x1 x2 x3 x4 M50)) | none => none)
set_option maxRecDepth 100000 in
set_option maxHeartbeats 4000000 in
theorem zJ28_97_r (n : Nat) (rec60 : Int32 → Int32 → Int32 → Int32 → Mem → Option (Unit × Mem)) (zrec60 : Int → Int → Int → Int → ZM → Option (Unit × ZM)) (hrec60 : ∀ {Y1 : Int32} {y1 : Int} (_ : rp Y1 y1) {Y2 : Int32} {y2 : Int} (_ : rp Y2 y2) {Y3 : Int32} {y3 : Int} (_ : rp Y3 y3) {Y4 : Int32} {y4 : Int} (_ : rp Y4 y4) {M : Mem} {m : ZM} (_ : rm M m) {r : Unit} {m' : ZM} (_ : zrec60 y1 y2 y3 y4 m = some (r, m')), sU (rec60 Y1 Y2 Y3 Y4 M) m') {X1_ : Int32} {x1 : Int} (hx1 : rp X1_ x1) {X2_ : Int32} {x2 : Int} (hx2 : rp X2_ x2) {X3_ : Int32} {x3 : Int} (hx3 : rp X3_ x3) {X4_ : Int32} {x4 : Int} (hx4 : rp X4_ x4) {M_ : Mem} {M : ZM} (gM : rm M_ M) {r : Unit} {m' : ZM} (h : zJ28_97 n zrec60 x1 x2 x3 x4 M = some (r, m')) : sU (J28_97 n rec60 X1_ X2_ X3_ X4_ M_) m' := by
  unfold zJ28_97 at h
  unfold J28_97
  by_cases q1 : x3 < 0 ∨ 120 ≤ x3
  · rw [if_pos q1] at h
    rw [if_pos ((rp_ob hx3 120).mpr q1)]
    cases h
  · rw [if_neg q1] at h
    rw [if_neg (fun z => q1 ((rp_ob hx3 120).mp z))]
    cases hc2 : zF26 n (M.1 85 (Int.toNat x3)) M with
    | none => rw [hc2] at h; cases h
    | some w =>
      obtain ⟨v49, M50⟩ := w
      rw [hc2] at h
      dsimp only at h
      obtain ⟨V49, NM50, ehc2, hv49, gM50⟩ := zF26_r n (rm_rdx gM 85 hx3) gM hc2
      rw [ehc2]
      dsimp only
      by_cases q3 : v49 = 0
      · rw [if_pos q3] at h
        rw [if_pos ((rp_eq hv49 (show rp 0 0 from rfl)).mpr q3)]
        exact zJ28_173_r n hx1 hx2 hx3 hx4 gM50 h
      · rw [if_neg q3] at h
        rw [if_neg (fun z => q3 ((rp_eq hv49 (show rp 0 0 from rfl)).mp z))]
        exact zJ28_109_r n _ _ hrec60 hx1 hx2 hx3 hx4 gM50 h
def zL28_60 (n : Nat) : Nat → Int → Int → Int → Int → ZM → Option (Unit × ZM)
  | 0, _, _, _, _, _ => none
  | k + 1, x1, x2, x3, x4, M => if (M.1 83 3) ≤ x3 then (zJ28_173 n x1 x2 x3 x4 M) else (match zF25 n x2 M with | some (v40, M41) => (if v40 = 0 then (match zF26 n x2 M41 with | some (v44, M45) => (if v44 = 0 then (zJ28_173 n x1 x2 x3 x4 M45) else (zJ28_97 n (zL28_60 n k) x1 x2 x3 x4 M45)) | none => none) else (if x3 < 0 ∨ 120 ≤ x3 then (none) else (match zF25 n (M41.1 85 (Int.toNat x3)) M41 with | some (v61, M62) => (if v61 = 0 then (zJ28_173 n x1 x2 x3 x4 M62) else (zJ28_109 n (zL28_60 n k) x1 x2 x3 x4 M62)) | none => none))) | none => none)
set_option maxRecDepth 100000 in
set_option maxHeartbeats 4000000 in
theorem zL28_60_r (n : Nat) : ∀ (k : Nat) {X1_ : Int32} {x1 : Int} (hx1 : rp X1_ x1) {X2_ : Int32} {x2 : Int} (hx2 : rp X2_ x2) {X3_ : Int32} {x3 : Int} (hx3 : rp X3_ x3) {X4_ : Int32} {x4 : Int} (hx4 : rp X4_ x4) {M_ : Mem} {M : ZM} (gM : rm M_ M) {r : Unit} {m' : ZM} (_ : zL28_60 n k x1 x2 x3 x4 M = some (r, m')), sU (L28_60 n k X1_ X2_ X3_ X4_ M_) m' := by
  intro k
  induction k with
  | zero => intro X1_ x1 hx1 X2_ x2 hx2 X3_ x3 hx3 X4_ x4 hx4 M_ M gM r m' h; cases h
  | succ k ih =>
    intro X1_ x1 hx1 X2_ x2 hx2 X3_ x3 hx3 X4_ x4 hx4 M_ M gM r m' h
    rw [zL28_60] at h
    rw [L28_60]
    by_cases q1 : (M.1 83 3) ≤ x3
    · rw [if_pos q1] at h
      rw [if_pos ((rp_le (rm_rd gM 83 3) hx3).mpr q1)]
      exact zJ28_173_r n hx1 hx2 hx3 hx4 gM h
    · rw [if_neg q1] at h
      rw [if_neg (fun z => q1 ((rp_le (rm_rd gM 83 3) hx3).mp z))]
      cases hc2 : zF25 n x2 M with
      | none => rw [hc2] at h; cases h
      | some w =>
        obtain ⟨v40, M41⟩ := w
        rw [hc2] at h
        dsimp only at h
        obtain ⟨V40, NM41, ehc2, hv40, gM41⟩ := zF25_r n hx2 gM hc2
        rw [ehc2]
        dsimp only
        by_cases q3 : v40 = 0
        · rw [if_pos q3] at h
          rw [if_pos ((rp_eq hv40 (show rp 0 0 from rfl)).mpr q3)]
          cases hc4 : zF26 n x2 M41 with
          | none => rw [hc4] at h; cases h
          | some w =>
            obtain ⟨v44, M45⟩ := w
            rw [hc4] at h
            dsimp only at h
            obtain ⟨V44, NM45, ehc4, hv44, gM45⟩ := zF26_r n hx2 gM41 hc4
            rw [ehc4]
            dsimp only
            by_cases q5 : v44 = 0
            · rw [if_pos q5] at h
              rw [if_pos ((rp_eq hv44 (show rp 0 0 from rfl)).mpr q5)]
              exact zJ28_173_r n hx1 hx2 hx3 hx4 gM45 h
            · rw [if_neg q5] at h
              rw [if_neg (fun z => q5 ((rp_eq hv44 (show rp 0 0 from rfl)).mp z))]
              exact zJ28_97_r n _ _ ih hx1 hx2 hx3 hx4 gM45 h
        · rw [if_neg q3] at h
          rw [if_neg (fun z => q3 ((rp_eq hv40 (show rp 0 0 from rfl)).mp z))]
          by_cases q6 : x3 < 0 ∨ 120 ≤ x3
          · rw [if_pos q6] at h
            rw [if_pos ((rp_ob hx3 120).mpr q6)]
            cases h
          · rw [if_neg q6] at h
            rw [if_neg (fun z => q6 ((rp_ob hx3 120).mp z))]
            cases hc7 : zF25 n (M41.1 85 (Int.toNat x3)) M41 with
            | none => rw [hc7] at h; cases h
            | some w =>
              obtain ⟨v61, M62⟩ := w
              rw [hc7] at h
              dsimp only at h
              obtain ⟨V61, NM62, ehc7, hv61, gM62⟩ := zF25_r n (rm_rdx gM41 85 hx3) gM41 hc7
              rw [ehc7]
              dsimp only
              by_cases q8 : v61 = 0
              · rw [if_pos q8] at h
                rw [if_pos ((rp_eq hv61 (show rp 0 0 from rfl)).mpr q8)]
                exact zJ28_173_r n hx1 hx2 hx3 hx4 gM62 h
              · rw [if_neg q8] at h
                rw [if_neg (fun z => q8 ((rp_eq hv61 (show rp 0 0 from rfl)).mp z))]
                exact zJ28_109_r n _ _ ih hx1 hx2 hx3 hx4 gM62 h
def zJ28_54 (n : Nat) (x1 : Int) (s0 : Int) (M : ZM) : Option (Unit × ZM) :=
  zL28_60 n n x1 s0 x1 0 M
set_option maxRecDepth 100000 in
set_option maxHeartbeats 4000000 in
theorem zJ28_54_r (n : Nat) {X1_ : Int32} {x1 : Int} (hx1 : rp X1_ x1) {S0_ : Int32} {s0 : Int} (hs0 : rp S0_ s0) {M_ : Mem} {M : ZM} (gM : rm M_ M) {r : Unit} {m' : ZM} (h : zJ28_54 n x1 s0 M = some (r, m')) : sU (J28_54 n X1_ S0_ M_) m' := by
  unfold zJ28_54 at h
  unfold J28_54
  exact zL28_60_r n n hx1 hs0 hx1 (show rp 0 0 from rfl) gM h
def zJ28_31 (n : Nat) (x1 : Int) (M : ZM) : Option (Unit × ZM) :=
  zlet (z_i M 83 6 x1) (fun M2 => if (M2.1 83 3) ≤ x1 then (zJ28_54 n x1 0 M2) else (if x1 < 0 ∨ 120 ≤ x1 then (none) else (zJ28_54 n x1 (M2.1 85 (Int.toNat x1)) M2)))
set_option maxRecDepth 100000 in
set_option maxHeartbeats 4000000 in
theorem zJ28_31_r (n : Nat) {X1_ : Int32} {x1 : Int} (hx1 : rp X1_ x1) {M_ : Mem} {M : ZM} (gM : rm M_ M) {r : Unit} {m' : ZM} (h : zJ28_31 n x1 M = some (r, m')) : sU (J28_31 n X1_ M_) m' := by
  unfold zJ28_31 at h
  unfold J28_31
  have gM2 : rm (m_i M_ 83 6 X1_) (z_i M 83 6 x1) := rm_i gM 83 6 hx1
  rw [mlet]
  rw [zlet] at h
  generalize z_i M 83 6 x1 = M2 at h gM2
  generalize m_i M_ 83 6 X1_ = NM2 at gM2 ⊢
  by_cases q1 : (M2.1 83 3) ≤ x1
  · rw [if_pos q1] at h
    rw [if_pos ((rp_le (rm_rd gM2 83 3) hx1).mpr q1)]
    exact zJ28_54_r n hx1 (show rp 0 0 from rfl) gM2 h
  · rw [if_neg q1] at h
    rw [if_neg (fun z => q1 ((rp_le (rm_rd gM2 83 3) hx1).mp z))]
    by_cases q2 : x1 < 0 ∨ 120 ≤ x1
    · rw [if_pos q2] at h
      rw [if_pos ((rp_ob hx1 120).mpr q2)]
      cases h
    · rw [if_neg q2] at h
      rw [if_neg (fun z => q2 ((rp_ob hx1 120).mp z))]
      exact zJ28_54_r n hx1 (rm_rdx gM2 85 hx1) gM2 h
def zL28_5 (n : Nat) : Nat → Int → ZM → Option (Unit × ZM)
  | 0, _, _ => none
  | k + 1, x1, M => if (M.1 83 3) ≤ x1 then (zJ28_31 n x1 M) else (if x1 < 0 ∨ 120 ≤ x1 then (none) else (if (M.1 85 (Int.toNat x1)) = 32 then (if rg (x1 + 1) then ((zL28_5 n k) (x1 + 1) M) else none) else (zJ28_31 n x1 M)))
set_option maxRecDepth 100000 in
set_option maxHeartbeats 4000000 in
theorem zL28_5_r (n : Nat) : ∀ (k : Nat) {X1_ : Int32} {x1 : Int} (hx1 : rp X1_ x1) {M_ : Mem} {M : ZM} (gM : rm M_ M) {r : Unit} {m' : ZM} (_ : zL28_5 n k x1 M = some (r, m')), sU (L28_5 n k X1_ M_) m' := by
  intro k
  induction k with
  | zero => intro X1_ x1 hx1 M_ M gM r m' h; cases h
  | succ k ih =>
    intro X1_ x1 hx1 M_ M gM r m' h
    rw [zL28_5] at h
    rw [L28_5]
    by_cases q1 : (M.1 83 3) ≤ x1
    · rw [if_pos q1] at h
      rw [if_pos ((rp_le (rm_rd gM 83 3) hx1).mpr q1)]
      exact zJ28_31_r n hx1 gM h
    · rw [if_neg q1] at h
      rw [if_neg (fun z => q1 ((rp_le (rm_rd gM 83 3) hx1).mp z))]
      by_cases q2 : x1 < 0 ∨ 120 ≤ x1
      · rw [if_pos q2] at h
        rw [if_pos ((rp_ob hx1 120).mpr q2)]
        cases h
      · rw [if_neg q2] at h
        rw [if_neg (fun z => q2 ((rp_ob hx1 120).mp z))]
        by_cases q3 : (M.1 85 (Int.toNat x1)) = 32
        · rw [if_pos q3] at h
          rw [if_pos ((rp_eq (rm_rdx gM 85 hx1) (show rp 32 32 from rfl)).mpr q3)]
          by_cases w4 : rg (x1 + 1)
          · rw [if_pos w4] at h
            exact ih (rp_add (rp_iz hx1) (rp_iz (show rp 1 1 from rfl)) w4) gM h
          · rw [if_neg w4] at h
            cases h
        · rw [if_neg q3] at h
          rw [if_neg (fun z => q3 ((rp_eq (rm_rdx gM 85 hx1) (show rp 32 32 from rfl)).mp z))]
          exact zJ28_31_r n hx1 gM h
/-- ArmExpanderModel.next -/
def zF28 (n : Nat) (M : ZM) : Option (Unit × ZM) :=
  zL28_5 n n (M.1 83 7) M
set_option maxRecDepth 100000 in
set_option maxHeartbeats 4000000 in
theorem zF28_r (n : Nat) {M_ : Mem} {M : ZM} (gM : rm M_ M) {r : Unit} {m' : ZM} (h : zF28 n M = some (r, m')) : sU (F28 n M_) m' := by
  unfold zF28 at h
  unfold F28
  exact zL28_5_r n n (rm_rd gM 83 7) gM h
/-- ArmExpanderModel.wrong -/
def zF29 (n : Nat) (M : ZM) : Option (Int × ZM) :=
  zlet (z_i M 83 8 (M.1 83 6)) (fun M1 => some (0, M1))
set_option maxRecDepth 100000 in
set_option maxHeartbeats 4000000 in
theorem zF29_r (n : Nat) {M_ : Mem} {M : ZM} (gM : rm M_ M) {r : Int} {m' : ZM} (h : zF29 n M = some (r, m')) : sI (F29 n M_) r m' := by
  unfold zF29 at h
  unfold F29
  have gM1 : rm (m_i M_ 83 8 (M_.1 83 6)) (z_i M 83 8 (M.1 83 6)) := rm_i gM 83 8 (rm_rd gM 83 6)
  rw [mlet]
  rw [zlet] at h
  generalize z_i M 83 8 (M.1 83 6) = M1 at h gM1
  generalize m_i M_ 83 8 (M_.1 83 6) = NM1 at gM1 ⊢
  obtain ⟨rfl, rfl⟩ := Prod.mk.inj (Option.some.inj h)
  exact ⟨_, _, rfl, (show rp 0 0 from rfl), gM1⟩
/-- ArmExpanderModel.pass -/
def zF30 (n : Nat) (a0 : Int) (M : ZM) : Option (Int × ZM) :=
  if a0 = 0 then (match zF29 n M with | some (v2, M3) => (if v2 = 0 ∨ v2 = 1 then (some (v2, M3)) else (none)) | none => none) else (match zF28 n M with | some (v6, M7) => (some (1, M7)) | none => none)
set_option maxRecDepth 100000 in
set_option maxHeartbeats 4000000 in
theorem zF30_r (n : Nat) {A0_ : Int32} {a0 : Int} (ha0 : rp A0_ a0) {M_ : Mem} {M : ZM} (gM : rm M_ M) {r : Int} {m' : ZM} (h : zF30 n a0 M = some (r, m')) : sI (F30 n A0_ M_) r m' := by
  unfold zF30 at h
  unfold F30
  by_cases q1 : a0 = 0
  · rw [if_pos q1] at h
    rw [if_pos ((rp_eq ha0 (show rp 0 0 from rfl)).mpr q1)]
    cases hc2 : zF29 n M with
    | none => rw [hc2] at h; cases h
    | some w =>
      obtain ⟨v2, M3⟩ := w
      rw [hc2] at h
      dsimp only at h
      obtain ⟨V2, NM3, ehc2, hv2, gM3⟩ := zF29_r n gM hc2
      rw [ehc2]
      dsimp only
      by_cases q3 : v2 = 0 ∨ v2 = 1
      · rw [if_pos q3] at h
        rw [if_pos ((or_congr (rp_eq hv2 (show rp 0 0 from rfl)) (rp_eq hv2 (show rp 1 1 from rfl))).mpr q3)]
        obtain ⟨rfl, rfl⟩ := Prod.mk.inj (Option.some.inj h)
        exact ⟨_, _, rfl, hv2, gM3⟩
      · rw [if_neg q3] at h
        rw [if_neg (fun z => q3 ((or_congr (rp_eq hv2 (show rp 0 0 from rfl)) (rp_eq hv2 (show rp 1 1 from rfl))).mp z))]
        cases h
  · rw [if_neg q1] at h
    rw [if_neg (fun z => q1 ((rp_eq ha0 (show rp 0 0 from rfl)).mp z))]
    cases hc4 : zF28 n M with
    | none => rw [hc4] at h; cases h
    | some w =>
      obtain ⟨v6, M7⟩ := w
      rw [hc4] at h
      dsimp only at h
      obtain ⟨NM7, ehc4, gM7⟩ := zF28_r n gM hc4
      rw [ehc4]
      dsimp only
      obtain ⟨rfl, rfl⟩ := Prod.mk.inj (Option.some.inj h)
      exact ⟨_, _, rfl, (show rp 1 1 from rfl), gM7⟩
def zJ31_29 (n : Nat) (s0 : Int) (M : ZM) : Option (Int × ZM) :=
  if s0 = 0 ∨ s0 = 1 then (some (s0, M)) else (none)
set_option maxRecDepth 100000 in
set_option maxHeartbeats 4000000 in
theorem zJ31_29_r (n : Nat) {S0_ : Int32} {s0 : Int} (hs0 : rp S0_ s0) {M_ : Mem} {M : ZM} (gM : rm M_ M) {r : Int} {m' : ZM} (h : zJ31_29 n s0 M = some (r, m')) : sI (J31_29 n S0_ M_) r m' := by
  unfold zJ31_29 at h
  unfold J31_29
  by_cases q1 : s0 = 0 ∨ s0 = 1
  · rw [if_pos q1] at h
    rw [if_pos ((or_congr (rp_eq hs0 (show rp 0 0 from rfl)) (rp_eq hs0 (show rp 1 1 from rfl))).mpr q1)]
    obtain ⟨rfl, rfl⟩ := Prod.mk.inj (Option.some.inj h)
    exact ⟨_, _, rfl, hs0, gM⟩
  · rw [if_neg q1] at h
    rw [if_neg (fun z => q1 ((or_congr (rp_eq hs0 (show rp 0 0 from rfl)) (rp_eq hs0 (show rp 1 1 from rfl))).mp z))]
    cases h
def zJ31_28 (n : Nat) (M : ZM) : Option (Int × ZM) :=
  zJ31_29 n 0 M
set_option maxRecDepth 100000 in
set_option maxHeartbeats 4000000 in
theorem zJ31_28_r (n : Nat) {M_ : Mem} {M : ZM} (gM : rm M_ M) {r : Int} {m' : ZM} (h : zJ31_28 n M = some (r, m')) : sI (J31_28 n M_) r m' := by
  unfold zJ31_28 at h
  unfold J31_28
  exact zJ31_29_r n (show rp 0 0 from rfl) gM h
def zJ31_24 (n : Nat) (M : ZM) : Option (Int × ZM) :=
  zJ31_29 n 1 M
set_option maxRecDepth 100000 in
set_option maxHeartbeats 4000000 in
theorem zJ31_24_r (n : Nat) {M_ : Mem} {M : ZM} (gM : rm M_ M) {r : Int} {m' : ZM} (h : zJ31_24 n M = some (r, m')) : sI (J31_24 n M_) r m' := by
  unfold zJ31_24 at h
  unfold J31_24
  exact zJ31_29_r n (show rp 1 1 from rfl) gM h
/-- ArmExpanderModel.isCode -/
def zF31 (n : Nat) (a0 : Int) (M : ZM) : Option (Int × ZM) :=
  if (M.1 83 4) < 3 then (zJ31_28 n M) else (if 5 < (M.1 83 4) then (zJ31_28 n M) else (if (M.1 83 5) = a0 then (zJ31_24 n M) else (zJ31_28 n M)))
set_option maxRecDepth 100000 in
set_option maxHeartbeats 4000000 in
theorem zF31_r (n : Nat) {A0_ : Int32} {a0 : Int} (ha0 : rp A0_ a0) {M_ : Mem} {M : ZM} (gM : rm M_ M) {r : Int} {m' : ZM} (h : zF31 n a0 M = some (r, m')) : sI (F31 n A0_ M_) r m' := by
  unfold zF31 at h
  unfold F31
  by_cases q1 : (M.1 83 4) < 3
  · rw [if_pos q1] at h
    rw [if_pos ((rp_lt (rm_rd gM 83 4) (show rp 3 3 from rfl)).mpr q1)]
    exact zJ31_28_r n gM h
  · rw [if_neg q1] at h
    rw [if_neg (fun z => q1 ((rp_lt (rm_rd gM 83 4) (show rp 3 3 from rfl)).mp z))]
    by_cases q2 : 5 < (M.1 83 4)
    · rw [if_pos q2] at h
      rw [if_pos ((rp_lt (show rp 5 5 from rfl) (rm_rd gM 83 4)).mpr q2)]
      exact zJ31_28_r n gM h
    · rw [if_neg q2] at h
      rw [if_neg (fun z => q2 ((rp_lt (show rp 5 5 from rfl) (rm_rd gM 83 4)).mp z))]
      by_cases q3 : (M.1 83 5) = a0
      · rw [if_pos q3] at h
        rw [if_pos ((rp_eq (rm_rd gM 83 5) ha0).mpr q3)]
        exact zJ31_24_r n gM h
      · rw [if_neg q3] at h
        rw [if_neg (fun z => q3 ((rp_eq (rm_rd gM 83 5) ha0).mp z))]
        exact zJ31_28_r n gM h
def zJ32_46 (n : Nat) (M : ZM) : Option (Unit × ZM) :=
  zlet (z_i M 83 7 0) (fun M5 => match zF28 n M5 with | some (v6, M7) => (some ((), M7)) | none => none)
set_option maxRecDepth 100000 in
set_option maxHeartbeats 4000000 in
theorem zJ32_46_r (n : Nat) {M_ : Mem} {M : ZM} (gM : rm M_ M) {r : Unit} {m' : ZM} (h : zJ32_46 n M = some (r, m')) : sU (J32_46 n M_) m' := by
  unfold zJ32_46 at h
  unfold J32_46
  have gM5 : rm (m_i M_ 83 7 (0 : Int32)) (z_i M 83 7 0) := rm_i gM 83 7 (show rp 0 0 from rfl)
  rw [mlet]
  rw [zlet] at h
  generalize z_i M 83 7 0 = M5 at h gM5
  generalize m_i M_ 83 7 (0 : Int32) = NM5 at gM5 ⊢
  cases hc1 : zF28 n M5 with
  | none => rw [hc1] at h; cases h
  | some w =>
    obtain ⟨v6, M7⟩ := w
    rw [hc1] at h
    dsimp only at h
    obtain ⟨NM7, ehc1, gM7⟩ := zF28_r n gM5 hc1
    rw [ehc1]
    dsimp only
    obtain ⟨_, rfl⟩ := Prod.mk.inj (Option.some.inj h)
    exact ⟨_, rfl, gM7⟩
def zJ32_30 (n : Nat) (zrec10 : Int → ZM → Option (Unit × ZM)) (x1 : Int) (M : ZM) : Option (Unit × ZM) :=
  if rg (x1 + 1) then (zrec10 (x1 + 1) M) else none
set_option maxRecDepth 100000 in
set_option maxHeartbeats 4000000 in
theorem zJ32_30_r (n : Nat) (rec10 : Int32 → Mem → Option (Unit × Mem)) (zrec10 : Int → ZM → Option (Unit × ZM)) (hrec10 : ∀ {Y1 : Int32} {y1 : Int} (_ : rp Y1 y1) {M : Mem} {m : ZM} (_ : rm M m) {r : Unit} {m' : ZM} (_ : zrec10 y1 m = some (r, m')), sU (rec10 Y1 M) m') {X1_ : Int32} {x1 : Int} (hx1 : rp X1_ x1) {M_ : Mem} {M : ZM} (gM : rm M_ M) {r : Unit} {m' : ZM} (h : zJ32_30 n zrec10 x1 M = some (r, m')) : sU (J32_30 n rec10 X1_ M_) m' := by
  unfold zJ32_30 at h
  unfold J32_30
  by_cases w1 : rg (x1 + 1)
  · rw [if_pos w1] at h
    exact hrec10 (rp_add (rp_iz hx1) (rp_iz (show rp 1 1 from rfl)) w1) gM h
  · rw [if_neg w1] at h
    cases h
def zL32_10 (n : Nat) : Nat → Int → ZM → Option (Unit × ZM)
  | 0, _, _ => none
  | k + 1, x1, M => if (M.1 83 1) ≤ x1 then (zlet (z_i M 83 1 0) (fun M3 => zlet (z_i M3 83 8 (-1)) (fun M4 => zJ32_46 n M4))) else (if x1 < 0 ∨ 120 ≤ x1 then (none) else (zlet (z_i M 85 (Int.toNat x1) (M.1 84 (Int.toNat x1))) (fun M11 => zJ32_30 n (zL32_10 n k) x1 M11)))
set_option maxRecDepth 100000 in
set_option maxHeartbeats 4000000 in
theorem zL32_10_r (n : Nat) : ∀ (k : Nat) {X1_ : Int32} {x1 : Int} (hx1 : rp X1_ x1) {M_ : Mem} {M : ZM} (gM : rm M_ M) {r : Unit} {m' : ZM} (_ : zL32_10 n k x1 M = some (r, m')), sU (L32_10 n k X1_ M_) m' := by
  intro k
  induction k with
  | zero => intro X1_ x1 hx1 M_ M gM r m' h; cases h
  | succ k ih =>
    intro X1_ x1 hx1 M_ M gM r m' h
    rw [zL32_10] at h
    rw [L32_10]
    by_cases q1 : (M.1 83 1) ≤ x1
    · rw [if_pos q1] at h
      rw [if_pos ((rp_le (rm_rd gM 83 1) hx1).mpr q1)]
      have gM3 : rm (m_i M_ 83 1 (0 : Int32)) (z_i M 83 1 0) := rm_i gM 83 1 (show rp 0 0 from rfl)
      rw [mlet]
      rw [zlet] at h
      generalize z_i M 83 1 0 = M3 at h gM3
      generalize m_i M_ 83 1 (0 : Int32) = NM3 at gM3 ⊢
      have gM4 : rm (m_i NM3 83 8 (-1 : Int32)) (z_i M3 83 8 (-1)) := rm_i gM3 83 8 (show rp (-1) (-1) from rfl)
      rw [mlet]
      rw [zlet] at h
      generalize z_i M3 83 8 (-1) = M4 at h gM4
      generalize m_i NM3 83 8 (-1 : Int32) = NM4 at gM4 ⊢
      exact zJ32_46_r n gM4 h
    · rw [if_neg q1] at h
      rw [if_neg (fun z => q1 ((rp_le (rm_rd gM 83 1) hx1).mp z))]
      by_cases q2 : x1 < 0 ∨ 120 ≤ x1
      · rw [if_pos q2] at h
        rw [if_pos ((rp_ob hx1 120).mpr q2)]
        cases h
      · rw [if_neg q2] at h
        rw [if_neg (fun z => q2 ((rp_ob hx1 120).mp z))]
        rw [if_neg (fun z => q2 ((rp_ob hx1 120).mp z))]
        have gM11 : rm (m_i M_ 85 (X1_).toNatClampNeg (M_.1 84 (X1_).toNatClampNeg)) (z_i M 85 (Int.toNat x1) (M.1 84 (Int.toNat x1))) := rm_ix gM 85 hx1 (rm_rdx gM 84 hx1)
        rw [mlet]
        rw [zlet] at h
        generalize z_i M 85 (Int.toNat x1) (M.1 84 (Int.toNat x1)) = M11 at h gM11
        generalize m_i M_ 85 (X1_).toNatClampNeg (M_.1 84 (X1_).toNatClampNeg) = NM11 at gM11 ⊢
        exact zJ32_30_r n _ _ ih hx1 gM11 h
/-- ArmExpanderModel.readTyped -/
def zF32 (n : Nat) (M : ZM) : Option (Unit × ZM) :=
  zlet (z_i M 83 3 (M.1 83 1)) (fun M1 => zL32_10 n n 0 M1)
set_option maxRecDepth 100000 in
set_option maxHeartbeats 4000000 in
theorem zF32_r (n : Nat) {M_ : Mem} {M : ZM} (gM : rm M_ M) {r : Unit} {m' : ZM} (h : zF32 n M = some (r, m')) : sU (F32 n M_) m' := by
  unfold zF32 at h
  unfold F32
  have gM1 : rm (m_i M_ 83 3 (M_.1 83 1)) (z_i M 83 3 (M.1 83 1)) := rm_i gM 83 3 (rm_rd gM 83 1)
  rw [mlet]
  rw [zlet] at h
  generalize z_i M 83 3 (M.1 83 1) = M1 at h gM1
  generalize m_i M_ 83 3 (M_.1 83 1) = NM1 at gM1 ⊢
  exact zL32_10_r n n (show rp 0 0 from rfl) gM1 h
def zJ35_63 (n : Nat) (M : ZM) : Option (Unit × ZM) :=
  if (M.1 83 32) < 0 ∨ 128 ≤ (M.1 83 32) then (none) else (zlet (z_i M 96 (Int.toNat (M.1 83 32)) (M.1 83 31)) (fun M14 => if rg ((M14.1 83 32) + 1) then (zlet (z_i M14 83 32 ((M14.1 83 32) + 1)) (fun M15 => some ((), M15))) else none))
set_option maxRecDepth 100000 in
set_option maxHeartbeats 4000000 in
theorem zJ35_63_r (n : Nat) {M_ : Mem} {M : ZM} (gM : rm M_ M) {r : Unit} {m' : ZM} (h : zJ35_63 n M = some (r, m')) : sU (J35_63 n M_) m' := by
  unfold zJ35_63 at h
  unfold J35_63
  by_cases q1 : (M.1 83 32) < 0 ∨ 128 ≤ (M.1 83 32)
  · rw [if_pos q1] at h
    rw [if_pos ((rp_ob (rm_rd gM 83 32) 128).mpr q1)]
    cases h
  · rw [if_neg q1] at h
    rw [if_neg (fun z => q1 ((rp_ob (rm_rd gM 83 32) 128).mp z))]
    have gM14 : rm (m_i M_ 96 ((M_.1 83 32)).toNatClampNeg (M_.1 83 31)) (z_i M 96 (Int.toNat (M.1 83 32)) (M.1 83 31)) := rm_ix gM 96 (rm_rd gM 83 32) (rm_rd gM 83 31)
    rw [mlet]
    rw [zlet] at h
    generalize z_i M 96 (Int.toNat (M.1 83 32)) (M.1 83 31) = M14 at h gM14
    generalize m_i M_ 96 ((M_.1 83 32)).toNatClampNeg (M_.1 83 31) = NM14 at gM14 ⊢
    by_cases w2 : rg ((M14.1 83 32) + 1)
    · rw [if_pos w2] at h
      have gM15 : rm (m_i NM14 83 32 ((NM14.1 83 32) + (1 : Int32))) (z_i M14 83 32 ((M14.1 83 32) + 1)) := rm_i gM14 83 32 (rp_add (rp_iz (rm_rd gM14 83 32)) (rp_iz (show rp 1 1 from rfl)) w2)
      rw [mlet]
      rw [zlet] at h
      generalize z_i M14 83 32 ((M14.1 83 32) + 1) = M15 at h gM15
      generalize m_i NM14 83 32 ((NM14.1 83 32) + (1 : Int32)) = NM15 at gM15 ⊢
      obtain ⟨_, rfl⟩ := Prod.mk.inj (Option.some.inj h)
      exact ⟨_, rfl, gM15⟩
    · rw [if_neg w2] at h
      cases h
def zJ35_40 (n : Nat) (x3 : Int) (M : ZM) : Option (Unit × ZM) :=
  if (M.1 83 32) < 0 ∨ 128 ≤ (M.1 83 32) then (none) else (zlet (z_i M 94 (Int.toNat (M.1 83 32)) x3) (fun M10 => if (M10.1 83 32) < 0 ∨ 128 ≤ (M10.1 83 32) then (none) else (zlet (z_i M10 95 (Int.toNat (M10.1 83 32)) (M10.1 83 30)) (fun M12 => zJ35_63 n M12))))
set_option maxRecDepth 100000 in
set_option maxHeartbeats 4000000 in
theorem zJ35_40_r (n : Nat) {X3_ : Int32} {x3 : Int} (hx3 : rp X3_ x3) {M_ : Mem} {M : ZM} (gM : rm M_ M) {r : Unit} {m' : ZM} (h : zJ35_40 n x3 M = some (r, m')) : sU (J35_40 n X3_ M_) m' := by
  unfold zJ35_40 at h
  unfold J35_40
  by_cases q1 : (M.1 83 32) < 0 ∨ 128 ≤ (M.1 83 32)
  · rw [if_pos q1] at h
    rw [if_pos ((rp_ob (rm_rd gM 83 32) 128).mpr q1)]
    cases h
  · rw [if_neg q1] at h
    rw [if_neg (fun z => q1 ((rp_ob (rm_rd gM 83 32) 128).mp z))]
    have gM10 : rm (m_i M_ 94 ((M_.1 83 32)).toNatClampNeg X3_) (z_i M 94 (Int.toNat (M.1 83 32)) x3) := rm_ix gM 94 (rm_rd gM 83 32) hx3
    rw [mlet]
    rw [zlet] at h
    generalize z_i M 94 (Int.toNat (M.1 83 32)) x3 = M10 at h gM10
    generalize m_i M_ 94 ((M_.1 83 32)).toNatClampNeg X3_ = NM10 at gM10 ⊢
    by_cases q2 : (M10.1 83 32) < 0 ∨ 128 ≤ (M10.1 83 32)
    · rw [if_pos q2] at h
      rw [if_pos ((rp_ob (rm_rd gM10 83 32) 128).mpr q2)]
      cases h
    · rw [if_neg q2] at h
      rw [if_neg (fun z => q2 ((rp_ob (rm_rd gM10 83 32) 128).mp z))]
      have gM12 : rm (m_i NM10 95 ((NM10.1 83 32)).toNatClampNeg (NM10.1 83 30)) (z_i M10 95 (Int.toNat (M10.1 83 32)) (M10.1 83 30)) := rm_ix gM10 95 (rm_rd gM10 83 32) (rm_rd gM10 83 30)
      rw [mlet]
      rw [zlet] at h
      generalize z_i M10 95 (Int.toNat (M10.1 83 32)) (M10.1 83 30) = M12 at h gM12
      generalize m_i NM10 95 ((NM10.1 83 32)).toNatClampNeg (NM10.1 83 30) = NM12 at gM12 ⊢
      exact zJ35_63_r n gM12 h
def zJ35_20 (n : Nat) (x3 : Int) (M : ZM) : Option (Unit × ZM) :=
  if (M.1 83 32) < 0 ∨ 128 ≤ (M.1 83 32) then (none) else (zlet (z_i M 92 (Int.toNat (M.1 83 32)) (-1)) (fun M6 => if (M6.1 83 32) < 0 ∨ 128 ≤ (M6.1 83 32) then (none) else (zlet (z_i M6 93 (Int.toNat (M6.1 83 32)) 0) (fun M8 => zJ35_40 n x3 M8))))
set_option maxRecDepth 100000 in
set_option maxHeartbeats 4000000 in
theorem zJ35_20_r (n : Nat) {X3_ : Int32} {x3 : Int} (hx3 : rp X3_ x3) {M_ : Mem} {M : ZM} (gM : rm M_ M) {r : Unit} {m' : ZM} (h : zJ35_20 n x3 M = some (r, m')) : sU (J35_20 n X3_ M_) m' := by
  unfold zJ35_20 at h
  unfold J35_20
  by_cases q1 : (M.1 83 32) < 0 ∨ 128 ≤ (M.1 83 32)
  · rw [if_pos q1] at h
    rw [if_pos ((rp_ob (rm_rd gM 83 32) 128).mpr q1)]
    cases h
  · rw [if_neg q1] at h
    rw [if_neg (fun z => q1 ((rp_ob (rm_rd gM 83 32) 128).mp z))]
    have gM6 : rm (m_i M_ 92 ((M_.1 83 32)).toNatClampNeg (-1 : Int32)) (z_i M 92 (Int.toNat (M.1 83 32)) (-1)) := rm_ix gM 92 (rm_rd gM 83 32) (show rp (-1) (-1) from rfl)
    rw [mlet]
    rw [zlet] at h
    generalize z_i M 92 (Int.toNat (M.1 83 32)) (-1) = M6 at h gM6
    generalize m_i M_ 92 ((M_.1 83 32)).toNatClampNeg (-1 : Int32) = NM6 at gM6 ⊢
    by_cases q2 : (M6.1 83 32) < 0 ∨ 128 ≤ (M6.1 83 32)
    · rw [if_pos q2] at h
      rw [if_pos ((rp_ob (rm_rd gM6 83 32) 128).mpr q2)]
      cases h
    · rw [if_neg q2] at h
      rw [if_neg (fun z => q2 ((rp_ob (rm_rd gM6 83 32) 128).mp z))]
      have gM8 : rm (m_i NM6 93 ((NM6.1 83 32)).toNatClampNeg (0 : Int32)) (z_i M6 93 (Int.toNat (M6.1 83 32)) 0) := rm_ix gM6 93 (rm_rd gM6 83 32) (show rp 0 0 from rfl)
      rw [mlet]
      rw [zlet] at h
      generalize z_i M6 93 (Int.toNat (M6.1 83 32)) 0 = M8 at h gM8
      generalize m_i NM6 93 ((NM6.1 83 32)).toNatClampNeg (0 : Int32) = NM8 at gM8 ⊢
      exact zJ35_40_r n hx3 gM8 h
/-- ArmExpanderModel.addPattern -/
def zF35 (n : Nat) (a0 : Int) (a1 : Int) (a2 : Int) (M : ZM) : Option (Unit × ZM) :=
  if (M.1 83 32) < 0 ∨ 128 ≤ (M.1 83 32) then (none) else (zlet (z_i M 90 (Int.toNat (M.1 83 32)) a0) (fun M2 => if (M2.1 83 32) < 0 ∨ 128 ≤ (M2.1 83 32) then (none) else (zlet (z_i M2 91 (Int.toNat (M2.1 83 32)) a1) (fun M4 => zJ35_20 n a2 M4))))
set_option maxRecDepth 100000 in
set_option maxHeartbeats 4000000 in
theorem zF35_r (n : Nat) {A0_ : Int32} {a0 : Int} (ha0 : rp A0_ a0) {A1_ : Int32} {a1 : Int} (ha1 : rp A1_ a1) {A2_ : Int32} {a2 : Int} (ha2 : rp A2_ a2) {M_ : Mem} {M : ZM} (gM : rm M_ M) {r : Unit} {m' : ZM} (h : zF35 n a0 a1 a2 M = some (r, m')) : sU (F35 n A0_ A1_ A2_ M_) m' := by
  unfold zF35 at h
  unfold F35
  by_cases q1 : (M.1 83 32) < 0 ∨ 128 ≤ (M.1 83 32)
  · rw [if_pos q1] at h
    rw [if_pos ((rp_ob (rm_rd gM 83 32) 128).mpr q1)]
    cases h
  · rw [if_neg q1] at h
    rw [if_neg (fun z => q1 ((rp_ob (rm_rd gM 83 32) 128).mp z))]
    have gM2 : rm (m_i M_ 90 ((M_.1 83 32)).toNatClampNeg A0_) (z_i M 90 (Int.toNat (M.1 83 32)) a0) := rm_ix gM 90 (rm_rd gM 83 32) ha0
    rw [mlet]
    rw [zlet] at h
    generalize z_i M 90 (Int.toNat (M.1 83 32)) a0 = M2 at h gM2
    generalize m_i M_ 90 ((M_.1 83 32)).toNatClampNeg A0_ = NM2 at gM2 ⊢
    by_cases q2 : (M2.1 83 32) < 0 ∨ 128 ≤ (M2.1 83 32)
    · rw [if_pos q2] at h
      rw [if_pos ((rp_ob (rm_rd gM2 83 32) 128).mpr q2)]
      cases h
    · rw [if_neg q2] at h
      rw [if_neg (fun z => q2 ((rp_ob (rm_rd gM2 83 32) 128).mp z))]
      have gM4 : rm (m_i NM2 91 ((NM2.1 83 32)).toNatClampNeg A1_) (z_i M2 91 (Int.toNat (M2.1 83 32)) a1) := rm_ix gM2 91 (rm_rd gM2 83 32) ha1
      rw [mlet]
      rw [zlet] at h
      generalize z_i M2 91 (Int.toNat (M2.1 83 32)) a1 = M4 at h gM4
      generalize m_i NM2 91 ((NM2.1 83 32)).toNatClampNeg A1_ = NM4 at gM4 ⊢
      exact zJ35_20_r n ha2 gM4 h
def zJ36_66 (n : Nat) (M : ZM) : Option (Unit × ZM) :=
  if rg ((M.1 83 32) + 1) then (zlet (z_i M 83 32 ((M.1 83 32) + 1)) (fun M13 => some ((), M13))) else none
set_option maxRecDepth 100000 in
set_option maxHeartbeats 4000000 in
theorem zJ36_66_r (n : Nat) {M_ : Mem} {M : ZM} (gM : rm M_ M) {r : Unit} {m' : ZM} (h : zJ36_66 n M = some (r, m')) : sU (J36_66 n M_) m' := by
  unfold zJ36_66 at h
  unfold J36_66
  by_cases w1 : rg ((M.1 83 32) + 1)
  · rw [if_pos w1] at h
    have gM13 : rm (m_i M_ 83 32 ((M_.1 83 32) + (1 : Int32))) (z_i M 83 32 ((M.1 83 32) + 1)) := rm_i gM 83 32 (rp_add (rp_iz (rm_rd gM 83 32)) (rp_iz (show rp 1 1 from rfl)) w1)
    rw [mlet]
    rw [zlet] at h
    generalize z_i M 83 32 ((M.1 83 32) + 1) = M13 at h gM13
    generalize m_i M_ 83 32 ((M_.1 83 32) + (1 : Int32)) = NM13 at gM13 ⊢
    obtain ⟨_, rfl⟩ := Prod.mk.inj (Option.some.inj h)
    exact ⟨_, rfl, gM13⟩
  · rw [if_neg w1] at h
    cases h
def zJ36_40 (n : Nat) (M : ZM) : Option (Unit × ZM) :=
  if (M.1 83 32) < 0 ∨ 128 ≤ (M.1 83 32) then (none) else (zlet (z_i M 101 (Int.toNat (M.1 83 32)) (M.1 83 30)) (fun M10 => if (M10.1 83 32) < 0 ∨ 128 ≤ (M10.1 83 32) then (none) else (zlet (z_i M10 102 (Int.toNat (M10.1 83 32)) (M10.1 83 31)) (fun M12 => zJ36_66 n M12))))
set_option maxRecDepth 100000 in
set_option maxHeartbeats 4000000 in
theorem zJ36_40_r (n : Nat) {M_ : Mem} {M : ZM} (gM : rm M_ M) {r : Unit} {m' : ZM} (h : zJ36_40 n M = some (r, m')) : sU (J36_40 n M_) m' := by
  unfold zJ36_40 at h
  unfold J36_40
  by_cases q1 : (M.1 83 32) < 0 ∨ 128 ≤ (M.1 83 32)
  · rw [if_pos q1] at h
    rw [if_pos ((rp_ob (rm_rd gM 83 32) 128).mpr q1)]
    cases h
  · rw [if_neg q1] at h
    rw [if_neg (fun z => q1 ((rp_ob (rm_rd gM 83 32) 128).mp z))]
    have gM10 : rm (m_i M_ 101 ((M_.1 83 32)).toNatClampNeg (M_.1 83 30)) (z_i M 101 (Int.toNat (M.1 83 32)) (M.1 83 30)) := rm_ix gM 101 (rm_rd gM 83 32) (rm_rd gM 83 30)
    rw [mlet]
    rw [zlet] at h
    generalize z_i M 101 (Int.toNat (M.1 83 32)) (M.1 83 30) = M10 at h gM10
    generalize m_i M_ 101 ((M_.1 83 32)).toNatClampNeg (M_.1 83 30) = NM10 at gM10 ⊢
    by_cases q2 : (M10.1 83 32) < 0 ∨ 128 ≤ (M10.1 83 32)
    · rw [if_pos q2] at h
      rw [if_pos ((rp_ob (rm_rd gM10 83 32) 128).mpr q2)]
      cases h
    · rw [if_neg q2] at h
      rw [if_neg (fun z => q2 ((rp_ob (rm_rd gM10 83 32) 128).mp z))]
      have gM12 : rm (m_i NM10 102 ((NM10.1 83 32)).toNatClampNeg (NM10.1 83 31)) (z_i M10 102 (Int.toNat (M10.1 83 32)) (M10.1 83 31)) := rm_ix gM10 102 (rm_rd gM10 83 32) (rm_rd gM10 83 31)
      rw [mlet]
      rw [zlet] at h
      generalize z_i M10 102 (Int.toNat (M10.1 83 32)) (M10.1 83 31) = M12 at h gM12
      generalize m_i NM10 102 ((NM10.1 83 32)).toNatClampNeg (NM10.1 83 31) = NM12 at gM12 ⊢
      exact zJ36_66_r n gM12 h
def zJ36_20 (n : Nat) (M : ZM) : Option (Unit × ZM) :=
  if (M.1 83 32) < 0 ∨ 128 ≤ (M.1 83 32) then (none) else (zlet (z_i M 99 (Int.toNat (M.1 83 32)) (-1)) (fun M6 => if (M6.1 83 32) < 0 ∨ 128 ≤ (M6.1 83 32) then (none) else (zlet (z_i M6 100 (Int.toNat (M6.1 83 32)) 0) (fun M8 => zJ36_40 n M8))))
set_option maxRecDepth 100000 in
set_option maxHeartbeats 4000000 in
theorem zJ36_20_r (n : Nat) {M_ : Mem} {M : ZM} (gM : rm M_ M) {r : Unit} {m' : ZM} (h : zJ36_20 n M = some (r, m')) : sU (J36_20 n M_) m' := by
  unfold zJ36_20 at h
  unfold J36_20
  by_cases q1 : (M.1 83 32) < 0 ∨ 128 ≤ (M.1 83 32)
  · rw [if_pos q1] at h
    rw [if_pos ((rp_ob (rm_rd gM 83 32) 128).mpr q1)]
    cases h
  · rw [if_neg q1] at h
    rw [if_neg (fun z => q1 ((rp_ob (rm_rd gM 83 32) 128).mp z))]
    have gM6 : rm (m_i M_ 99 ((M_.1 83 32)).toNatClampNeg (-1 : Int32)) (z_i M 99 (Int.toNat (M.1 83 32)) (-1)) := rm_ix gM 99 (rm_rd gM 83 32) (show rp (-1) (-1) from rfl)
    rw [mlet]
    rw [zlet] at h
    generalize z_i M 99 (Int.toNat (M.1 83 32)) (-1) = M6 at h gM6
    generalize m_i M_ 99 ((M_.1 83 32)).toNatClampNeg (-1 : Int32) = NM6 at gM6 ⊢
    by_cases q2 : (M6.1 83 32) < 0 ∨ 128 ≤ (M6.1 83 32)
    · rw [if_pos q2] at h
      rw [if_pos ((rp_ob (rm_rd gM6 83 32) 128).mpr q2)]
      cases h
    · rw [if_neg q2] at h
      rw [if_neg (fun z => q2 ((rp_ob (rm_rd gM6 83 32) 128).mp z))]
      have gM8 : rm (m_i NM6 100 ((NM6.1 83 32)).toNatClampNeg (0 : Int32)) (z_i M6 100 (Int.toNat (M6.1 83 32)) 0) := rm_ix gM6 100 (rm_rd gM6 83 32) (show rp 0 0 from rfl)
      rw [mlet]
      rw [zlet] at h
      generalize z_i M6 100 (Int.toNat (M6.1 83 32)) 0 = M8 at h gM8
      generalize m_i NM6 100 ((NM6.1 83 32)).toNatClampNeg (0 : Int32) = NM8 at gM8 ⊢
      exact zJ36_40_r n gM8 h
/-- ArmExpanderModel.addBody -/
def zF36 (n : Nat) (a0 : Int) (a1 : Int) (M : ZM) : Option (Unit × ZM) :=
  if (M.1 83 32) < 0 ∨ 128 ≤ (M.1 83 32) then (none) else (zlet (z_i M 97 (Int.toNat (M.1 83 32)) a0) (fun M2 => if (M2.1 83 32) < 0 ∨ 128 ≤ (M2.1 83 32) then (none) else (zlet (z_i M2 98 (Int.toNat (M2.1 83 32)) a1) (fun M4 => zJ36_20 n M4))))
set_option maxRecDepth 100000 in
set_option maxHeartbeats 4000000 in
theorem zF36_r (n : Nat) {A0_ : Int32} {a0 : Int} (ha0 : rp A0_ a0) {A1_ : Int32} {a1 : Int} (ha1 : rp A1_ a1) {M_ : Mem} {M : ZM} (gM : rm M_ M) {r : Unit} {m' : ZM} (h : zF36 n a0 a1 M = some (r, m')) : sU (F36 n A0_ A1_ M_) m' := by
  unfold zF36 at h
  unfold F36
  by_cases q1 : (M.1 83 32) < 0 ∨ 128 ≤ (M.1 83 32)
  · rw [if_pos q1] at h
    rw [if_pos ((rp_ob (rm_rd gM 83 32) 128).mpr q1)]
    cases h
  · rw [if_neg q1] at h
    rw [if_neg (fun z => q1 ((rp_ob (rm_rd gM 83 32) 128).mp z))]
    have gM2 : rm (m_i M_ 97 ((M_.1 83 32)).toNatClampNeg A0_) (z_i M 97 (Int.toNat (M.1 83 32)) a0) := rm_ix gM 97 (rm_rd gM 83 32) ha0
    rw [mlet]
    rw [zlet] at h
    generalize z_i M 97 (Int.toNat (M.1 83 32)) a0 = M2 at h gM2
    generalize m_i M_ 97 ((M_.1 83 32)).toNatClampNeg A0_ = NM2 at gM2 ⊢
    by_cases q2 : (M2.1 83 32) < 0 ∨ 128 ≤ (M2.1 83 32)
    · rw [if_pos q2] at h
      rw [if_pos ((rp_ob (rm_rd gM2 83 32) 128).mpr q2)]
      cases h
    · rw [if_neg q2] at h
      rw [if_neg (fun z => q2 ((rp_ob (rm_rd gM2 83 32) 128).mp z))]
      have gM4 : rm (m_i NM2 98 ((NM2.1 83 32)).toNatClampNeg A1_) (z_i M2 98 (Int.toNat (M2.1 83 32)) a1) := rm_ix gM2 98 (rm_rd gM2 83 32) ha1
      rw [mlet]
      rw [zlet] at h
      generalize z_i M2 98 (Int.toNat (M2.1 83 32)) a1 = M4 at h gM4
      generalize m_i NM2 98 ((NM2.1 83 32)).toNatClampNeg A1_ = NM4 at gM4 ⊢
      exact zJ36_20_r n gM4 h
def zJ37_49 (n : Nat) (M : ZM) : Option (Int × ZM) :=
  match zF28 n M with | some (v7, M8) => (some (1, M8)) | none => none
set_option maxRecDepth 100000 in
set_option maxHeartbeats 4000000 in
theorem zJ37_49_r (n : Nat) {M_ : Mem} {M : ZM} (gM : rm M_ M) {r : Int} {m' : ZM} (h : zJ37_49 n M = some (r, m')) : sI (J37_49 n M_) r m' := by
  unfold zJ37_49 at h
  unfold J37_49
  cases hc1 : zF28 n M with
  | none => rw [hc1] at h; cases h
  | some w =>
    obtain ⟨v7, M8⟩ := w
    rw [hc1] at h
    dsimp only at h
    obtain ⟨NM8, ehc1, gM8⟩ := zF28_r n gM hc1
    rw [ehc1]
    dsimp only
    obtain ⟨rfl, rfl⟩ := Prod.mk.inj (Option.some.inj h)
    exact ⟨_, _, rfl, (show rp 1 1 from rfl), gM8⟩
def zJ37_29 (n : Nat) (x1 : Int) (M : ZM) : Option (Int × ZM) :=
  if (M.1 83 27) < 0 ∨ 16 ≤ (M.1 83 27) then (none) else (zlet (z_i M 104 (Int.toNat (M.1 83 27)) x1) (fun M5 => if rg ((M5.1 83 27) + 1) then (zlet (z_i M5 83 27 ((M5.1 83 27) + 1)) (fun M6 => zJ37_49 n M6)) else none))
set_option maxRecDepth 100000 in
set_option maxHeartbeats 4000000 in
theorem zJ37_29_r (n : Nat) {X1_ : Int32} {x1 : Int} (hx1 : rp X1_ x1) {M_ : Mem} {M : ZM} (gM : rm M_ M) {r : Int} {m' : ZM} (h : zJ37_29 n x1 M = some (r, m')) : sI (J37_29 n X1_ M_) r m' := by
  unfold zJ37_29 at h
  unfold J37_29
  by_cases q1 : (M.1 83 27) < 0 ∨ 16 ≤ (M.1 83 27)
  · rw [if_pos q1] at h
    rw [if_pos ((rp_ob (rm_rd gM 83 27) 16).mpr q1)]
    cases h
  · rw [if_neg q1] at h
    rw [if_neg (fun z => q1 ((rp_ob (rm_rd gM 83 27) 16).mp z))]
    have gM5 : rm (m_i M_ 104 ((M_.1 83 27)).toNatClampNeg X1_) (z_i M 104 (Int.toNat (M.1 83 27)) x1) := rm_ix gM 104 (rm_rd gM 83 27) hx1
    rw [mlet]
    rw [zlet] at h
    generalize z_i M 104 (Int.toNat (M.1 83 27)) x1 = M5 at h gM5
    generalize m_i M_ 104 ((M_.1 83 27)).toNatClampNeg X1_ = NM5 at gM5 ⊢
    by_cases w2 : rg ((M5.1 83 27) + 1)
    · rw [if_pos w2] at h
      have gM6 : rm (m_i NM5 83 27 ((NM5.1 83 27) + (1 : Int32))) (z_i M5 83 27 ((M5.1 83 27) + 1)) := rm_i gM5 83 27 (rp_add (rp_iz (rm_rd gM5 83 27)) (rp_iz (show rp 1 1 from rfl)) w2)
      rw [mlet]
      rw [zlet] at h
      generalize z_i M5 83 27 ((M5.1 83 27) + 1) = M6 at h gM6
      generalize m_i NM5 83 27 ((NM5.1 83 27) + (1 : Int32)) = NM6 at gM6 ⊢
      exact zJ37_49_r n gM6 h
    · rw [if_neg w2] at h
      cases h
/-- ArmExpanderModel.openIt -/
def zF37 (n : Nat) (a0 : Int) (M : ZM) : Option (Int × ZM) :=
  if rg ((M.1 83 27) + 1) then (if ((M.1 83 27) + 1) ≤ 9 then (if (M.1 83 27) < 0 ∨ 16 ≤ (M.1 83 27) then (none) else (zlet (z_i M 103 (Int.toNat (M.1 83 27)) (M.1 83 5)) (fun M3 => zJ37_29 n a0 M3))) else (match zF29 n M with | some (v10, M11) => (if v10 = 0 ∨ v10 = 1 then (some (v10, M11)) else (none)) | none => none)) else none
set_option maxRecDepth 100000 in
set_option maxHeartbeats 4000000 in
theorem zF37_r (n : Nat) {A0_ : Int32} {a0 : Int} (ha0 : rp A0_ a0) {M_ : Mem} {M : ZM} (gM : rm M_ M) {r : Int} {m' : ZM} (h : zF37 n a0 M = some (r, m')) : sI (F37 n A0_ M_) r m' := by
  unfold zF37 at h
  unfold F37
  by_cases w1 : rg ((M.1 83 27) + 1)
  · rw [if_pos w1] at h
    by_cases q2 : ((M.1 83 27) + 1) ≤ 9
    · rw [if_pos q2] at h
      rw [if_pos ((rp_le (rp_add (rp_iz (rm_rd gM 83 27)) (rp_iz (show rp 1 1 from rfl)) w1) (show rp 9 9 from rfl)).mpr q2)]
      by_cases q3 : (M.1 83 27) < 0 ∨ 16 ≤ (M.1 83 27)
      · rw [if_pos q3] at h
        rw [if_pos ((rp_ob (rm_rd gM 83 27) 16).mpr q3)]
        cases h
      · rw [if_neg q3] at h
        rw [if_neg (fun z => q3 ((rp_ob (rm_rd gM 83 27) 16).mp z))]
        have gM3 : rm (m_i M_ 103 ((M_.1 83 27)).toNatClampNeg (M_.1 83 5)) (z_i M 103 (Int.toNat (M.1 83 27)) (M.1 83 5)) := rm_ix gM 103 (rm_rd gM 83 27) (rm_rd gM 83 5)
        rw [mlet]
        rw [zlet] at h
        generalize z_i M 103 (Int.toNat (M.1 83 27)) (M.1 83 5) = M3 at h gM3
        generalize m_i M_ 103 ((M_.1 83 27)).toNatClampNeg (M_.1 83 5) = NM3 at gM3 ⊢
        exact zJ37_29_r n ha0 gM3 h
    · rw [if_neg q2] at h
      rw [if_neg (fun z => q2 ((rp_le (rp_add (rp_iz (rm_rd gM 83 27)) (rp_iz (show rp 1 1 from rfl)) w1) (show rp 9 9 from rfl)).mp z))]
      cases hc4 : zF29 n M with
      | none => rw [hc4] at h; cases h
      | some w =>
        obtain ⟨v10, M11⟩ := w
        rw [hc4] at h
        dsimp only at h
        obtain ⟨V10, NM11, ehc4, hv10, gM11⟩ := zF29_r n gM hc4
        rw [ehc4]
        dsimp only
        by_cases q5 : v10 = 0 ∨ v10 = 1
        · rw [if_pos q5] at h
          rw [if_pos ((or_congr (rp_eq hv10 (show rp 0 0 from rfl)) (rp_eq hv10 (show rp 1 1 from rfl))).mpr q5)]
          obtain ⟨rfl, rfl⟩ := Prod.mk.inj (Option.some.inj h)
          exact ⟨_, _, rfl, hv10, gM11⟩
        · rw [if_neg q5] at h
          rw [if_neg (fun z => q5 ((or_congr (rp_eq hv10 (show rp 0 0 from rfl)) (rp_eq hv10 (show rp 1 1 from rfl))).mp z))]
          cases h
  · rw [if_neg w1] at h
    cases h
def zJ38_32 (n : Nat) (s0 : Int) (M : ZM) : Option (Unit × ZM) :=
  zlet (z_i M 83 30 s0) (fun M4 => some ((), M4))
set_option maxRecDepth 100000 in
set_option maxHeartbeats 4000000 in
theorem zJ38_32_r (n : Nat) {S0_ : Int32} {s0 : Int} (hs0 : rp S0_ s0) {M_ : Mem} {M : ZM} (gM : rm M_ M) {r : Unit} {m' : ZM} (h : zJ38_32 n s0 M = some (r, m')) : sU (J38_32 n S0_ M_) m' := by
  unfold zJ38_32 at h
  unfold J38_32
  have gM4 : rm (m_i M_ 83 30 S0_) (z_i M 83 30 s0) := rm_i gM 83 30 hs0
  rw [mlet]
  rw [zlet] at h
  generalize z_i M 83 30 s0 = M4 at h gM4
  generalize m_i M_ 83 30 S0_ = NM4 at gM4 ⊢
  obtain ⟨_, rfl⟩ := Prod.mk.inj (Option.some.inj h)
  exact ⟨_, rfl, gM4⟩
def zJ38_13 (n : Nat) (x1 : Int) (s0 : Int) (M : ZM) : Option (Unit × ZM) :=
  zlet (z_i M 83 31 s0) (fun M2 => if (M2.1 83 30) < 0 then (zJ38_32 n x1 M2) else (zJ38_32 n (M2.1 83 30) M2))
set_option maxRecDepth 100000 in
set_option maxHeartbeats 4000000 in
theorem zJ38_13_r (n : Nat) {X1_ : Int32} {x1 : Int} (hx1 : rp X1_ x1) {S0_ : Int32} {s0 : Int} (hs0 : rp S0_ s0) {M_ : Mem} {M : ZM} (gM : rm M_ M) {r : Unit} {m' : ZM} (h : zJ38_13 n x1 s0 M = some (r, m')) : sU (J38_13 n X1_ S0_ M_) m' := by
  unfold zJ38_13 at h
  unfold J38_13
  have gM2 : rm (m_i M_ 83 31 S0_) (z_i M 83 31 s0) := rm_i gM 83 31 hs0
  rw [mlet]
  rw [zlet] at h
  generalize z_i M 83 31 s0 = M2 at h gM2
  generalize m_i M_ 83 31 S0_ = NM2 at gM2 ⊢
  by_cases q1 : (M2.1 83 30) < 0
  · rw [if_pos q1] at h
    rw [if_pos ((rp_lt (rm_rd gM2 83 30) (show rp 0 0 from rfl)).mpr q1)]
    exact zJ38_32_r n hx1 gM2 h
  · rw [if_neg q1] at h
    rw [if_neg (fun z => q1 ((rp_lt (rm_rd gM2 83 30) (show rp 0 0 from rfl)).mp z))]
    exact zJ38_32_r n (rm_rd gM2 83 30) gM2 h
/-- ArmExpanderModel.enter -/
def zF38 (n : Nat) (a0 : Int) (M : ZM) : Option (Unit × ZM) :=
  if (M.1 83 30) < 0 then (zJ38_13 n a0 (-1) M) else (zJ38_13 n a0 a0 M)
set_option maxRecDepth 100000 in
set_option maxHeartbeats 4000000 in
theorem zF38_r (n : Nat) {A0_ : Int32} {a0 : Int} (ha0 : rp A0_ a0) {M_ : Mem} {M : ZM} (gM : rm M_ M) {r : Unit} {m' : ZM} (h : zF38 n a0 M = some (r, m')) : sU (F38 n A0_ M_) m' := by
  unfold zF38 at h
  unfold F38
  by_cases q1 : (M.1 83 30) < 0
  · rw [if_pos q1] at h
    rw [if_pos ((rp_lt (rm_rd gM 83 30) (show rp 0 0 from rfl)).mpr q1)]
    exact zJ38_13_r n ha0 (show rp (-1) (-1) from rfl) gM h
  · rw [if_neg q1] at h
    rw [if_neg (fun z => q1 ((rp_lt (rm_rd gM 83 30) (show rp 0 0 from rfl)).mp z))]
    exact zJ38_13_r n ha0 ha0 gM h
def zJ39_16 (n : Nat) (s0 : Int) (M : ZM) : Option (Unit × ZM) :=
  zlet (z_i M 83 30 s0) (fun M2 => zlet (z_i M2 83 31 (-1)) (fun M3 => some ((), M3)))
set_option maxRecDepth 100000 in
set_option maxHeartbeats 4000000 in
theorem zJ39_16_r (n : Nat) {S0_ : Int32} {s0 : Int} (hs0 : rp S0_ s0) {M_ : Mem} {M : ZM} (gM : rm M_ M) {r : Unit} {m' : ZM} (h : zJ39_16 n s0 M = some (r, m')) : sU (J39_16 n S0_ M_) m' := by
  unfold zJ39_16 at h
  unfold J39_16
  have gM2 : rm (m_i M_ 83 30 S0_) (z_i M 83 30 s0) := rm_i gM 83 30 hs0
  rw [mlet]
  rw [zlet] at h
  generalize z_i M 83 30 s0 = M2 at h gM2
  generalize m_i M_ 83 30 S0_ = NM2 at gM2 ⊢
  have gM3 : rm (m_i NM2 83 31 (-1 : Int32)) (z_i M2 83 31 (-1)) := rm_i gM2 83 31 (show rp (-1) (-1) from rfl)
  rw [mlet]
  rw [zlet] at h
  generalize z_i M2 83 31 (-1) = M3 at h gM3
  generalize m_i NM2 83 31 (-1 : Int32) = NM3 at gM3 ⊢
  obtain ⟨_, rfl⟩ := Prod.mk.inj (Option.some.inj h)
  exact ⟨_, rfl, gM3⟩
/-- ArmExpanderModel.leave -/
def zF39 (n : Nat) (M : ZM) : Option (Unit × ZM) :=
  if (M.1 83 31) < 0 then (zJ39_16 n (-1) M) else (zJ39_16 n (M.1 83 30) M)
set_option maxRecDepth 100000 in
set_option maxHeartbeats 4000000 in
theorem zF39_r (n : Nat) {M_ : Mem} {M : ZM} (gM : rm M_ M) {r : Unit} {m' : ZM} (h : zF39 n M = some (r, m')) : sU (F39 n M_) m' := by
  unfold zF39 at h
  unfold F39
  by_cases q1 : (M.1 83 31) < 0
  · rw [if_pos q1] at h
    rw [if_pos ((rp_lt (rm_rd gM 83 31) (show rp 0 0 from rfl)).mpr q1)]
    exact zJ39_16_r n (show rp (-1) (-1) from rfl) gM h
  · rw [if_neg q1] at h
    rw [if_neg (fun z => q1 ((rp_lt (rm_rd gM 83 31) (show rp 0 0 from rfl)).mp z))]
    exact zJ39_16_r n (rm_rd gM 83 30) gM h
def zJ40_146 (n : Nat) (s0 : Int) (M : ZM) : Option (Int × ZM) :=
  some (s0, M)
set_option maxRecDepth 100000 in
set_option maxHeartbeats 4000000 in
theorem zJ40_146_r (n : Nat) {S0_ : Int32} {s0 : Int} (hs0 : rp S0_ s0) {M_ : Mem} {M : ZM} (gM : rm M_ M) {r : Int} {m' : ZM} (h : zJ40_146 n s0 M = some (r, m')) : sI (J40_146 n S0_ M_) r m' := by
  unfold zJ40_146 at h
  unfold J40_146
  obtain ⟨rfl, rfl⟩ := Prod.mk.inj (Option.some.inj h)
  exact ⟨_, _, rfl, hs0, gM⟩
def zJ40_129 (n : Nat) (x1 : Int) (x2 : Int) (s0 : Int) (M : ZM) : Option (Int × ZM) :=
  match zF30 n s0 M with | some (v31, M32) => (if v31 = 0 then (zJ40_146 n (-1) M32) else (if rg ((256 * x2) + x1) then (zJ40_146 n ((256 * x2) + x1) M32) else none)) | none => none
set_option maxRecDepth 100000 in
set_option maxHeartbeats 4000000 in
theorem zJ40_129_r (n : Nat) {X1_ : Int32} {x1 : Int} (hx1 : rp X1_ x1) {X2_ : Int32} {x2 : Int} (hx2 : rp X2_ x2) {S0_ : Int32} {s0 : Int} (hs0 : rp S0_ s0) {M_ : Mem} {M : ZM} (gM : rm M_ M) {r : Int} {m' : ZM} (h : zJ40_129 n x1 x2 s0 M = some (r, m')) : sI (J40_129 n X1_ X2_ S0_ M_) r m' := by
  unfold zJ40_129 at h
  unfold J40_129
  cases hc1 : zF30 n s0 M with
  | none => rw [hc1] at h; cases h
  | some w =>
    obtain ⟨v31, M32⟩ := w
    rw [hc1] at h
    dsimp only at h
    obtain ⟨V31, NM32, ehc1, hv31, gM32⟩ := zF30_r n hs0 gM hc1
    rw [ehc1]
    dsimp only
    by_cases q2 : v31 = 0
    · rw [if_pos q2] at h
      rw [if_pos ((rp_eq hv31 (show rp 0 0 from rfl)).mpr q2)]
      exact zJ40_146_r n (show rp (-1) (-1) from rfl) gM32 h
    · rw [if_neg q2] at h
      rw [if_neg (fun z => q2 ((rp_eq hv31 (show rp 0 0 from rfl)).mp z))]
      by_cases w3 : rg ((256 * x2) + x1)
      · rw [if_pos w3] at h
        exact zJ40_146_r n (rp_add (rw_mul (rp_iz (show rp 256 256 from rfl)) (rp_iz hx2)) (rp_iz hx1) w3) gM32 h
      · rw [if_neg w3] at h
        cases h
def zJ40_118 (n : Nat) (x2 : Int) (s0 : Int) (M : ZM) : Option (Int × ZM) :=
  if s0 ≤ 0 then (zJ40_129 n s0 x2 0 M) else (zJ40_129 n s0 x2 1 M)
set_option maxRecDepth 100000 in
set_option maxHeartbeats 4000000 in
theorem zJ40_118_r (n : Nat) {X2_ : Int32} {x2 : Int} (hx2 : rp X2_ x2) {S0_ : Int32} {s0 : Int} (hs0 : rp S0_ s0) {M_ : Mem} {M : ZM} (gM : rm M_ M) {r : Int} {m' : ZM} (h : zJ40_118 n x2 s0 M = some (r, m')) : sI (J40_118 n X2_ S0_ M_) r m' := by
  unfold zJ40_118 at h
  unfold J40_118
  by_cases q1 : s0 ≤ 0
  · rw [if_pos q1] at h
    rw [if_pos ((rp_le hs0 (show rp 0 0 from rfl)).mpr q1)]
    exact zJ40_129_r n hs0 hx2 (show rp 0 0 from rfl) gM h
  · rw [if_neg q1] at h
    rw [if_neg (fun z => q1 ((rp_le hs0 (show rp 0 0 from rfl)).mp z))]
    exact zJ40_129_r n hs0 hx2 (show rp 1 1 from rfl) gM h
def zJ40_104 (n : Nat) (x2 : Int) (M : ZM) : Option (Int × ZM) :=
  match zF31 n 43 M with | some (v26, M27) => (if v26 = 0 then (zJ40_118 n x2 0 M27) else (zJ40_118 n x2 2 M27)) | none => none
set_option maxRecDepth 100000 in
set_option maxHeartbeats 4000000 in
theorem zJ40_104_r (n : Nat) {X2_ : Int32} {x2 : Int} (hx2 : rp X2_ x2) {M_ : Mem} {M : ZM} (gM : rm M_ M) {r : Int} {m' : ZM} (h : zJ40_104 n x2 M = some (r, m')) : sI (J40_104 n X2_ M_) r m' := by
  unfold zJ40_104 at h
  unfold J40_104
  cases hc1 : zF31 n 43 M with
  | none => rw [hc1] at h; cases h
  | some w =>
    obtain ⟨v26, M27⟩ := w
    rw [hc1] at h
    dsimp only at h
    obtain ⟨V26, NM27, ehc1, hv26, gM27⟩ := zF31_r n (show rp 43 43 from rfl) gM hc1
    rw [ehc1]
    dsimp only
    by_cases q2 : v26 = 0
    · rw [if_pos q2] at h
      rw [if_pos ((rp_eq hv26 (show rp 0 0 from rfl)).mpr q2)]
      exact zJ40_118_r n hx2 (show rp 0 0 from rfl) gM27 h
    · rw [if_neg q2] at h
      rw [if_neg (fun z => q2 ((rp_eq hv26 (show rp 0 0 from rfl)).mp z))]
      exact zJ40_118_r n hx2 (show rp 2 2 from rfl) gM27 h
def zJ40_100 (n : Nat) (x2 : Int) (M : ZM) : Option (Int × ZM) :=
  zJ40_118 n x2 1 M
set_option maxRecDepth 100000 in
set_option maxHeartbeats 4000000 in
theorem zJ40_100_r (n : Nat) {X2_ : Int32} {x2 : Int} (hx2 : rp X2_ x2) {M_ : Mem} {M : ZM} (gM : rm M_ M) {r : Int} {m' : ZM} (h : zJ40_100 n x2 M = some (r, m')) : sI (J40_100 n X2_ M_) r m' := by
  unfold zJ40_100 at h
  unfold J40_100
  exact zJ40_118_r n hx2 (show rp 1 1 from rfl) gM h
def zJ40_83 (n : Nat) (x2 : Int) (s0 : Int) (M : ZM) : Option (Int × ZM) :=
  match zF30 n s0 M with | some (v18, M19) => (if v18 = 0 then (some ((-1), M19)) else (match zF31 n 42 M19 with | some (v22, M23) => (if v22 = 0 then (zJ40_104 n x2 M23) else (zJ40_100 n x2 M23)) | none => none)) | none => none
set_option maxRecDepth 100000 in
set_option maxHeartbeats 4000000 in
theorem zJ40_83_r (n : Nat) {X2_ : Int32} {x2 : Int} (hx2 : rp X2_ x2) {S0_ : Int32} {s0 : Int} (hs0 : rp S0_ s0) {M_ : Mem} {M : ZM} (gM : rm M_ M) {r : Int} {m' : ZM} (h : zJ40_83 n x2 s0 M = some (r, m')) : sI (J40_83 n X2_ S0_ M_) r m' := by
  unfold zJ40_83 at h
  unfold J40_83
  cases hc1 : zF30 n s0 M with
  | none => rw [hc1] at h; cases h
  | some w =>
    obtain ⟨v18, M19⟩ := w
    rw [hc1] at h
    dsimp only at h
    obtain ⟨V18, NM19, ehc1, hv18, gM19⟩ := zF30_r n hs0 gM hc1
    rw [ehc1]
    dsimp only
    by_cases q2 : v18 = 0
    · rw [if_pos q2] at h
      rw [if_pos ((rp_eq hv18 (show rp 0 0 from rfl)).mpr q2)]
      obtain ⟨rfl, rfl⟩ := Prod.mk.inj (Option.some.inj h)
      exact ⟨_, _, rfl, (show rp (-1) (-1) from rfl), gM19⟩
    · rw [if_neg q2] at h
      rw [if_neg (fun z => q2 ((rp_eq hv18 (show rp 0 0 from rfl)).mp z))]
      cases hc3 : zF31 n 42 M19 with
      | none => rw [hc3] at h; cases h
      | some w =>
        obtain ⟨v22, M23⟩ := w
        rw [hc3] at h
        dsimp only at h
        obtain ⟨V22, NM23, ehc3, hv22, gM23⟩ := zF31_r n (show rp 42 42 from rfl) gM19 hc3
        rw [ehc3]
        dsimp only
        by_cases q4 : v22 = 0
        · rw [if_pos q4] at h
          rw [if_pos ((rp_eq hv22 (show rp 0 0 from rfl)).mpr q4)]
          exact zJ40_104_r n hx2 gM23 h
        · rw [if_neg q4] at h
          rw [if_neg (fun z => q4 ((rp_eq hv22 (show rp 0 0 from rfl)).mp z))]
          exact zJ40_100_r n hx2 gM23 h
def zJ40_82 (n : Nat) (x2 : Int) (M : ZM) : Option (Int × ZM) :=
  zJ40_83 n x2 0 M
set_option maxRecDepth 100000 in
set_option maxHeartbeats 4000000 in
theorem zJ40_82_r (n : Nat) {X2_ : Int32} {x2 : Int} (hx2 : rp X2_ x2) {M_ : Mem} {M : ZM} (gM : rm M_ M) {r : Int} {m' : ZM} (h : zJ40_82 n x2 M = some (r, m')) : sI (J40_82 n X2_ M_) r m' := by
  unfold zJ40_82 at h
  unfold J40_82
  exact zJ40_83_r n hx2 (show rp 0 0 from rfl) gM h
def zJ40_40 (n : Nat) (s0 : Int) (M : ZM) : Option (Int × ZM) :=
  if s0 ≤ 0 then (match zF19 n (M.1 83 4) 1 3 M with | some (v14, M15) => (if v14 = 0 then (zJ40_82 n (M.1 83 5) M15) else (match zF31 n 36 M15 with | some (v35, M36) => (if v35 = 0 then (zJ40_83 n (M.1 83 5) 1 M36) else (zJ40_82 n (M.1 83 5) M36)) | none => none)) | none => none) else (match zF28 n M with | some (v39, M40) => (some (s0, M40)) | none => none)
set_option maxRecDepth 100000 in
set_option maxHeartbeats 4000000 in
theorem zJ40_40_r (n : Nat) {S0_ : Int32} {s0 : Int} (hs0 : rp S0_ s0) {M_ : Mem} {M : ZM} (gM : rm M_ M) {r : Int} {m' : ZM} (h : zJ40_40 n s0 M = some (r, m')) : sI (J40_40 n S0_ M_) r m' := by
  unfold zJ40_40 at h
  unfold J40_40
  by_cases q1 : s0 ≤ 0
  · rw [if_pos q1] at h
    rw [if_pos ((rp_le hs0 (show rp 0 0 from rfl)).mpr q1)]
    cases hc2 : zF19 n (M.1 83 4) 1 3 M with
    | none => rw [hc2] at h; cases h
    | some w =>
      obtain ⟨v14, M15⟩ := w
      rw [hc2] at h
      dsimp only at h
      obtain ⟨V14, NM15, ehc2, hv14, gM15⟩ := zF19_r n (rm_rd gM 83 4) (show rp 1 1 from rfl) (show rp 3 3 from rfl) gM hc2
      rw [ehc2]
      dsimp only
      by_cases q3 : v14 = 0
      · rw [if_pos q3] at h
        rw [if_pos ((rp_eq hv14 (show rp 0 0 from rfl)).mpr q3)]
        exact zJ40_82_r n (rm_rd gM 83 5) gM15 h
      · rw [if_neg q3] at h
        rw [if_neg (fun z => q3 ((rp_eq hv14 (show rp 0 0 from rfl)).mp z))]
        cases hc4 : zF31 n 36 M15 with
        | none => rw [hc4] at h; cases h
        | some w =>
          obtain ⟨v35, M36⟩ := w
          rw [hc4] at h
          dsimp only at h
          obtain ⟨V35, NM36, ehc4, hv35, gM36⟩ := zF31_r n (show rp 36 36 from rfl) gM15 hc4
          rw [ehc4]
          dsimp only
          by_cases q5 : v35 = 0
          · rw [if_pos q5] at h
            rw [if_pos ((rp_eq hv35 (show rp 0 0 from rfl)).mpr q5)]
            exact zJ40_83_r n (rm_rd gM 83 5) (show rp 1 1 from rfl) gM36 h
          · rw [if_neg q5] at h
            rw [if_neg (fun z => q5 ((rp_eq hv35 (show rp 0 0 from rfl)).mp z))]
            exact zJ40_82_r n (rm_rd gM 83 5) gM36 h
  · rw [if_neg q1] at h
    rw [if_neg (fun z => q1 ((rp_le hs0 (show rp 0 0 from rfl)).mp z))]
    cases hc6 : zF28 n M with
    | none => rw [hc6] at h; cases h
    | some w =>
      obtain ⟨v39, M40⟩ := w
      rw [hc6] at h
      dsimp only at h
      obtain ⟨NM40, ehc6, gM40⟩ := zF28_r n gM hc6
      rw [ehc6]
      dsimp only
      obtain ⟨rfl, rfl⟩ := Prod.mk.inj (Option.some.inj h)
      exact ⟨_, _, rfl, hs0, gM40⟩
def zJ40_26 (n : Nat) (M : ZM) : Option (Int × ZM) :=
  match zF31 n 63 M with | some (v9, M10) => (if v9 = 0 then (zJ40_40 n 0 M10) else (zJ40_40 n 3 M10)) | none => none
set_option maxRecDepth 100000 in
set_option maxHeartbeats 4000000 in
theorem zJ40_26_r (n : Nat) {M_ : Mem} {M : ZM} (gM : rm M_ M) {r : Int} {m' : ZM} (h : zJ40_26 n M = some (r, m')) : sI (J40_26 n M_) r m' := by
  unfold zJ40_26 at h
  unfold J40_26
  cases hc1 : zF31 n 63 M with
  | none => rw [hc1] at h; cases h
  | some w =>
    obtain ⟨v9, M10⟩ := w
    rw [hc1] at h
    dsimp only at h
    obtain ⟨V9, NM10, ehc1, hv9, gM10⟩ := zF31_r n (show rp 63 63 from rfl) gM hc1
    rw [ehc1]
    dsimp only
    by_cases q2 : v9 = 0
    · rw [if_pos q2] at h
      rw [if_pos ((rp_eq hv9 (show rp 0 0 from rfl)).mpr q2)]
      exact zJ40_40_r n (show rp 0 0 from rfl) gM10 h
    · rw [if_neg q2] at h
      rw [if_neg (fun z => q2 ((rp_eq hv9 (show rp 0 0 from rfl)).mp z))]
      exact zJ40_40_r n (show rp 3 3 from rfl) gM10 h
def zJ40_22 (n : Nat) (M : ZM) : Option (Int × ZM) :=
  zJ40_40 n 2 M
set_option maxRecDepth 100000 in
set_option maxHeartbeats 4000000 in
theorem zJ40_22_r (n : Nat) {M_ : Mem} {M : ZM} (gM : rm M_ M) {r : Int} {m' : ZM} (h : zJ40_22 n M = some (r, m')) : sI (J40_22 n M_) r m' := by
  unfold zJ40_22 at h
  unfold J40_22
  exact zJ40_40_r n (show rp 2 2 from rfl) gM h
/-- ArmExpanderModel.readMark -/
def zF40 (n : Nat) (M : ZM) : Option (Int × ZM) :=
  match zF31 n 42 M with | some (v1, M2) => (if v1 = 0 then (match zF31 n 43 M2 with | some (v5, M6) => (if v5 = 0 then (zJ40_26 n M6) else (zJ40_22 n M6)) | none => none) else (zJ40_40 n 1 M2)) | none => none
set_option maxRecDepth 100000 in
set_option maxHeartbeats 4000000 in
theorem zF40_r (n : Nat) {M_ : Mem} {M : ZM} (gM : rm M_ M) {r : Int} {m' : ZM} (h : zF40 n M = some (r, m')) : sI (F40 n M_) r m' := by
  unfold zF40 at h
  unfold F40
  cases hc1 : zF31 n 42 M with
  | none => rw [hc1] at h; cases h
  | some w =>
    obtain ⟨v1, M2⟩ := w
    rw [hc1] at h
    dsimp only at h
    obtain ⟨V1, NM2, ehc1, hv1, gM2⟩ := zF31_r n (show rp 42 42 from rfl) gM hc1
    rw [ehc1]
    dsimp only
    by_cases q2 : v1 = 0
    · rw [if_pos q2] at h
      rw [if_pos ((rp_eq hv1 (show rp 0 0 from rfl)).mpr q2)]
      cases hc3 : zF31 n 43 M2 with
      | none => rw [hc3] at h; cases h
      | some w =>
        obtain ⟨v5, M6⟩ := w
        rw [hc3] at h
        dsimp only at h
        obtain ⟨V5, NM6, ehc3, hv5, gM6⟩ := zF31_r n (show rp 43 43 from rfl) gM2 hc3
        rw [ehc3]
        dsimp only
        by_cases q4 : v5 = 0
        · rw [if_pos q4] at h
          rw [if_pos ((rp_eq hv5 (show rp 0 0 from rfl)).mpr q4)]
          exact zJ40_26_r n gM6 h
        · rw [if_neg q4] at h
          rw [if_neg (fun z => q4 ((rp_eq hv5 (show rp 0 0 from rfl)).mp z))]
          exact zJ40_22_r n gM6 h
    · rw [if_neg q2] at h
      rw [if_neg (fun z => q2 ((rp_eq hv1 (show rp 0 0 from rfl)).mp z))]
      exact zJ40_40_r n (show rp 1 1 from rfl) gM2 h
def zJ41_64 (n : Nat) (s0 : Int) (M : ZM) : Option (Int × ZM) :=
  some (s0, M)
set_option maxRecDepth 100000 in
set_option maxHeartbeats 4000000 in
theorem zJ41_64_r (n : Nat) {S0_ : Int32} {s0 : Int} (hs0 : rp S0_ s0) {M_ : Mem} {M : ZM} (gM : rm M_ M) {r : Int} {m' : ZM} (h : zJ41_64 n s0 M = some (r, m')) : sI (J41_64 n S0_ M_) r m' := by
  unfold zJ41_64 at h
  unfold J41_64
  obtain ⟨rfl, rfl⟩ := Prod.mk.inj (Option.some.inj h)
  exact ⟨_, _, rfl, hs0, gM⟩
def zJ41_28 (n : Nat) (M : ZM) : Option (Int × ZM) :=
  zJ41_64 n 2 M
set_option maxRecDepth 100000 in
set_option maxHeartbeats 4000000 in
theorem zJ41_28_r (n : Nat) {M_ : Mem} {M : ZM} (gM : rm M_ M) {r : Int} {m' : ZM} (h : zJ41_28 n M = some (r, m')) : sI (J41_28 n M_) r m' := by
  unfold zJ41_28 at h
  unfold J41_28
  exact zJ41_64_r n (show rp 2 2 from rfl) gM h
def zJ41_59 (n : Nat) (M : ZM) : Option (Int × ZM) :=
  zJ41_64 n 4 M
set_option maxRecDepth 100000 in
set_option maxHeartbeats 4000000 in
theorem zJ41_59_r (n : Nat) {M_ : Mem} {M : ZM} (gM : rm M_ M) {r : Int} {m' : ZM} (h : zJ41_59 n M = some (r, m')) : sI (J41_59 n M_) r m' := by
  unfold zJ41_59 at h
  unfold J41_59
  exact zJ41_64_r n (show rp 4 4 from rfl) gM h
def zJ41_63 (n : Nat) (M : ZM) : Option (Int × ZM) :=
  zJ41_64 n 0 M
set_option maxRecDepth 100000 in
set_option maxHeartbeats 4000000 in
theorem zJ41_63_r (n : Nat) {M_ : Mem} {M : ZM} (gM : rm M_ M) {r : Int} {m' : ZM} (h : zJ41_63 n M = some (r, m')) : sI (J41_63 n M_) r m' := by
  unfold zJ41_63 at h
  unfold J41_63
  exact zJ41_64_r n (show rp 0 0 from rfl) gM h
def zJ41_32 (n : Nat) (x0 : Int) (M : ZM) : Option (Int × ZM) :=
  match zF27 n 20 20 0 M with | some (v9, M10) => (if x0 = v9 then (zJ41_64 n 3 M10) else (match zF27 n 5 24 0 M10 with | some (v13, M14) => (if x0 = v13 then (zJ41_59 n M14) else (zJ41_63 n M14)) | none => none)) | none => none
set_option maxRecDepth 100000 in
set_option maxHeartbeats 4000000 in
theorem zJ41_32_r (n : Nat) {X0_ : Int32} {x0 : Int} (hx0 : rp X0_ x0) {M_ : Mem} {M : ZM} (gM : rm M_ M) {r : Int} {m' : ZM} (h : zJ41_32 n x0 M = some (r, m')) : sI (J41_32 n X0_ M_) r m' := by
  unfold zJ41_32 at h
  unfold J41_32
  cases hc1 : zF27 n 20 20 0 M with
  | none => rw [hc1] at h; cases h
  | some w =>
    obtain ⟨v9, M10⟩ := w
    rw [hc1] at h
    dsimp only at h
    obtain ⟨V9, NM10, ehc1, hv9, gM10⟩ := zF27_r n (show rp 20 20 from rfl) (show rp 20 20 from rfl) (show rp 0 0 from rfl) gM hc1
    rw [ehc1]
    dsimp only
    by_cases q2 : x0 = v9
    · rw [if_pos q2] at h
      rw [if_pos ((rp_eq hx0 hv9).mpr q2)]
      exact zJ41_64_r n (show rp 3 3 from rfl) gM10 h
    · rw [if_neg q2] at h
      rw [if_neg (fun z => q2 ((rp_eq hx0 hv9).mp z))]
      cases hc3 : zF27 n 5 24 0 M10 with
      | none => rw [hc3] at h; cases h
      | some w =>
        obtain ⟨v13, M14⟩ := w
        rw [hc3] at h
        dsimp only at h
        obtain ⟨V13, NM14, ehc3, hv13, gM14⟩ := zF27_r n (show rp 5 5 from rfl) (show rp 24 24 from rfl) (show rp 0 0 from rfl) gM10 hc3
        rw [ehc3]
        dsimp only
        by_cases q4 : x0 = v13
        · rw [if_pos q4] at h
          rw [if_pos ((rp_eq hx0 hv13).mpr q4)]
          exact zJ41_59_r n gM14 h
        · rw [if_neg q4] at h
          rw [if_neg (fun z => q4 ((rp_eq hx0 hv13).mp z))]
          exact zJ41_63_r n gM14 h
/-- ArmExpanderModel.kindOf -/
def zF41 (n : Nat) (a0 : Int) (M : ZM) : Option (Int × ZM) :=
  match zF27 n 9 4 0 M with | some (v1, M2) => (if a0 = v1 then (zJ41_64 n 1 M2) else (match zF27 n 14 21 13 M2 with | some (v5, M6) => (if a0 = v5 then (zJ41_28 n M6) else (zJ41_32 n a0 M6)) | none => none)) | none => none
set_option maxRecDepth 100000 in
set_option maxHeartbeats 4000000 in
theorem zF41_r (n : Nat) {A0_ : Int32} {a0 : Int} (ha0 : rp A0_ a0) {M_ : Mem} {M : ZM} (gM : rm M_ M) {r : Int} {m' : ZM} (h : zF41 n a0 M = some (r, m')) : sI (F41 n A0_ M_) r m' := by
  unfold zF41 at h
  unfold F41
  cases hc1 : zF27 n 9 4 0 M with
  | none => rw [hc1] at h; cases h
  | some w =>
    obtain ⟨v1, M2⟩ := w
    rw [hc1] at h
    dsimp only at h
    obtain ⟨V1, NM2, ehc1, hv1, gM2⟩ := zF27_r n (show rp 9 9 from rfl) (show rp 4 4 from rfl) (show rp 0 0 from rfl) gM hc1
    rw [ehc1]
    dsimp only
    by_cases q2 : a0 = v1
    · rw [if_pos q2] at h
      rw [if_pos ((rp_eq ha0 hv1).mpr q2)]
      exact zJ41_64_r n (show rp 1 1 from rfl) gM2 h
    · rw [if_neg q2] at h
      rw [if_neg (fun z => q2 ((rp_eq ha0 hv1).mp z))]
      cases hc3 : zF27 n 14 21 13 M2 with
      | none => rw [hc3] at h; cases h
      | some w =>
        obtain ⟨v5, M6⟩ := w
        rw [hc3] at h
        dsimp only at h
        obtain ⟨V5, NM6, ehc3, hv5, gM6⟩ := zF27_r n (show rp 14 14 from rfl) (show rp 21 21 from rfl) (show rp 13 13 from rfl) gM2 hc3
        rw [ehc3]
        dsimp only
        by_cases q4 : a0 = v5
        · rw [if_pos q4] at h
          rw [if_pos ((rp_eq ha0 hv5).mpr q4)]
          exact zJ41_28_r n gM6 h
        · rw [if_neg q4] at h
          rw [if_neg (fun z => q4 ((rp_eq ha0 hv5).mp z))]
          exact zJ41_32_r n ha0 gM6 h
def zJ42_21 (n : Nat) (x2 : Int) (M : ZM) : Option (Int × ZM) :=
  match zF36 n 7 x2 M with | some (v6, M7) => (some (1, M7)) | none => none
set_option maxRecDepth 100000 in
set_option maxHeartbeats 4000000 in
theorem zJ42_21_r (n : Nat) {X2_ : Int32} {x2 : Int} (hx2 : rp X2_ x2) {M_ : Mem} {M : ZM} (gM : rm M_ M) {r : Int} {m' : ZM} (h : zJ42_21 n x2 M = some (r, m')) : sI (J42_21 n X2_ M_) r m' := by
  unfold zJ42_21 at h
  unfold J42_21
  cases hc1 : zF36 n 7 x2 M with
  | none => rw [hc1] at h; cases h
  | some w =>
    obtain ⟨v6, M7⟩ := w
    rw [hc1] at h
    dsimp only at h
    obtain ⟨NM7, ehc1, gM7⟩ := zF36_r n (show rp 7 7 from rfl) hx2 gM hc1
    rw [ehc1]
    dsimp only
    obtain ⟨rfl, rfl⟩ := Prod.mk.inj (Option.some.inj h)
    exact ⟨_, _, rfl, (show rp 1 1 from rfl), gM7⟩
def zJ42_82 (n : Nat) (s0 : Int) (M : ZM) : Option (Int × ZM) :=
  match zF30 n s0 M with | some (v24, M25) => (if v24 = 0 ∨ v24 = 1 then (some (v24, M25)) else (none)) | none => none
set_option maxRecDepth 100000 in
set_option maxHeartbeats 4000000 in
theorem zJ42_82_r (n : Nat) {S0_ : Int32} {s0 : Int} (hs0 : rp S0_ s0) {M_ : Mem} {M : ZM} (gM : rm M_ M) {r : Int} {m' : ZM} (h : zJ42_82 n s0 M = some (r, m')) : sI (J42_82 n S0_ M_) r m' := by
  unfold zJ42_82 at h
  unfold J42_82
  cases hc1 : zF30 n s0 M with
  | none => rw [hc1] at h; cases h
  | some w =>
    obtain ⟨v24, M25⟩ := w
    rw [hc1] at h
    dsimp only at h
    obtain ⟨V24, NM25, ehc1, hv24, gM25⟩ := zF30_r n hs0 gM hc1
    rw [ehc1]
    dsimp only
    by_cases q2 : v24 = 0 ∨ v24 = 1
    · rw [if_pos q2] at h
      rw [if_pos ((or_congr (rp_eq hv24 (show rp 0 0 from rfl)) (rp_eq hv24 (show rp 1 1 from rfl))).mpr q2)]
      obtain ⟨rfl, rfl⟩ := Prod.mk.inj (Option.some.inj h)
      exact ⟨_, _, rfl, hv24, gM25⟩
    · rw [if_neg q2] at h
      rw [if_neg (fun z => q2 ((or_congr (rp_eq hv24 (show rp 0 0 from rfl)) (rp_eq hv24 (show rp 1 1 from rfl))).mp z))]
      cases h
def zJ42_64 (n : Nat) (x2 : Int) (s0 : Int) (M : ZM) : Option (Int × ZM) :=
  match zF35 n 3 x2 s0 M with | some (v20, M21) => (if s0 ≤ 0 then (zJ42_82 n 0 M21) else (zJ42_82 n 1 M21)) | none => none
set_option maxRecDepth 100000 in
set_option maxHeartbeats 4000000 in
theorem zJ42_64_r (n : Nat) {X2_ : Int32} {x2 : Int} (hx2 : rp X2_ x2) {S0_ : Int32} {s0 : Int} (hs0 : rp S0_ s0) {M_ : Mem} {M : ZM} (gM : rm M_ M) {r : Int} {m' : ZM} (h : zJ42_64 n x2 s0 M = some (r, m')) : sI (J42_64 n X2_ S0_ M_) r m' := by
  unfold zJ42_64 at h
  unfold J42_64
  cases hc1 : zF35 n 3 x2 s0 M with
  | none => rw [hc1] at h; cases h
  | some w =>
    obtain ⟨v20, M21⟩ := w
    rw [hc1] at h
    dsimp only at h
    obtain ⟨NM21, ehc1, gM21⟩ := zF35_r n (show rp 3 3 from rfl) hx2 hs0 gM hc1
    rw [ehc1]
    dsimp only
    by_cases q2 : s0 ≤ 0
    · rw [if_pos q2] at h
      rw [if_pos ((rp_le hs0 (show rp 0 0 from rfl)).mpr q2)]
      exact zJ42_82_r n (show rp 0 0 from rfl) gM21 h
    · rw [if_neg q2] at h
      rw [if_neg (fun z => q2 ((rp_le hs0 (show rp 0 0 from rfl)).mp z))]
      exact zJ42_82_r n (show rp 1 1 from rfl) gM21 h
def zJ42_53 (n : Nat) (x2 : Int) (M : ZM) : Option (Int × ZM) :=
  match zF41 n (M.1 83 5) M with | some (v17, M18) => (zJ42_64 n x2 v17 M18) | none => none
set_option maxRecDepth 100000 in
set_option maxHeartbeats 4000000 in
theorem zJ42_53_r (n : Nat) {X2_ : Int32} {x2 : Int} (hx2 : rp X2_ x2) {M_ : Mem} {M : ZM} (gM : rm M_ M) {r : Int} {m' : ZM} (h : zJ42_53 n x2 M = some (r, m')) : sI (J42_53 n X2_ M_) r m' := by
  unfold zJ42_53 at h
  unfold J42_53
  cases hc1 : zF41 n (M.1 83 5) M with
  | none => rw [hc1] at h; cases h
  | some w =>
    obtain ⟨v17, M18⟩ := w
    rw [hc1] at h
    dsimp only at h
    obtain ⟨V17, NM18, ehc1, hv17, gM18⟩ := zF41_r n (rm_rd gM 83 5) gM hc1
    rw [ehc1]
    dsimp only
    exact zJ42_64_r n hx2 hv17 gM18 h
def zJ42_63 (n : Nat) (x2 : Int) (M : ZM) : Option (Int × ZM) :=
  zJ42_64 n x2 0 M
set_option maxRecDepth 100000 in
set_option maxHeartbeats 4000000 in
theorem zJ42_63_r (n : Nat) {X2_ : Int32} {x2 : Int} (hx2 : rp X2_ x2) {M_ : Mem} {M : ZM} (gM : rm M_ M) {r : Int} {m' : ZM} (h : zJ42_63 n x2 M = some (r, m')) : sI (J42_63 n X2_ M_) r m' := by
  unfold zJ42_63 at h
  unfold J42_63
  exact zJ42_64_r n hx2 (show rp 0 0 from rfl) gM h
def zJ42_30 (n : Nat) (x2 : Int) (M : ZM) : Option (Int × ZM) :=
  match zF31 n 58 M with | some (v9, M10) => (match zF30 n v9 M10 with | some (v12, M13) => (if v12 = 0 then (some (0, M13)) else (if (M13.1 83 4) = 1 then (zJ42_53 n x2 M13) else (zJ42_63 n x2 M13))) | none => none) | none => none
set_option maxRecDepth 100000 in
set_option maxHeartbeats 4000000 in
theorem zJ42_30_r (n : Nat) {X2_ : Int32} {x2 : Int} (hx2 : rp X2_ x2) {M_ : Mem} {M : ZM} (gM : rm M_ M) {r : Int} {m' : ZM} (h : zJ42_30 n x2 M = some (r, m')) : sI (J42_30 n X2_ M_) r m' := by
  unfold zJ42_30 at h
  unfold J42_30
  cases hc1 : zF31 n 58 M with
  | none => rw [hc1] at h; cases h
  | some w =>
    obtain ⟨v9, M10⟩ := w
    rw [hc1] at h
    dsimp only at h
    obtain ⟨V9, NM10, ehc1, hv9, gM10⟩ := zF31_r n (show rp 58 58 from rfl) gM hc1
    rw [ehc1]
    dsimp only
    cases hc2 : zF30 n v9 M10 with
    | none => rw [hc2] at h; cases h
    | some w =>
      obtain ⟨v12, M13⟩ := w
      rw [hc2] at h
      dsimp only at h
      obtain ⟨V12, NM13, ehc2, hv12, gM13⟩ := zF30_r n hv9 gM10 hc2
      rw [ehc2]
      dsimp only
      by_cases q3 : v12 = 0
      · rw [if_pos q3] at h
        rw [if_pos ((rp_eq hv12 (show rp 0 0 from rfl)).mpr q3)]
        obtain ⟨rfl, rfl⟩ := Prod.mk.inj (Option.some.inj h)
        exact ⟨_, _, rfl, (show rp 0 0 from rfl), gM13⟩
      · rw [if_neg q3] at h
        rw [if_neg (fun z => q3 ((rp_eq hv12 (show rp 0 0 from rfl)).mp z))]
        by_cases q4 : (M13.1 83 4) = 1
        · rw [if_pos q4] at h
          rw [if_pos ((rp_eq (rm_rd gM13 83 4) (show rp 1 1 from rfl)).mpr q4)]
          exact zJ42_53_r n hx2 gM13 h
        · rw [if_neg q4] at h
          rw [if_neg (fun z => q4 ((rp_eq (rm_rd gM13 83 4) (show rp 1 1 from rfl)).mp z))]
          exact zJ42_63_r n hx2 gM13 h
def zJ42_114 (n : Nat) (M : ZM) : Option (Int × ZM) :=
  match zF29 n M with | some (v32, M33) => (if v32 = 0 ∨ v32 = 1 then (some (v32, M33)) else (none)) | none => none
set_option maxRecDepth 100000 in
set_option maxHeartbeats 4000000 in
theorem zJ42_114_r (n : Nat) {M_ : Mem} {M : ZM} (gM : rm M_ M) {r : Int} {m' : ZM} (h : zJ42_114 n M = some (r, m')) : sI (J42_114 n M_) r m' := by
  unfold zJ42_114 at h
  unfold J42_114
  cases hc1 : zF29 n M with
  | none => rw [hc1] at h; cases h
  | some w =>
    obtain ⟨v32, M33⟩ := w
    rw [hc1] at h
    dsimp only at h
    obtain ⟨V32, NM33, ehc1, hv32, gM33⟩ := zF29_r n gM hc1
    rw [ehc1]
    dsimp only
    by_cases q2 : v32 = 0 ∨ v32 = 1
    · rw [if_pos q2] at h
      rw [if_pos ((or_congr (rp_eq hv32 (show rp 0 0 from rfl)) (rp_eq hv32 (show rp 1 1 from rfl))).mpr q2)]
      obtain ⟨rfl, rfl⟩ := Prod.mk.inj (Option.some.inj h)
      exact ⟨_, _, rfl, hv32, gM33⟩
    · rw [if_neg q2] at h
      rw [if_neg (fun z => q2 ((or_congr (rp_eq hv32 (show rp 0 0 from rfl)) (rp_eq hv32 (show rp 1 1 from rfl))).mp z))]
      cases h
def zJ42_142 (n : Nat) (M : ZM) : Option (Int × ZM) :=
  some (0, M)
set_option maxRecDepth 100000 in
set_option maxHeartbeats 4000000 in
theorem zJ42_142_r (n : Nat) {M_ : Mem} {M : ZM} (gM : rm M_ M) {r : Int} {m' : ZM} (h : zJ42_142 n M = some (r, m')) : sI (J42_142 n M_) r m' := by
  unfold zJ42_142 at h
  unfold J42_142
  obtain ⟨rfl, rfl⟩ := Prod.mk.inj (Option.some.inj h)
  exact ⟨_, _, rfl, (show rp 0 0 from rfl), gM⟩
def zJ42_164 (n : Nat) (x2 : Int) (M : ZM) : Option (Int × ZM) :=
  match zF38 n x2 M with | some (v47, M48) => (some (1, M48)) | none => none
set_option maxRecDepth 100000 in
set_option maxHeartbeats 4000000 in
theorem zJ42_164_r (n : Nat) {X2_ : Int32} {x2 : Int} (hx2 : rp X2_ x2) {M_ : Mem} {M : ZM} (gM : rm M_ M) {r : Int} {m' : ZM} (h : zJ42_164 n x2 M = some (r, m')) : sI (J42_164 n X2_ M_) r m' := by
  unfold zJ42_164 at h
  unfold J42_164
  cases hc1 : zF38 n x2 M with
  | none => rw [hc1] at h; cases h
  | some w =>
    obtain ⟨v47, M48⟩ := w
    rw [hc1] at h
    dsimp only at h
    obtain ⟨NM48, ehc1, gM48⟩ := zF38_r n hx2 gM hc1
    rw [ehc1]
    dsimp only
    obtain ⟨rfl, rfl⟩ := Prod.mk.inj (Option.some.inj h)
    exact ⟨_, _, rfl, (show rp 1 1 from rfl), gM48⟩
def zJ42_144 (n : Nat) (x1 : Int) (x2 : Int) (M : ZM) : Option (Int × ZM) :=
  if x1 = 0 then (match zF36 n 4 0 M with | some (v44, M45) => (zJ42_164 n x2 M45) | none => none) else (match zF35 n 4 0 0 M with | some (v50, M51) => (zJ42_164 n x2 M51) | none => none)
set_option maxRecDepth 100000 in
set_option maxHeartbeats 4000000 in
theorem zJ42_144_r (n : Nat) {X1_ : Int32} {x1 : Int} (hx1 : rp X1_ x1) {X2_ : Int32} {x2 : Int} (hx2 : rp X2_ x2) {M_ : Mem} {M : ZM} (gM : rm M_ M) {r : Int} {m' : ZM} (h : zJ42_144 n x1 x2 M = some (r, m')) : sI (J42_144 n X1_ X2_ M_) r m' := by
  unfold zJ42_144 at h
  unfold J42_144
  by_cases q1 : x1 = 0
  · rw [if_pos q1] at h
    rw [if_pos ((rp_eq hx1 (show rp 0 0 from rfl)).mpr q1)]
    cases hc2 : zF36 n 4 0 M with
    | none => rw [hc2] at h; cases h
    | some w =>
      obtain ⟨v44, M45⟩ := w
      rw [hc2] at h
      dsimp only at h
      obtain ⟨NM45, ehc2, gM45⟩ := zF36_r n (show rp 4 4 from rfl) (show rp 0 0 from rfl) gM hc2
      rw [ehc2]
      dsimp only
      exact zJ42_164_r n hx2 gM45 h
  · rw [if_neg q1] at h
    rw [if_neg (fun z => q1 ((rp_eq hx1 (show rp 0 0 from rfl)).mp z))]
    cases hc3 : zF35 n 4 0 0 M with
    | none => rw [hc3] at h; cases h
    | some w =>
      obtain ⟨v50, M51⟩ := w
      rw [hc3] at h
      dsimp only at h
      obtain ⟨NM51, ehc3, gM51⟩ := zF35_r n (show rp 4 4 from rfl) (show rp 0 0 from rfl) (show rp 0 0 from rfl) gM hc3
      rw [ehc3]
      dsimp only
      exact zJ42_164_r n hx2 gM51 h
def zJ42_119 (n : Nat) (x1 : Int) (M : ZM) : Option (Int × ZM) :=
  if rg ((M.1 83 33) + 1) then (zlet (z_i M 83 33 ((M.1 83 33) + 1)) (fun M38 => match zF37 n (M38.1 83 32) M38 with | some (v39, M40) => (if v39 = 0 then (zJ42_142 n M40) else (zJ42_144 n x1 (M38.1 83 32) M40)) | none => none)) else none
set_option maxRecDepth 100000 in
set_option maxHeartbeats 4000000 in
theorem zJ42_119_r (n : Nat) {X1_ : Int32} {x1 : Int} (hx1 : rp X1_ x1) {M_ : Mem} {M : ZM} (gM : rm M_ M) {r : Int} {m' : ZM} (h : zJ42_119 n x1 M = some (r, m')) : sI (J42_119 n X1_ M_) r m' := by
  unfold zJ42_119 at h
  unfold J42_119
  by_cases w1 : rg ((M.1 83 33) + 1)
  · rw [if_pos w1] at h
    have gM38 : rm (m_i M_ 83 33 ((M_.1 83 33) + (1 : Int32))) (z_i M 83 33 ((M.1 83 33) + 1)) := rm_i gM 83 33 (rp_add (rp_iz (rm_rd gM 83 33)) (rp_iz (show rp 1 1 from rfl)) w1)
    rw [mlet]
    rw [zlet] at h
    generalize z_i M 83 33 ((M.1 83 33) + 1) = M38 at h gM38
    generalize m_i M_ 83 33 ((M_.1 83 33) + (1 : Int32)) = NM38 at gM38 ⊢
    cases hc2 : zF37 n (M38.1 83 32) M38 with
    | none => rw [hc2] at h; cases h
    | some w =>
      obtain ⟨v39, M40⟩ := w
      rw [hc2] at h
      dsimp only at h
      obtain ⟨V39, NM40, ehc2, hv39, gM40⟩ := zF37_r n (rm_rd gM38 83 32) gM38 hc2
      rw [ehc2]
      dsimp only
      by_cases q3 : v39 = 0
      · rw [if_pos q3] at h
        rw [if_pos ((rp_eq hv39 (show rp 0 0 from rfl)).mpr q3)]
        exact zJ42_142_r n gM40 h
      · rw [if_neg q3] at h
        rw [if_neg (fun z => q3 ((rp_eq hv39 (show rp 0 0 from rfl)).mp z))]
        exact zJ42_144_r n hx1 (rm_rd gM38 83 32) gM40 h
  · rw [if_neg w1] at h
    cases h
def zJ42_102 (n : Nat) (x1 : Int) (M : ZM) : Option (Int × ZM) :=
  if x1 = 0 then (zJ42_119 n x1 M) else (if (M.1 83 33) < 4 then (zJ42_119 n x1 M) else (zJ42_114 n M))
set_option maxRecDepth 100000 in
set_option maxHeartbeats 4000000 in
theorem zJ42_102_r (n : Nat) {X1_ : Int32} {x1 : Int} (hx1 : rp X1_ x1) {M_ : Mem} {M : ZM} (gM : rm M_ M) {r : Int} {m' : ZM} (h : zJ42_102 n x1 M = some (r, m')) : sI (J42_102 n X1_ M_) r m' := by
  unfold zJ42_102 at h
  unfold J42_102
  by_cases q1 : x1 = 0
  · rw [if_pos q1] at h
    rw [if_pos ((rp_eq hx1 (show rp 0 0 from rfl)).mpr q1)]
    exact zJ42_119_r n hx1 gM h
  · rw [if_neg q1] at h
    rw [if_neg (fun z => q1 ((rp_eq hx1 (show rp 0 0 from rfl)).mp z))]
    by_cases q2 : (M.1 83 33) < 4
    · rw [if_pos q2] at h
      rw [if_pos ((rp_lt (rm_rd gM 83 33) (show rp 4 4 from rfl)).mpr q2)]
      exact zJ42_119_r n hx1 gM h
    · rw [if_neg q2] at h
      rw [if_neg (fun z => q2 ((rp_lt (rm_rd gM 83 33) (show rp 4 4 from rfl)).mp z))]
      exact zJ42_114_r n gM h
/-- ArmExpanderModel.readDollar -/
def zF42 (n : Nat) (a0 : Int) (M : ZM) : Option (Int × ZM) :=
  if (M.1 83 4) = 1 then (match zF28 n M with | some (v2, M3) => (if a0 = 0 then (zJ42_21 n (M.1 83 5) M3) else (zJ42_30 n (M.1 83 5) M3)) | none => none) else (match zF31 n 40 M with | some (v28, M29) => (if v28 = 0 then (zJ42_114 n M29) else (if 0 ≤ (M29.1 83 31) then (zJ42_114 n M29) else (zJ42_102 n a0 M29))) | none => none)
set_option maxRecDepth 100000 in
set_option maxHeartbeats 4000000 in
theorem zF42_r (n : Nat) {A0_ : Int32} {a0 : Int} (ha0 : rp A0_ a0) {M_ : Mem} {M : ZM} (gM : rm M_ M) {r : Int} {m' : ZM} (h : zF42 n a0 M = some (r, m')) : sI (F42 n A0_ M_) r m' := by
  unfold zF42 at h
  unfold F42
  by_cases q1 : (M.1 83 4) = 1
  · rw [if_pos q1] at h
    rw [if_pos ((rp_eq (rm_rd gM 83 4) (show rp 1 1 from rfl)).mpr q1)]
    cases hc2 : zF28 n M with
    | none => rw [hc2] at h; cases h
    | some w =>
      obtain ⟨v2, M3⟩ := w
      rw [hc2] at h
      dsimp only at h
      obtain ⟨NM3, ehc2, gM3⟩ := zF28_r n gM hc2
      rw [ehc2]
      dsimp only
      by_cases q3 : a0 = 0
      · rw [if_pos q3] at h
        rw [if_pos ((rp_eq ha0 (show rp 0 0 from rfl)).mpr q3)]
        exact zJ42_21_r n (rm_rd gM 83 5) gM3 h
      · rw [if_neg q3] at h
        rw [if_neg (fun z => q3 ((rp_eq ha0 (show rp 0 0 from rfl)).mp z))]
        exact zJ42_30_r n (rm_rd gM 83 5) gM3 h
  · rw [if_neg q1] at h
    rw [if_neg (fun z => q1 ((rp_eq (rm_rd gM 83 4) (show rp 1 1 from rfl)).mp z))]
    cases hc4 : zF31 n 40 M with
    | none => rw [hc4] at h; cases h
    | some w =>
      obtain ⟨v28, M29⟩ := w
      rw [hc4] at h
      dsimp only at h
      obtain ⟨V28, NM29, ehc4, hv28, gM29⟩ := zF31_r n (show rp 40 40 from rfl) gM hc4
      rw [ehc4]
      dsimp only
      by_cases q5 : v28 = 0
      · rw [if_pos q5] at h
        rw [if_pos ((rp_eq hv28 (show rp 0 0 from rfl)).mpr q5)]
        exact zJ42_114_r n gM29 h
      · rw [if_neg q5] at h
        rw [if_neg (fun z => q5 ((rp_eq hv28 (show rp 0 0 from rfl)).mp z))]
        by_cases q6 : 0 ≤ (M29.1 83 31)
        · rw [if_pos q6] at h
          rw [if_pos ((rp_le (show rp 0 0 from rfl) (rm_rd gM29 83 31)).mpr q6)]
          exact zJ42_114_r n gM29 h
        · rw [if_neg q6] at h
          rw [if_neg (fun z => q6 ((rp_le (show rp 0 0 from rfl) (rm_rd gM29 83 31)).mp z))]
          exact zJ42_102_r n ha0 gM29 h
def zJ43_185 (n : Nat) (M : ZM) : Option (Int × ZM) :=
  some (1, M)
set_option maxRecDepth 100000 in
set_option maxHeartbeats 4000000 in
theorem zJ43_185_r (n : Nat) {M_ : Mem} {M : ZM} (gM : rm M_ M) {r : Int} {m' : ZM} (h : zJ43_185 n M = some (r, m')) : sI (J43_185 n M_) r m' := by
  unfold zJ43_185 at h
  unfold J43_185
  obtain ⟨rfl, rfl⟩ := Prod.mk.inj (Option.some.inj h)
  exact ⟨_, _, rfl, (show rp 1 1 from rfl), gM⟩
def zJ43_177 (n : Nat) (x2 : Int) (x5 : Int) (M : ZM) : Option (Int × ZM) :=
  if x2 < 0 ∨ 128 ≤ x2 then (none) else (zlet (z_i M 99 (Int.toNat x2) x5) (fun M23 => zJ43_185 n M23))
set_option maxRecDepth 100000 in
set_option maxHeartbeats 4000000 in
theorem zJ43_177_r (n : Nat) {X2_ : Int32} {x2 : Int} (hx2 : rp X2_ x2) {X5_ : Int32} {x5 : Int} (hx5 : rp X5_ x5) {M_ : Mem} {M : ZM} (gM : rm M_ M) {r : Int} {m' : ZM} (h : zJ43_177 n x2 x5 M = some (r, m')) : sI (J43_177 n X2_ X5_ M_) r m' := by
  unfold zJ43_177 at h
  unfold J43_177
  by_cases q1 : x2 < 0 ∨ 128 ≤ x2
  · rw [if_pos q1] at h
    rw [if_pos ((rp_ob hx2 128).mpr q1)]
    cases h
  · rw [if_neg q1] at h
    rw [if_neg (fun z => q1 ((rp_ob hx2 128).mp z))]
    have gM23 : rm (m_i M_ 99 (X2_).toNatClampNeg X5_) (z_i M 99 (Int.toNat x2) x5) := rm_ix gM 99 hx2 hx5
    rw [mlet]
    rw [zlet] at h
    generalize z_i M 99 (Int.toNat x2) x5 = M23 at h gM23
    generalize m_i M_ 99 (X2_).toNatClampNeg X5_ = NM23 at gM23 ⊢
    exact zJ43_185_r n gM23 h
def zJ43_150 (n : Nat) (x2 : Int) (x4 : Int) (x5 : Int) (M : ZM) : Option (Int × ZM) :=
  match zF36 n 5 0 M with | some (v15, M16) => (if x5 < 0 ∨ 128 ≤ x5 then (none) else (zlet (z_i M16 99 (Int.toNat x5) x2) (fun M19 => if rg (Int.tdiv x4 256) then (zlet (z_i M19 100 (Int.toNat x5) (Int.tdiv x4 256)) (fun M21 => zJ43_177 n x2 x5 M21)) else none))) | none => none
set_option maxRecDepth 100000 in
set_option maxHeartbeats 4000000 in
theorem zJ43_150_r (n : Nat) {X2_ : Int32} {x2 : Int} (hx2 : rp X2_ x2) {X4_ : Int32} {x4 : Int} (hx4 : rp X4_ x4) {X5_ : Int32} {x5 : Int} (hx5 : rp X5_ x5) {M_ : Mem} {M : ZM} (gM : rm M_ M) {r : Int} {m' : ZM} (h : zJ43_150 n x2 x4 x5 M = some (r, m')) : sI (J43_150 n X2_ X4_ X5_ M_) r m' := by
  unfold zJ43_150 at h
  unfold J43_150
  cases hc1 : zF36 n 5 0 M with
  | none => rw [hc1] at h; cases h
  | some w =>
    obtain ⟨v15, M16⟩ := w
    rw [hc1] at h
    dsimp only at h
    obtain ⟨NM16, ehc1, gM16⟩ := zF36_r n (show rp 5 5 from rfl) (show rp 0 0 from rfl) gM hc1
    rw [ehc1]
    dsimp only
    by_cases q2 : x5 < 0 ∨ 128 ≤ x5
    · rw [if_pos q2] at h
      rw [if_pos ((rp_ob hx5 128).mpr q2)]
      cases h
    · rw [if_neg q2] at h
      rw [if_neg (fun z => q2 ((rp_ob hx5 128).mp z))]
      have gM19 : rm (m_i NM16 99 (X5_).toNatClampNeg X2_) (z_i M16 99 (Int.toNat x5) x2) := rm_ix gM16 99 hx5 hx2
      rw [mlet]
      rw [zlet] at h
      generalize z_i M16 99 (Int.toNat x5) x2 = M19 at h gM19
      generalize m_i NM16 99 (X5_).toNatClampNeg X2_ = NM19 at gM19 ⊢
      rw [if_neg (fun z => q2 ((rp_ob hx5 128).mp z))]
      by_cases w3 : rg (Int.tdiv x4 256)
      · rw [if_pos w3] at h
        have gM21 : rm (m_i NM19 100 (X5_).toNatClampNeg (X4_ / (256 : Int32))) (z_i M19 100 (Int.toNat x5) (Int.tdiv x4 256)) := rm_ix gM19 100 hx5 (rp_div hx4 (show rp 256 256 from rfl) (by decide))
        rw [mlet]
        rw [zlet] at h
        generalize z_i M19 100 (Int.toNat x5) (Int.tdiv x4 256) = M21 at h gM21
        generalize m_i NM19 100 (X5_).toNatClampNeg (X4_ / (256 : Int32)) = NM21 at gM21 ⊢
        exact zJ43_177_r n hx2 hx5 gM21 h
      · rw [if_neg w3] at h
        cases h
def zJ43_135 (n : Nat) (x2 : Int) (x4 : Int) (M : ZM) : Option (Int × ZM) :=
  if x2 < 0 ∨ 128 ≤ x2 then (none) else (if rg (x4 - ((Int.tdiv x4 256) * 256)) then (zlet (z_i M 94 (Int.toNat x2) (x4 - ((Int.tdiv x4 256) * 256))) (fun M36 => zJ43_185 n M36)) else none)
set_option maxRecDepth 100000 in
set_option maxHeartbeats 4000000 in
theorem zJ43_135_r (n : Nat) {X2_ : Int32} {x2 : Int} (hx2 : rp X2_ x2) {X4_ : Int32} {x4 : Int} (hx4 : rp X4_ x4) {M_ : Mem} {M : ZM} (gM : rm M_ M) {r : Int} {m' : ZM} (h : zJ43_135 n x2 x4 M = some (r, m')) : sI (J43_135 n X2_ X4_ M_) r m' := by
  unfold zJ43_135 at h
  unfold J43_135
  by_cases q1 : x2 < 0 ∨ 128 ≤ x2
  · rw [if_pos q1] at h
    rw [if_pos ((rp_ob hx2 128).mpr q1)]
    cases h
  · rw [if_neg q1] at h
    rw [if_neg (fun z => q1 ((rp_ob hx2 128).mp z))]
    by_cases w2 : rg (x4 - ((Int.tdiv x4 256) * 256))
    · rw [if_pos w2] at h
      have gM36 : rm (m_i M_ 94 (X2_).toNatClampNeg (X4_ - ((X4_ / (256 : Int32)) * (256 : Int32)))) (z_i M 94 (Int.toNat x2) (x4 - ((Int.tdiv x4 256) * 256))) := rm_ix gM 94 hx2 (rp_sub (rp_iz hx4) (rw_mul (rp_iz (rp_div hx4 (show rp 256 256 from rfl) (by decide))) (rp_iz (show rp 256 256 from rfl))) w2)
      rw [mlet]
      rw [zlet] at h
      generalize z_i M 94 (Int.toNat x2) (x4 - ((Int.tdiv x4 256) * 256)) = M36 at h gM36
      generalize m_i M_ 94 (X2_).toNatClampNeg (X4_ - ((X4_ / (256 : Int32)) * (256 : Int32))) = NM36 at gM36 ⊢
      exact zJ43_185_r n gM36 h
    · rw [if_neg w2] at h
      cases h
def zJ43_115 (n : Nat) (x2 : Int) (x4 : Int) (x5 : Int) (M : ZM) : Option (Int × ZM) :=
  if x2 < 0 ∨ 128 ≤ x2 then (none) else (zlet (z_i M 92 (Int.toNat x2) x5) (fun M32 => if rg (Int.tdiv x4 256) then (zlet (z_i M32 93 (Int.toNat x2) (Int.tdiv x4 256)) (fun M34 => zJ43_135 n x2 x4 M34)) else none))
set_option maxRecDepth 100000 in
set_option maxHeartbeats 4000000 in
theorem zJ43_115_r (n : Nat) {X2_ : Int32} {x2 : Int} (hx2 : rp X2_ x2) {X4_ : Int32} {x4 : Int} (hx4 : rp X4_ x4) {X5_ : Int32} {x5 : Int} (hx5 : rp X5_ x5) {M_ : Mem} {M : ZM} (gM : rm M_ M) {r : Int} {m' : ZM} (h : zJ43_115 n x2 x4 x5 M = some (r, m')) : sI (J43_115 n X2_ X4_ X5_ M_) r m' := by
  unfold zJ43_115 at h
  unfold J43_115
  by_cases q1 : x2 < 0 ∨ 128 ≤ x2
  · rw [if_pos q1] at h
    rw [if_pos ((rp_ob hx2 128).mpr q1)]
    cases h
  · rw [if_neg q1] at h
    rw [if_neg (fun z => q1 ((rp_ob hx2 128).mp z))]
    have gM32 : rm (m_i M_ 92 (X2_).toNatClampNeg X5_) (z_i M 92 (Int.toNat x2) x5) := rm_ix gM 92 hx2 hx5
    rw [mlet]
    rw [zlet] at h
    generalize z_i M 92 (Int.toNat x2) x5 = M32 at h gM32
    generalize m_i M_ 92 (X2_).toNatClampNeg X5_ = NM32 at gM32 ⊢
    rw [if_neg (fun z => q1 ((rp_ob hx2 128).mp z))]
    by_cases w2 : rg (Int.tdiv x4 256)
    · rw [if_pos w2] at h
      have gM34 : rm (m_i NM32 93 (X2_).toNatClampNeg (X4_ / (256 : Int32))) (z_i M32 93 (Int.toNat x2) (Int.tdiv x4 256)) := rm_ix gM32 93 hx2 (rp_div hx4 (show rp 256 256 from rfl) (by decide))
      rw [mlet]
      rw [zlet] at h
      generalize z_i M32 93 (Int.toNat x2) (Int.tdiv x4 256) = M34 at h gM34
      generalize m_i NM32 93 (X2_).toNatClampNeg (X4_ / (256 : Int32)) = NM34 at gM34 ⊢
      exact zJ43_135_r n hx2 hx4 gM34 h
    · rw [if_neg w2] at h
      cases h
