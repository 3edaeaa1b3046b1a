/-! The methods over whole numbers; written by program. -/
def zJ73_77 (n : Nat) (zrec36 : Int → Int → ZM → Option (Unit × ZM)) (x2 : Int) (x3 : Int) (M : ZM) : Option (Unit × ZM) :=
  if x3 < 0 ∨ 128 ≤ x3 then (none) else (match zF72 n (M.1 95 (Int.toNat x3)) M with | some (v14, M15) => (if (M.1 83 56) < 0 ∨ 160 ≤ (M.1 83 56) then (none) else (zlet (z_i M15 123 (Int.toNat (M.1 83 56)) v14) (fun M18 => zJ73_96 n zrec36 x2 x3 M18))) | none => none)
set_option maxRecDepth 100000 in
set_option maxHeartbeats 4000000 in
theorem zJ73_77_r (n : Nat) (rec36 : Int32 → Int32 → Mem → Option (Unit × Mem)) (zrec36 : Int → Int → ZM → Option (Unit × ZM)) (hrec36 : ∀ {Y1 : Int32} {y1 : Int} (_ : rp Y1 y1) {Y2 : Int32} {y2 : Int} (_ : rp Y2 y2) {M : Mem} {m : ZM} (_ : rm M m) {r : Unit} {m' : ZM} (_ : zrec36 y1 y2 m = some (r, m')), sU (rec36 Y1 Y2 M) m') {X2_ : Int32} {x2 : Int} (hx2 : rp X2_ x2) {X3_ : Int32} {x3 : Int} (hx3 : rp X3_ x3) {M_ : Mem} {M : ZM} (gM : rm M_ M) {r : Unit} {m' : ZM} (h : zJ73_77 n zrec36 x2 x3 M = some (r, m')) : sU (J73_77 n rec36 X2_ X3_ M_) m' := by
  unfold zJ73_77 at h
  unfold J73_77
  by_cases q1 : x3 < 0 ∨ 128 ≤ x3
  · rw [if_pos q1] at h
    rw [if_pos ((rp_ob hx3 128).mpr q1)]
    cases h
  · rw [if_neg q1] at h
    rw [if_neg (fun z => q1 ((rp_ob hx3 128).mp z))]
    cases hc2 : zF72 n (M.1 95 (Int.toNat x3)) M with
    | none => rw [hc2] at h; cases h
    | some w =>
      obtain ⟨v14, M15⟩ := w
      rw [hc2] at h
      dsimp only at h
      obtain ⟨V14, NM15, ehc2, hv14, gM15⟩ := zF72_r n (rm_rdx gM 95 hx3) gM hc2
      rw [ehc2]
      dsimp only
      by_cases q3 : (M.1 83 56) < 0 ∨ 160 ≤ (M.1 83 56)
      · rw [if_pos q3] at h
        rw [if_pos ((rp_ob (rm_rd gM 83 56) 160).mpr q3)]
        cases h
      · rw [if_neg q3] at h
        rw [if_neg (fun z => q3 ((rp_ob (rm_rd gM 83 56) 160).mp z))]
        have gM18 : rm (m_i NM15 123 ((M_.1 83 56)).toNatClampNeg V14) (z_i M15 123 (Int.toNat (M.1 83 56)) v14) := rm_ix gM15 123 (rm_rd gM 83 56) hv14
        rw [mlet]
        rw [zlet] at h
        generalize z_i M15 123 (Int.toNat (M.1 83 56)) v14 = M18 at h gM18
        generalize m_i NM15 123 ((M_.1 83 56)).toNatClampNeg V14 = NM18 at gM18 ⊢
        exact zJ73_96_r n _ _ hrec36 hx2 hx3 gM18 h
def zJ73_57 (n : Nat) (zrec36 : Int → Int → ZM → Option (Unit × ZM)) (x2 : Int) (x3 : Int) (M : ZM) : Option (Unit × ZM) :=
  if x3 < 0 ∨ 128 ≤ x3 then (none) else (if (M.1 90 (Int.toNat x3)) = 3 then (if (M.1 83 56) < 0 ∨ 160 ≤ (M.1 83 56) then (none) else (zlet (z_i M 122 (Int.toNat (M.1 83 56)) x3) (fun M12 => zJ73_77 n zrec36 x2 x3 M12))) else (zJ73_155 n zrec36 x2 x3 M))
set_option maxRecDepth 100000 in
set_option maxHeartbeats 4000000 in
theorem zJ73_57_r (n : Nat) (rec36 : Int32 → Int32 → Mem → Option (Unit × Mem)) (zrec36 : Int → Int → ZM → Option (Unit × ZM)) (hrec36 : ∀ {Y1 : Int32} {y1 : Int} (_ : rp Y1 y1) {Y2 : Int32} {y2 : Int} (_ : rp Y2 y2) {M : Mem} {m : ZM} (_ : rm M m) {r : Unit} {m' : ZM} (_ : zrec36 y1 y2 m = some (r, m')), sU (rec36 Y1 Y2 M) m') {X2_ : Int32} {x2 : Int} (hx2 : rp X2_ x2) {X3_ : Int32} {x3 : Int} (hx3 : rp X3_ x3) {M_ : Mem} {M : ZM} (gM : rm M_ M) {r : Unit} {m' : ZM} (h : zJ73_57 n zrec36 x2 x3 M = some (r, m')) : sU (J73_57 n rec36 X2_ X3_ M_) m' := by
  unfold zJ73_57 at h
  unfold J73_57
  by_cases q1 : x3 < 0 ∨ 128 ≤ x3
  · rw [if_pos q1] at h
    rw [if_pos ((rp_ob hx3 128).mpr q1)]
    cases h
  · rw [if_neg q1] at h
    rw [if_neg (fun z => q1 ((rp_ob hx3 128).mp z))]
    by_cases q2 : (M.1 90 (Int.toNat x3)) = 3
    · rw [if_pos q2] at h
      rw [if_pos ((rp_eq (rm_rdx gM 90 hx3) (show rp 3 3 from rfl)).mpr q2)]
      by_cases q3 : (M.1 83 56) < 0 ∨ 160 ≤ (M.1 83 56)
      · rw [if_pos q3] at h
        rw [if_pos ((rp_ob (rm_rd gM 83 56) 160).mpr q3)]
        cases h
      · rw [if_neg q3] at h
        rw [if_neg (fun z => q3 ((rp_ob (rm_rd gM 83 56) 160).mp z))]
        have gM12 : rm (m_i M_ 122 ((M_.1 83 56)).toNatClampNeg X3_) (z_i M 122 (Int.toNat (M.1 83 56)) x3) := rm_ix gM 122 (rm_rd gM 83 56) hx3
        rw [mlet]
        rw [zlet] at h
        generalize z_i M 122 (Int.toNat (M.1 83 56)) x3 = M12 at h gM12
        generalize m_i M_ 122 ((M_.1 83 56)).toNatClampNeg X3_ = NM12 at gM12 ⊢
        exact zJ73_77_r n _ _ hrec36 hx2 hx3 gM12 h
    · rw [if_neg q2] at h
      rw [if_neg (fun z => q2 ((rp_eq (rm_rdx gM 90 hx3) (show rp 3 3 from rfl)).mp z))]
      exact zJ73_155_r n _ _ hrec36 hx2 hx3 gM h
def zL73_36 (n : Nat) : Nat → Int → Int → ZM → Option (Unit × ZM)
  | 0, _, _, _ => none
  | k + 1, x1, x2, M => if (M.1 83 40) < x2 then (some ((), M)) else (if x2 < 0 ∨ 162 ≤ x2 then (none) else (match zF71 n x1 (M.1 116 (Int.toNat x2)) M with | some (v6, M7) => (zJ73_57 n (zL73_36 n k) x2 (M.1 116 (Int.toNat x2)) M7) | none => none))
set_option maxRecDepth 100000 in
set_option maxHeartbeats 4000000 in
theorem zL73_36_r (n : Nat) : ∀ (k : Nat) {X1_ : Int32} {x1 : Int} (hx1 : rp X1_ x1) {X2_ : Int32} {x2 : Int} (hx2 : rp X2_ x2) {M_ : Mem} {M : ZM} (gM : rm M_ M) {r : Unit} {m' : ZM} (_ : zL73_36 n k x1 x2 M = some (r, m')), sU (L73_36 n k X1_ X2_ M_) m' := by
  intro k
  induction k with
  | zero => intro X1_ x1 hx1 X2_ x2 hx2 M_ M gM r m' h; cases h
  | succ k ih =>
    intro X1_ x1 hx1 X2_ x2 hx2 M_ M gM r m' h
    rw [zL73_36] at h
    rw [L73_36]
    by_cases q1 : (M.1 83 40) < x2
    · rw [if_pos q1] at h
      rw [if_pos ((rp_lt (rm_rd gM 83 40) hx2).mpr q1)]
      obtain ⟨_, rfl⟩ := Prod.mk.inj (Option.some.inj h)
      exact ⟨_, rfl, gM⟩
    · rw [if_neg q1] at h
      rw [if_neg (fun z => q1 ((rp_lt (rm_rd gM 83 40) hx2).mp z))]
      by_cases q2 : x2 < 0 ∨ 162 ≤ x2
      · rw [if_pos q2] at h
        rw [if_pos ((rp_ob hx2 162).mpr q2)]
        cases h
      · rw [if_neg q2] at h
        rw [if_neg (fun z => q2 ((rp_ob hx2 162).mp z))]
        cases hc3 : zF71 n x1 (M.1 116 (Int.toNat x2)) M with
        | none => rw [hc3] at h; cases h
        | some w =>
          obtain ⟨v6, M7⟩ := w
          rw [hc3] at h
          dsimp only at h
          obtain ⟨NM7, ehc3, gM7⟩ := zF71_r n hx1 (rm_rdx gM 116 hx2) gM hc3
          rw [ehc3]
          dsimp only
          exact zJ73_57_r n _ _ ih hx2 (rm_rdx gM 116 hx2) gM7 h
def zL73_2 (n : Nat) : Nat → Int → ZM → Option (Unit × ZM)
  | 0, _, _ => none
  | k + 1, x1, M => if 128 ≤ x1 then (zlet (z_i M 83 52 0) (fun M2 => zlet (z_i M2 83 56 0) (fun M3 => zL73_36 n n 0 0 M3))) else (if x1 < 0 ∨ 128 ≤ x1 then (none) else (zlet (z_i M 118 (Int.toNat x1) 0) (fun M42 => if rg (x1 + 1) then ((zL73_2 n k) (x1 + 1) M42) else none)))
set_option maxRecDepth 100000 in
set_option maxHeartbeats 4000000 in
theorem zL73_2_r (n : Nat) : ∀ (k : Nat) {X1_ : Int32} {x1 : Int} (hx1 : rp X1_ x1) {M_ : Mem} {M : ZM} (gM : rm M_ M) {r : Unit} {m' : ZM} (_ : zL73_2 n k x1 M = some (r, m')), sU (L73_2 n k X1_ M_) m' := by
  intro k
  induction k with
  | zero => intro X1_ x1 hx1 M_ M gM r m' h; cases h
  | succ k ih =>
    intro X1_ x1 hx1 M_ M gM r m' h
    rw [zL73_2] at h
    rw [L73_2]
    by_cases q1 : 128 ≤ x1
    · rw [if_pos q1] at h
      rw [if_pos ((rp_le (show rp 128 128 from rfl) hx1).mpr q1)]
      have gM2 : rm (m_i M_ 83 52 (0 : Int32)) (z_i M 83 52 0) := rm_i gM 83 52 (show rp 0 0 from rfl)
      rw [mlet]
      rw [zlet] at h
      generalize z_i M 83 52 0 = M2 at h gM2
      generalize m_i M_ 83 52 (0 : Int32) = NM2 at gM2 ⊢
      have gM3 : rm (m_i NM2 83 56 (0 : Int32)) (z_i M2 83 56 0) := rm_i gM2 83 56 (show rp 0 0 from rfl)
      rw [mlet]
      rw [zlet] at h
      generalize z_i M2 83 56 0 = M3 at h gM3
      generalize m_i NM2 83 56 (0 : Int32) = NM3 at gM3 ⊢
      exact zL73_36_r n n (show rp 0 0 from rfl) (show rp 0 0 from rfl) gM3 h
    · rw [if_neg q1] at h
      rw [if_neg (fun z => q1 ((rp_le (show rp 128 128 from rfl) hx1).mp z))]
      by_cases q2 : x1 < 0 ∨ 128 ≤ x1
      · rw [if_pos q2] at h
        rw [if_pos ((rp_ob hx1 128).mpr q2)]
        cases h
      · rw [if_neg q2] at h
        rw [if_neg (fun z => q2 ((rp_ob hx1 128).mp z))]
        have gM42 : rm (m_i M_ 118 (X1_).toNatClampNeg (0 : Int32)) (z_i M 118 (Int.toNat x1) 0) := rm_ix gM 118 hx1 (show rp 0 0 from rfl)
        rw [mlet]
        rw [zlet] at h
        generalize z_i M 118 (Int.toNat x1) 0 = M42 at h gM42
        generalize m_i M_ 118 (X1_).toNatClampNeg (0 : Int32) = NM42 at gM42 ⊢
        by_cases w3 : rg (x1 + 1)
        · rw [if_pos w3] at h
          exact ih (rp_add (rp_iz hx1) (rp_iz (show rp 1 1 from rfl)) w3) gM42 h
        · rw [if_neg w3] at h
          cases h
/-- ArmExpanderModel.follow -/
def zF73 (n : Nat) (M : ZM) : Option (Unit × ZM) :=
  zL73_2 n n 0 M
set_option maxRecDepth 100000 in
set_option maxHeartbeats 4000000 in
theorem zF73_r (n : Nat) {M_ : Mem} {M : ZM} (gM : rm M_ M) {r : Unit} {m' : ZM} (h : zF73 n M = some (r, m')) : sU (F73 n M_) m' := by
  unfold zF73 at h
  unfold F73
  exact zL73_2_r n n (show rp 0 0 from rfl) gM h
def zJ74_30 (n : Nat) (M : ZM) : Option (Unit × ZM) :=
  if rg ((M.1 83 62) + 1) then (zlet (z_i M 83 62 ((M.1 83 62) + 1)) (fun M2 => some ((), M2))) else none
set_option maxRecDepth 100000 in
set_option maxHeartbeats 4000000 in
theorem zJ74_30_r (n : Nat) {M_ : Mem} {M : ZM} (gM : rm M_ M) {r : Unit} {m' : ZM} (h : zJ74_30 n M = some (r, m')) : sU (J74_30 n M_) m' := by
  unfold zJ74_30 at h
  unfold J74_30
  by_cases w1 : rg ((M.1 83 62) + 1)
  · rw [if_pos w1] at h
    have gM2 : rm (m_i M_ 83 62 ((M_.1 83 62) + (1 : Int32))) (z_i M 83 62 ((M.1 83 62) + 1)) := rm_i gM 83 62 (rp_add (rp_iz (rm_rd gM 83 62)) (rp_iz (show rp 1 1 from rfl)) w1)
    rw [mlet]
    rw [zlet] at h
    generalize z_i M 83 62 ((M.1 83 62) + 1) = M2 at h gM2
    generalize m_i M_ 83 62 ((M_.1 83 62) + (1 : Int32)) = NM2 at gM2 ⊢
    obtain ⟨_, rfl⟩ := Prod.mk.inj (Option.some.inj h)
    exact ⟨_, rfl, gM2⟩
  · rw [if_neg w1] at h
    cases h
def zJ74_20 (n : Nat) (x2 : Int) (M : ZM) : Option (Unit × ZM) :=
  if (M.1 83 62) < 0 ∨ 160 ≤ (M.1 83 62) then (none) else (zlet (z_i M 128 (Int.toNat (M.1 83 62)) x2) (fun M6 => zJ74_30 n M6))
set_option maxRecDepth 100000 in
set_option maxHeartbeats 4000000 in
theorem zJ74_20_r (n : Nat) {X2_ : Int32} {x2 : Int} (hx2 : rp X2_ x2) {M_ : Mem} {M : ZM} (gM : rm M_ M) {r : Unit} {m' : ZM} (h : zJ74_20 n x2 M = some (r, m')) : sU (J74_20 n X2_ M_) m' := by
  unfold zJ74_20 at h
  unfold J74_20
  by_cases q1 : (M.1 83 62) < 0 ∨ 160 ≤ (M.1 83 62)
  · rw [if_pos q1] at h
    rw [if_pos ((rp_ob (rm_rd gM 83 62) 160).mpr q1)]
    cases h
  · rw [if_neg q1] at h
    rw [if_neg (fun z => q1 ((rp_ob (rm_rd gM 83 62) 160).mp z))]
    have gM6 : rm (m_i M_ 128 ((M_.1 83 62)).toNatClampNeg X2_) (z_i M 128 (Int.toNat (M.1 83 62)) x2) := rm_ix gM 128 (rm_rd gM 83 62) hx2
    rw [mlet]
    rw [zlet] at h
    generalize z_i M 128 (Int.toNat (M.1 83 62)) x2 = M6 at h gM6
    generalize m_i M_ 128 ((M_.1 83 62)).toNatClampNeg X2_ = NM6 at gM6 ⊢
    exact zJ74_30_r n gM6 h
/-- ArmExpanderModel.make -/
def zF74 (n : Nat) (a0 : Int) (a1 : Int) (M : ZM) : Option (Unit × ZM) :=
  if 160 ≤ (M.1 83 62) then (zJ74_30 n M) else (if (M.1 83 62) < 0 ∨ 160 ≤ (M.1 83 62) then (none) else (zlet (z_i M 127 (Int.toNat (M.1 83 62)) a0) (fun M4 => zJ74_20 n a1 M4)))
set_option maxRecDepth 100000 in
set_option maxHeartbeats 4000000 in
theorem zF74_r (n : Nat) {A0_ : Int32} {a0 : Int} (ha0 : rp A0_ a0) {A1_ : Int32} {a1 : Int} (ha1 : rp A1_ a1) {M_ : Mem} {M : ZM} (gM : rm M_ M) {r : Unit} {m' : ZM} (h : zF74 n a0 a1 M = some (r, m')) : sU (F74 n A0_ A1_ M_) m' := by
  unfold zF74 at h
  unfold F74
  by_cases q1 : 160 ≤ (M.1 83 62)
  · rw [if_pos q1] at h
    rw [if_pos ((rp_le (show rp 160 160 from rfl) (rm_rd gM 83 62)).mpr q1)]
    exact zJ74_30_r n gM h
  · rw [if_neg q1] at h
    rw [if_neg (fun z => q1 ((rp_le (show rp 160 160 from rfl) (rm_rd gM 83 62)).mp z))]
    by_cases q2 : (M.1 83 62) < 0 ∨ 160 ≤ (M.1 83 62)
    · rw [if_pos q2] at h
      rw [if_pos ((rp_ob (rm_rd gM 83 62) 160).mpr q2)]
      cases h
    · rw [if_neg q2] at h
      rw [if_neg (fun z => q2 ((rp_ob (rm_rd gM 83 62) 160).mp z))]
      have gM4 : rm (m_i M_ 127 ((M_.1 83 62)).toNatClampNeg A0_) (z_i M 127 (Int.toNat (M.1 83 62)) a0) := rm_ix gM 127 (rm_rd gM 83 62) ha0
      rw [mlet]
      rw [zlet] at h
      generalize z_i M 127 (Int.toNat (M.1 83 62)) a0 = M4 at h gM4
      generalize m_i M_ 127 ((M_.1 83 62)).toNatClampNeg A0_ = NM4 at gM4 ⊢
      exact zJ74_20_r n ha1 gM4 h
def zJ75_192 (n : Nat) (zrec3 : Int → Int → Int → Int → Int → ZM → Option (Unit × ZM)) (x1 : Int) (x2 : Int) (x3 : Int) (x4 : Int) (x5 : Int) (M : ZM) : Option (Unit × ZM) :=
  if rg (x5 + 1) then (zrec3 x1 x2 x3 x4 (x5 + 1) M) else none
set_option maxRecDepth 100000 in
set_option maxHeartbeats 4000000 in
theorem zJ75_192_r (n : Nat) (rec3 : Int32 → Int32 → Int32 → Int32 → Int32 → Mem → Option (Unit × Mem)) (zrec3 : Int → Int → Int → Int → Int → ZM → Option (Unit × ZM)) (hrec3 : ∀ {Y1 : Int32} {y1 : Int} (_ : rp Y1 y1) {Y2 : Int32} {y2 : Int} (_ : rp Y2 y2) {Y3 : Int32} {y3 : Int} (_ : rp Y3 y3) {Y4 : Int32} {y4 : Int} (_ : rp Y4 y4) {Y5 : Int32} {y5 : Int} (_ : rp Y5 y5) {M : Mem} {m : ZM} (_ : rm M m) {r : Unit} {m' : ZM} (_ : zrec3 y1 y2 y3 y4 y5 m = some (r, m')), sU (rec3 Y1 Y2 Y3 Y4 Y5 M) m') {X1_ : Int32} {x1 : Int} (hx1 : rp X1_ x1) {X2_ : Int32} {x2 : Int} (hx2 : rp X2_ x2) {X3_ : Int32} {x3 : Int} (hx3 : rp X3_ x3) {X4_ : Int32} {x4 : Int} (hx4 : rp X4_ x4) {X5_ : Int32} {x5 : Int} (hx5 : rp X5_ x5) {M_ : Mem} {M : ZM} (gM : rm M_ M) {r : Unit} {m' : ZM} (h : zJ75_192 n zrec3 x1 x2 x3 x4 x5 M = some (r, m')) : sU (J75_192 n rec3 X1_ X2_ X3_ X4_ X5_ M_) m' := by
  unfold zJ75_192 at h
  unfold J75_192
  by_cases w1 : rg (x5 + 1)
  · rw [if_pos w1] at h
    exact hrec3 hx1 hx2 hx3 hx4 (rp_add (rp_iz hx5) (rp_iz (show rp 1 1 from rfl)) w1) gM h
  · rw [if_neg w1] at h
    cases h
def zJ75_174 (n : Nat) (zrec3 : Int → Int → Int → Int → Int → ZM → Option (Unit × ZM)) (x1 : Int) (x2 : Int) (x3 : Int) (x4 : Int) (x5 : Int) (x6 : Int) (x7 : Int) (M : ZM) : Option (Unit × ZM) :=
  if x6 = 0 then (zJ75_192 n zrec3 x1 x2 x3 x4 x5 M) else (if x7 = 0 then (zJ75_192 n zrec3 x1 x2 x3 x4 x5 M) else (match zF74 n 41 x4 M with | some (v19, M20) => (zJ75_192 n zrec3 x1 x2 x3 x4 x5 M20) | none => none))
set_option maxRecDepth 100000 in
set_option maxHeartbeats 4000000 in
theorem zJ75_174_r (n : Nat) (rec3 : Int32 → Int32 → Int32 → Int32 → Int32 → Mem → Option (Unit × Mem)) (zrec3 : Int → Int → Int → Int → Int → ZM → Option (Unit × ZM)) (hrec3 : ∀ {Y1 : Int32} {y1 : Int} (_ : rp Y1 y1) {Y2 : Int32} {y2 : Int} (_ : rp Y2 y2) {Y3 : Int32} {y3 : Int} (_ : rp Y3 y3) {Y4 : Int32} {y4 : Int} (_ : rp Y4 y4) {Y5 : Int32} {y5 : Int} (_ : rp Y5 y5) {M : Mem} {m : ZM} (_ : rm M m) {r : Unit} {m' : ZM} (_ : zrec3 y1 y2 y3 y4 y5 m = some (r, m')), sU (rec3 Y1 Y2 Y3 Y4 Y5 M) m') {X1_ : Int32} {x1 : Int} (hx1 : rp X1_ x1) {X2_ : Int32} {x2 : Int} (hx2 : rp X2_ x2) {X3_ : Int32} {x3 : Int} (hx3 : rp X3_ x3) {X4_ : Int32} {x4 : Int} (hx4 : rp X4_ x4) {X5_ : Int32} {x5 : Int} (hx5 : rp X5_ x5) {X6_ : Int32} {x6 : Int} (hx6 : rp X6_ x6) {X7_ : Int32} {x7 : Int} (hx7 : rp X7_ x7) {M_ : Mem} {M : ZM} (gM : rm M_ M) {r : Unit} {m' : ZM} (h : zJ75_174 n zrec3 x1 x2 x3 x4 x5 x6 x7 M = some (r, m')) : sU (J75_174 n rec3 X1_ X2_ X3_ X4_ X5_ X6_ X7_ M_) m' := by
  unfold zJ75_174 at h
  unfold J75_174
  by_cases q1 : x6 = 0
  · rw [if_pos q1] at h
    rw [if_pos ((rp_eq hx6 (show rp 0 0 from rfl)).mpr q1)]
    exact zJ75_192_r n _ _ hrec3 hx1 hx2 hx3 hx4 hx5 gM h
  · rw [if_neg q1] at h
    rw [if_neg (fun z => q1 ((rp_eq hx6 (show rp 0 0 from rfl)).mp z))]
    by_cases q2 : x7 = 0
    · rw [if_pos q2] at h
      rw [if_pos ((rp_eq hx7 (show rp 0 0 from rfl)).mpr q2)]
      exact zJ75_192_r n _ _ hrec3 hx1 hx2 hx3 hx4 hx5 gM h
    · rw [if_neg q2] at h
      rw [if_neg (fun z => q2 ((rp_eq hx7 (show rp 0 0 from rfl)).mp z))]
      cases hc3 : zF74 n 41 x4 M with
      | none => rw [hc3] at h; cases h
      | some w =>
        obtain ⟨v19, M20⟩ := w
        rw [hc3] at h
        dsimp only at h
        obtain ⟨NM20, ehc3, gM20⟩ := zF74_r n (show rp 41 41 from rfl) hx4 gM hc3
        rw [ehc3]
        dsimp only
        exact zJ75_192_r n _ _ hrec3 hx1 hx2 hx3 hx4 hx5 gM20 h
def zJ75_168 (n : Nat) (zrec3 : Int → Int → Int → Int → Int → ZM → Option (Unit × ZM)) (zrec133 : Int → Int → Int → Int → Int → Int → Int → Int → ZM → Option (Unit × ZM)) (x1 : Int) (x2 : Int) (x3 : Int) (x4 : Int) (x5 : Int) (x6 : Int) (x7 : Int) (x8 : Int) (M : ZM) : Option (Unit × ZM) :=
  if rg (x8 + 1) then (zrec133 x1 x2 x3 x4 x5 x6 x7 (x8 + 1) M) else none
set_option maxRecDepth 100000 in
set_option maxHeartbeats 4000000 in
theorem zJ75_168_r (n : Nat) (rec3 : Int32 → Int32 → Int32 → Int32 → Int32 → Mem → Option (Unit × Mem)) (zrec3 : Int → Int → Int → Int → Int → ZM → Option (Unit × ZM)) (hrec3 : ∀ {Y1 : Int32} {y1 : Int} (_ : rp Y1 y1) {Y2 : Int32} {y2 : Int} (_ : rp Y2 y2) {Y3 : Int32} {y3 : Int} (_ : rp Y3 y3) {Y4 : Int32} {y4 : Int} (_ : rp Y4 y4) {Y5 : Int32} {y5 : Int} (_ : rp Y5 y5) {M : Mem} {m : ZM} (_ : rm M m) {r : Unit} {m' : ZM} (_ : zrec3 y1 y2 y3 y4 y5 m = some (r, m')), sU (rec3 Y1 Y2 Y3 Y4 Y5 M) m') (rec133 : Int32 → Int32 → Int32 → Int32 → Int32 → Int32 → Int32 → Int32 → Mem → Option (Unit × Mem)) (zrec133 : Int → Int → Int → Int → Int → Int → Int → Int → ZM → Option (Unit × ZM)) (hrec133 : ∀ {Y1 : Int32} {y1 : Int} (_ : rp Y1 y1) {Y2 : Int32} {y2 : Int} (_ : rp Y2 y2) {Y3 : Int32} {y3 : Int} (_ : rp Y3 y3) {Y4 : Int32} {y4 : Int} (_ : rp Y4 y4) {Y5 : Int32} {y5 : Int} (_ : rp Y5 y5) {Y6 : Int32} {y6 : Int} (_ : rp Y6 y6) {Y7 : Int32} {y7 : Int} (_ : rp Y7 y7) {Y8 : Int32} {y8 : Int} (_ : rp Y8 y8) {M : Mem} {m : ZM} (_ : rm M m) {r : Unit} {m' : ZM} (_ : zrec133 y1 y2 y3 y4 y5 y6 y7 y8 m = some (r, m')), sU (rec133 Y1 Y2 Y3 Y4 Y5 Y6 Y7 Y8 M) m') {X1_ : Int32} {x1 : Int} (hx1 : rp X1_ x1) {X2_ : Int32} {x2 : Int} (hx2 : rp X2_ x2) {X3_ : Int32} {x3 : Int} (hx3 : rp X3_ x3) {X4_ : Int32} {x4 : Int} (hx4 : rp X4_ x4) {X5_ : Int32} {x5 : Int} (hx5 : rp X5_ x5) {X6_ : Int32} {x6 : Int} (hx6 : rp X6_ x6) {X7_ : Int32} {x7 : Int} (hx7 : rp X7_ x7) {X8_ : Int32} {x8 : Int} (hx8 : rp X8_ x8) {M_ : Mem} {M : ZM} (gM : rm M_ M) {r : Unit} {m' : ZM} (h : zJ75_168 n zrec3 zrec133 x1 x2 x3 x4 x5 x6 x7 x8 M = some (r, m')) : sU (J75_168 n rec3 rec133 X1_ X2_ X3_ X4_ X5_ X6_ X7_ X8_ M_) m' := by
  unfold zJ75_168 at h
  unfold J75_168
  by_cases w1 : rg (x8 + 1)
  · rw [if_pos w1] at h
    exact hrec133 hx1 hx2 hx3 hx4 hx5 hx6 hx7 (rp_add (rp_iz hx8) (rp_iz (show rp 1 1 from rfl)) w1) gM h
  · rw [if_neg w1] at h
    cases h
def zL75_133 (n : Nat) (zrec3 : Int → Int → Int → Int → Int → ZM → Option (Unit × ZM)) : Nat → Int → Int → Int → Int → Int → Int → Int → Int → ZM → Option (Unit × ZM)
  | 0, _, _, _, _, _, _, _, _, _ => none
  | k + 1, x1, x2, x3, x4, x5, x6, x7, x8, M => if x5 < 0 ∨ 160 ≤ x5 then (none) else (if (M.1 126 (Int.toNat x5)) ≤ x8 then (zJ75_174 n zrec3 x1 x2 x3 x4 x5 x6 x7 M) else (if x6 = 0 then (zJ75_174 n zrec3 x1 x2 x3 x4 x5 x6 x7 M) else (if x8 < 0 ∨ 320 ≤ x8 then (none) else (match zF74 n (M.1 105 (Int.toNat x8)) (M.1 106 (Int.toNat x8)) M with | some (v25, M26) => (zJ75_168 n zrec3 (zL75_133 n zrec3 k) x1 x2 x3 x4 x5 x6 x7 x8 M26) | none => none))))
set_option maxRecDepth 100000 in
set_option maxHeartbeats 4000000 in
theorem zL75_133_r (n : Nat) (rec3 : Int32 → Int32 → Int32 → Int32 → Int32 → Mem → Option (Unit × Mem)) (zrec3 : Int → Int → Int → Int → Int → ZM → Option (Unit × ZM)) (hrec3 : ∀ {Y1 : Int32} {y1 : Int} (_ : rp Y1 y1) {Y2 : Int32} {y2 : Int} (_ : rp Y2 y2) {Y3 : Int32} {y3 : Int} (_ : rp Y3 y3) {Y4 : Int32} {y4 : Int} (_ : rp Y4 y4) {Y5 : Int32} {y5 : Int} (_ : rp Y5 y5) {M : Mem} {m : ZM} (_ : rm M m) {r : Unit} {m' : ZM} (_ : zrec3 y1 y2 y3 y4 y5 m = some (r, m')), sU (rec3 Y1 Y2 Y3 Y4 Y5 M) m') : ∀ (k : Nat) {X1_ : Int32} {x1 : Int} (hx1 : rp X1_ x1) {X2_ : Int32} {x2 : Int} (hx2 : rp X2_ x2) {X3_ : Int32} {x3 : Int} (hx3 : rp X3_ x3) {X4_ : Int32} {x4 : Int} (hx4 : rp X4_ x4) {X5_ : Int32} {x5 : Int} (hx5 : rp X5_ x5) {X6_ : Int32} {x6 : Int} (hx6 : rp X6_ x6) {X7_ : Int32} {x7 : Int} (hx7 : rp X7_ x7) {X8_ : Int32} {x8 : Int} (hx8 : rp X8_ x8) {M_ : Mem} {M : ZM} (gM : rm M_ M) {r : Unit} {m' : ZM} (_ : zL75_133 n zrec3 k x1 x2 x3 x4 x5 x6 x7 x8 M = some (r, m')), sU (L75_133 n rec3 k X1_ X2_ X3_ X4_ X5_ X6_ X7_ X8_ M_) m' := by
  intro k
  induction k with
  | zero => intro X1_ x1 hx1 X2_ x2 hx2 X3_ x3 hx3 X4_ x4 hx4 X5_ x5 hx5 X6_ x6 hx6 X7_ x7 hx7 X8_ x8 hx8 M_ M gM r m' h; cases h
  | succ k ih =>
    intro X1_ x1 hx1 X2_ x2 hx2 X3_ x3 hx3 X4_ x4 hx4 X5_ x5 hx5 X6_ x6 hx6 X7_ x7 hx7 X8_ x8 hx8 M_ M gM r m' h
    rw [zL75_133] at h
    rw [L75_133]
    by_cases q1 : x5 < 0 ∨ 160 ≤ x5
    · rw [if_pos q1] at h
      rw [if_pos ((rp_ob hx5 160).mpr q1)]
      cases h
    · rw [if_neg q1] at h
      rw [if_neg (fun z => q1 ((rp_ob hx5 160).mp z))]
      by_cases q2 : (M.1 126 (Int.toNat x5)) ≤ x8
      · rw [if_pos q2] at h
        rw [if_pos ((rp_le (rm_rdx gM 126 hx5) hx8).mpr q2)]
        exact zJ75_174_r n _ _ hrec3 hx1 hx2 hx3 hx4 hx5 hx6 hx7 gM h
      · rw [if_neg q2] at h
        rw [if_neg (fun z => q2 ((rp_le (rm_rdx gM 126 hx5) hx8).mp z))]
        by_cases q3 : x6 = 0
        · rw [if_pos q3] at h
          rw [if_pos ((rp_eq hx6 (show rp 0 0 from rfl)).mpr q3)]
          exact zJ75_174_r n _ _ hrec3 hx1 hx2 hx3 hx4 hx5 hx6 hx7 gM h
        · rw [if_neg q3] at h
          rw [if_neg (fun z => q3 ((rp_eq hx6 (show rp 0 0 from rfl)).mp z))]
          by_cases q4 : x8 < 0 ∨ 320 ≤ x8
          · rw [if_pos q4] at h
            rw [if_pos ((rp_ob hx8 320).mpr q4)]
            cases h
          · rw [if_neg q4] at h
            rw [if_neg (fun z => q4 ((rp_ob hx8 320).mp z))]
            rw [if_neg (fun z => q4 ((rp_ob hx8 320).mp z))]
            cases hc5 : zF74 n (M.1 105 (Int.toNat x8)) (M.1 106 (Int.toNat x8)) M with
            | none => rw [hc5] at h; cases h
            | some w =>
              obtain ⟨v25, M26⟩ := w
              rw [hc5] at h
              dsimp only at h
              obtain ⟨NM26, ehc5, gM26⟩ := zF74_r n (rm_rdx gM 105 hx8) (rm_rdx gM 106 hx8) gM hc5
              rw [ehc5]
              dsimp only
              exact zJ75_168_r n _ _ hrec3 _ _ ih hx1 hx2 hx3 hx4 hx5 hx6 hx7 hx8 gM26 h
def zJ75_124 (n : Nat) (zrec3 : Int → Int → Int → Int → Int → ZM → Option (Unit × ZM)) (x1 : Int) (x2 : Int) (x3 : Int) (x4 : Int) (x5 : Int) (x6 : Int) (x7 : Int) (M : ZM) : Option (Unit × ZM) :=
  if x5 < 0 ∨ 160 ≤ x5 then (none) else (zL75_133 n zrec3 n x1 x2 x3 x4 x5 x6 x7 (M.1 125 (Int.toNat x5)) M)
set_option maxRecDepth 100000 in
set_option maxHeartbeats 4000000 in
theorem zJ75_124_r (n : Nat) (rec3 : Int32 → Int32 → Int32 → Int32 → Int32 → Mem → Option (Unit × Mem)) (zrec3 : Int → Int → Int → Int → Int → ZM → Option (Unit × ZM)) (hrec3 : ∀ {Y1 : Int32} {y1 : Int} (_ : rp Y1 y1) {Y2 : Int32} {y2 : Int} (_ : rp Y2 y2) {Y3 : Int32} {y3 : Int} (_ : rp Y3 y3) {Y4 : Int32} {y4 : Int} (_ : rp Y4 y4) {Y5 : Int32} {y5 : Int} (_ : rp Y5 y5) {M : Mem} {m : ZM} (_ : rm M m) {r : Unit} {m' : ZM} (_ : zrec3 y1 y2 y3 y4 y5 m = some (r, m')), sU (rec3 Y1 Y2 Y3 Y4 Y5 M) m') {X1_ : Int32} {x1 : Int} (hx1 : rp X1_ x1) {X2_ : Int32} {x2 : Int} (hx2 : rp X2_ x2) {X3_ : Int32} {x3 : Int} (hx3 : rp X3_ x3) {X4_ : Int32} {x4 : Int} (hx4 : rp X4_ x4) {X5_ : Int32} {x5 : Int} (hx5 : rp X5_ x5) {X6_ : Int32} {x6 : Int} (hx6 : rp X6_ x6) {X7_ : Int32} {x7 : Int} (hx7 : rp X7_ x7) {M_ : Mem} {M : ZM} (gM : rm M_ M) {r : Unit} {m' : ZM} (h : zJ75_124 n zrec3 x1 x2 x3 x4 x5 x6 x7 M = some (r, m')) : sU (J75_124 n rec3 X1_ X2_ X3_ X4_ X5_ X6_ X7_ M_) m' := by
  unfold zJ75_124 at h
  unfold J75_124
  by_cases q1 : x5 < 0 ∨ 160 ≤ x5
  · rw [if_pos q1] at h
    rw [if_pos ((rp_ob hx5 160).mpr q1)]
    cases h
  · rw [if_neg q1] at h
    rw [if_neg (fun z => q1 ((rp_ob hx5 160).mp z))]
    exact zL75_133_r n _ _ hrec3 n hx1 hx2 hx3 hx4 hx5 hx6 hx7 (rm_rdx gM 125 hx5) gM h
def zJ75_104 (n : Nat) (zrec3 : Int → Int → Int → Int → Int → ZM → Option (Unit × ZM)) (x1 : Int) (x2 : Int) (x3 : Int) (x4 : Int) (x5 : Int) (x6 : Int) (s0 : Int) (M : ZM) : Option (Unit × ZM) :=
  if x6 = 0 then (zJ75_124 n zrec3 x1 x2 x3 x4 x5 x6 s0 M) else (if s0 = 0 then (zJ75_124 n zrec3 x1 x2 x3 x4 x5 x6 s0 M) else (match zF74 n 40 x4 M with | some (v29, M30) => (zJ75_124 n zrec3 x1 x2 x3 x4 x5 x6 s0 M30) | none => none))
set_option maxRecDepth 100000 in
set_option maxHeartbeats 4000000 in
theorem zJ75_104_r (n : Nat) (rec3 : Int32 → Int32 → Int32 → Int32 → Int32 → Mem → Option (Unit × Mem)) (zrec3 : Int → Int → Int → Int → Int → ZM → Option (Unit × ZM)) (hrec3 : ∀ {Y1 : Int32} {y1 : Int} (_ : rp Y1 y1) {Y2 : Int32} {y2 : Int} (_ : rp Y2 y2) {Y3 : Int32} {y3 : Int} (_ : rp Y3 y3) {Y4 : Int32} {y4 : Int} (_ : rp Y4 y4) {Y5 : Int32} {y5 : Int} (_ : rp Y5 y5) {M : Mem} {m : ZM} (_ : rm M m) {r : Unit} {m' : ZM} (_ : zrec3 y1 y2 y3 y4 y5 m = some (r, m')), sU (rec3 Y1 Y2 Y3 Y4 Y5 M) m') {X1_ : Int32} {x1 : Int} (hx1 : rp X1_ x1) {X2_ : Int32} {x2 : Int} (hx2 : rp X2_ x2) {X3_ : Int32} {x3 : Int} (hx3 : rp X3_ x3) {X4_ : Int32} {x4 : Int} (hx4 : rp X4_ x4) {X5_ : Int32} {x5 : Int} (hx5 : rp X5_ x5) {X6_ : Int32} {x6 : Int} (hx6 : rp X6_ x6) {S0_ : Int32} {s0 : Int} (hs0 : rp S0_ s0) {M_ : Mem} {M : ZM} (gM : rm M_ M) {r : Unit} {m' : ZM} (h : zJ75_104 n zrec3 x1 x2 x3 x4 x5 x6 s0 M = some (r, m')) : sU (J75_104 n rec3 X1_ X2_ X3_ X4_ X5_ X6_ S0_ M_) m' := by
  unfold zJ75_104 at h
  unfold J75_104
  by_cases q1 : x6 = 0
  · rw [if_pos q1] at h
    rw [if_pos ((rp_eq hx6 (show rp 0 0 from rfl)).mpr q1)]
    exact zJ75_124_r n _ _ hrec3 hx1 hx2 hx3 hx4 hx5 hx6 hs0 gM h
  · rw [if_neg q1] at h
    rw [if_neg (fun z => q1 ((rp_eq hx6 (show rp 0 0 from rfl)).mp z))]
    by_cases q2 : s0 = 0
    · rw [if_pos q2] at h
      rw [if_pos ((rp_eq hs0 (show rp 0 0 from rfl)).mpr q2)]
      exact zJ75_124_r n _ _ hrec3 hx1 hx2 hx3 hx4 hx5 hx6 hs0 gM h
    · rw [if_neg q2] at h
      rw [if_neg (fun z => q2 ((rp_eq hs0 (show rp 0 0 from rfl)).mp z))]
      cases hc3 : zF74 n 40 x4 M with
      | none => rw [hc3] at h; cases h
      | some w =>
        obtain ⟨v29, M30⟩ := w
        rw [hc3] at h
        dsimp only at h
        obtain ⟨NM30, ehc3, gM30⟩ := zF74_r n (show rp 40 40 from rfl) hx4 gM hc3
        rw [ehc3]
        dsimp only
        exact zJ75_124_r n _ _ hrec3 hx1 hx2 hx3 hx4 hx5 hx6 hs0 gM30 h
def zJ75_103 (n : Nat) (zrec3 : Int → Int → Int → Int → Int → ZM → Option (Unit × ZM)) (x1 : Int) (x2 : Int) (x3 : Int) (x4 : Int) (x5 : Int) (x6 : Int) (M : ZM) : Option (Unit × ZM) :=
  zJ75_104 n zrec3 x1 x2 x3 x4 x5 x6 0 M
set_option maxRecDepth 100000 in
set_option maxHeartbeats 4000000 in
theorem zJ75_103_r (n : Nat) (rec3 : Int32 → Int32 → Int32 → Int32 → Int32 → Mem → Option (Unit × Mem)) (zrec3 : Int → Int → Int → Int → Int → ZM → Option (Unit × ZM)) (hrec3 : ∀ {Y1 : Int32} {y1 : Int} (_ : rp Y1 y1) {Y2 : Int32} {y2 : Int} (_ : rp Y2 y2) {Y3 : Int32} {y3 : Int} (_ : rp Y3 y3) {Y4 : Int32} {y4 : Int} (_ : rp Y4 y4) {Y5 : Int32} {y5 : Int} (_ : rp Y5 y5) {M : Mem} {m : ZM} (_ : rm M m) {r : Unit} {m' : ZM} (_ : zrec3 y1 y2 y3 y4 y5 m = some (r, m')), sU (rec3 Y1 Y2 Y3 Y4 Y5 M) m') {X1_ : Int32} {x1 : Int} (hx1 : rp X1_ x1) {X2_ : Int32} {x2 : Int} (hx2 : rp X2_ x2) {X3_ : Int32} {x3 : Int} (hx3 : rp X3_ x3) {X4_ : Int32} {x4 : Int} (hx4 : rp X4_ x4) {X5_ : Int32} {x5 : Int} (hx5 : rp X5_ x5) {X6_ : Int32} {x6 : Int} (hx6 : rp X6_ x6) {M_ : Mem} {M : ZM} (gM : rm M_ M) {r : Unit} {m' : ZM} (h : zJ75_103 n zrec3 x1 x2 x3 x4 x5 x6 M = some (r, m')) : sU (J75_103 n rec3 X1_ X2_ X3_ X4_ X5_ X6_ M_) m' := by
  unfold zJ75_103 at h
  unfold J75_103
  exact zJ75_104_r n _ _ hrec3 hx1 hx2 hx3 hx4 hx5 hx6 (show rp 0 0 from rfl) gM h
def zJ75_99 (n : Nat) (zrec3 : Int → Int → Int → Int → Int → ZM → Option (Unit × ZM)) (x1 : Int) (x2 : Int) (x3 : Int) (x4 : Int) (x5 : Int) (x6 : Int) (M : ZM) : Option (Unit × ZM) :=
  zJ75_104 n zrec3 x1 x2 x3 x4 x5 x6 1 M
set_option maxRecDepth 100000 in
set_option maxHeartbeats 4000000 in
theorem zJ75_99_r (n : Nat) (rec3 : Int32 → Int32 → Int32 → Int32 → Int32 → Mem → Option (Unit × Mem)) (zrec3 : Int → Int → Int → Int → Int → ZM → Option (Unit × ZM)) (hrec3 : ∀ {Y1 : Int32} {y1 : Int} (_ : rp Y1 y1) {Y2 : Int32} {y2 : Int} (_ : rp Y2 y2) {Y3 : Int32} {y3 : Int} (_ : rp Y3 y3) {Y4 : Int32} {y4 : Int} (_ : rp Y4 y4) {Y5 : Int32} {y5 : Int} (_ : rp Y5 y5) {M : Mem} {m : ZM} (_ : rm M m) {r : Unit} {m' : ZM} (_ : zrec3 y1 y2 y3 y4 y5 m = some (r, m')), sU (rec3 Y1 Y2 Y3 Y4 Y5 M) m') {X1_ : Int32} {x1 : Int} (hx1 : rp X1_ x1) {X2_ : Int32} {x2 : Int} (hx2 : rp X2_ x2) {X3_ : Int32} {x3 : Int} (hx3 : rp X3_ x3) {X4_ : Int32} {x4 : Int} (hx4 : rp X4_ x4) {X5_ : Int32} {x5 : Int} (hx5 : rp X5_ x5) {X6_ : Int32} {x6 : Int} (hx6 : rp X6_ x6) {M_ : Mem} {M : ZM} (gM : rm M_ M) {r : Unit} {m' : ZM} (h : zJ75_99 n zrec3 x1 x2 x3 x4 x5 x6 M = some (r, m')) : sU (J75_99 n rec3 X1_ X2_ X3_ X4_ X5_ X6_ M_) m' := by
  unfold zJ75_99 at h
  unfold J75_99
  exact zJ75_104_r n _ _ hrec3 hx1 hx2 hx3 hx4 hx5 hx6 (show rp 1 1 from rfl) gM h
def zJ75_68 (n : Nat) (zrec3 : Int → Int → Int → Int → Int → ZM → Option (Unit × ZM)) (x1 : Int) (x2 : Int) (x3 : Int) (x4 : Int) (x5 : Int) (s0 : Int) (M : ZM) : Option (Unit × ZM) :=
  if x1 < 0 ∨ 128 ≤ x1 then (none) else (if (M.1 94 (Int.toNat x1)) = 4 then (if x5 < 0 ∨ 160 ≤ x5 then (none) else (if rg ((M.1 126 (Int.toNat x5)) - (M.1 125 (Int.toNat x5))) then (if ((M.1 126 (Int.toNat x5)) - (M.1 125 (Int.toNat x5))) ≤ 1 then (zJ75_103 n zrec3 x1 x2 x3 x4 x5 s0 M) else (zJ75_99 n zrec3 x1 x2 x3 x4 x5 s0 M)) else none)) else (zJ75_103 n zrec3 x1 x2 x3 x4 x5 s0 M))
set_option maxRecDepth 100000 in
set_option maxHeartbeats 4000000 in
theorem zJ75_68_r (n : Nat) (rec3 : Int32 → Int32 → Int32 → Int32 → Int32 → Mem → Option (Unit × Mem)) (zrec3 : Int → Int → Int → Int → Int → ZM → Option (Unit × ZM)) (hrec3 : ∀ {Y1 : Int32} {y1 : Int} (_ : rp Y1 y1) {Y2 : Int32} {y2 : Int} (_ : rp Y2 y2) {Y3 : Int32} {y3 : Int} (_ : rp Y3 y3) {Y4 : Int32} {y4 : Int} (_ : rp Y4 y4) {Y5 : Int32} {y5 : Int} (_ : rp Y5 y5) {M : Mem} {m : ZM} (_ : rm M m) {r : Unit} {m' : ZM} (_ : zrec3 y1 y2 y3 y4 y5 m = some (r, m')), sU (rec3 Y1 Y2 Y3 Y4 Y5 M) m') {X1_ : Int32} {x1 : Int} (hx1 : rp X1_ x1) {X2_ : Int32} {x2 : Int} (hx2 : rp X2_ x2) {X3_ : Int32} {x3 : Int} (hx3 : rp X3_ x3) {X4_ : Int32} {x4 : Int} (hx4 : rp X4_ x4) {X5_ : Int32} {x5 : Int} (hx5 : rp X5_ x5) {S0_ : Int32} {s0 : Int} (hs0 : rp S0_ s0) {M_ : Mem} {M : ZM} (gM : rm M_ M) {r : Unit} {m' : ZM} (h : zJ75_68 n zrec3 x1 x2 x3 x4 x5 s0 M = some (r, m')) : sU (J75_68 n rec3 X1_ X2_ X3_ X4_ X5_ S0_ M_) m' := by
  unfold zJ75_68 at h
  unfold J75_68
  by_cases q1 : x1 < 0 ∨ 128 ≤ x1
  · rw [if_pos q1] at h
    rw [if_pos ((rp_ob hx1 128).mpr q1)]
    cases h
  · rw [if_neg q1] at h
    rw [if_neg (fun z => q1 ((rp_ob hx1 128).mp z))]
    by_cases q2 : (M.1 94 (Int.toNat x1)) = 4
    · rw [if_pos q2] at h
      rw [if_pos ((rp_eq (rm_rdx gM 94 hx1) (show rp 4 4 from rfl)).mpr q2)]
      by_cases q3 : x5 < 0 ∨ 160 ≤ x5
      · rw [if_pos q3] at h
        rw [if_pos ((rp_ob hx5 160).mpr q3)]
        cases h
      · rw [if_neg q3] at h
        rw [if_neg (fun z => q3 ((rp_ob hx5 160).mp z))]
        rw [if_neg (fun z => q3 ((rp_ob hx5 160).mp z))]
        by_cases w4 : rg ((M.1 126 (Int.toNat x5)) - (M.1 125 (Int.toNat x5)))
        · rw [if_pos w4] at h
          by_cases q5 : ((M.1 126 (Int.toNat x5)) - (M.1 125 (Int.toNat x5))) ≤ 1
          · rw [if_pos q5] at h
            rw [if_pos ((rp_le (rp_sub (rp_iz (rm_rdx gM 126 hx5)) (rp_iz (rm_rdx gM 125 hx5)) w4) (show rp 1 1 from rfl)).mpr q5)]
            exact zJ75_103_r n _ _ hrec3 hx1 hx2 hx3 hx4 hx5 hs0 gM h
          · rw [if_neg q5] at h
            rw [if_neg (fun z => q5 ((rp_le (rp_sub (rp_iz (rm_rdx gM 126 hx5)) (rp_iz (rm_rdx gM 125 hx5)) w4) (show rp 1 1 from rfl)).mp z))]
            exact zJ75_99_r n _ _ hrec3 hx1 hx2 hx3 hx4 hx5 hs0 gM h
        · rw [if_neg w4] at h
          cases h
    · rw [if_neg q2] at h
      rw [if_neg (fun z => q2 ((rp_eq (rm_rdx gM 94 hx1) (show rp 4 4 from rfl)).mp z))]
      exact zJ75_103_r n _ _ hrec3 hx1 hx2 hx3 hx4 hx5 hs0 gM h
def zJ75_63 (n : Nat) (zrec3 : Int → Int → Int → Int → Int → ZM → Option (Unit × ZM)) (x1 : Int) (x2 : Int) (x3 : Int) (x4 : Int) (x5 : Int) (M : ZM) : Option (Unit × ZM) :=
  zJ75_68 n zrec3 x1 x2 x3 x4 x5 1 M
set_option maxRecDepth 100000 in
set_option maxHeartbeats 4000000 in
theorem zJ75_63_r (n : Nat) (rec3 : Int32 → Int32 → Int32 → Int32 → Int32 → Mem → Option (Unit × Mem)) (zrec3 : Int → Int → Int → Int → Int → ZM → Option (Unit × ZM)) (hrec3 : ∀ {Y1 : Int32} {y1 : Int} (_ : rp Y1 y1) {Y2 : Int32} {y2 : Int} (_ : rp Y2 y2) {Y3 : Int32} {y3 : Int} (_ : rp Y3 y3) {Y4 : Int32} {y4 : Int} (_ : rp Y4 y4) {Y5 : Int32} {y5 : Int} (_ : rp Y5 y5) {M : Mem} {m : ZM} (_ : rm M m) {r : Unit} {m' : ZM} (_ : zrec3 y1 y2 y3 y4 y5 m = some (r, m')), sU (rec3 Y1 Y2 Y3 Y4 Y5 M) m') {X1_ : Int32} {x1 : Int} (hx1 : rp X1_ x1) {X2_ : Int32} {x2 : Int} (hx2 : rp X2_ x2) {X3_ : Int32} {x3 : Int} (hx3 : rp X3_ x3) {X4_ : Int32} {x4 : Int} (hx4 : rp X4_ x4) {X5_ : Int32} {x5 : Int} (hx5 : rp X5_ x5) {M_ : Mem} {M : ZM} (gM : rm M_ M) {r : Unit} {m' : ZM} (h : zJ75_63 n zrec3 x1 x2 x3 x4 x5 M = some (r, m')) : sU (J75_63 n rec3 X1_ X2_ X3_ X4_ X5_ M_) m' := by
  unfold zJ75_63 at h
  unfold J75_63
  exact zJ75_68_r n _ _ hrec3 hx1 hx2 hx3 hx4 hx5 (show rp 1 1 from rfl) gM h
def zJ75_67 (n : Nat) (zrec3 : Int → Int → Int → Int → Int → ZM → Option (Unit × ZM)) (x1 : Int) (x2 : Int) (x3 : Int) (x4 : Int) (x5 : Int) (M : ZM) : Option (Unit × ZM) :=
  zJ75_68 n zrec3 x1 x2 x3 x4 x5 0 M
set_option maxRecDepth 100000 in
set_option maxHeartbeats 4000000 in
theorem zJ75_67_r (n : Nat) (rec3 : Int32 → Int32 → Int32 → Int32 → Int32 → Mem → Option (Unit × Mem)) (zrec3 : Int → Int → Int → Int → Int → ZM → Option (Unit × ZM)) (hrec3 : ∀ {Y1 : Int32} {y1 : Int} (_ : rp Y1 y1) {Y2 : Int32} {y2 : Int} (_ : rp Y2 y2) {Y3 : Int32} {y3 : Int} (_ : rp Y3 y3) {Y4 : Int32} {y4 : Int} (_ : rp Y4 y4) {Y5 : Int32} {y5 : Int} (_ : rp Y5 y5) {M : Mem} {m : ZM} (_ : rm M m) {r : Unit} {m' : ZM} (_ : zrec3 y1 y2 y3 y4 y5 m = some (r, m')), sU (rec3 Y1 Y2 Y3 Y4 Y5 M) m') {X1_ : Int32} {x1 : Int} (hx1 : rp X1_ x1) {X2_ : Int32} {x2 : Int} (hx2 : rp X2_ x2) {X3_ : Int32} {x3 : Int} (hx3 : rp X3_ x3) {X4_ : Int32} {x4 : Int} (hx4 : rp X4_ x4) {X5_ : Int32} {x5 : Int} (hx5 : rp X5_ x5) {M_ : Mem} {M : ZM} (gM : rm M_ M) {r : Unit} {m' : ZM} (h : zJ75_67 n zrec3 x1 x2 x3 x4 x5 M = some (r, m')) : sU (J75_67 n rec3 X1_ X2_ X3_ X4_ X5_ M_) m' := by
  unfold zJ75_67 at h
  unfold J75_67
  exact zJ75_68_r n _ _ hrec3 hx1 hx2 hx3 hx4 hx5 (show rp 0 0 from rfl) gM h
def zJ75_43 (n : Nat) (zrec3 : Int → Int → Int → Int → Int → ZM → Option (Unit × ZM)) (x1 : Int) (x2 : Int) (x3 : Int) (x4 : Int) (x5 : Int) (M : ZM) : Option (Unit × ZM) :=
  if x1 < 0 ∨ 128 ≤ x1 then (none) else (if (M.1 96 (Int.toNat x1)) < 0 then (zJ75_63 n zrec3 x1 x2 x3 x4 x5 M) else (if x5 < 0 ∨ 160 ≤ x5 then (none) else (if (M.1 124 (Int.toNat x5)) = x3 then (zJ75_63 n zrec3 x1 x2 x3 x4 x5 M) else (zJ75_67 n zrec3 x1 x2 x3 x4 x5 M))))
set_option maxRecDepth 100000 in
set_option maxHeartbeats 4000000 in
theorem zJ75_43_r (n : Nat) (rec3 : Int32 → Int32 → Int32 → Int32 → Int32 → Mem → Option (Unit × Mem)) (zrec3 : Int → Int → Int → Int → Int → ZM → Option (Unit × ZM)) (hrec3 : ∀ {Y1 : Int32} {y1 : Int} (_ : rp Y1 y1) {Y2 : Int32} {y2 : Int} (_ : rp Y2 y2) {Y3 : Int32} {y3 : Int} (_ : rp Y3 y3) {Y4 : Int32} {y4 : Int} (_ : rp Y4 y4) {Y5 : Int32} {y5 : Int} (_ : rp Y5 y5) {M : Mem} {m : ZM} (_ : rm M m) {r : Unit} {m' : ZM} (_ : zrec3 y1 y2 y3 y4 y5 m = some (r, m')), sU (rec3 Y1 Y2 Y3 Y4 Y5 M) m') {X1_ : Int32} {x1 : Int} (hx1 : rp X1_ x1) {X2_ : Int32} {x2 : Int} (hx2 : rp X2_ x2) {X3_ : Int32} {x3 : Int} (hx3 : rp X3_ x3) {X4_ : Int32} {x4 : Int} (hx4 : rp X4_ x4) {X5_ : Int32} {x5 : Int} (hx5 : rp X5_ x5) {M_ : Mem} {M : ZM} (gM : rm M_ M) {r : Unit} {m' : ZM} (h : zJ75_43 n zrec3 x1 x2 x3 x4 x5 M = some (r, m')) : sU (J75_43 n rec3 X1_ X2_ X3_ X4_ X5_ M_) m' := by
  unfold zJ75_43 at h
  unfold J75_43
  by_cases q1 : x1 < 0 ∨ 128 ≤ x1
  · rw [if_pos q1] at h
    rw [if_pos ((rp_ob hx1 128).mpr q1)]
    cases h
  · rw [if_neg q1] at h
    rw [if_neg (fun z => q1 ((rp_ob hx1 128).mp z))]
    by_cases q2 : (M.1 96 (Int.toNat x1)) < 0
    · rw [if_pos q2] at h
      rw [if_pos ((rp_lt (rm_rdx gM 96 hx1) (show rp 0 0 from rfl)).mpr q2)]
      exact zJ75_63_r n _ _ hrec3 hx1 hx2 hx3 hx4 hx5 gM h
    · rw [if_neg q2] at h
      rw [if_neg (fun z => q2 ((rp_lt (rm_rdx gM 96 hx1) (show rp 0 0 from rfl)).mp z))]
      by_cases q3 : x5 < 0 ∨ 160 ≤ x5
      · rw [if_pos q3] at h
        rw [if_pos ((rp_ob hx5 160).mpr q3)]
        cases h
      · rw [if_neg q3] at h
        rw [if_neg (fun z => q3 ((rp_ob hx5 160).mp z))]
        by_cases q4 : (M.1 124 (Int.toNat x5)) = x3
        · rw [if_pos q4] at h
          rw [if_pos ((rp_eq (rm_rdx gM 124 hx5) hx3).mpr q4)]
          exact zJ75_63_r n _ _ hrec3 hx1 hx2 hx3 hx4 hx5 gM h
        · rw [if_neg q4] at h
          rw [if_neg (fun z => q4 ((rp_eq (rm_rdx gM 124 hx5) hx3).mp z))]
          exact zJ75_67_r n _ _ hrec3 hx1 hx2 hx3 hx4 hx5 gM h
def zJ75_32 (n : Nat) (zrec3 : Int → Int → Int → Int → Int → ZM → Option (Unit × ZM)) (x1 : Int) (x2 : Int) (x3 : Int) (x4 : Int) (x5 : Int) (M : ZM) : Option (Unit × ZM) :=
  if x5 < 0 ∨ 160 ≤ x5 then (none) else (if (M.1 123 (Int.toNat x5)) = x2 then (zJ75_43 n zrec3 x1 x2 x3 x4 x5 M) else (zJ75_67 n zrec3 x1 x2 x3 x4 x5 M))
set_option maxRecDepth 100000 in
set_option maxHeartbeats 4000000 in
theorem zJ75_32_r (n : Nat) (rec3 : Int32 → Int32 → Int32 → Int32 → Int32 → Mem → Option (Unit × Mem)) (zrec3 : Int → Int → Int → Int → Int → ZM → Option (Unit × ZM)) (hrec3 : ∀ {Y1 : Int32} {y1 : Int} (_ : rp Y1 y1) {Y2 : Int32} {y2 : Int} (_ : rp Y2 y2) {Y3 : Int32} {y3 : Int} (_ : rp Y3 y3) {Y4 : Int32} {y4 : Int} (_ : rp Y4 y4) {Y5 : Int32} {y5 : Int} (_ : rp Y5 y5) {M : Mem} {m : ZM} (_ : rm M m) {r : Unit} {m' : ZM} (_ : zrec3 y1 y2 y3 y4 y5 m = some (r, m')), sU (rec3 Y1 Y2 Y3 Y4 Y5 M) m') {X1_ : Int32} {x1 : Int} (hx1 : rp X1_ x1) {X2_ : Int32} {x2 : Int} (hx2 : rp X2_ x2) {X3_ : Int32} {x3 : Int} (hx3 : rp X3_ x3) {X4_ : Int32} {x4 : Int} (hx4 : rp X4_ x4) {X5_ : Int32} {x5 : Int} (hx5 : rp X5_ x5) {M_ : Mem} {M : ZM} (gM : rm M_ M) {r : Unit} {m' : ZM} (h : zJ75_32 n zrec3 x1 x2 x3 x4 x5 M = some (r, m')) : sU (J75_32 n rec3 X1_ X2_ X3_ X4_ X5_ M_) m' := by
  unfold zJ75_32 at h
  unfold J75_32
  by_cases q1 : x5 < 0 ∨ 160 ≤ x5
  · rw [if_pos q1] at h
    rw [if_pos ((rp_ob hx5 160).mpr q1)]
    cases h
  · rw [if_neg q1] at h
    rw [if_neg (fun z => q1 ((rp_ob hx5 160).mp z))]
    by_cases q2 : (M.1 123 (Int.toNat x5)) = x2
    · rw [if_pos q2] at h
      rw [if_pos ((rp_eq (rm_rdx gM 123 hx5) hx2).mpr q2)]
      exact zJ75_43_r n _ _ hrec3 hx1 hx2 hx3 hx4 hx5 gM h
    · rw [if_neg q2] at h
      rw [if_neg (fun z => q2 ((rp_eq (rm_rdx gM 123 hx5) hx2).mp z))]
      exact zJ75_67_r n _ _ hrec3 hx1 hx2 hx3 hx4 hx5 gM h
def zL75_3 (n : Nat) : Nat → Int → Int → Int → Int → Int → ZM → Option (Unit × ZM)
  | 0, _, _, _, _, _, _ => none
  | k + 1, x1, x2, x3, x4, x5, M => if (M.1 83 56) ≤ x5 then (some ((), M)) else (if x5 < 0 ∨ 160 ≤ x5 then (none) else (if (M.1 122 (Int.toNat x5)) = x1 then (if x1 < 0 ∨ 128 ≤ x1 then (none) else (if (M.1 95 (Int.toNat x1)) < 0 then (zJ75_43 n (zL75_3 n k) x1 x2 x3 x4 x5 M) else (zJ75_32 n (zL75_3 n k) x1 x2 x3 x4 x5 M))) else (zJ75_67 n (zL75_3 n k) x1 x2 x3 x4 x5 M)))
set_option maxRecDepth 100000 in
set_option maxHeartbeats 4000000 in
theorem zL75_3_r (n : Nat) : ∀ (k : Nat) {X1_ : Int32} {x1 : Int} (hx1 : rp X1_ x1) {X2_ : Int32} {x2 : Int} (hx2 : rp X2_ x2) {X3_ : Int32} {x3 : Int} (hx3 : rp X3_ x3) {X4_ : Int32} {x4 : Int} (hx4 : rp X4_ x4) {X5_ : Int32} {x5 : Int} (hx5 : rp X5_ x5) {M_ : Mem} {M : ZM} (gM : rm M_ M) {r : Unit} {m' : ZM} (_ : zL75_3 n k x1 x2 x3 x4 x5 M = some (r, m')), sU (L75_3 n k X1_ X2_ X3_ X4_ X5_ M_) m' := by
  intro k
  induction k with
  | zero => intro X1_ x1 hx1 X2_ x2 hx2 X3_ x3 hx3 X4_ x4 hx4 X5_ x5 hx5 M_ M gM r m' h; cases h
  | succ k ih =>
    intro X1_ x1 hx1 X2_ x2 hx2 X3_ x3 hx3 X4_ x4 hx4 X5_ x5 hx5 M_ M gM r m' h
    rw [zL75_3] at h
    rw [L75_3]
    by_cases q1 : (M.1 83 56) ≤ x5
    · rw [if_pos q1] at h
      rw [if_pos ((rp_le (rm_rd gM 83 56) hx5).mpr q1)]
      obtain ⟨_, rfl⟩ := Prod.mk.inj (Option.some.inj h)
      exact ⟨_, rfl, gM⟩
    · rw [if_neg q1] at h
      rw [if_neg (fun z => q1 ((rp_le (rm_rd gM 83 56) hx5).mp z))]
      by_cases q2 : x5 < 0 ∨ 160 ≤ x5
      · rw [if_pos q2] at h
        rw [if_pos ((rp_ob hx5 160).mpr q2)]
        cases h
      · rw [if_neg q2] at h
        rw [if_neg (fun z => q2 ((rp_ob hx5 160).mp z))]
        by_cases q3 : (M.1 122 (Int.toNat x5)) = x1
        · rw [if_pos q3] at h
          rw [if_pos ((rp_eq (rm_rdx gM 122 hx5) hx1).mpr q3)]
          by_cases q4 : x1 < 0 ∨ 128 ≤ x1
          · rw [if_pos q4] at h
            rw [if_pos ((rp_ob hx1 128).mpr q4)]
            cases h
          · rw [if_neg q4] at h
            rw [if_neg (fun z => q4 ((rp_ob hx1 128).mp z))]
            by_cases q5 : (M.1 95 (Int.toNat x1)) < 0
            · rw [if_pos q5] at h
              rw [if_pos ((rp_lt (rm_rdx gM 95 hx1) (show rp 0 0 from rfl)).mpr q5)]
              exact zJ75_43_r n _ _ ih hx1 hx2 hx3 hx4 hx5 gM h
            · rw [if_neg q5] at h
              rw [if_neg (fun z => q5 ((rp_lt (rm_rdx gM 95 hx1) (show rp 0 0 from rfl)).mp z))]
              exact zJ75_32_r n _ _ ih hx1 hx2 hx3 hx4 hx5 gM h
        · rw [if_neg q3] at h
          rw [if_neg (fun z => q3 ((rp_eq (rm_rdx gM 122 hx5) hx1).mp z))]
          exact zJ75_67_r n _ _ ih hx1 hx2 hx3 hx4 hx5 gM h
/-- ArmExpanderModel.makeUse -/
def zF75 (n : Nat) (a0 : Int) (a1 : Int) (a2 : Int) (a3 : Int) (M : ZM) : Option (Unit × ZM) :=
  zL75_3 n n a0 a1 a2 a3 0 M
set_option maxRecDepth 100000 in
set_option maxHeartbeats 4000000 in
theorem zF75_r (n : Nat) {A0_ : Int32} {a0 : Int} (ha0 : rp A0_ a0) {A1_ : Int32} {a1 : Int} (ha1 : rp A1_ a1) {A2_ : Int32} {a2 : Int} (ha2 : rp A2_ a2) {A3_ : Int32} {a3 : Int} (ha3 : rp A3_ a3) {M_ : Mem} {M : ZM} (gM : rm M_ M) {r : Unit} {m' : ZM} (h : zF75 n a0 a1 a2 a3 M = some (r, m')) : sU (F75 n A0_ A1_ A2_ A3_ M_) m' := by
  unfold zF75 at h
  unfold F75
  exact zL75_3_r n n ha0 ha1 ha2 ha3 (show rp 0 0 from rfl) gM h
def zJ76_123 (n : Nat) (s0 : Int) (M : ZM) : Option (Int × ZM) :=
  some (s0, M)
set_option maxRecDepth 100000 in
set_option maxHeartbeats 4000000 in
theorem zJ76_123_r (n : Nat) {S0_ : Int32} {s0 : Int} (hs0 : rp S0_ s0) {M_ : Mem} {M : ZM} (gM : rm M_ M) {r : Int} {m' : ZM} (h : zJ76_123 n s0 M = some (r, m')) : sI (J76_123 n S0_ M_) r m' := by
  unfold zJ76_123 at h
  unfold J76_123
  obtain ⟨rfl, rfl⟩ := Prod.mk.inj (Option.some.inj h)
  exact ⟨_, _, rfl, hs0, gM⟩
def zJ76_107 (n : Nat) (zrec8 : Int → Int → Int → Int → Int → ZM → Option (Int × ZM)) (x1 : Int) (x2 : Int) (x3 : Int) (x4 : Int) (x5 : Int) (M : ZM) : Option (Int × ZM) :=
  if rg (x5 + 1) then (zrec8 x1 x2 x3 x4 (x5 + 1) M) else none
set_option maxRecDepth 100000 in
set_option maxHeartbeats 4000000 in
theorem zJ76_107_r (n : Nat) (rec8 : Int32 → Int32 → Int32 → Int32 → Int32 → Mem → Option (Int32 × Mem)) (zrec8 : Int → Int → Int → Int → Int → ZM → Option (Int × ZM)) (hrec8 : ∀ {Y1 : Int32} {y1 : Int} (_ : rp Y1 y1) {Y2 : Int32} {y2 : Int} (_ : rp Y2 y2) {Y3 : Int32} {y3 : Int} (_ : rp Y3 y3) {Y4 : Int32} {y4 : Int} (_ : rp Y4 y4) {Y5 : Int32} {y5 : Int} (_ : rp Y5 y5) {M : Mem} {m : ZM} (_ : rm M m) {r : Int} {m' : ZM} (_ : zrec8 y1 y2 y3 y4 y5 m = some (r, m')), sI (rec8 Y1 Y2 Y3 Y4 Y5 M) r m') {X1_ : Int32} {x1 : Int} (hx1 : rp X1_ x1) {X2_ : Int32} {x2 : Int} (hx2 : rp X2_ x2) {X3_ : Int32} {x3 : Int} (hx3 : rp X3_ x3) {X4_ : Int32} {x4 : Int} (hx4 : rp X4_ x4) {X5_ : Int32} {x5 : Int} (hx5 : rp X5_ x5) {M_ : Mem} {M : ZM} (gM : rm M_ M) {r : Int} {m' : ZM} (h : zJ76_107 n zrec8 x1 x2 x3 x4 x5 M = some (r, m')) : sI (J76_107 n rec8 X1_ X2_ X3_ X4_ X5_ M_) r m' := by
  unfold zJ76_107 at h
  unfold J76_107
  by_cases w1 : rg (x5 + 1)
  · rw [if_pos w1] at h
    exact hrec8 hx1 hx2 hx3 hx4 (rp_add (rp_iz hx5) (rp_iz (show rp 1 1 from rfl)) w1) gM h
  · rw [if_neg w1] at h
    cases h
def zJ76_102 (n : Nat) (zrec8 : Int → Int → Int → Int → Int → ZM → Option (Int × ZM)) (x1 : Int) (x2 : Int) (x5 : Int) (x7 : Int) (s0 : Int) (M : ZM) : Option (Int × ZM) :=
  zJ76_107 n zrec8 x1 x2 x7 s0 x5 M
set_option maxRecDepth 100000 in
set_option maxHeartbeats 4000000 in
theorem zJ76_102_r (n : Nat) (rec8 : Int32 → Int32 → Int32 → Int32 → Int32 → Mem → Option (Int32 × Mem)) (zrec8 : Int → Int → Int → Int → Int → ZM → Option (Int × ZM)) (hrec8 : ∀ {Y1 : Int32} {y1 : Int} (_ : rp Y1 y1) {Y2 : Int32} {y2 : Int} (_ : rp Y2 y2) {Y3 : Int32} {y3 : Int} (_ : rp Y3 y3) {Y4 : Int32} {y4 : Int} (_ : rp Y4 y4) {Y5 : Int32} {y5 : Int} (_ : rp Y5 y5) {M : Mem} {m : ZM} (_ : rm M m) {r : Int} {m' : ZM} (_ : zrec8 y1 y2 y3 y4 y5 m = some (r, m')), sI (rec8 Y1 Y2 Y3 Y4 Y5 M) r m') {X1_ : Int32} {x1 : Int} (hx1 : rp X1_ x1) {X2_ : Int32} {x2 : Int} (hx2 : rp X2_ x2) {X5_ : Int32} {x5 : Int} (hx5 : rp X5_ x5) {X7_ : Int32} {x7 : Int} (hx7 : rp X7_ x7) {S0_ : Int32} {s0 : Int} (hs0 : rp S0_ s0) {M_ : Mem} {M : ZM} (gM : rm M_ M) {r : Int} {m' : ZM} (h : zJ76_102 n zrec8 x1 x2 x5 x7 s0 M = some (r, m')) : sI (J76_102 n rec8 X1_ X2_ X5_ X7_ S0_ M_) r m' := by
  unfold zJ76_102 at h
  unfold J76_102
  exact zJ76_107_r n _ _ hrec8 hx1 hx2 hx7 hs0 hx5 gM h
def zJ76_101 (n : Nat) (zrec8 : Int → Int → Int → Int → Int → ZM → Option (Int × ZM)) (x1 : Int) (x2 : Int) (x5 : Int) (x7 : Int) (M : ZM) : Option (Int × ZM) :=
  zJ76_102 n zrec8 x1 x2 x5 x7 0 M
set_option maxRecDepth 100000 in
set_option maxHeartbeats 4000000 in
theorem zJ76_101_r (n : Nat) (rec8 : Int32 → Int32 → Int32 → Int32 → Int32 → Mem → Option (Int32 × Mem)) (zrec8 : Int → Int → Int → Int → Int → ZM → Option (Int × ZM)) (hrec8 : ∀ {Y1 : Int32} {y1 : Int} (_ : rp Y1 y1) {Y2 : Int32} {y2 : Int} (_ : rp Y2 y2) {Y3 : Int32} {y3 : Int} (_ : rp Y3 y3) {Y4 : Int32} {y4 : Int} (_ : rp Y4 y4) {Y5 : Int32} {y5 : Int} (_ : rp Y5 y5) {M : Mem} {m : ZM} (_ : rm M m) {r : Int} {m' : ZM} (_ : zrec8 y1 y2 y3 y4 y5 m = some (r, m')), sI (rec8 Y1 Y2 Y3 Y4 Y5 M) r m') {X1_ : Int32} {x1 : Int} (hx1 : rp X1_ x1) {X2_ : Int32} {x2 : Int} (hx2 : rp X2_ x2) {X5_ : Int32} {x5 : Int} (hx5 : rp X5_ x5) {X7_ : Int32} {x7 : Int} (hx7 : rp X7_ x7) {M_ : Mem} {M : ZM} (gM : rm M_ M) {r : Int} {m' : ZM} (h : zJ76_101 n zrec8 x1 x2 x5 x7 M = some (r, m')) : sI (J76_101 n rec8 X1_ X2_ X5_ X7_ M_) r m' := by
  unfold zJ76_101 at h
  unfold J76_101
  exact zJ76_102_r n _ _ hrec8 hx1 hx2 hx5 hx7 (show rp 0 0 from rfl) gM h
def zJ76_97 (n : Nat) (zrec8 : Int → Int → Int → Int → Int → ZM → Option (Int × ZM)) (x1 : Int) (x2 : Int) (x5 : Int) (x7 : Int) (M : ZM) : Option (Int × ZM) :=
  zJ76_102 n zrec8 x1 x2 x5 x7 1 M
set_option maxRecDepth 100000 in
set_option maxHeartbeats 4000000 in
theorem zJ76_97_r (n : Nat) (rec8 : Int32 → Int32 → Int32 → Int32 → Int32 → Mem → Option (Int32 × Mem)) (zrec8 : Int → Int → Int → Int → Int → ZM → Option (Int × ZM)) (hrec8 : ∀ {Y1 : Int32} {y1 : Int} (_ : rp Y1 y1) {Y2 : Int32} {y2 : Int} (_ : rp Y2 y2) {Y3 : Int32} {y3 : Int} (_ : rp Y3 y3) {Y4 : Int32} {y4 : Int} (_ : rp Y4 y4) {Y5 : Int32} {y5 : Int} (_ : rp Y5 y5) {M : Mem} {m : ZM} (_ : rm M m) {r : Int} {m' : ZM} (_ : zrec8 y1 y2 y3 y4 y5 m = some (r, m')), sI (rec8 Y1 Y2 Y3 Y4 Y5 M) r m') {X1_ : Int32} {x1 : Int} (hx1 : rp X1_ x1) {X2_ : Int32} {x2 : Int} (hx2 : rp X2_ x2) {X5_ : Int32} {x5 : Int} (hx5 : rp X5_ x5) {X7_ : Int32} {x7 : Int} (hx7 : rp X7_ x7) {M_ : Mem} {M : ZM} (gM : rm M_ M) {r : Int} {m' : ZM} (h : zJ76_97 n zrec8 x1 x2 x5 x7 M = some (r, m')) : sI (J76_97 n rec8 X1_ X2_ X5_ X7_ M_) r m' := by
  unfold zJ76_97 at h
  unfold J76_97
  exact zJ76_102_r n _ _ hrec8 hx1 hx2 hx5 hx7 (show rp 1 1 from rfl) gM h
def zJ76_80 (n : Nat) (zrec8 : Int → Int → Int → Int → Int → ZM → Option (Int × ZM)) (x1 : Int) (x2 : Int) (x3 : Int) (x4 : Int) (x5 : Int) (s0 : Int) (M : ZM) : Option (Int × ZM) :=
  if x4 = 0 then (zJ76_101 n zrec8 x1 x2 x5 s0 M) else (if x3 < 0 then (zJ76_97 n zrec8 x1 x2 x5 s0 M) else (if x3 = s0 then (zJ76_97 n zrec8 x1 x2 x5 s0 M) else (zJ76_101 n zrec8 x1 x2 x5 s0 M)))
set_option maxRecDepth 100000 in
set_option maxHeartbeats 4000000 in
theorem zJ76_80_r (n : Nat) (rec8 : Int32 → Int32 → Int32 → Int32 → Int32 → Mem → Option (Int32 × Mem)) (zrec8 : Int → Int → Int → Int → Int → ZM → Option (Int × ZM)) (hrec8 : ∀ {Y1 : Int32} {y1 : Int} (_ : rp Y1 y1) {Y2 : Int32} {y2 : Int} (_ : rp Y2 y2) {Y3 : Int32} {y3 : Int} (_ : rp Y3 y3) {Y4 : Int32} {y4 : Int} (_ : rp Y4 y4) {Y5 : Int32} {y5 : Int} (_ : rp Y5 y5) {M : Mem} {m : ZM} (_ : rm M m) {r : Int} {m' : ZM} (_ : zrec8 y1 y2 y3 y4 y5 m = some (r, m')), sI (rec8 Y1 Y2 Y3 Y4 Y5 M) r m') {X1_ : Int32} {x1 : Int} (hx1 : rp X1_ x1) {X2_ : Int32} {x2 : Int} (hx2 : rp X2_ x2) {X3_ : Int32} {x3 : Int} (hx3 : rp X3_ x3) {X4_ : Int32} {x4 : Int} (hx4 : rp X4_ x4) {X5_ : Int32} {x5 : Int} (hx5 : rp X5_ x5) {S0_ : Int32} {s0 : Int} (hs0 : rp S0_ s0) {M_ : Mem} {M : ZM} (gM : rm M_ M) {r : Int} {m' : ZM} (h : zJ76_80 n zrec8 x1 x2 x3 x4 x5 s0 M = some (r, m')) : sI (J76_80 n rec8 X1_ X2_ X3_ X4_ X5_ S0_ M_) r m' := by
  unfold zJ76_80 at h
  unfold J76_80
  by_cases q1 : x4 = 0
  · rw [if_pos q1] at h
    rw [if_pos ((rp_eq hx4 (show rp 0 0 from rfl)).mpr q1)]
    exact zJ76_101_r n _ _ hrec8 hx1 hx2 hx5 hs0 gM h
  · rw [if_neg q1] at h
    rw [if_neg (fun z => q1 ((rp_eq hx4 (show rp 0 0 from rfl)).mp z))]
    by_cases q2 : x3 < 0
    · rw [if_pos q2] at h
      rw [if_pos ((rp_lt hx3 (show rp 0 0 from rfl)).mpr q2)]
      exact zJ76_97_r n _ _ hrec8 hx1 hx2 hx5 hs0 gM h
    · rw [if_neg q2] at h
      rw [if_neg (fun z => q2 ((rp_lt hx3 (show rp 0 0 from rfl)).mp z))]
      by_cases q3 : x3 = s0
      · rw [if_pos q3] at h
        rw [if_pos ((rp_eq hx3 hs0).mpr q3)]
        exact zJ76_97_r n _ _ hrec8 hx1 hx2 hx5 hs0 gM h
      · rw [if_neg q3] at h
        rw [if_neg (fun z => q3 ((rp_eq hx3 hs0).mp z))]
        exact zJ76_101_r n _ _ hrec8 hx1 hx2 hx5 hs0 gM h
def zJ76_68 (n : Nat) (zrec8 : Int → Int → Int → Int → Int → ZM → Option (Int × ZM)) (x1 : Int) (x2 : Int) (x3 : Int) (x4 : Int) (x5 : Int) (x6 : Int) (M : ZM) : Option (Int × ZM) :=
  if x6 < 0 ∨ 128 ≤ x6 then (none) else (match zF69 n (M.1 96 (Int.toNat x6)) x2 M with | some (v13, M14) => (zJ76_80 n zrec8 x1 x2 x3 x4 x5 v13 M14) | none => none)
set_option maxRecDepth 100000 in
set_option maxHeartbeats 4000000 in
theorem zJ76_68_r (n : Nat) (rec8 : Int32 → Int32 → Int32 → Int32 → Int32 → Mem → Option (Int32 × Mem)) (zrec8 : Int → Int → Int → Int → Int → ZM → Option (Int × ZM)) (hrec8 : ∀ {Y1 : Int32} {y1 : Int} (_ : rp Y1 y1) {Y2 : Int32} {y2 : Int} (_ : rp Y2 y2) {Y3 : Int32} {y3 : Int} (_ : rp Y3 y3) {Y4 : Int32} {y4 : Int} (_ : rp Y4 y4) {Y5 : Int32} {y5 : Int} (_ : rp Y5 y5) {M : Mem} {m : ZM} (_ : rm M m) {r : Int} {m' : ZM} (_ : zrec8 y1 y2 y3 y4 y5 m = some (r, m')), sI (rec8 Y1 Y2 Y3 Y4 Y5 M) r m') {X1_ : Int32} {x1 : Int} (hx1 : rp X1_ x1) {X2_ : Int32} {x2 : Int} (hx2 : rp X2_ x2) {X3_ : Int32} {x3 : Int} (hx3 : rp X3_ x3) {X4_ : Int32} {x4 : Int} (hx4 : rp X4_ x4) {X5_ : Int32} {x5 : Int} (hx5 : rp X5_ x5) {X6_ : Int32} {x6 : Int} (hx6 : rp X6_ x6) {M_ : Mem} {M : ZM} (gM : rm M_ M) {r : Int} {m' : ZM} (h : zJ76_68 n zrec8 x1 x2 x3 x4 x5 x6 M = some (r, m')) : sI (J76_68 n rec8 X1_ X2_ X3_ X4_ X5_ X6_ M_) r m' := by
  unfold zJ76_68 at h
  unfold J76_68
  by_cases q1 : x6 < 0 ∨ 128 ≤ x6
  · rw [if_pos q1] at h
    rw [if_pos ((rp_ob hx6 128).mpr q1)]
    cases h
  · rw [if_neg q1] at h
    rw [if_neg (fun z => q1 ((rp_ob hx6 128).mp z))]
    cases hc2 : zF69 n (M.1 96 (Int.toNat x6)) x2 M with
    | none => rw [hc2] at h; cases h
    | some w =>
      obtain ⟨v13, M14⟩ := w
      rw [hc2] at h
      dsimp only at h
      obtain ⟨V13, NM14, ehc2, hv13, gM14⟩ := zF69_r n (rm_rdx gM 96 hx6) hx2 gM hc2
      rw [ehc2]
      dsimp only
      exact zJ76_80_r n _ _ hrec8 hx1 hx2 hx3 hx4 hx5 hv13 gM14 h
def zJ76_53 (n : Nat) (zrec8 : Int → Int → Int → Int → Int → ZM → Option (Int × ZM)) (x1 : Int) (x2 : Int) (x3 : Int) (x4 : Int) (x5 : Int) (x6 : Int) (M : ZM) : Option (Int × ZM) :=
  if x6 < 0 ∨ 128 ≤ x6 then (none) else (if (M.1 95 (Int.toNat x6)) < 0 ∨ 128 ≤ (M.1 95 (Int.toNat x6)) then (none) else (zJ76_80 n zrec8 x1 x2 x3 x4 x5 (M.1 118 (Int.toNat (M.1 95 (Int.toNat x6)))) M))
set_option maxRecDepth 100000 in
set_option maxHeartbeats 4000000 in
theorem zJ76_53_r (n : Nat) (rec8 : Int32 → Int32 → Int32 → Int32 → Int32 → Mem → Option (Int32 × Mem)) (zrec8 : Int → Int → Int → Int → Int → ZM → Option (Int × ZM)) (hrec8 : ∀ {Y1 : Int32} {y1 : Int} (_ : rp Y1 y1) {Y2 : Int32} {y2 : Int} (_ : rp Y2 y2) {Y3 : Int32} {y3 : Int} (_ : rp Y3 y3) {Y4 : Int32} {y4 : Int} (_ : rp Y4 y4) {Y5 : Int32} {y5 : Int} (_ : rp Y5 y5) {M : Mem} {m : ZM} (_ : rm M m) {r : Int} {m' : ZM} (_ : zrec8 y1 y2 y3 y4 y5 m = some (r, m')), sI (rec8 Y1 Y2 Y3 Y4 Y5 M) r m') {X1_ : Int32} {x1 : Int} (hx1 : rp X1_ x1) {X2_ : Int32} {x2 : Int} (hx2 : rp X2_ x2) {X3_ : Int32} {x3 : Int} (hx3 : rp X3_ x3) {X4_ : Int32} {x4 : Int} (hx4 : rp X4_ x4) {X5_ : Int32} {x5 : Int} (hx5 : rp X5_ x5) {X6_ : Int32} {x6 : Int} (hx6 : rp X6_ x6) {M_ : Mem} {M : ZM} (gM : rm M_ M) {r : Int} {m' : ZM} (h : zJ76_53 n zrec8 x1 x2 x3 x4 x5 x6 M = some (r, m')) : sI (J76_53 n rec8 X1_ X2_ X3_ X4_ X5_ X6_ M_) r m' := by
  unfold zJ76_53 at h
  unfold J76_53
  by_cases q1 : x6 < 0 ∨ 128 ≤ x6
  · rw [if_pos q1] at h
    rw [if_pos ((rp_ob hx6 128).mpr q1)]
    cases h
  · rw [if_neg q1] at h
    rw [if_neg (fun z => q1 ((rp_ob hx6 128).mp z))]
    by_cases q2 : (M.1 95 (Int.toNat x6)) < 0 ∨ 128 ≤ (M.1 95 (Int.toNat x6))
    · rw [if_pos q2] at h
      rw [if_pos ((rp_ob (rm_rdx gM 95 hx6) 128).mpr q2)]
      cases h
    · rw [if_neg q2] at h
      rw [if_neg (fun z => q2 ((rp_ob (rm_rdx gM 95 hx6) 128).mp z))]
      exact zJ76_80_r n _ _ hrec8 hx1 hx2 hx3 hx4 hx5 (rm_rdx gM 118 (rm_rdx gM 95 hx6)) gM h
def zJ76_31 (n : Nat) (zrec8 : Int → Int → Int → Int → Int → ZM → Option (Int × ZM)) (x1 : Int) (x2 : Int) (x3 : Int) (x4 : Int) (x5 : Int) (M : ZM) : Option (Int × ZM) :=
  if x5 < 0 ∨ 128 ≤ x5 then (none) else (match zF46 n (M.1 98 (Int.toNat x5)) M with | some (v7, M8) => (if x1 < 0 ∨ 128 ≤ x1 then (none) else (if 0 ≤ (M8.1 101 (Int.toNat x1)) then (zJ76_68 n zrec8 x1 x2 x3 x4 x5 v7 M8) else (zJ76_53 n zrec8 x1 x2 x3 x4 x5 v7 M8))) | none => none)
set_option maxRecDepth 100000 in
set_option maxHeartbeats 4000000 in
theorem zJ76_31_r (n : Nat) (rec8 : Int32 → Int32 → Int32 → Int32 → Int32 → Mem → Option (Int32 × Mem)) (zrec8 : Int → Int → Int → Int → Int → ZM → Option (Int × ZM)) (hrec8 : ∀ {Y1 : Int32} {y1 : Int} (_ : rp Y1 y1) {Y2 : Int32} {y2 : Int} (_ : rp Y2 y2) {Y3 : Int32} {y3 : Int} (_ : rp Y3 y3) {Y4 : Int32} {y4 : Int} (_ : rp Y4 y4) {Y5 : Int32} {y5 : Int} (_ : rp Y5 y5) {M : Mem} {m : ZM} (_ : rm M m) {r : Int} {m' : ZM} (_ : zrec8 y1 y2 y3 y4 y5 m = some (r, m')), sI (rec8 Y1 Y2 Y3 Y4 Y5 M) r m') {X1_ : Int32} {x1 : Int} (hx1 : rp X1_ x1) {X2_ : Int32} {x2 : Int} (hx2 : rp X2_ x2) {X3_ : Int32} {x3 : Int} (hx3 : rp X3_ x3) {X4_ : Int32} {x4 : Int} (hx4 : rp X4_ x4) {X5_ : Int32} {x5 : Int} (hx5 : rp X5_ x5) {M_ : Mem} {M : ZM} (gM : rm M_ M) {r : Int} {m' : ZM} (h : zJ76_31 n zrec8 x1 x2 x3 x4 x5 M = some (r, m')) : sI (J76_31 n rec8 X1_ X2_ X3_ X4_ X5_ M_) r m' := by
  unfold zJ76_31 at h
  unfold J76_31
  by_cases q1 : x5 < 0 ∨ 128 ≤ x5
  · rw [if_pos q1] at h
    rw [if_pos ((rp_ob hx5 128).mpr q1)]
    cases h
  · rw [if_neg q1] at h
    rw [if_neg (fun z => q1 ((rp_ob hx5 128).mp z))]
    cases hc2 : zF46 n (M.1 98 (Int.toNat x5)) M with
    | none => rw [hc2] at h; cases h
    | some w =>
      obtain ⟨v7, M8⟩ := w
      rw [hc2] at h
      dsimp only at h
      obtain ⟨V7, NM8, ehc2, hv7, gM8⟩ := zF46_r n (rm_rdx gM 98 hx5) gM hc2
      rw [ehc2]
      dsimp only
      by_cases q3 : x1 < 0 ∨ 128 ≤ x1
      · rw [if_pos q3] at h
        rw [if_pos ((rp_ob hx1 128).mpr q3)]
        cases h
      · rw [if_neg q3] at h
        rw [if_neg (fun z => q3 ((rp_ob hx1 128).mp z))]
        by_cases q4 : 0 ≤ (M8.1 101 (Int.toNat x1))
        · rw [if_pos q4] at h
          rw [if_pos ((rp_le (show rp 0 0 from rfl) (rm_rdx gM8 101 hx1)).mpr q4)]
          exact zJ76_68_r n _ _ hrec8 hx1 hx2 hx3 hx4 hx5 hv7 gM8 h
        · rw [if_neg q4] at h
          rw [if_neg (fun z => q4 ((rp_le (show rp 0 0 from rfl) (rm_rdx gM8 101 hx1)).mp z))]
          exact zJ76_53_r n _ _ hrec8 hx1 hx2 hx3 hx4 hx5 hv7 gM8 h
def zL76_8 (n : Nat) : Nat → Int → Int → Int → Int → Int → ZM → Option (Int × ZM)
  | 0, _, _, _, _, _, _ => none
  | k + 1, x1, x2, x3, x4, x5, M => if x1 < 0 ∨ 128 ≤ x1 then (none) else (if (M.1 99 (Int.toNat x1)) ≤ x5 then (if x4 = 0 then (zJ76_123 n (-1) M) else (zJ76_123 n x3 M)) else (if x5 < 0 ∨ 128 ≤ x5 then (none) else (if (M.1 97 (Int.toNat x5)) = 7 then (zJ76_31 n (zL76_8 n k) x1 x2 x3 x4 x5 M) else (zJ76_107 n (zL76_8 n k) x1 x2 x3 x4 x5 M))))
set_option maxRecDepth 100000 in
set_option maxHeartbeats 4000000 in
theorem zL76_8_r (n : Nat) : ∀ (k : Nat) {X1_ : Int32} {x1 : Int} (hx1 : rp X1_ x1) {X2_ : Int32} {x2 : Int} (hx2 : rp X2_ x2) {X3_ : Int32} {x3 : Int} (hx3 : rp X3_ x3) {X4_ : Int32} {x4 : Int} (hx4 : rp X4_ x4) {X5_ : Int32} {x5 : Int} (hx5 : rp X5_ x5) {M_ : Mem} {M : ZM} (gM : rm M_ M) {r : Int} {m' : ZM} (_ : zL76_8 n k x1 x2 x3 x4 x5 M = some (r, m')), sI (L76_8 n k X1_ X2_ X3_ X4_ X5_ M_) r m' := by
  intro k
  induction k with
  | zero => intro X1_ x1 hx1 X2_ x2 hx2 X3_ x3 hx3 X4_ x4 hx4 X5_ x5 hx5 M_ M gM r m' h; cases h
  | succ k ih =>
    intro X1_ x1 hx1 X2_ x2 hx2 X3_ x3 hx3 X4_ x4 hx4 X5_ x5 hx5 M_ M gM r m' h
    rw [zL76_8] at h
    rw [L76_8]
    by_cases q1 : x1 < 0 ∨ 128 ≤ x1
    · rw [if_pos q1] at h
      rw [if_pos ((rp_ob hx1 128).mpr q1)]
      cases h
    · rw [if_neg q1] at h
      rw [if_neg (fun z => q1 ((rp_ob hx1 128).mp z))]
      by_cases q2 : (M.1 99 (Int.toNat x1)) ≤ x5
      · rw [if_pos q2] at h
        rw [if_pos ((rp_le (rm_rdx gM 99 hx1) hx5).mpr q2)]
        by_cases q3 : x4 = 0
        · rw [if_pos q3] at h
          rw [if_pos ((rp_eq hx4 (show rp 0 0 from rfl)).mpr q3)]
          exact zJ76_123_r n (show rp (-1) (-1) from rfl) gM h
        · rw [if_neg q3] at h
          rw [if_neg (fun z => q3 ((rp_eq hx4 (show rp 0 0 from rfl)).mp z))]
          exact zJ76_123_r n hx3 gM h
      · rw [if_neg q2] at h
        rw [if_neg (fun z => q2 ((rp_le (rm_rdx gM 99 hx1) hx5).mp z))]
        by_cases q4 : x5 < 0 ∨ 128 ≤ x5
        · rw [if_pos q4] at h
          rw [if_pos ((rp_ob hx5 128).mpr q4)]
          cases h
        · rw [if_neg q4] at h
          rw [if_neg (fun z => q4 ((rp_ob hx5 128).mp z))]
          by_cases q5 : (M.1 97 (Int.toNat x5)) = 7
          · rw [if_pos q5] at h
            rw [if_pos ((rp_eq (rm_rdx gM 97 hx5) (show rp 7 7 from rfl)).mpr q5)]
            exact zJ76_31_r n _ _ ih hx1 hx2 hx3 hx4 hx5 gM h
          · rw [if_neg q5] at h
            rw [if_neg (fun z => q5 ((rp_eq (rm_rdx gM 97 hx5) (show rp 7 7 from rfl)).mp z))]
            exact zJ76_107_r n _ _ ih hx1 hx2 hx3 hx4 hx5 gM h
/-- ArmExpanderModel.roundsOf -/
def zF76 (n : Nat) (a0 : Int) (a1 : Int) (M : ZM) : Option (Int × ZM) :=
  zL76_8 n n a0 a1 (-1) 1 a0 M
set_option maxRecDepth 100000 in
set_option maxHeartbeats 4000000 in
theorem zF76_r (n : Nat) {A0_ : Int32} {a0 : Int} (ha0 : rp A0_ a0) {A1_ : Int32} {a1 : Int} (ha1 : rp A1_ a1) {M_ : Mem} {M : ZM} (gM : rm M_ M) {r : Int} {m' : ZM} (h : zF76 n a0 a1 M = some (r, m')) : sI (F76 n A0_ A1_ M_) r m' := by
  unfold zF76 at h
  unfold F76
  exact zL76_8_r n n ha0 ha1 (show rp (-1) (-1) from rfl) (show rp 1 1 from rfl) ha0 gM h
def zJ77_328 (n : Nat) (zrec18 : Int → Int → Int → Int → Int → Int → ZM → Option (Int × ZM)) (x1 : Int) (x2 : Int) (x3 : Int) (x4 : Int) (x5 : Int) (x9 : Int) (M : ZM) : Option (Int × ZM) :=
  zrec18 x1 x2 x3 x4 x5 x9 M
set_option maxRecDepth 100000 in
set_option maxHeartbeats 4000000 in
theorem zJ77_328_r (n : Nat) (rec18 : Int32 → Int32 → Int32 → Int32 → Int32 → Int32 → Mem → Option (Int32 × Mem)) (zrec18 : Int → Int → Int → Int → Int → Int → ZM → Option (Int × ZM)) (hrec18 : ∀ {Y1 : Int32} {y1 : Int} (_ : rp Y1 y1) {Y2 : Int32} {y2 : Int} (_ : rp Y2 y2) {Y3 : Int32} {y3 : Int} (_ : rp Y3 y3) {Y4 : Int32} {y4 : Int} (_ : rp Y4 y4) {Y5 : Int32} {y5 : Int} (_ : rp Y5 y5) {Y6 : Int32} {y6 : Int} (_ : rp Y6 y6) {M : Mem} {m : ZM} (_ : rm M m) {r : Int} {m' : ZM} (_ : zrec18 y1 y2 y3 y4 y5 y6 m = some (r, m')), sI (rec18 Y1 Y2 Y3 Y4 Y5 Y6 M) r m') {X1_ : Int32} {x1 : Int} (hx1 : rp X1_ x1) {X2_ : Int32} {x2 : Int} (hx2 : rp X2_ x2) {X3_ : Int32} {x3 : Int} (hx3 : rp X3_ x3) {X4_ : Int32} {x4 : Int} (hx4 : rp X4_ x4) {X5_ : Int32} {x5 : Int} (hx5 : rp X5_ x5) {X9_ : Int32} {x9 : Int} (hx9 : rp X9_ x9) {M_ : Mem} {M : ZM} (gM : rm M_ M) {r : Int} {m' : ZM} (h : zJ77_328 n zrec18 x1 x2 x3 x4 x5 x9 M = some (r, m')) : sI (J77_328 n rec18 X1_ X2_ X3_ X4_ X5_ X9_ M_) r m' := by
  unfold zJ77_328 at h
  unfold J77_328
  exact hrec18 hx1 hx2 hx3 hx4 hx5 hx9 gM h
def zJ77_102 (n : Nat) (zrec18 : Int → Int → Int → Int → Int → Int → ZM → Option (Int × ZM)) (x1 : Int) (x2 : Int) (x3 : Int) (x4 : Int) (x5 : Int) (x9 : Int) (x10 : Int) (M : ZM) : Option (Int × ZM) :=
  match zF75 n x10 x2 x4 x1 M with | some (v17, M18) => (zJ77_328 n zrec18 x1 x2 x3 x4 x5 x9 M18) | none => none
set_option maxRecDepth 100000 in
set_option maxHeartbeats 4000000 in
theorem zJ77_102_r (n : Nat) (rec18 : Int32 → Int32 → Int32 → Int32 → Int32 → Int32 → Mem → Option (Int32 × Mem)) (zrec18 : Int → Int → Int → Int → Int → Int → ZM → Option (Int × ZM)) (hrec18 : ∀ {Y1 : Int32} {y1 : Int} (_ : rp Y1 y1) {Y2 : Int32} {y2 : Int} (_ : rp Y2 y2) {Y3 : Int32} {y3 : Int} (_ : rp Y3 y3) {Y4 : Int32} {y4 : Int} (_ : rp Y4 y4) {Y5 : Int32} {y5 : Int} (_ : rp Y5 y5) {Y6 : Int32} {y6 : Int} (_ : rp Y6 y6) {M : Mem} {m : ZM} (_ : rm M m) {r : Int} {m' : ZM} (_ : zrec18 y1 y2 y3 y4 y5 y6 m = some (r, m')), sI (rec18 Y1 Y2 Y3 Y4 Y5 Y6 M) r m') {X1_ : Int32} {x1 : Int} (hx1 : rp X1_ x1) {X2_ : Int32} {x2 : Int} (hx2 : rp X2_ x2) {X3_ : Int32} {x3 : Int} (hx3 : rp X3_ x3) {X4_ : Int32} {x4 : Int} (hx4 : rp X4_ x4) {X5_ : Int32} {x5 : Int} (hx5 : rp X5_ x5) {X9_ : Int32} {x9 : Int} (hx9 : rp X9_ x9) {X10_ : Int32} {x10 : Int} (hx10 : rp X10_ x10) {M_ : Mem} {M : ZM} (gM : rm M_ M) {r : Int} {m' : ZM} (h : zJ77_102 n zrec18 x1 x2 x3 x4 x5 x9 x10 M = some (r, m')) : sI (J77_102 n rec18 X1_ X2_ X3_ X4_ X5_ X9_ X10_ M_) r m' := by
  unfold zJ77_102 at h
  unfold J77_102
  cases hc1 : zF75 n x10 x2 x4 x1 M with
  | none => rw [hc1] at h; cases h
  | some w =>
    obtain ⟨v17, M18⟩ := w
    rw [hc1] at h
    dsimp only at h
    obtain ⟨NM18, ehc1, gM18⟩ := zF75_r n hx10 hx2 hx4 hx1 gM hc1
    rw [ehc1]
    dsimp only
    exact zJ77_328_r n _ _ hrec18 hx1 hx2 hx3 hx4 hx5 hx9 gM18 h
def zJ77_209 (n : Nat) (zrec18 : Int → Int → Int → Int → Int → Int → ZM → Option (Int × ZM)) (x1 : Int) (x3 : Int) (x4 : Int) (x5 : Int) (x9 : Int) (s0 : Int) (M : ZM) : Option (Int × ZM) :=
  zJ77_328 n zrec18 x1 s0 x3 x4 x5 x9 M
set_option maxRecDepth 100000 in
set_option maxHeartbeats 4000000 in
theorem zJ77_209_r (n : Nat) (rec18 : Int32 → Int32 → Int32 → Int32 → Int32 → Int32 → Mem → Option (Int32 × Mem)) (zrec18 : Int → Int → Int → Int → Int → Int → ZM → Option (Int × ZM)) (hrec18 : ∀ {Y1 : Int32} {y1 : Int} (_ : rp Y1 y1) {Y2 : Int32} {y2 : Int} (_ : rp Y2 y2) {Y3 : Int32} {y3 : Int} (_ : rp Y3 y3) {Y4 : Int32} {y4 : Int} (_ : rp Y4 y4) {Y5 : Int32} {y5 : Int} (_ : rp Y5 y5) {Y6 : Int32} {y6 : Int} (_ : rp Y6 y6) {M : Mem} {m : ZM} (_ : rm M m) {r : Int} {m' : ZM} (_ : zrec18 y1 y2 y3 y4 y5 y6 m = some (r, m')), sI (rec18 Y1 Y2 Y3 Y4 Y5 Y6 M) r m') {X1_ : Int32} {x1 : Int} (hx1 : rp X1_ x1) {X3_ : Int32} {x3 : Int} (hx3 : rp X3_ x3) {X4_ : Int32} {x4 : Int} (hx4 : rp X4_ x4) {X5_ : Int32} {x5 : Int} (hx5 : rp X5_ x5) {X9_ : Int32} {x9 : Int} (hx9 : rp X9_ x9) {S0_ : Int32} {s0 : Int} (hs0 : rp S0_ s0) {M_ : Mem} {M : ZM} (gM : rm M_ M) {r : Int} {m' : ZM} (h : zJ77_209 n zrec18 x1 x3 x4 x5 x9 s0 M = some (r, m')) : sI (J77_209 n rec18 X1_ X3_ X4_ X5_ X9_ S0_ M_) r m' := by
  unfold zJ77_209 at h
  unfold J77_209
  exact zJ77_328_r n _ _ hrec18 hx1 hs0 hx3 hx4 hx5 hx9 gM h
def zJ77_198 (n : Nat) (zrec18 : Int → Int → Int → Int → Int → Int → ZM → Option (Int × ZM)) (x1 : Int) (x2 : Int) (x4 : Int) (x5 : Int) (x8 : Int) (x9 : Int) (s0 : Int) (M : ZM) : Option (Int × ZM) :=
  if x8 = 0 then (zJ77_209 n zrec18 x1 s0 x4 x5 x9 0 M) else (zJ77_209 n zrec18 x1 s0 x4 x5 x9 x2 M)
set_option maxRecDepth 100000 in
set_option maxHeartbeats 4000000 in
theorem zJ77_198_r (n : Nat) (rec18 : Int32 → Int32 → Int32 → Int32 → Int32 → Int32 → Mem → Option (Int32 × Mem)) (zrec18 : Int → Int → Int → Int → Int → Int → ZM → Option (Int × ZM)) (hrec18 : ∀ {Y1 : Int32} {y1 : Int} (_ : rp Y1 y1) {Y2 : Int32} {y2 : Int} (_ : rp Y2 y2) {Y3 : Int32} {y3 : Int} (_ : rp Y3 y3) {Y4 : Int32} {y4 : Int} (_ : rp Y4 y4) {Y5 : Int32} {y5 : Int} (_ : rp Y5 y5) {Y6 : Int32} {y6 : Int} (_ : rp Y6 y6) {M : Mem} {m : ZM} (_ : rm M m) {r : Int} {m' : ZM} (_ : zrec18 y1 y2 y3 y4 y5 y6 m = some (r, m')), sI (rec18 Y1 Y2 Y3 Y4 Y5 Y6 M) r m') {X1_ : Int32} {x1 : Int} (hx1 : rp X1_ x1) {X2_ : Int32} {x2 : Int} (hx2 : rp X2_ x2) {X4_ : Int32} {x4 : Int} (hx4 : rp X4_ x4) {X5_ : Int32} {x5 : Int} (hx5 : rp X5_ x5) {X8_ : Int32} {x8 : Int} (hx8 : rp X8_ x8) {X9_ : Int32} {x9 : Int} (hx9 : rp X9_ x9) {S0_ : Int32} {s0 : Int} (hs0 : rp S0_ s0) {M_ : Mem} {M : ZM} (gM : rm M_ M) {r : Int} {m' : ZM} (h : zJ77_198 n zrec18 x1 x2 x4 x5 x8 x9 s0 M = some (r, m')) : sI (J77_198 n rec18 X1_ X2_ X4_ X5_ X8_ X9_ S0_ M_) r m' := by
  unfold zJ77_198 at h
  unfold J77_198
  by_cases q1 : x8 = 0
  · rw [if_pos q1] at h
    rw [if_pos ((rp_eq hx8 (show rp 0 0 from rfl)).mpr q1)]
    exact zJ77_209_r n _ _ hrec18 hx1 hs0 hx4 hx5 hx9 (show rp 0 0 from rfl) gM h
  · rw [if_neg q1] at h
    rw [if_neg (fun z => q1 ((rp_eq hx8 (show rp 0 0 from rfl)).mp z))]
    exact zJ77_209_r n _ _ hrec18 hx1 hs0 hx4 hx5 hx9 hx2 gM h
def zJ77_185 (n : Nat) (zrec18 : Int → Int → Int → Int → Int → Int → ZM → Option (Int × ZM)) (x1 : Int) (x2 : Int) (x3 : Int) (x5 : Int) (x8 : Int) (x9 : Int) (x10 : Int) (s0 : Int) (M : ZM) : Option (Int × ZM) :=
  if x8 = 0 then (zJ77_198 n zrec18 x1 x2 s0 x5 x8 x9 x10 M) else (zJ77_198 n zrec18 x1 x2 s0 x5 x8 x9 x3 M)
set_option maxRecDepth 100000 in
set_option maxHeartbeats 4000000 in
theorem zJ77_185_r (n : Nat) (rec18 : Int32 → Int32 → Int32 → Int32 → Int32 → Int32 → Mem → Option (Int32 × Mem)) (zrec18 : Int → Int → Int → Int → Int → Int → ZM → Option (Int × ZM)) (hrec18 : ∀ {Y1 : Int32} {y1 : Int} (_ : rp Y1 y1) {Y2 : Int32} {y2 : Int} (_ : rp Y2 y2) {Y3 : Int32} {y3 : Int} (_ : rp Y3 y3) {Y4 : Int32} {y4 : Int} (_ : rp Y4 y4) {Y5 : Int32} {y5 : Int} (_ : rp Y5 y5) {Y6 : Int32} {y6 : Int} (_ : rp Y6 y6) {M : Mem} {m : ZM} (_ : rm M m) {r : Int} {m' : ZM} (_ : zrec18 y1 y2 y3 y4 y5 y6 m = some (r, m')), sI (rec18 Y1 Y2 Y3 Y4 Y5 Y6 M) r m') {X1_ : Int32} {x1 : Int} (hx1 : rp X1_ x1) {X2_ : Int32} {x2 : Int} (hx2 : rp X2_ x2) {X3_ : Int32} {x3 : Int} (hx3 : rp X3_ x3) {X5_ : Int32} {x5 : Int} (hx5 : rp X5_ x5) {X8_ : Int32} {x8 : Int} (hx8 : rp X8_ x8) {X9_ : Int32} {x9 : Int} (hx9 : rp X9_ x9) {X10_ : Int32} {x10 : Int} (hx10 : rp X10_ x10) {S0_ : Int32} {s0 : Int} (hs0 : rp S0_ s0) {M_ : Mem} {M : ZM} (gM : rm M_ M) {r : Int} {m' : ZM} (h : zJ77_185 n zrec18 x1 x2 x3 x5 x8 x9 x10 s0 M = some (r, m')) : sI (J77_185 n rec18 X1_ X2_ X3_ X5_ X8_ X9_ X10_ S0_ M_) r m' := by
  unfold zJ77_185 at h
  unfold J77_185
  by_cases q1 : x8 = 0
  · rw [if_pos q1] at h
    rw [if_pos ((rp_eq hx8 (show rp 0 0 from rfl)).mpr q1)]
    exact zJ77_198_r n _ _ hrec18 hx1 hx2 hs0 hx5 hx8 hx9 hx10 gM h
  · rw [if_neg q1] at h
    rw [if_neg (fun z => q1 ((rp_eq hx8 (show rp 0 0 from rfl)).mp z))]
    exact zJ77_198_r n _ _ hrec18 hx1 hx2 hs0 hx5 hx8 hx9 hx3 gM h
def zJ77_172 (n : Nat) (zrec18 : Int → Int → Int → Int → Int → Int → ZM → Option (Int × ZM)) (x1 : Int) (x2 : Int) (x3 : Int) (x4 : Int) (x8 : Int) (x9 : Int) (x10 : Int) (s0 : Int) (M : ZM) : Option (Int × ZM) :=
  if x8 = 0 then (zJ77_185 n zrec18 x1 x2 x3 s0 x8 x9 x10 x4 M) else (zJ77_185 n zrec18 x1 x2 x3 s0 x8 x9 x10 0 M)
set_option maxRecDepth 100000 in
set_option maxHeartbeats 4000000 in
theorem zJ77_172_r (n : Nat) (rec18 : Int32 → Int32 → Int32 → Int32 → Int32 → Int32 → Mem → Option (Int32 × Mem)) (zrec18 : Int → Int → Int → Int → Int → Int → ZM → Option (Int × ZM)) (hrec18 : ∀ {Y1 : Int32} {y1 : Int} (_ : rp Y1 y1) {Y2 : Int32} {y2 : Int} (_ : rp Y2 y2) {Y3 : Int32} {y3 : Int} (_ : rp Y3 y3) {Y4 : Int32} {y4 : Int} (_ : rp Y4 y4) {Y5 : Int32} {y5 : Int} (_ : rp Y5 y5) {Y6 : Int32} {y6 : Int} (_ : rp Y6 y6) {M : Mem} {m : ZM} (_ : rm M m) {r : Int} {m' : ZM} (_ : zrec18 y1 y2 y3 y4 y5 y6 m = some (r, m')), sI (rec18 Y1 Y2 Y3 Y4 Y5 Y6 M) r m') {X1_ : Int32} {x1 : Int} (hx1 : rp X1_ x1) {X2_ : Int32} {x2 : Int} (hx2 : rp X2_ x2) {X3_ : Int32} {x3 : Int} (hx3 : rp X3_ x3) {X4_ : Int32} {x4 : Int} (hx4 : rp X4_ x4) {X8_ : Int32} {x8 : Int} (hx8 : rp X8_ x8) {X9_ : Int32} {x9 : Int} (hx9 : rp X9_ x9) {X10_ : Int32} {x10 : Int} (hx10 : rp X10_ x10) {S0_ : Int32} {s0 : Int} (hs0 : rp S0_ s0) {M_ : Mem} {M : ZM} (gM : rm M_ M) {r : Int} {m' : ZM} (h : zJ77_172 n zrec18 x1 x2 x3 x4 x8 x9 x10 s0 M = some (r, m')) : sI (J77_172 n rec18 X1_ X2_ X3_ X4_ X8_ X9_ X10_ S0_ M_) r m' := by
  unfold zJ77_172 at h
  unfold J77_172
  by_cases q1 : x8 = 0
  · rw [if_pos q1] at h
    rw [if_pos ((rp_eq hx8 (show rp 0 0 from rfl)).mpr q1)]
    exact zJ77_185_r n _ _ hrec18 hx1 hx2 hx3 hs0 hx8 hx9 hx10 hx4 gM h
  · rw [if_neg q1] at h
    rw [if_neg (fun z => q1 ((rp_eq hx8 (show rp 0 0 from rfl)).mp z))]
    exact zJ77_185_r n _ _ hrec18 hx1 hx2 hx3 hs0 hx8 hx9 hx10 (show rp 0 0 from rfl) gM h
def zJ77_158 (n : Nat) (zrec18 : Int → Int → Int → Int → Int → Int → ZM → Option (Int × ZM)) (x1 : Int) (x2 : Int) (x3 : Int) (x4 : Int) (x5 : Int) (x8 : Int) (x10 : Int) (s0 : Int) (M : ZM) : Option (Int × ZM) :=
  if x8 = 0 then (zJ77_172 n zrec18 x1 x2 x3 x4 x8 s0 x10 x5 M) else (zJ77_172 n zrec18 x1 x2 x3 x4 x8 s0 x10 x10 M)
set_option maxRecDepth 100000 in
set_option maxHeartbeats 4000000 in
theorem zJ77_158_r (n : Nat) (rec18 : Int32 → Int32 → Int32 → Int32 → Int32 → Int32 → Mem → Option (Int32 × Mem)) (zrec18 : Int → Int → Int → Int → Int → Int → ZM → Option (Int × ZM)) (hrec18 : ∀ {Y1 : Int32} {y1 : Int} (_ : rp Y1 y1) {Y2 : Int32} {y2 : Int} (_ : rp Y2 y2) {Y3 : Int32} {y3 : Int} (_ : rp Y3 y3) {Y4 : Int32} {y4 : Int} (_ : rp Y4 y4) {Y5 : Int32} {y5 : Int} (_ : rp Y5 y5) {Y6 : Int32} {y6 : Int} (_ : rp Y6 y6) {M : Mem} {m : ZM} (_ : rm M m) {r : Int} {m' : ZM} (_ : zrec18 y1 y2 y3 y4 y5 y6 m = some (r, m')), sI (rec18 Y1 Y2 Y3 Y4 Y5 Y6 M) r m') {X1_ : Int32} {x1 : Int} (hx1 : rp X1_ x1) {X2_ : Int32} {x2 : Int} (hx2 : rp X2_ x2) {X3_ : Int32} {x3 : Int} (hx3 : rp X3_ x3) {X4_ : Int32} {x4 : Int} (hx4 : rp X4_ x4) {X5_ : Int32} {x5 : Int} (hx5 : rp X5_ x5) {X8_ : Int32} {x8 : Int} (hx8 : rp X8_ x8) {X10_ : Int32} {x10 : Int} (hx10 : rp X10_ x10) {S0_ : Int32} {s0 : Int} (hs0 : rp S0_ s0) {M_ : Mem} {M : ZM} (gM : rm M_ M) {r : Int} {m' : ZM} (h : zJ77_158 n zrec18 x1 x2 x3 x4 x5 x8 x10 s0 M = some (r, m')) : sI (J77_158 n rec18 X1_ X2_ X3_ X4_ X5_ X8_ X10_ S0_ M_) r m' := by
  unfold zJ77_158 at h
  unfold J77_158
  by_cases q1 : x8 = 0
  · rw [if_pos q1] at h
    rw [if_pos ((rp_eq hx8 (show rp 0 0 from rfl)).mpr q1)]
    exact zJ77_172_r n _ _ hrec18 hx1 hx2 hx3 hx4 hx8 hs0 hx10 hx5 gM h
  · rw [if_neg q1] at h
    rw [if_neg (fun z => q1 ((rp_eq hx8 (show rp 0 0 from rfl)).mp z))]
    exact zJ77_172_r n _ _ hrec18 hx1 hx2 hx3 hx4 hx8 hs0 hx10 hx10 gM h
def zJ77_130 (n : Nat) (zrec18 : Int → Int → Int → Int → Int → Int → ZM → Option (Int × ZM)) (x1 : Int) (x2 : Int) (x3 : Int) (x4 : Int) (x5 : Int) (x6 : Int) (x8 : Int) (x10 : Int) (M : ZM) : Option (Int × ZM) :=
  if 0 ≤ x10 then (if x10 = 0 then (if x6 < 0 ∨ 128 ≤ x6 then (none) else (if rg ((M.1 99 (Int.toNat x6)) + 1) then (zJ77_158 n zrec18 x1 x2 x3 x4 x5 x8 x10 ((M.1 99 (Int.toNat x6)) + 1) M) else none)) else (if rg (x6 + 1) then (zJ77_158 n zrec18 x1 x2 x3 x4 x5 x8 x10 (x6 + 1) M) else none)) else (some (0, M))
set_option maxRecDepth 100000 in
set_option maxHeartbeats 4000000 in
theorem zJ77_130_r (n : Nat) (rec18 : Int32 → Int32 → Int32 → Int32 → Int32 → Int32 → Mem → Option (Int32 × Mem)) (zrec18 : Int → Int → Int → Int → Int → Int → ZM → Option (Int × ZM)) (hrec18 : ∀ {Y1 : Int32} {y1 : Int} (_ : rp Y1 y1) {Y2 : Int32} {y2 : Int} (_ : rp Y2 y2) {Y3 : Int32} {y3 : Int} (_ : rp Y3 y3) {Y4 : Int32} {y4 : Int} (_ : rp Y4 y4) {Y5 : Int32} {y5 : Int} (_ : rp Y5 y5) {Y6 : Int32} {y6 : Int} (_ : rp Y6 y6) {M : Mem} {m : ZM} (_ : rm M m) {r : Int} {m' : ZM} (_ : zrec18 y1 y2 y3 y4 y5 y6 m = some (r, m')), sI (rec18 Y1 Y2 Y3 Y4 Y5 Y6 M) r m') {X1_ : Int32} {x1 : Int} (hx1 : rp X1_ x1) {X2_ : Int32} {x2 : Int} (hx2 : rp X2_ x2) {X3_ : Int32} {x3 : Int} (hx3 : rp X3_ x3) {X4_ : Int32} {x4 : Int} (hx4 : rp X4_ x4) {X5_ : Int32} {x5 : Int} (hx5 : rp X5_ x5) {X6_ : Int32} {x6 : Int} (hx6 : rp X6_ x6) {X8_ : Int32} {x8 : Int} (hx8 : rp X8_ x8) {X10_ : Int32} {x10 : Int} (hx10 : rp X10_ x10) {M_ : Mem} {M : ZM} (gM : rm M_ M) {r : Int} {m' : ZM} (h : zJ77_130 n zrec18 x1 x2 x3 x4 x5 x6 x8 x10 M = some (r, m')) : sI (J77_130 n rec18 X1_ X2_ X3_ X4_ X5_ X6_ X8_ X10_ M_) r m' := by
  unfold zJ77_130 at h
  unfold J77_130
  by_cases q1 : 0 ≤ x10
  · rw [if_pos q1] at h
    rw [if_pos ((rp_le (show rp 0 0 from rfl) hx10).mpr q1)]
    by_cases q2 : x10 = 0
    · rw [if_pos q2] at h
      rw [if_pos ((rp_eq hx10 (show rp 0 0 from rfl)).mpr q2)]
      by_cases q3 : x6 < 0 ∨ 128 ≤ x6
      · rw [if_pos q3] at h
        rw [if_pos ((rp_ob hx6 128).mpr q3)]
        cases h
      · rw [if_neg q3] at h
        rw [if_neg (fun z => q3 ((rp_ob hx6 128).mp z))]
        by_cases w4 : rg ((M.1 99 (Int.toNat x6)) + 1)
        · rw [if_pos w4] at h
          exact zJ77_158_r n _ _ hrec18 hx1 hx2 hx3 hx4 hx5 hx8 hx10 (rp_add (rp_iz (rm_rdx gM 99 hx6)) (rp_iz (show rp 1 1 from rfl)) w4) gM h
        · rw [if_neg w4] at h
          cases h
    · rw [if_neg q2] at h
      rw [if_neg (fun z => q2 ((rp_eq hx10 (show rp 0 0 from rfl)).mp z))]
      by_cases w5 : rg (x6 + 1)
      · rw [if_pos w5] at h
        exact zJ77_158_r n _ _ hrec18 hx1 hx2 hx3 hx4 hx5 hx8 hx10 (rp_add (rp_iz hx6) (rp_iz (show rp 1 1 from rfl)) w5) gM h
      · rw [if_neg w5] at h
        cases h
  · rw [if_neg q1] at h
    rw [if_neg (fun z => q1 ((rp_le (show rp 0 0 from rfl) hx10).mp z))]
    obtain ⟨rfl, rfl⟩ := Prod.mk.inj (Option.some.inj h)
    exact ⟨_, _, rfl, (show rp 0 0 from rfl), gM⟩
def zJ77_326 (n : Nat) (zrec18 : Int → Int → Int → Int → Int → Int → ZM → Option (Int × ZM)) (x1 : Int) (x2 : Int) (x3 : Int) (x4 : Int) (x5 : Int) (s0 : Int) (M : ZM) : Option (Int × ZM) :=
  zJ77_328 n zrec18 x1 x2 x3 x4 x5 s0 M
set_option maxRecDepth 100000 in
set_option maxHeartbeats 4000000 in
theorem zJ77_326_r (n : Nat) (rec18 : Int32 → Int32 → Int32 → Int32 → Int32 → Int32 → Mem → Option (Int32 × Mem)) (zrec18 : Int → Int → Int → Int → Int → Int → ZM → Option (Int × ZM)) (hrec18 : ∀ {Y1 : Int32} {y1 : Int} (_ : rp Y1 y1) {Y2 : Int32} {y2 : Int} (_ : rp Y2 y2) {Y3 : Int32} {y3 : Int} (_ : rp Y3 y3) {Y4 : Int32} {y4 : Int} (_ : rp Y4 y4) {Y5 : Int32} {y5 : Int} (_ : rp Y5 y5) {Y6 : Int32} {y6 : Int} (_ : rp Y6 y6) {M : Mem} {m : ZM} (_ : rm M m) {r : Int} {m' : ZM} (_ : zrec18 y1 y2 y3 y4 y5 y6 m = some (r, m')), sI (rec18 Y1 Y2 Y3 Y4 Y5 Y6 M) r m') {X1_ : Int32} {x1 : Int} (hx1 : rp X1_ x1) {X2_ : Int32} {x2 : Int} (hx2 : rp X2_ x2) {X3_ : Int32} {x3 : Int} (hx3 : rp X3_ x3) {X4_ : Int32} {x4 : Int} (hx4 : rp X4_ x4) {X5_ : Int32} {x5 : Int} (hx5 : rp X5_ x5) {S0_ : Int32} {s0 : Int} (hs0 : rp S0_ s0) {M_ : Mem} {M : ZM} (gM : rm M_ M) {r : Int} {m' : ZM} (h : zJ77_326 n zrec18 x1 x2 x3 x4 x5 s0 M = some (r, m')) : sI (J77_326 n rec18 X1_ X2_ X3_ X4_ X5_ S0_ M_) r m' := by
  unfold zJ77_326 at h
  unfold J77_326
  exact zJ77_328_r n _ _ hrec18 hx1 hx2 hx3 hx4 hx5 hs0 gM h
def zJ77_304 (n : Nat) (zrec18 : Int → Int → Int → Int → Int → Int → ZM → Option (Int × ZM)) (x1 : Int) (x3 : Int) (x4 : Int) (x5 : Int) (x6 : Int) (x10 : Int) (s0 : Int) (M : ZM) : Option (Int × ZM) :=
  if x10 = 0 then (if rg (x6 + 1) then (zJ77_326 n zrec18 x1 s0 x3 x4 x5 (x6 + 1) M) else none) else (if x6 < 0 ∨ 128 ≤ x6 then (none) else (if rg ((M.1 99 (Int.toNat x6)) + 1) then (zJ77_326 n zrec18 x1 s0 x3 x4 x5 ((M.1 99 (Int.toNat x6)) + 1) M) else none))
set_option maxRecDepth 100000 in
set_option maxHeartbeats 4000000 in
theorem zJ77_304_r (n : Nat) (rec18 : Int32 → Int32 → Int32 → Int32 → Int32 → Int32 → Mem → Option (Int32 × Mem)) (zrec18 : Int → Int → Int → Int → Int → Int → ZM → Option (Int × ZM)) (hrec18 : ∀ {Y1 : Int32} {y1 : Int} (_ : rp Y1 y1) {Y2 : Int32} {y2 : Int} (_ : rp Y2 y2) {Y3 : Int32} {y3 : Int} (_ : rp Y3 y3) {Y4 : Int32} {y4 : Int} (_ : rp Y4 y4) {Y5 : Int32} {y5 : Int} (_ : rp Y5 y5) {Y6 : Int32} {y6 : Int} (_ : rp Y6 y6) {M : Mem} {m : ZM} (_ : rm M m) {r : Int} {m' : ZM} (_ : zrec18 y1 y2 y3 y4 y5 y6 m = some (r, m')), sI (rec18 Y1 Y2 Y3 Y4 Y5 Y6 M) r m') {X1_ : Int32} {x1 : Int} (hx1 : rp X1_ x1) {X3_ : Int32} {x3 : Int} (hx3 : rp X3_ x3) {X4_ : Int32} {x4 : Int} (hx4 : rp X4_ x4) {X5_ : Int32} {x5 : Int} (hx5 : rp X5_ x5) {X6_ : Int32} {x6 : Int} (hx6 : rp X6_ x6) {X10_ : Int32} {x10 : Int} (hx10 : rp X10_ x10) {S0_ : Int32} {s0 : Int} (hs0 : rp S0_ s0) {M_ : Mem} {M : ZM} (gM : rm M_ M) {r : Int} {m' : ZM} (h : zJ77_304 n zrec18 x1 x3 x4 x5 x6 x10 s0 M = some (r, m')) : sI (J77_304 n rec18 X1_ X3_ X4_ X5_ X6_ X10_ S0_ M_) r m' := by
  unfold zJ77_304 at h
  unfold J77_304
  by_cases q1 : x10 = 0
  · rw [if_pos q1] at h
    rw [if_pos ((rp_eq hx10 (show rp 0 0 from rfl)).mpr q1)]
    by_cases w2 : rg (x6 + 1)
    · rw [if_pos w2] at h
      exact zJ77_326_r n _ _ hrec18 hx1 hs0 hx3 hx4 hx5 (rp_add (rp_iz hx6) (rp_iz (show rp 1 1 from rfl)) w2) gM h
    · rw [if_neg w2] at h
      cases h
  · rw [if_neg q1] at h
    rw [if_neg (fun z => q1 ((rp_eq hx10 (show rp 0 0 from rfl)).mp z))]
    by_cases q3 : x6 < 0 ∨ 128 ≤ x6
    · rw [if_pos q3] at h
      rw [if_pos ((rp_ob hx6 128).mpr q3)]
      cases h
    · rw [if_neg q3] at h
      rw [if_neg (fun z => q3 ((rp_ob hx6 128).mp z))]
      by_cases w4 : rg ((M.1 99 (Int.toNat x6)) + 1)
      · rw [if_pos w4] at h
        exact zJ77_326_r n _ _ hrec18 hx1 hs0 hx3 hx4 hx5 (rp_add (rp_iz (rm_rdx gM 99 hx6)) (rp_iz (show rp 1 1 from rfl)) w4) gM h
      · rw [if_neg w4] at h
        cases h
def zJ77_290 (n : Nat) (zrec18 : Int → Int → Int → Int → Int → Int → ZM → Option (Int × ZM)) (x1 : Int) (x2 : Int) (x3 : Int) (x5 : Int) (x6 : Int) (x8 : Int) (x10 : Int) (s0 : Int) (M : ZM) : Option (Int × ZM) :=
  if x8 = 0 then (if rg (x2 + 1) then (zJ77_304 n zrec18 x1 x3 s0 x5 x6 x10 (x2 + 1) M) else none) else (zJ77_304 n zrec18 x1 x3 s0 x5 x6 x10 x2 M)
set_option maxRecDepth 100000 in
set_option maxHeartbeats 4000000 in
theorem zJ77_290_r (n : Nat) (rec18 : Int32 → Int32 → Int32 → Int32 → Int32 → Int32 → Mem → Option (Int32 × Mem)) (zrec18 : Int → Int → Int → Int → Int → Int → ZM → Option (Int × ZM)) (hrec18 : ∀ {Y1 : Int32} {y1 : Int} (_ : rp Y1 y1) {Y2 : Int32} {y2 : Int} (_ : rp Y2 y2) {Y3 : Int32} {y3 : Int} (_ : rp Y3 y3) {Y4 : Int32} {y4 : Int} (_ : rp Y4 y4) {Y5 : Int32} {y5 : Int} (_ : rp Y5 y5) {Y6 : Int32} {y6 : Int} (_ : rp Y6 y6) {M : Mem} {m : ZM} (_ : rm M m) {r : Int} {m' : ZM} (_ : zrec18 y1 y2 y3 y4 y5 y6 m = some (r, m')), sI (rec18 Y1 Y2 Y3 Y4 Y5 Y6 M) r m') {X1_ : Int32} {x1 : Int} (hx1 : rp X1_ x1) {X2_ : Int32} {x2 : Int} (hx2 : rp X2_ x2) {X3_ : Int32} {x3 : Int} (hx3 : rp X3_ x3) {X5_ : Int32} {x5 : Int} (hx5 : rp X5_ x5) {X6_ : Int32} {x6 : Int} (hx6 : rp X6_ x6) {X8_ : Int32} {x8 : Int} (hx8 : rp X8_ x8) {X10_ : Int32} {x10 : Int} (hx10 : rp X10_ x10) {S0_ : Int32} {s0 : Int} (hs0 : rp S0_ s0) {M_ : Mem} {M : ZM} (gM : rm M_ M) {r : Int} {m' : ZM} (h : zJ77_290 n zrec18 x1 x2 x3 x5 x6 x8 x10 s0 M = some (r, m')) : sI (J77_290 n rec18 X1_ X2_ X3_ X5_ X6_ X8_ X10_ S0_ M_) r m' := by
  unfold zJ77_290 at h
  unfold J77_290
  by_cases q1 : x8 = 0
  · rw [if_pos q1] at h
    rw [if_pos ((rp_eq hx8 (show rp 0 0 from rfl)).mpr q1)]
    by_cases w2 : rg (x2 + 1)
    · rw [if_pos w2] at h
      exact zJ77_304_r n _ _ hrec18 hx1 hx3 hs0 hx5 hx6 hx10 (rp_add (rp_iz hx2) (rp_iz (show rp 1 1 from rfl)) w2) gM h
    · rw [if_neg w2] at h
      cases h
  · rw [if_neg q1] at h
    rw [if_neg (fun z => q1 ((rp_eq hx8 (show rp 0 0 from rfl)).mp z))]
    exact zJ77_304_r n _ _ hrec18 hx1 hx3 hs0 hx5 hx6 hx10 hx2 gM h
def zJ77_276 (n : Nat) (zrec18 : Int → Int → Int → Int → Int → Int → ZM → Option (Int × ZM)) (x1 : Int) (x2 : Int) (x3 : Int) (x4 : Int) (x5 : Int) (x6 : Int) (x8 : Int) (x10 : Int) (M : ZM) : Option (Int × ZM) :=
  if x8 = 0 then (zJ77_290 n zrec18 x1 x2 x3 x5 x6 x8 x10 x4 M) else (if rg (x4 + 1) then (zJ77_290 n zrec18 x1 x2 x3 x5 x6 x8 x10 (x4 + 1) M) else none)
set_option maxRecDepth 100000 in
set_option maxHeartbeats 4000000 in
theorem zJ77_276_r (n : Nat) (rec18 : Int32 → Int32 → Int32 → Int32 → Int32 → Int32 → Mem → Option (Int32 × Mem)) (zrec18 : Int → Int → Int → Int → Int → Int → ZM → Option (Int × ZM)) (hrec18 : ∀ {Y1 : Int32} {y1 : Int} (_ : rp Y1 y1) {Y2 : Int32} {y2 : Int} (_ : rp Y2 y2) {Y3 : Int32} {y3 : Int} (_ : rp Y3 y3) {Y4 : Int32} {y4 : Int} (_ : rp Y4 y4) {Y5 : Int32} {y5 : Int} (_ : rp Y5 y5) {Y6 : Int32} {y6 : Int} (_ : rp Y6 y6) {M : Mem} {m : ZM} (_ : rm M m) {r : Int} {m' : ZM} (_ : zrec18 y1 y2 y3 y4 y5 y6 m = some (r, m')), sI (rec18 Y1 Y2 Y3 Y4 Y5 Y6 M) r m') {X1_ : Int32} {x1 : Int} (hx1 : rp X1_ x1) {X2_ : Int32} {x2 : Int} (hx2 : rp X2_ x2) {X3_ : Int32} {x3 : Int} (hx3 : rp X3_ x3) {X4_ : Int32} {x4 : Int} (hx4 : rp X4_ x4) {X5_ : Int32} {x5 : Int} (hx5 : rp X5_ x5) {X6_ : Int32} {x6 : Int} (hx6 : rp X6_ x6) {X8_ : Int32} {x8 : Int} (hx8 : rp X8_ x8) {X10_ : Int32} {x10 : Int} (hx10 : rp X10_ x10) {M_ : Mem} {M : ZM} (gM : rm M_ M) {r : Int} {m' : ZM} (h : zJ77_276 n zrec18 x1 x2 x3 x4 x5 x6 x8 x10 M = some (r, m')) : sI (J77_276 n rec18 X1_ X2_ X3_ X4_ X5_ X6_ X8_ X10_ M_) r m' := by
  unfold zJ77_276 at h
  unfold J77_276
  by_cases q1 : x8 = 0
  · rw [if_pos q1] at h
    rw [if_pos ((rp_eq hx8 (show rp 0 0 from rfl)).mpr q1)]
    exact zJ77_290_r n _ _ hrec18 hx1 hx2 hx3 hx5 hx6 hx8 hx10 hx4 gM h
  · rw [if_neg q1] at h
    rw [if_neg (fun z => q1 ((rp_eq hx8 (show rp 0 0 from rfl)).mp z))]
    by_cases w2 : rg (x4 + 1)
    · rw [if_pos w2] at h
      exact zJ77_290_r n _ _ hrec18 hx1 hx2 hx3 hx5 hx6 hx8 hx10 (rp_add (rp_iz hx4) (rp_iz (show rp 1 1 from rfl)) w2) gM h
    · rw [if_neg w2] at h
      cases h
def zJ77_247 (n : Nat) (zrec18 : Int → Int → Int → Int → Int → Int → ZM → Option (Int × ZM)) (x1 : Int) (x2 : Int) (x3 : Int) (x4 : Int) (x5 : Int) (x6 : Int) (x8 : Int) (s0 : Int) (M : ZM) : Option (Int × ZM) :=
  if s0 = 0 then (zJ77_276 n zrec18 x1 x2 x3 x4 x5 x6 x8 s0 M) else (if x6 < 0 ∨ 128 ≤ x6 then (none) else (if (M.1 100 (Int.toNat x6)) = 0 then (zJ77_276 n zrec18 x1 x2 x3 x4 x5 x6 x8 s0 M) else (match zF74 n (M.1 100 (Int.toNat x6)) x1 M with | some (v41, M42) => (zJ77_276 n zrec18 x1 x2 x3 x4 x5 x6 x8 s0 M42) | none => none)))
set_option maxRecDepth 100000 in
set_option maxHeartbeats 4000000 in
theorem zJ77_247_r (n : Nat) (rec18 : Int32 → Int32 → Int32 → Int32 → Int32 → Int32 → Mem → Option (Int32 × Mem)) (zrec18 : Int → Int → Int → Int → Int → Int → ZM → Option (Int × ZM)) (hrec18 : ∀ {Y1 : Int32} {y1 : Int} (_ : rp Y1 y1) {Y2 : Int32} {y2 : Int} (_ : rp Y2 y2) {Y3 : Int32} {y3 : Int} (_ : rp Y3 y3) {Y4 : Int32} {y4 : Int} (_ : rp Y4 y4) {Y5 : Int32} {y5 : Int} (_ : rp Y5 y5) {Y6 : Int32} {y6 : Int} (_ : rp Y6 y6) {M : Mem} {m : ZM} (_ : rm M m) {r : Int} {m' : ZM} (_ : zrec18 y1 y2 y3 y4 y5 y6 m = some (r, m')), sI (rec18 Y1 Y2 Y3 Y4 Y5 Y6 M) r m') {X1_ : Int32} {x1 : Int} (hx1 : rp X1_ x1) {X2_ : Int32} {x2 : Int} (hx2 : rp X2_ x2) {X3_ : Int32} {x3 : Int} (hx3 : rp X3_ x3) {X4_ : Int32} {x4 : Int} (hx4 : rp X4_ x4) {X5_ : Int32} {x5 : Int} (hx5 : rp X5_ x5) {X6_ : Int32} {x6 : Int} (hx6 : rp X6_ x6) {X8_ : Int32} {x8 : Int} (hx8 : rp X8_ x8) {S0_ : Int32} {s0 : Int} (hs0 : rp S0_ s0) {M_ : Mem} {M : ZM} (gM : rm M_ M) {r : Int} {m' : ZM} (h : zJ77_247 n zrec18 x1 x2 x3 x4 x5 x6 x8 s0 M = some (r, m')) : sI (J77_247 n rec18 X1_ X2_ X3_ X4_ X5_ X6_ X8_ S0_ M_) r m' := by
  unfold zJ77_247 at h
  unfold J77_247
  by_cases q1 : s0 = 0
  · rw [if_pos q1] at h
    rw [if_pos ((rp_eq hs0 (show rp 0 0 from rfl)).mpr q1)]
    exact zJ77_276_r n _ _ hrec18 hx1 hx2 hx3 hx4 hx5 hx6 hx8 hs0 gM h
  · rw [if_neg q1] at h
    rw [if_neg (fun z => q1 ((rp_eq hs0 (show rp 0 0 from rfl)).mp z))]
    by_cases q2 : x6 < 0 ∨ 128 ≤ x6
    · rw [if_pos q2] at h
      rw [if_pos ((rp_ob hx6 128).mpr q2)]
      cases h
    · rw [if_neg q2] at h
      rw [if_neg (fun z => q2 ((rp_ob hx6 128).mp z))]
      by_cases q3 : (M.1 100 (Int.toNat x6)) = 0
      · rw [if_pos q3] at h
        rw [if_pos ((rp_eq (rm_rdx gM 100 hx6) (show rp 0 0 from rfl)).mpr q3)]
        exact zJ77_276_r n _ _ hrec18 hx1 hx2 hx3 hx4 hx5 hx6 hx8 hs0 gM h
      · rw [if_neg q3] at h
        rw [if_neg (fun z => q3 ((rp_eq (rm_rdx gM 100 hx6) (show rp 0 0 from rfl)).mp z))]
        rw [if_neg (fun z => q2 ((rp_ob hx6 128).mp z))]
        cases hc4 : zF74 n (M.1 100 (Int.toNat x6)) x1 M with
        | none => rw [hc4] at h; cases h
        | some w =>
          obtain ⟨v41, M42⟩ := w
          rw [hc4] at h
          dsimp only at h
          obtain ⟨NM42, ehc4, gM42⟩ := zF74_r n (rm_rdx gM 100 hx6) hx1 gM hc4
          rw [ehc4]
          dsimp only
          exact zJ77_276_r n _ _ hrec18 hx1 hx2 hx3 hx4 hx5 hx6 hx8 hs0 gM42 h
def zJ77_246 (n : Nat) (zrec18 : Int → Int → Int → Int → Int → Int → ZM → Option (Int × ZM)) (x1 : Int) (x2 : Int) (x3 : Int) (x4 : Int) (x5 : Int) (x6 : Int) (x8 : Int) (M : ZM) : Option (Int × ZM) :=
  zJ77_247 n zrec18 x1 x2 x3 x4 x5 x6 x8 0 M
set_option maxRecDepth 100000 in
set_option maxHeartbeats 4000000 in
theorem zJ77_246_r (n : Nat) (rec18 : Int32 → Int32 → Int32 → Int32 → Int32 → Int32 → Mem → Option (Int32 × Mem)) (zrec18 : Int → Int → Int → Int → Int → Int → ZM → Option (Int × ZM)) (hrec18 : ∀ {Y1 : Int32} {y1 : Int} (_ : rp Y1 y1) {Y2 : Int32} {y2 : Int} (_ : rp Y2 y2) {Y3 : Int32} {y3 : Int} (_ : rp Y3 y3) {Y4 : Int32} {y4 : Int} (_ : rp Y4 y4) {Y5 : Int32} {y5 : Int} (_ : rp Y5 y5) {Y6 : Int32} {y6 : Int} (_ : rp Y6 y6) {M : Mem} {m : ZM} (_ : rm M m) {r : Int} {m' : ZM} (_ : zrec18 y1 y2 y3 y4 y5 y6 m = some (r, m')), sI (rec18 Y1 Y2 Y3 Y4 Y5 Y6 M) r m') {X1_ : Int32} {x1 : Int} (hx1 : rp X1_ x1) {X2_ : Int32} {x2 : Int} (hx2 : rp X2_ x2) {X3_ : Int32} {x3 : Int} (hx3 : rp X3_ x3) {X4_ : Int32} {x4 : Int} (hx4 : rp X4_ x4) {X5_ : Int32} {x5 : Int} (hx5 : rp X5_ x5) {X6_ : Int32} {x6 : Int} (hx6 : rp X6_ x6) {X8_ : Int32} {x8 : Int} (hx8 : rp X8_ x8) {M_ : Mem} {M : ZM} (gM : rm M_ M) {r : Int} {m' : ZM} (h : zJ77_246 n zrec18 x1 x2 x3 x4 x5 x6 x8 M = some (r, m')) : sI (J77_246 n rec18 X1_ X2_ X3_ X4_ X5_ X6_ X8_ M_) r m' := by
  unfold zJ77_246 at h
  unfold J77_246
  exact zJ77_247_r n _ _ hrec18 hx1 hx2 hx3 hx4 hx5 hx6 hx8 (show rp 0 0 from rfl) gM h
def zJ77_242 (n : Nat) (zrec18 : Int → Int → Int → Int → Int → Int → ZM → Option (Int × ZM)) (x1 : Int) (x2 : Int) (x3 : Int) (x4 : Int) (x5 : Int) (x6 : Int) (x8 : Int) (M : ZM) : Option (Int × ZM) :=
  zJ77_247 n zrec18 x1 x2 x3 x4 x5 x6 x8 1 M
set_option maxRecDepth 100000 in
set_option maxHeartbeats 4000000 in
theorem zJ77_242_r (n : Nat) (rec18 : Int32 → Int32 → Int32 → Int32 → Int32 → Int32 → Mem → Option (Int32 × Mem)) (zrec18 : Int → Int → Int → Int → Int → Int → ZM → Option (Int × ZM)) (hrec18 : ∀ {Y1 : Int32} {y1 : Int} (_ : rp Y1 y1) {Y2 : Int32} {y2 : Int} (_ : rp Y2 y2) {Y3 : Int32} {y3 : Int} (_ : rp Y3 y3) {Y4 : Int32} {y4 : Int} (_ : rp Y4 y4) {Y5 : Int32} {y5 : Int} (_ : rp Y5 y5) {Y6 : Int32} {y6 : Int} (_ : rp Y6 y6) {M : Mem} {m : ZM} (_ : rm M m) {r : Int} {m' : ZM} (_ : zrec18 y1 y2 y3 y4 y5 y6 m = some (r, m')), sI (rec18 Y1 Y2 Y3 Y4 Y5 Y6 M) r m') {X1_ : Int32} {x1 : Int} (hx1 : rp X1_ x1) {X2_ : Int32} {x2 : Int} (hx2 : rp X2_ x2) {X3_ : Int32} {x3 : Int} (hx3 : rp X3_ x3) {X4_ : Int32} {x4 : Int} (hx4 : rp X4_ x4) {X5_ : Int32} {x5 : Int} (hx5 : rp X5_ x5) {X6_ : Int32} {x6 : Int} (hx6 : rp X6_ x6) {X8_ : Int32} {x8 : Int} (hx8 : rp X8_ x8) {M_ : Mem} {M : ZM} (gM : rm M_ M) {r : Int} {m' : ZM} (h : zJ77_242 n zrec18 x1 x2 x3 x4 x5 x6 x8 M = some (r, m')) : sI (J77_242 n rec18 X1_ X2_ X3_ X4_ X5_ X6_ X8_ M_) r m' := by
  unfold zJ77_242 at h
  unfold J77_242
  exact zJ77_247_r n _ _ hrec18 hx1 hx2 hx3 hx4 hx5 hx6 hx8 (show rp 1 1 from rfl) gM h
def zJ77_231 (n : Nat) (zrec18 : Int → Int → Int → Int → Int → Int → ZM → Option (Int × ZM)) (x1 : Int) (x2 : Int) (x3 : Int) (x4 : Int) (x5 : Int) (x6 : Int) (x8 : Int) (M : ZM) : Option (Int × ZM) :=
  zJ77_247 n zrec18 x1 x2 x3 x4 x5 x6 x8 0 M
set_option maxRecDepth 100000 in
set_option maxHeartbeats 4000000 in
theorem zJ77_231_r (n : Nat) (rec18 : Int32 → Int32 → Int32 → Int32 → Int32 → Int32 → Mem → Option (Int32 × Mem)) (zrec18 : Int → Int → Int → Int → Int → Int → ZM → Option (Int × ZM)) (hrec18 : ∀ {Y1 : Int32} {y1 : Int} (_ : rp Y1 y1) {Y2 : Int32} {y2 : Int} (_ : rp Y2 y2) {Y3 : Int32} {y3 : Int} (_ : rp Y3 y3) {Y4 : Int32} {y4 : Int} (_ : rp Y4 y4) {Y5 : Int32} {y5 : Int} (_ : rp Y5 y5) {Y6 : Int32} {y6 : Int} (_ : rp Y6 y6) {M : Mem} {m : ZM} (_ : rm M m) {r : Int} {m' : ZM} (_ : zrec18 y1 y2 y3 y4 y5 y6 m = some (r, m')), sI (rec18 Y1 Y2 Y3 Y4 Y5 Y6 M) r m') {X1_ : Int32} {x1 : Int} (hx1 : rp X1_ x1) {X2_ : Int32} {x2 : Int} (hx2 : rp X2_ x2) {X3_ : Int32} {x3 : Int} (hx3 : rp X3_ x3) {X4_ : Int32} {x4 : Int} (hx4 : rp X4_ x4) {X5_ : Int32} {x5 : Int} (hx5 : rp X5_ x5) {X6_ : Int32} {x6 : Int} (hx6 : rp X6_ x6) {X8_ : Int32} {x8 : Int} (hx8 : rp X8_ x8) {M_ : Mem} {M : ZM} (gM : rm M_ M) {r : Int} {m' : ZM} (h : zJ77_231 n zrec18 x1 x2 x3 x4 x5 x6 x8 M = some (r, m')) : sI (J77_231 n rec18 X1_ X2_ X3_ X4_ X5_ X6_ X8_ M_) r m' := by
  unfold zJ77_231 at h
  unfold J77_231
  exact zJ77_247_r n _ _ hrec18 hx1 hx2 hx3 hx4 hx5 hx6 hx8 (show rp 0 0 from rfl) gM h
def zJ77_227 (n : Nat) (zrec18 : Int → Int → Int → Int → Int → Int → ZM → Option (Int × ZM)) (x1 : Int) (x2 : Int) (x3 : Int) (x4 : Int) (x5 : Int) (x6 : Int) (x8 : Int) (M : ZM) : Option (Int × ZM) :=
  zJ77_247 n zrec18 x1 x2 x3 x4 x5 x6 x8 1 M
set_option maxRecDepth 100000 in
set_option maxHeartbeats 4000000 in
theorem zJ77_227_r (n : Nat) (rec18 : Int32 → Int32 → Int32 → Int32 → Int32 → Int32 → Mem → Option (Int32 × Mem)) (zrec18 : Int → Int → Int → Int → Int → Int → ZM → Option (Int × ZM)) (hrec18 : ∀ {Y1 : Int32} {y1 : Int} (_ : rp Y1 y1) {Y2 : Int32} {y2 : Int} (_ : rp Y2 y2) {Y3 : Int32} {y3 : Int} (_ : rp Y3 y3) {Y4 : Int32} {y4 : Int} (_ : rp Y4 y4) {Y5 : Int32} {y5 : Int} (_ : rp Y5 y5) {Y6 : Int32} {y6 : Int} (_ : rp Y6 y6) {M : Mem} {m : ZM} (_ : rm M m) {r : Int} {m' : ZM} (_ : zrec18 y1 y2 y3 y4 y5 y6 m = some (r, m')), sI (rec18 Y1 Y2 Y3 Y4 Y5 Y6 M) r m') {X1_ : Int32} {x1 : Int} (hx1 : rp X1_ x1) {X2_ : Int32} {x2 : Int} (hx2 : rp X2_ x2) {X3_ : Int32} {x3 : Int} (hx3 : rp X3_ x3) {X4_ : Int32} {x4 : Int} (hx4 : rp X4_ x4) {X5_ : Int32} {x5 : Int} (hx5 : rp X5_ x5) {X6_ : Int32} {x6 : Int} (hx6 : rp X6_ x6) {X8_ : Int32} {x8 : Int} (hx8 : rp X8_ x8) {M_ : Mem} {M : ZM} (gM : rm M_ M) {r : Int} {m' : ZM} (h : zJ77_227 n zrec18 x1 x2 x3 x4 x5 x6 x8 M = some (r, m')) : sI (J77_227 n rec18 X1_ X2_ X3_ X4_ X5_ X6_ X8_ M_) r m' := by
  unfold zJ77_227 at h
  unfold J77_227
  exact zJ77_247_r n _ _ hrec18 hx1 hx2 hx3 hx4 hx5 hx6 hx8 (show rp 1 1 from rfl) gM h
def zJ77_54 (n : Nat) (zrec18 : Int → Int → Int → Int → Int → Int → ZM → Option (Int × ZM)) (x1 : Int) (x2 : Int) (x3 : Int) (x4 : Int) (x5 : Int) (x6 : Int) (x7 : Int) (s0 : Int) (M : ZM) : Option (Int × ZM) :=
  if x7 = 0 then (if x6 < 0 ∨ 128 ≤ x6 then (none) else (match zF74 n (M.1 98 (Int.toNat x6)) x1 M with | some (v9, M10) => (if rg (x6 + 1) then (zJ77_328 n zrec18 x1 x2 x3 x4 x5 (x6 + 1) M10) else none) | none => none)) else (if x7 = 7 then (if x6 < 0 ∨ 128 ≤ x6 then (none) else (match zF46 n (M.1 98 (Int.toNat x6)) M with | some (v14, M15) => (if rg (x6 + 1) then (zJ77_102 n zrec18 x1 x2 x3 x4 x5 (x6 + 1) v14 M15) else none) | none => none)) else (if x7 = 4 then (match zF76 n x6 x2 M with | some (v21, M22) => (zJ77_130 n zrec18 x1 x2 x3 x4 x5 x6 s0 v21 M22) | none => none) else (if s0 = 0 then (if rg (x2 + 1) then (if x3 ≤ (x2 + 1) then (zJ77_246 n zrec18 x1 x2 x3 x4 x5 x6 s0 M) else (zJ77_242 n zrec18 x1 x2 x3 x4 x5 x6 s0 M)) else none) else (if rg (x4 + 1) then (if x5 ≤ (x4 + 1) then (zJ77_231 n zrec18 x1 x2 x3 x4 x5 x6 s0 M) else (zJ77_227 n zrec18 x1 x2 x3 x4 x5 x6 s0 M)) else none))))
set_option maxRecDepth 100000 in
set_option maxHeartbeats 4000000 in
theorem zJ77_54_r (n : Nat) (rec18 : Int32 → Int32 → Int32 → Int32 → Int32 → Int32 → Mem → Option (Int32 × Mem)) (zrec18 : Int → Int → Int → Int → Int → Int → ZM → Option (Int × ZM)) (hrec18 : ∀ {Y1 : Int32} {y1 : Int} (_ : rp Y1 y1) {Y2 : Int32} {y2 : Int} (_ : rp Y2 y2) {Y3 : Int32} {y3 : Int} (_ : rp Y3 y3) {Y4 : Int32} {y4 : Int} (_ : rp Y4 y4) {Y5 : Int32} {y5 : Int} (_ : rp Y5 y5) {Y6 : Int32} {y6 : Int} (_ : rp Y6 y6) {M : Mem} {m : ZM} (_ : rm M m) {r : Int} {m' : ZM} (_ : zrec18 y1 y2 y3 y4 y5 y6 m = some (r, m')), sI (rec18 Y1 Y2 Y3 Y4 Y5 Y6 M) r m') {X1_ : Int32} {x1 : Int} (hx1 : rp X1_ x1) {X2_ : Int32} {x2 : Int} (hx2 : rp X2_ x2) {X3_ : Int32} {x3 : Int} (hx3 : rp X3_ x3) {X4_ : Int32} {x4 : Int} (hx4 : rp X4_ x4) {X5_ : Int32} {x5 : Int} (hx5 : rp X5_ x5) {X6_ : Int32} {x6 : Int} (hx6 : rp X6_ x6) {X7_ : Int32} {x7 : Int} (hx7 : rp X7_ x7) {S0_ : Int32} {s0 : Int} (hs0 : rp S0_ s0) {M_ : Mem} {M : ZM} (gM : rm M_ M) {r : Int} {m' : ZM} (h : zJ77_54 n zrec18 x1 x2 x3 x4 x5 x6 x7 s0 M = some (r, m')) : sI (J77_54 n rec18 X1_ X2_ X3_ X4_ X5_ X6_ X7_ S0_ M_) r m' := by
  unfold zJ77_54 at h
  unfold J77_54
  by_cases q1 : x7 = 0
  · rw [if_pos q1] at h
    rw [if_pos ((rp_eq hx7 (show rp 0 0 from rfl)).mpr q1)]
    by_cases q2 : x6 < 0 ∨ 128 ≤ x6
    · rw [if_pos q2] at h
      rw [if_pos ((rp_ob hx6 128).mpr q2)]
      cases h
    · rw [if_neg q2] at h
      rw [if_neg (fun z => q2 ((rp_ob hx6 128).mp z))]
      cases hc3 : zF74 n (M.1 98 (Int.toNat x6)) x1 M with
      | none => rw [hc3] at h; cases h
      | some w =>
        obtain ⟨v9, M10⟩ := w
        rw [hc3] at h
        dsimp only at h
        obtain ⟨NM10, ehc3, gM10⟩ := zF74_r n (rm_rdx gM 98 hx6) hx1 gM hc3
        rw [ehc3]
        dsimp only
        by_cases w4 : rg (x6 + 1)
        · rw [if_pos w4] at h
          exact zJ77_328_r n _ _ hrec18 hx1 hx2 hx3 hx4 hx5 (rp_add (rp_iz hx6) (rp_iz (show rp 1 1 from rfl)) w4) gM10 h
        · rw [if_neg w4] at h
          cases h
  · rw [if_neg q1] at h
    rw [if_neg (fun z => q1 ((rp_eq hx7 (show rp 0 0 from rfl)).mp z))]
    by_cases q5 : x7 = 7
    · rw [if_pos q5] at h
      rw [if_pos ((rp_eq hx7 (show rp 7 7 from rfl)).mpr q5)]
      by_cases q6 : x6 < 0 ∨ 128 ≤ x6
      · rw [if_pos q6] at h
        rw [if_pos ((rp_ob hx6 128).mpr q6)]
        cases h
      · rw [if_neg q6] at h
        rw [if_neg (fun z => q6 ((rp_ob hx6 128).mp z))]
        cases hc7 : zF46 n (M.1 98 (Int.toNat x6)) M with
        | none => rw [hc7] at h; cases h
        | some w =>
          obtain ⟨v14, M15⟩ := w
          rw [hc7] at h
          dsimp only at h
          obtain ⟨V14, NM15, ehc7, hv14, gM15⟩ := zF46_r n (rm_rdx gM 98 hx6) gM hc7
          rw [ehc7]
          dsimp only
          by_cases w8 : rg (x6 + 1)
          · rw [if_pos w8] at h
            exact zJ77_102_r n _ _ hrec18 hx1 hx2 hx3 hx4 hx5 (rp_add (rp_iz hx6) (rp_iz (show rp 1 1 from rfl)) w8) hv14 gM15 h
          · rw [if_neg w8] at h
            cases h
    · rw [if_neg q5] at h
      rw [if_neg (fun z => q5 ((rp_eq hx7 (show rp 7 7 from rfl)).mp z))]
      by_cases q9 : x7 = 4
      · rw [if_pos q9] at h
        rw [if_pos ((rp_eq hx7 (show rp 4 4 from rfl)).mpr q9)]
        cases hc10 : zF76 n x6 x2 M with
        | none => rw [hc10] at h; cases h
        | some w =>
          obtain ⟨v21, M22⟩ := w
          rw [hc10] at h
          dsimp only at h
          obtain ⟨V21, NM22, ehc10, hv21, gM22⟩ := zF76_r n hx6 hx2 gM hc10
          rw [ehc10]
          dsimp only
          exact zJ77_130_r n _ _ hrec18 hx1 hx2 hx3 hx4 hx5 hx6 hs0 hv21 gM22 h
      · rw [if_neg q9] at h
        rw [if_neg (fun z => q9 ((rp_eq hx7 (show rp 4 4 from rfl)).mp z))]
        by_cases q11 : s0 = 0
        · rw [if_pos q11] at h
          rw [if_pos ((rp_eq hs0 (show rp 0 0 from rfl)).mpr q11)]
          by_cases w12 : rg (x2 + 1)
          · rw [if_pos w12] at h
            by_cases q13 : x3 ≤ (x2 + 1)
            · rw [if_pos q13] at h
              rw [if_pos ((rp_le hx3 (rp_add (rp_iz hx2) (rp_iz (show rp 1 1 from rfl)) w12)).mpr q13)]
              exact zJ77_246_r n _ _ hrec18 hx1 hx2 hx3 hx4 hx5 hx6 hs0 gM h
            · rw [if_neg q13] at h
              rw [if_neg (fun z => q13 ((rp_le hx3 (rp_add (rp_iz hx2) (rp_iz (show rp 1 1 from rfl)) w12)).mp z))]
              exact zJ77_242_r n _ _ hrec18 hx1 hx2 hx3 hx4 hx5 hx6 hs0 gM h
          · rw [if_neg w12] at h
            cases h
        · rw [if_neg q11] at h
          rw [if_neg (fun z => q11 ((rp_eq hs0 (show rp 0 0 from rfl)).mp z))]
          by_cases w14 : rg (x4 + 1)
          · rw [if_pos w14] at h
            by_cases q15 : x5 ≤ (x4 + 1)
            · rw [if_pos q15] at h
              rw [if_pos ((rp_le hx5 (rp_add (rp_iz hx4) (rp_iz (show rp 1 1 from rfl)) w14)).mpr q15)]
              exact zJ77_231_r n _ _ hrec18 hx1 hx2 hx3 hx4 hx5 hx6 hs0 gM h
            · rw [if_neg q15] at h
              rw [if_neg (fun z => q15 ((rp_le hx5 (rp_add (rp_iz hx4) (rp_iz (show rp 1 1 from rfl)) w14)).mp z))]
              exact zJ77_227_r n _ _ hrec18 hx1 hx2 hx3 hx4 hx5 hx6 hs0 gM h
          · rw [if_neg w14] at h
            cases h
def zJ77_53 (n : Nat) (zrec18 : Int → Int → Int → Int → Int → Int → ZM → Option (Int × ZM)) (x1 : Int) (x2 : Int) (x3 : Int) (x4 : Int) (x5 : Int) (x6 : Int) (x7 : Int) (M : ZM) : Option (Int × ZM) :=
  zJ77_54 n zrec18 x1 x2 x3 x4 x5 x6 x7 0 M
set_option maxRecDepth 100000 in
set_option maxHeartbeats 4000000 in
theorem zJ77_53_r (n : Nat) (rec18 : Int32 → Int32 → Int32 → Int32 → Int32 → Int32 → Mem → Option (Int32 × Mem)) (zrec18 : Int → Int → Int → Int → Int → Int → ZM → Option (Int × ZM)) (hrec18 : ∀ {Y1 : Int32} {y1 : Int} (_ : rp Y1 y1) {Y2 : Int32} {y2 : Int} (_ : rp Y2 y2) {Y3 : Int32} {y3 : Int} (_ : rp Y3 y3) {Y4 : Int32} {y4 : Int} (_ : rp Y4 y4) {Y5 : Int32} {y5 : Int} (_ : rp Y5 y5) {Y6 : Int32} {y6 : Int} (_ : rp Y6 y6) {M : Mem} {m : ZM} (_ : rm M m) {r : Int} {m' : ZM} (_ : zrec18 y1 y2 y3 y4 y5 y6 m = some (r, m')), sI (rec18 Y1 Y2 Y3 Y4 Y5 Y6 M) r m') {X1_ : Int32} {x1 : Int} (hx1 : rp X1_ x1) {X2_ : Int32} {x2 : Int} (hx2 : rp X2_ x2) {X3_ : Int32} {x3 : Int} (hx3 : rp X3_ x3) {X4_ : Int32} {x4 : Int} (hx4 : rp X4_ x4) {X5_ : Int32} {x5 : Int} (hx5 : rp X5_ x5) {X6_ : Int32} {x6 : Int} (hx6 : rp X6_ x6) {X7_ : Int32} {x7 : Int} (hx7 : rp X7_ x7) {M_ : Mem} {M : ZM} (gM : rm M_ M) {r : Int} {m' : ZM} (h : zJ77_53 n zrec18 x1 x2 x3 x4 x5 x6 x7 M = some (r, m')) : sI (J77_53 n rec18 X1_ X2_ X3_ X4_ X5_ X6_ X7_ M_) r m' := by
  unfold zJ77_53 at h
  unfold J77_53
  exact zJ77_54_r n _ _ hrec18 hx1 hx2 hx3 hx4 hx5 hx6 hx7 (show rp 0 0 from rfl) gM h
def zJ77_49 (n : Nat) (zrec18 : Int → Int → Int → Int → Int → Int → ZM → Option (Int × ZM)) (x1 : Int) (x2 : Int) (x3 : Int) (x4 : Int) (x5 : Int) (x6 : Int) (x7 : Int) (M : ZM) : Option (Int × ZM) :=
  zJ77_54 n zrec18 x1 x2 x3 x4 x5 x6 x7 1 M
set_option maxRecDepth 100000 in
set_option maxHeartbeats 4000000 in
theorem zJ77_49_r (n : Nat) (rec18 : Int32 → Int32 → Int32 → Int32 → Int32 → Int32 → Mem → Option (Int32 × Mem)) (zrec18 : Int → Int → Int → Int → Int → Int → ZM → Option (Int × ZM)) (hrec18 : ∀ {Y1 : Int32} {y1 : Int} (_ : rp Y1 y1) {Y2 : Int32} {y2 : Int} (_ : rp Y2 y2) {Y3 : Int32} {y3 : Int} (_ : rp Y3 y3) {Y4 : Int32} {y4 : Int} (_ : rp Y4 y4) {Y5 : Int32} {y5 : Int} (_ : rp Y5 y5) {Y6 : Int32} {y6 : Int} (_ : rp Y6 y6) {M : Mem} {m : ZM} (_ : rm M m) {r : Int} {m' : ZM} (_ : zrec18 y1 y2 y3 y4 y5 y6 m = some (r, m')), sI (rec18 Y1 Y2 Y3 Y4 Y5 Y6 M) r m') {X1_ : Int32} {x1 : Int} (hx1 : rp X1_ x1) {X2_ : Int32} {x2 : Int} (hx2 : rp X2_ x2) {X3_ : Int32} {x3 : Int} (hx3 : rp X3_ x3) {X4_ : Int32} {x4 : Int} (hx4 : rp X4_ x4) {X5_ : Int32} {x5 : Int} (hx5 : rp X5_ x5) {X6_ : Int32} {x6 : Int} (hx6 : rp X6_ x6) {X7_ : Int32} {x7 : Int} (hx7 : rp X7_ x7) {M_ : Mem} {M : ZM} (gM : rm M_ M) {r : Int} {m' : ZM} (h : zJ77_49 n zrec18 x1 x2 x3 x4 x5 x6 x7 M = some (r, m')) : sI (J77_49 n rec18 X1_ X2_ X3_ X4_ X5_ X6_ X7_ M_) r m' := by
  unfold zJ77_49 at h
  unfold J77_49
  exact zJ77_54_r n _ _ hrec18 hx1 hx2 hx3 hx4 hx5 hx6 hx7 (show rp 1 1 from rfl) gM h
def zL77_18 (n : Nat) : Nat → Int → Int → Int → Int → Int → Int → ZM → Option (Int × ZM)
  | 0, _, _, _, _, _, _, _ => none
  | k + 1, x1, x2, x3, x4, x5, x6, M => if x6 < 0 ∨ 128 ≤ x6 then (none) else (if (M.1 97 (Int.toNat x6)) = 6 then (some (1, M)) else (if (M.1 101 (Int.toNat x6)) < 0 then (zJ77_53 n (zL77_18 n k) x1 x2 x3 x4 x5 x6 (M.1 97 (Int.toNat x6)) M) else (zJ77_49 n (zL77_18 n k) x1 x2 x3 x4 x5 x6 (M.1 97 (Int.toNat x6)) M)))
set_option maxRecDepth 100000 in
set_option maxHeartbeats 4000000 in
theorem zL77_18_r (n : Nat) : ∀ (k : Nat) {X1_ : Int32} {x1 : Int} (hx1 : rp X1_ x1) {X2_ : Int32} {x2 : Int} (hx2 : rp X2_ x2) {X3_ : Int32} {x3 : Int} (hx3 : rp X3_ x3) {X4_ : Int32} {x4 : Int} (hx4 : rp X4_ x4) {X5_ : Int32} {x5 : Int} (hx5 : rp X5_ x5) {X6_ : Int32} {x6 : Int} (hx6 : rp X6_ x6) {M_ : Mem} {M : ZM} (gM : rm M_ M) {r : Int} {m' : ZM} (_ : zL77_18 n k x1 x2 x3 x4 x5 x6 M = some (r, m')), sI (L77_18 n k X1_ X2_ X3_ X4_ X5_ X6_ M_) r m' := by
  intro k
  induction k with
  | zero => intro X1_ x1 hx1 X2_ x2 hx2 X3_ x3 hx3 X4_ x4 hx4 X5_ x5 hx5 X6_ x6 hx6 M_ M gM r m' h; cases h
  | succ k ih =>
    intro X1_ x1 hx1 X2_ x2 hx2 X3_ x3 hx3 X4_ x4 hx4 X5_ x5 hx5 X6_ x6 hx6 M_ M gM r m' h
    rw [zL77_18] at h
    rw [L77_18]
    by_cases q1 : x6 < 0 ∨ 128 ≤ x6
    · rw [if_pos q1] at h
      rw [if_pos ((rp_ob hx6 128).mpr q1)]
      cases h
    · rw [if_neg q1] at h
      rw [if_neg (fun z => q1 ((rp_ob hx6 128).mp z))]
      by_cases q2 : (M.1 97 (Int.toNat x6)) = 6
      · rw [if_pos q2] at h
        rw [if_pos ((rp_eq (rm_rdx gM 97 hx6) (show rp 6 6 from rfl)).mpr q2)]
        obtain ⟨rfl, rfl⟩ := Prod.mk.inj (Option.some.inj h)
        exact ⟨_, _, rfl, (show rp 1 1 from rfl), gM⟩
      · rw [if_neg q2] at h
        rw [if_neg (fun z => q2 ((rp_eq (rm_rdx gM 97 hx6) (show rp 6 6 from rfl)).mp z))]
        rw [if_neg (fun z => q1 ((rp_ob hx6 128).mp z))]
        rw [if_neg (fun z => q1 ((rp_ob hx6 128).mp z))]
        by_cases q3 : (M.1 101 (Int.toNat x6)) < 0
        · rw [if_pos q3] at h
          rw [if_pos ((rp_lt (rm_rdx gM 101 hx6) (show rp 0 0 from rfl)).mpr q3)]
          exact zJ77_53_r n _ _ ih hx1 hx2 hx3 hx4 hx5 hx6 (rm_rdx gM 97 hx6) gM h
        · rw [if_neg q3] at h
          rw [if_neg (fun z => q3 ((rp_lt (rm_rdx gM 101 hx6) (show rp 0 0 from rfl)).mp z))]
          exact zJ77_49_r n _ _ ih hx1 hx2 hx3 hx4 hx5 hx6 (rm_rdx gM 97 hx6) gM h
/-- ArmExpanderModel.makeBody -/
def zF77 (n : Nat) (a0 : Int) (M : ZM) : Option (Int × ZM) :=
  zlet (z_i M 83 62 0) (fun M1 => zL77_18 n n a0 0 0 0 0 0 M1)
set_option maxRecDepth 100000 in
set_option maxHeartbeats 4000000 in
theorem zF77_r (n : Nat) {A0_ : Int32} {a0 : Int} (ha0 : rp A0_ a0) {M_ : Mem} {M : ZM} (gM : rm M_ M) {r : Int} {m' : ZM} (h : zF77 n a0 M = some (r, m')) : sI (F77 n A0_ M_) r m' := by
  unfold zF77 at h
  unfold F77
  have gM1 : rm (m_i M_ 83 62 (0 : Int32)) (z_i M 83 62 0) := rm_i gM 83 62 (show rp 0 0 from rfl)
  rw [mlet]
  rw [zlet] at h
  generalize z_i M 83 62 0 = M1 at h gM1
  generalize m_i M_ 83 62 (0 : Int32) = NM1 at gM1 ⊢
  exact zL77_18_r n n ha0 (show rp 0 0 from rfl) (show rp 0 0 from rfl) (show rp 0 0 from rfl) (show rp 0 0 from rfl) (show rp 0 0 from rfl) gM1 h
def zJ78_181 (n : Nat) (s0 : Int) (M : ZM) : Option (Int × ZM) :=
  if s0 = 0 ∨ s0 = 1 then (some (s0, M)) else (none)
set_option maxRecDepth 100000 in
set_option maxHeartbeats 4000000 in
theorem zJ78_181_r (n : Nat) {S0_ : Int32} {s0 : Int} (hs0 : rp S0_ s0) {M_ : Mem} {M : ZM} (gM : rm M_ M) {r : Int} {m' : ZM} (h : zJ78_181 n s0 M = some (r, m')) : sI (J78_181 n S0_ M_) r m' := by
  unfold zJ78_181 at h
  unfold J78_181
  by_cases q1 : s0 = 0 ∨ s0 = 1
  · rw [if_pos q1] at h
    rw [if_pos ((or_congr (rp_eq hs0 (show rp 0 0 from rfl)) (rp_eq hs0 (show rp 1 1 from rfl))).mpr q1)]
    obtain ⟨rfl, rfl⟩ := Prod.mk.inj (Option.some.inj h)
    exact ⟨_, _, rfl, hs0, gM⟩
  · rw [if_neg q1] at h
    rw [if_neg (fun z => q1 ((or_congr (rp_eq hs0 (show rp 0 0 from rfl)) (rp_eq hs0 (show rp 1 1 from rfl))).mp z))]
    cases h
def zJ78_176 (n : Nat) (M : ZM) : Option (Int × ZM) :=
  zJ78_181 n 1 M
set_option maxRecDepth 100000 in
set_option maxHeartbeats 4000000 in
theorem zJ78_176_r (n : Nat) {M_ : Mem} {M : ZM} (gM : rm M_ M) {r : Int} {m' : ZM} (h : zJ78_176 n M = some (r, m')) : sI (J78_176 n M_) r m' := by
  unfold zJ78_176 at h
  unfold J78_176
  exact zJ78_181_r n (show rp 1 1 from rfl) gM h
def zJ78_180 (n : Nat) (M : ZM) : Option (Int × ZM) :=
  zJ78_181 n 0 M
set_option maxRecDepth 100000 in
set_option maxHeartbeats 4000000 in
theorem zJ78_180_r (n : Nat) {M_ : Mem} {M : ZM} (gM : rm M_ M) {r : Int} {m' : ZM} (h : zJ78_180 n M = some (r, m')) : sI (J78_180 n M_) r m' := by
  unfold zJ78_180 at h
  unfold J78_180
  exact zJ78_181_r n (show rp 0 0 from rfl) gM h
def zJ78_37 (n : Nat) (M : ZM) : Option (Int × ZM) :=
  match zF29 n M with | some (v10, M11) => (if v10 = 0 ∨ v10 = 1 then (some (v10, M11)) else (none)) | none => none
set_option maxRecDepth 100000 in
set_option maxHeartbeats 4000000 in
theorem zJ78_37_r (n : Nat) {M_ : Mem} {M : ZM} (gM : rm M_ M) {r : Int} {m' : ZM} (h : zJ78_37 n M = some (r, m')) : sI (J78_37 n M_) r m' := by
  unfold zJ78_37 at h
  unfold J78_37
  cases hc1 : zF29 n M with
  | none => rw [hc1] at h; cases h
  | some w =>
    obtain ⟨v10, M11⟩ := w
    rw [hc1] at h
    dsimp only at h
    obtain ⟨V10, NM11, ehc1, hv10, gM11⟩ := zF29_r n gM hc1
    rw [ehc1]
    dsimp only
    by_cases q2 : v10 = 0 ∨ v10 = 1
    · rw [if_pos q2] at h
      rw [if_pos ((or_congr (rp_eq hv10 (show rp 0 0 from rfl)) (rp_eq hv10 (show rp 1 1 from rfl))).mpr q2)]
      obtain ⟨rfl, rfl⟩ := Prod.mk.inj (Option.some.inj h)
      exact ⟨_, _, rfl, hv10, gM11⟩
    · rw [if_neg q2] at h
      rw [if_neg (fun z => q2 ((or_congr (rp_eq hv10 (show rp 0 0 from rfl)) (rp_eq hv10 (show rp 1 1 from rfl))).mp z))]
      cases h
def zJ78_72 (n : Nat) (M : ZM) : Option (Int × ZM) :=
  match zF29 n M with | some (v18, M19) => (if v18 = 0 ∨ v18 = 1 then (some (v18, M19)) else (none)) | none => none
set_option maxRecDepth 100000 in
set_option maxHeartbeats 4000000 in
theorem zJ78_72_r (n : Nat) {M_ : Mem} {M : ZM} (gM : rm M_ M) {r : Int} {m' : ZM} (h : zJ78_72 n M = some (r, m')) : sI (J78_72 n M_) r m' := by
  unfold zJ78_72 at h
  unfold J78_72
  cases hc1 : zF29 n M with
  | none => rw [hc1] at h; cases h
  | some w =>
    obtain ⟨v18, M19⟩ := w
    rw [hc1] at h
    dsimp only at h
    obtain ⟨V18, NM19, ehc1, hv18, gM19⟩ := zF29_r n gM hc1
    rw [ehc1]
    dsimp only
    by_cases q2 : v18 = 0 ∨ v18 = 1
    · rw [if_pos q2] at h
      rw [if_pos ((or_congr (rp_eq hv18 (show rp 0 0 from rfl)) (rp_eq hv18 (show rp 1 1 from rfl))).mpr q2)]
      obtain ⟨rfl, rfl⟩ := Prod.mk.inj (Option.some.inj h)
      exact ⟨_, _, rfl, hv18, gM19⟩
    · rw [if_neg q2] at h
      rw [if_neg (fun z => q2 ((or_congr (rp_eq hv18 (show rp 0 0 from rfl)) (rp_eq hv18 (show rp 1 1 from rfl))).mp z))]
      cases h
def zJ78_148 (n : Nat) (zrec7 : Int → ZM → Option (Int × ZM)) (x1 : Int) (M : ZM) : Option (Int × ZM) :=
  if rg ((M.1 83 34) + 1) then (zlet (z_i M 83 34 ((M.1 83 34) + 1)) (fun M35 => match zF28 n M35 with | some (v36, M37) => (zrec7 x1 M37) | none => none)) else none
set_option maxRecDepth 100000 in
set_option maxHeartbeats 4000000 in
theorem zJ78_148_r (n : Nat) (rec7 : Int32 → Mem → Option (Int32 × Mem)) (zrec7 : Int → ZM → Option (Int × ZM)) (hrec7 : ∀ {Y1 : Int32} {y1 : Int} (_ : rp Y1 y1) {M : Mem} {m : ZM} (_ : rm M m) {r : Int} {m' : ZM} (_ : zrec7 y1 m = some (r, m')), sI (rec7 Y1 M) r m') {X1_ : Int32} {x1 : Int} (hx1 : rp X1_ x1) {M_ : Mem} {M : ZM} (gM : rm M_ M) {r : Int} {m' : ZM} (h : zJ78_148 n zrec7 x1 M = some (r, m')) : sI (J78_148 n rec7 X1_ M_) r m' := by
  unfold zJ78_148 at h
  unfold J78_148
  by_cases w1 : rg ((M.1 83 34) + 1)
  · rw [if_pos w1] at h
    have gM35 : rm (m_i M_ 83 34 ((M_.1 83 34) + (1 : Int32))) (z_i M 83 34 ((M.1 83 34) + 1)) := rm_i gM 83 34 (rp_add (rp_iz (rm_rd gM 83 34)) (rp_iz (show rp 1 1 from rfl)) w1)
    rw [mlet]
    rw [zlet] at h
    generalize z_i M 83 34 ((M.1 83 34) + 1) = M35 at h gM35
    generalize m_i M_ 83 34 ((M_.1 83 34) + (1 : Int32)) = NM35 at gM35 ⊢
    cases hc2 : zF28 n M35 with
    | none => rw [hc2] at h; cases h
    | some w =>
      obtain ⟨v36, M37⟩ := w
      rw [hc2] at h
      dsimp only at h
      obtain ⟨NM37, ehc2, gM37⟩ := zF28_r n gM35 hc2
      rw [ehc2]
      dsimp only
      exact hrec7 hx1 gM37 h
  · rw [if_neg w1] at h
    cases h
def zJ78_124 (n : Nat) (zrec7 : Int → ZM → Option (Int × ZM)) (s0 : Int) (M : ZM) : Option (Int × ZM) :=
  if (M.1 83 34) < 0 ∨ 320 ≤ (M.1 83 34) then (none) else (zlet (z_i M 105 (Int.toNat (M.1 83 34)) (M.1 83 5)) (fun M32 => if (M32.1 83 34) < 0 ∨ 320 ≤ (M32.1 83 34) then (none) else (zlet (z_i M32 106 (Int.toNat (M32.1 83 34)) 0) (fun M34 => zJ78_148 n zrec7 s0 M34))))
set_option maxRecDepth 100000 in
set_option maxHeartbeats 4000000 in
theorem zJ78_124_r (n : Nat) (rec7 : Int32 → Mem → Option (Int32 × Mem)) (zrec7 : Int → ZM → Option (Int × ZM)) (hrec7 : ∀ {Y1 : Int32} {y1 : Int} (_ : rp Y1 y1) {M : Mem} {m : ZM} (_ : rm M m) {r : Int} {m' : ZM} (_ : zrec7 y1 m = some (r, m')), sI (rec7 Y1 M) r m') {S0_ : Int32} {s0 : Int} (hs0 : rp S0_ s0) {M_ : Mem} {M : ZM} (gM : rm M_ M) {r : Int} {m' : ZM} (h : zJ78_124 n zrec7 s0 M = some (r, m')) : sI (J78_124 n rec7 S0_ M_) r m' := by
  unfold zJ78_124 at h
  unfold J78_124
  by_cases q1 : (M.1 83 34) < 0 ∨ 320 ≤ (M.1 83 34)
  · rw [if_pos q1] at h
    rw [if_pos ((rp_ob (rm_rd gM 83 34) 320).mpr q1)]
    cases h
  · rw [if_neg q1] at h
    rw [if_neg (fun z => q1 ((rp_ob (rm_rd gM 83 34) 320).mp z))]
    have gM32 : rm (m_i M_ 105 ((M_.1 83 34)).toNatClampNeg (M_.1 83 5)) (z_i M 105 (Int.toNat (M.1 83 34)) (M.1 83 5)) := rm_ix gM 105 (rm_rd gM 83 34) (rm_rd gM 83 5)
    rw [mlet]
    rw [zlet] at h
    generalize z_i M 105 (Int.toNat (M.1 83 34)) (M.1 83 5) = M32 at h gM32
    generalize m_i M_ 105 ((M_.1 83 34)).toNatClampNeg (M_.1 83 5) = NM32 at gM32 ⊢
    by_cases q2 : (M32.1 83 34) < 0 ∨ 320 ≤ (M32.1 83 34)
    · rw [if_pos q2] at h
      rw [if_pos ((rp_ob (rm_rd gM32 83 34) 320).mpr q2)]
      cases h
    · rw [if_neg q2] at h
      rw [if_neg (fun z => q2 ((rp_ob (rm_rd gM32 83 34) 320).mp z))]
      have gM34 : rm (m_i NM32 106 ((NM32.1 83 34)).toNatClampNeg (0 : Int32)) (z_i M32 106 (Int.toNat (M32.1 83 34)) 0) := rm_ix gM32 106 (rm_rd gM32 83 34) (show rp 0 0 from rfl)
      rw [mlet]
      rw [zlet] at h
      generalize z_i M32 106 (Int.toNat (M32.1 83 34)) 0 = M34 at h gM34
      generalize m_i NM32 106 ((NM32.1 83 34)).toNatClampNeg (0 : Int32) = NM34 at gM34 ⊢
      exact zJ78_148_r n _ _ hrec7 hs0 gM34 h
def zJ78_95 (n : Nat) (zrec7 : Int → ZM → Option (Int × ZM)) (x1 : Int) (M : ZM) : Option (Int × ZM) :=
  if (M.1 83 4) = 4 then (if rg (x1 + 1) then (zJ78_124 n zrec7 (x1 + 1) M) else none) else (if (M.1 83 4) = 5 then (if rg (x1 - 1) then (zJ78_124 n zrec7 (x1 - 1) M) else none) else (zJ78_124 n zrec7 x1 M))
set_option maxRecDepth 100000 in
set_option maxHeartbeats 4000000 in
theorem zJ78_95_r (n : Nat) (rec7 : Int32 → Mem → Option (Int32 × Mem)) (zrec7 : Int → ZM → Option (Int × ZM)) (hrec7 : ∀ {Y1 : Int32} {y1 : Int} (_ : rp Y1 y1) {M : Mem} {m : ZM} (_ : rm M m) {r : Int} {m' : ZM} (_ : zrec7 y1 m = some (r, m')), sI (rec7 Y1 M) r m') {X1_ : Int32} {x1 : Int} (hx1 : rp X1_ x1) {M_ : Mem} {M : ZM} (gM : rm M_ M) {r : Int} {m' : ZM} (h : zJ78_95 n zrec7 x1 M = some (r, m')) : sI (J78_95 n rec7 X1_ M_) r m' := by
  unfold zJ78_95 at h
  unfold J78_95
  by_cases q1 : (M.1 83 4) = 4
  · rw [if_pos q1] at h
    rw [if_pos ((rp_eq (rm_rd gM 83 4) (show rp 4 4 from rfl)).mpr q1)]
    by_cases w2 : rg (x1 + 1)
    · rw [if_pos w2] at h
      exact zJ78_124_r n _ _ hrec7 (rp_add (rp_iz hx1) (rp_iz (show rp 1 1 from rfl)) w2) gM h
    · rw [if_neg w2] at h
      cases h
  · rw [if_neg q1] at h
    rw [if_neg (fun z => q1 ((rp_eq (rm_rd gM 83 4) (show rp 4 4 from rfl)).mp z))]
    by_cases q3 : (M.1 83 4) = 5
    · rw [if_pos q3] at h
      rw [if_pos ((rp_eq (rm_rd gM 83 4) (show rp 5 5 from rfl)).mpr q3)]
      by_cases w4 : rg (x1 - 1)
      · rw [if_pos w4] at h
        exact zJ78_124_r n _ _ hrec7 (rp_sub (rp_iz hx1) (rp_iz (show rp 1 1 from rfl)) w4) gM h
      · rw [if_neg w4] at h
        cases h
    · rw [if_neg q3] at h
      rw [if_neg (fun z => q3 ((rp_eq (rm_rd gM 83 4) (show rp 5 5 from rfl)).mp z))]
      exact zJ78_124_r n _ _ hrec7 hx1 gM h
def zJ78_77 (n : Nat) (zrec7 : Int → ZM → Option (Int × ZM)) (x1 : Int) (M : ZM) : Option (Int × ZM) :=
  if (M.1 83 4) = 4 then (if x1 < 0 ∨ 16 ≤ x1 then (none) else (zlet (z_i M 103 (Int.toNat x1) (M.1 83 5)) (fun M29 => zJ78_95 n zrec7 x1 M29))) else (zJ78_95 n zrec7 x1 M)
set_option maxRecDepth 100000 in
set_option maxHeartbeats 4000000 in
theorem zJ78_77_r (n : Nat) (rec7 : Int32 → Mem → Option (Int32 × Mem)) (zrec7 : Int → ZM → Option (Int × ZM)) (hrec7 : ∀ {Y1 : Int32} {y1 : Int} (_ : rp Y1 y1) {M : Mem} {m : ZM} (_ : rm M m) {r : Int} {m' : ZM} (_ : zrec7 y1 m = some (r, m')), sI (rec7 Y1 M) r m') {X1_ : Int32} {x1 : Int} (hx1 : rp X1_ x1) {M_ : Mem} {M : ZM} (gM : rm M_ M) {r : Int} {m' : ZM} (h : zJ78_77 n zrec7 x1 M = some (r, m')) : sI (J78_77 n rec7 X1_ M_) r m' := by
  unfold zJ78_77 at h
  unfold J78_77
  by_cases q1 : (M.1 83 4) = 4
  · rw [if_pos q1] at h
    rw [if_pos ((rp_eq (rm_rd gM 83 4) (show rp 4 4 from rfl)).mpr q1)]
    by_cases q2 : x1 < 0 ∨ 16 ≤ x1
    · rw [if_pos q2] at h
      rw [if_pos ((rp_ob hx1 16).mpr q2)]
      cases h
    · rw [if_neg q2] at h
      rw [if_neg (fun z => q2 ((rp_ob hx1 16).mp z))]
      have gM29 : rm (m_i M_ 103 (X1_).toNatClampNeg (M_.1 83 5)) (z_i M 103 (Int.toNat x1) (M.1 83 5)) := rm_ix gM 103 hx1 (rm_rd gM 83 5)
      rw [mlet]
      rw [zlet] at h
      generalize z_i M 103 (Int.toNat x1) (M.1 83 5) = M29 at h gM29
      generalize m_i M_ 103 (X1_).toNatClampNeg (M_.1 83 5) = NM29 at gM29 ⊢
      exact zJ78_95_r n _ _ hrec7 hx1 gM29 h
  · rw [if_neg q1] at h
    rw [if_neg (fun z => q1 ((rp_eq (rm_rd gM 83 4) (show rp 4 4 from rfl)).mp z))]
    exact zJ78_95_r n _ _ hrec7 hx1 gM h
def zJ78_42 (n : Nat) (zrec7 : Int → ZM → Option (Int × ZM)) (x1 : Int) (M : ZM) : Option (Int × ZM) :=
  if (M.1 83 4) = 5 then (if x1 = 0 then (zJ78_72 n M) else (if rg (x1 - 1) then (if (x1 - 1) < 0 ∨ 16 ≤ (x1 - 1) then (none) else (match zF23 n (M.1 103 (Int.toNat (x1 - 1))) M with | some (v23, M24) => (if (M.1 83 5) = v23 then (zJ78_77 n zrec7 x1 M24) else (zJ78_72 n M24)) | none => none)) else none)) else (zJ78_77 n zrec7 x1 M)
set_option maxRecDepth 100000 in
set_option maxHeartbeats 4000000 in
theorem zJ78_42_r (n : Nat) (rec7 : Int32 → Mem → Option (Int32 × Mem)) (zrec7 : Int → ZM → Option (Int × ZM)) (hrec7 : ∀ {Y1 : Int32} {y1 : Int} (_ : rp Y1 y1) {M : Mem} {m : ZM} (_ : rm M m) {r : Int} {m' : ZM} (_ : zrec7 y1 m = some (r, m')), sI (rec7 Y1 M) r m') {X1_ : Int32} {x1 : Int} (hx1 : rp X1_ x1) {M_ : Mem} {M : ZM} (gM : rm M_ M) {r : Int} {m' : ZM} (h : zJ78_42 n zrec7 x1 M = some (r, m')) : sI (J78_42 n rec7 X1_ M_) r m' := by
  unfold zJ78_42 at h
  unfold J78_42
  by_cases q1 : (M.1 83 4) = 5
  · rw [if_pos q1] at h
    rw [if_pos ((rp_eq (rm_rd gM 83 4) (show rp 5 5 from rfl)).mpr q1)]
    by_cases q2 : x1 = 0
    · rw [if_pos q2] at h
      rw [if_pos ((rp_eq hx1 (show rp 0 0 from rfl)).mpr q2)]
      exact zJ78_72_r n gM h
    · rw [if_neg q2] at h
      rw [if_neg (fun z => q2 ((rp_eq hx1 (show rp 0 0 from rfl)).mp z))]
      by_cases w3 : rg (x1 - 1)
      · rw [if_pos w3] at h
        by_cases q4 : (x1 - 1) < 0 ∨ 16 ≤ (x1 - 1)
        · rw [if_pos q4] at h
          rw [if_pos ((rp_ob (rp_sub (rp_iz hx1) (rp_iz (show rp 1 1 from rfl)) w3) 16).mpr q4)]
          cases h
        · rw [if_neg q4] at h
          rw [if_neg (fun z => q4 ((rp_ob (rp_sub (rp_iz hx1) (rp_iz (show rp 1 1 from rfl)) w3) 16).mp z))]
          cases hc5 : zF23 n (M.1 103 (Int.toNat (x1 - 1))) M with
          | none => rw [hc5] at h; cases h
          | some w =>
            obtain ⟨v23, M24⟩ := w
            rw [hc5] at h
            dsimp only at h
            obtain ⟨V23, NM24, ehc5, hv23, gM24⟩ := zF23_r n (rm_rdx gM 103 (rp_sub (rp_iz hx1) (rp_iz (show rp 1 1 from rfl)) w3)) gM hc5
            rw [ehc5]
            dsimp only
            by_cases q6 : (M.1 83 5) = v23
            · rw [if_pos q6] at h
              rw [if_pos ((rp_eq (rm_rd gM 83 5) hv23).mpr q6)]
              exact zJ78_77_r n _ _ hrec7 hx1 gM24 h
            · rw [if_neg q6] at h
              rw [if_neg (fun z => q6 ((rp_eq (rm_rd gM 83 5) hv23).mp z))]
              exact zJ78_72_r n gM24 h
      · rw [if_neg w3] at h
        cases h
  · rw [if_neg q1] at h
    rw [if_neg (fun z => q1 ((rp_eq (rm_rd gM 83 4) (show rp 5 5 from rfl)).mp z))]
    exact zJ78_77_r n _ _ hrec7 hx1 gM h
def zJ78_31 (n : Nat) (zrec7 : Int → ZM → Option (Int × ZM)) (x1 : Int) (M : ZM) : Option (Int × ZM) :=
  if x1 ≤ 9 then (zJ78_42 n zrec7 x1 M) else (zJ78_37 n M)
set_option maxRecDepth 100000 in
set_option maxHeartbeats 4000000 in
theorem zJ78_31_r (n : Nat) (rec7 : Int32 → Mem → Option (Int32 × Mem)) (zrec7 : Int → ZM → Option (Int × ZM)) (hrec7 : ∀ {Y1 : Int32} {y1 : Int} (_ : rp Y1 y1) {M : Mem} {m : ZM} (_ : rm M m) {r : Int} {m' : ZM} (_ : zrec7 y1 m = some (r, m')), sI (rec7 Y1 M) r m') {X1_ : Int32} {x1 : Int} (hx1 : rp X1_ x1) {M_ : Mem} {M : ZM} (gM : rm M_ M) {r : Int} {m' : ZM} (h : zJ78_31 n zrec7 x1 M = some (r, m')) : sI (J78_31 n rec7 X1_ M_) r m' := by
  unfold zJ78_31 at h
  unfold J78_31
  by_cases q1 : x1 ≤ 9
  · rw [if_pos q1] at h
    rw [if_pos ((rp_le hx1 (show rp 9 9 from rfl)).mpr q1)]
    exact zJ78_42_r n _ _ hrec7 hx1 gM h
  · rw [if_neg q1] at h
    rw [if_neg (fun z => q1 ((rp_le hx1 (show rp 9 9 from rfl)).mp z))]
    exact zJ78_37_r n gM h
def zL78_7 (n : Nat) : Nat → Int → ZM → Option (Int × ZM)
  | 0, _, _ => none
  | k + 1, x1, M => if (M.1 83 4) = 6 then (if x1 = 0 then (zJ78_176 n M) else (match zF29 n M with | some (v5, M6) => (if v5 = 0 then (zJ78_180 n M6) else (zJ78_176 n M6)) | none => none)) else (if (M.1 83 4) = 0 then (zJ78_37 n M) else (if (M.1 83 4) = 4 then (zJ78_31 n (zL78_7 n k) x1 M) else (zJ78_42 n (zL78_7 n k) x1 M)))
set_option maxRecDepth 100000 in
set_option maxHeartbeats 4000000 in
theorem zL78_7_r (n : Nat) : ∀ (k : Nat) {X1_ : Int32} {x1 : Int} (hx1 : rp X1_ x1) {M_ : Mem} {M : ZM} (gM : rm M_ M) {r : Int} {m' : ZM} (_ : zL78_7 n k x1 M = some (r, m')), sI (L78_7 n k X1_ M_) r m' := by
  intro k
  induction k with
  | zero => intro X1_ x1 hx1 M_ M gM r m' h; cases h
  | succ k ih =>
    intro X1_ x1 hx1 M_ M gM r m' h
    rw [zL78_7] at h
    rw [L78_7]
    by_cases q1 : (M.1 83 4) = 6
    · rw [if_pos q1] at h
      rw [if_pos ((rp_eq (rm_rd gM 83 4) (show rp 6 6 from rfl)).mpr q1)]
      by_cases q2 : x1 = 0
      · rw [if_pos q2] at h
        rw [if_pos ((rp_eq hx1 (show rp 0 0 from rfl)).mpr q2)]
        exact zJ78_176_r n gM h
      · rw [if_neg q2] at h
        rw [if_neg (fun z => q2 ((rp_eq hx1 (show rp 0 0 from rfl)).mp z))]
        cases hc3 : zF29 n M with
        | none => rw [hc3] at h; cases h
        | some w =>
          obtain ⟨v5, M6⟩ := w
          rw [hc3] at h
          dsimp only at h
          obtain ⟨V5, NM6, ehc3, hv5, gM6⟩ := zF29_r n gM hc3
          rw [ehc3]
          dsimp only
          by_cases q4 : v5 = 0
          · rw [if_pos q4] at h
            rw [if_pos ((rp_eq hv5 (show rp 0 0 from rfl)).mpr q4)]
            exact zJ78_180_r n gM6 h
          · rw [if_neg q4] at h
            rw [if_neg (fun z => q4 ((rp_eq hv5 (show rp 0 0 from rfl)).mp z))]
            exact zJ78_176_r n gM6 h
    · rw [if_neg q1] at h
      rw [if_neg (fun z => q1 ((rp_eq (rm_rd gM 83 4) (show rp 6 6 from rfl)).mp z))]
      by_cases q5 : (M.1 83 4) = 0
      · rw [if_pos q5] at h
        rw [if_pos ((rp_eq (rm_rd gM 83 4) (show rp 0 0 from rfl)).mpr q5)]
        exact zJ78_37_r n gM h
      · rw [if_neg q5] at h
        rw [if_neg (fun z => q5 ((rp_eq (rm_rd gM 83 4) (show rp 0 0 from rfl)).mp z))]
        by_cases q6 : (M.1 83 4) = 4
        · rw [if_pos q6] at h
          rw [if_pos ((rp_eq (rm_rd gM 83 4) (show rp 4 4 from rfl)).mpr q6)]
          exact zJ78_31_r n _ _ ih hx1 gM h
        · rw [if_neg q6] at h
          rw [if_neg (fun z => q6 ((rp_eq (rm_rd gM 83 4) (show rp 4 4 from rfl)).mp z))]
          exact zJ78_42_r n _ _ ih hx1 gM h
/-- ArmExpanderModel.readText -/
def zF78 (n : Nat) (M : ZM) : Option (Int × ZM) :=
  zlet (z_i M 83 34 0) (fun M1 => zL78_7 n n 0 M1)
set_option maxRecDepth 100000 in
set_option maxHeartbeats 4000000 in
theorem zF78_r (n : Nat) {M_ : Mem} {M : ZM} (gM : rm M_ M) {r : Int} {m' : ZM} (h : zF78 n M = some (r, m')) : sI (F78 n M_) r m' := by
  unfold zF78 at h
  unfold F78
  have gM1 : rm (m_i M_ 83 34 (0 : Int32)) (z_i M 83 34 0) := rm_i gM 83 34 (show rp 0 0 from rfl)
  rw [mlet]
  rw [zlet] at h
  generalize z_i M 83 34 0 = M1 at h gM1
  generalize m_i M_ 83 34 (0 : Int32) = NM1 at gM1 ⊢
  exact zL78_7_r n n (show rp 0 0 from rfl) gM1 h
def zJ79_54 (n : Nat) (s0 : Int) (M : ZM) : Option (Int × ZM) :=
  if s0 = 0 ∨ s0 = 1 then (some (s0, M)) else (none)
set_option maxRecDepth 100000 in
set_option maxHeartbeats 4000000 in
theorem zJ79_54_r (n : Nat) {S0_ : Int32} {s0 : Int} (hs0 : rp S0_ s0) {M_ : Mem} {M : ZM} (gM : rm M_ M) {r : Int} {m' : ZM} (h : zJ79_54 n s0 M = some (r, m')) : sI (J79_54 n S0_ M_) r m' := by
  unfold zJ79_54 at h
  unfold J79_54
  by_cases q1 : s0 = 0 ∨ s0 = 1
  · rw [if_pos q1] at h
    rw [if_pos ((or_congr (rp_eq hs0 (show rp 0 0 from rfl)) (rp_eq hs0 (show rp 1 1 from rfl))).mpr q1)]
    obtain ⟨rfl, rfl⟩ := Prod.mk.inj (Option.some.inj h)
    exact ⟨_, _, rfl, hs0, gM⟩
  · rw [if_neg q1] at h
    rw [if_neg (fun z => q1 ((or_congr (rp_eq hs0 (show rp 0 0 from rfl)) (rp_eq hs0 (show rp 1 1 from rfl))).mp z))]
    cases h
def zJ79_53 (n : Nat) (M : ZM) : Option (Int × ZM) :=
  zJ79_54 n 0 M
set_option maxRecDepth 100000 in
set_option maxHeartbeats 4000000 in
theorem zJ79_53_r (n : Nat) {M_ : Mem} {M : ZM} (gM : rm M_ M) {r : Int} {m' : ZM} (h : zJ79_53 n M = some (r, m')) : sI (J79_53 n M_) r m' := by
  unfold zJ79_53 at h
  unfold J79_53
  exact zJ79_54_r n (show rp 0 0 from rfl) gM h
def zJ79_35 (n : Nat) (x1 : Int) (M : ZM) : Option (Int × ZM) :=
  if rg (x1 + 2) then (if (x1 + 2) < 0 ∨ 320 ≤ (x1 + 2) then (none) else (match zF21 n (M.1 105 (Int.toNat (x1 + 2))) M with | some (v8, M9) => (if v8 = 0 then (zJ79_53 n M9) else (zJ79_54 n 1 M9)) | none => none)) else none
set_option maxRecDepth 100000 in
set_option maxHeartbeats 4000000 in
theorem zJ79_35_r (n : Nat) {X1_ : Int32} {x1 : Int} (hx1 : rp X1_ x1) {M_ : Mem} {M : ZM} (gM : rm M_ M) {r : Int} {m' : ZM} (h : zJ79_35 n x1 M = some (r, m')) : sI (J79_35 n X1_ M_) r m' := by
  unfold zJ79_35 at h
  unfold J79_35
  by_cases w1 : rg (x1 + 2)
  · rw [if_pos w1] at h
    by_cases q2 : (x1 + 2) < 0 ∨ 320 ≤ (x1 + 2)
    · rw [if_pos q2] at h
      rw [if_pos ((rp_ob (rp_add (rp_iz hx1) (rp_iz (show rp 2 2 from rfl)) w1) 320).mpr q2)]
      cases h
    · rw [if_neg q2] at h
      rw [if_neg (fun z => q2 ((rp_ob (rp_add (rp_iz hx1) (rp_iz (show rp 2 2 from rfl)) w1) 320).mp z))]
      cases hc3 : zF21 n (M.1 105 (Int.toNat (x1 + 2))) M with
      | none => rw [hc3] at h; cases h
      | some w =>
        obtain ⟨v8, M9⟩ := w
        rw [hc3] at h
        dsimp only at h
        obtain ⟨V8, NM9, ehc3, hv8, gM9⟩ := zF21_r n (rm_rdx gM 105 (rp_add (rp_iz hx1) (rp_iz (show rp 2 2 from rfl)) w1)) gM hc3
        rw [ehc3]
        dsimp only
        by_cases q4 : v8 = 0
        · rw [if_pos q4] at h
          rw [if_pos ((rp_eq hv8 (show rp 0 0 from rfl)).mpr q4)]
          exact zJ79_53_r n gM9 h
        · rw [if_neg q4] at h
          rw [if_neg (fun z => q4 ((rp_eq hv8 (show rp 0 0 from rfl)).mp z))]
          exact zJ79_54_r n (show rp 1 1 from rfl) gM9 h
  · rw [if_neg w1] at h
    cases h
/-- ArmExpanderModel.isCall -/
def zF79 (n : Nat) (a0 : Int) (M : ZM) : Option (Int × ZM) :=
  if rg (a0 + 2) then (if (M.1 83 34) ≤ (a0 + 2) then (zJ79_53 n M) else (if a0 < 0 ∨ 320 ≤ a0 then (none) else (if (M.1 105 (Int.toNat a0)) < 1000 then (zJ79_53 n M) else (if rg (a0 + 1) then (if (a0 + 1) < 0 ∨ 320 ≤ (a0 + 1) then (none) else (if (M.1 105 (Int.toNat (a0 + 1))) = 33 then (zJ79_35 n a0 M) else (zJ79_53 n M))) else none)))) else none
set_option maxRecDepth 100000 in
set_option maxHeartbeats 4000000 in
theorem zF79_r (n : Nat) {A0_ : Int32} {a0 : Int} (ha0 : rp A0_ a0) {M_ : Mem} {M : ZM} (gM : rm M_ M) {r : Int} {m' : ZM} (h : zF79 n a0 M = some (r, m')) : sI (F79 n A0_ M_) r m' := by
  unfold zF79 at h
  unfold F79
  by_cases w1 : rg (a0 + 2)
  · rw [if_pos w1] at h
    by_cases q2 : (M.1 83 34) ≤ (a0 + 2)
    · rw [if_pos q2] at h
      rw [if_pos ((rp_le (rm_rd gM 83 34) (rp_add (rp_iz ha0) (rp_iz (show rp 2 2 from rfl)) w1)).mpr q2)]
      exact zJ79_53_r n gM h
    · rw [if_neg q2] at h
      rw [if_neg (fun z => q2 ((rp_le (rm_rd gM 83 34) (rp_add (rp_iz ha0) (rp_iz (show rp 2 2 from rfl)) w1)).mp z))]
      by_cases q3 : a0 < 0 ∨ 320 ≤ a0
      · rw [if_pos q3] at h
        rw [if_pos ((rp_ob ha0 320).mpr q3)]
        cases h
      · rw [if_neg q3] at h
        rw [if_neg (fun z => q3 ((rp_ob ha0 320).mp z))]
        by_cases q4 : (M.1 105 (Int.toNat a0)) < 1000
        · rw [if_pos q4] at h
          rw [if_pos ((rp_lt (rm_rdx gM 105 ha0) (show rp 1000 1000 from rfl)).mpr q4)]
          exact zJ79_53_r n gM h
        · rw [if_neg q4] at h
          rw [if_neg (fun z => q4 ((rp_lt (rm_rdx gM 105 ha0) (show rp 1000 1000 from rfl)).mp z))]
          by_cases w5 : rg (a0 + 1)
          · rw [if_pos w5] at h
            by_cases q6 : (a0 + 1) < 0 ∨ 320 ≤ (a0 + 1)
            · rw [if_pos q6] at h
              rw [if_pos ((rp_ob (rp_add (rp_iz ha0) (rp_iz (show rp 1 1 from rfl)) w5) 320).mpr q6)]
              cases h
            · rw [if_neg q6] at h
              rw [if_neg (fun z => q6 ((rp_ob (rp_add (rp_iz ha0) (rp_iz (show rp 1 1 from rfl)) w5) 320).mp z))]
              by_cases q7 : (M.1 105 (Int.toNat (a0 + 1))) = 33
              · rw [if_pos q7] at h
                rw [if_pos ((rp_eq (rm_rdx gM 105 (rp_add (rp_iz ha0) (rp_iz (show rp 1 1 from rfl)) w5)) (show rp 33 33 from rfl)).mpr q7)]
                exact zJ79_35_r n ha0 gM h
              · rw [if_neg q7] at h
                rw [if_neg (fun z => q7 ((rp_eq (rm_rdx gM 105 (rp_add (rp_iz ha0) (rp_iz (show rp 1 1 from rfl)) w5)) (show rp 33 33 from rfl)).mp z))]
                exact zJ79_53_r n gM h
          · rw [if_neg w5] at h
            cases h
  · rw [if_neg w1] at h
    cases h
def zJ80_160 (n : Nat) (zrec135 : Int → Int → Int → ZM → Option (Int × ZM)) (x1 : Int) (x3 : Int) (x4 : Int) (M : ZM) : Option (Int × ZM) :=
  if x4 < 0 ∨ 160 ≤ x4 then (none) else (if rg (x1 + x4) then (if (x1 + x4) < 0 ∨ 320 ≤ (x1 + x4) then (none) else (zlet (z_i M 106 (Int.toNat (x1 + x4)) (M.1 128 (Int.toNat x4))) (fun M11 => if rg (x4 + 1) then (zrec135 x1 x3 (x4 + 1) M11) else none))) else none)
set_option maxRecDepth 100000 in
set_option maxHeartbeats 4000000 in
theorem zJ80_160_r (n : Nat) (rec135 : Int32 → Int32 → Int32 → Mem → Option (Int32 × Mem)) (zrec135 : Int → Int → Int → ZM → Option (Int × ZM)) (hrec135 : ∀ {Y1 : Int32} {y1 : Int} (_ : rp Y1 y1) {Y2 : Int32} {y2 : Int} (_ : rp Y2 y2) {Y3 : Int32} {y3 : Int} (_ : rp Y3 y3) {M : Mem} {m : ZM} (_ : rm M m) {r : Int} {m' : ZM} (_ : zrec135 y1 y2 y3 m = some (r, m')), sI (rec135 Y1 Y2 Y3 M) r m') {X1_ : Int32} {x1 : Int} (hx1 : rp X1_ x1) {X3_ : Int32} {x3 : Int} (hx3 : rp X3_ x3) {X4_ : Int32} {x4 : Int} (hx4 : rp X4_ x4) {M_ : Mem} {M : ZM} (gM : rm M_ M) {r : Int} {m' : ZM} (h : zJ80_160 n zrec135 x1 x3 x4 M = some (r, m')) : sI (J80_160 n rec135 X1_ X3_ X4_ M_) r m' := by
  unfold zJ80_160 at h
  unfold J80_160
  by_cases q1 : x4 < 0 ∨ 160 ≤ x4
  · rw [if_pos q1] at h
    rw [if_pos ((rp_ob hx4 160).mpr q1)]
    cases h
  · rw [if_neg q1] at h
    rw [if_neg (fun z => q1 ((rp_ob hx4 160).mp z))]
    by_cases w2 : rg (x1 + x4)
    · rw [if_pos w2] at h
      by_cases q3 : (x1 + x4) < 0 ∨ 320 ≤ (x1 + x4)
      · rw [if_pos q3] at h
        rw [if_pos ((rp_ob (rp_add (rp_iz hx1) (rp_iz hx4) w2) 320).mpr q3)]
        cases h
      · rw [if_neg q3] at h
        rw [if_neg (fun z => q3 ((rp_ob (rp_add (rp_iz hx1) (rp_iz hx4) w2) 320).mp z))]
        have gM11 : rm (m_i M_ 106 ((X1_ + X4_)).toNatClampNeg (M_.1 128 (X4_).toNatClampNeg)) (z_i M 106 (Int.toNat (x1 + x4)) (M.1 128 (Int.toNat x4))) := rm_ix gM 106 (rp_add (rp_iz hx1) (rp_iz hx4) w2) (rm_rdx gM 128 hx4)
        rw [mlet]
        rw [zlet] at h
        generalize z_i M 106 (Int.toNat (x1 + x4)) (M.1 128 (Int.toNat x4)) = M11 at h gM11
        generalize m_i M_ 106 ((X1_ + X4_)).toNatClampNeg (M_.1 128 (X4_).toNatClampNeg) = NM11 at gM11 ⊢
        by_cases w4 : rg (x4 + 1)
        · rw [if_pos w4] at h
          exact hrec135 hx1 hx3 (rp_add (rp_iz hx4) (rp_iz (show rp 1 1 from rfl)) w4) gM11 h
        · rw [if_neg w4] at h
          cases h
    · rw [if_neg w2] at h
      cases h
def zL80_135 (n : Nat) : Nat → Int → Int → Int → ZM → Option (Int × ZM)
  | 0, _, _, _, _ => none
  | k + 1, x1, x3, x4, M => if (M.1 83 62) ≤ x4 then (if rg ((M.1 83 34) + x3) then (zlet (z_i M 83 34 ((M.1 83 34) + x3)) (fun M5 => some (1, M5))) else none) else (if x4 < 0 ∨ 160 ≤ x4 then (none) else (if rg (x1 + x4) then (if (x1 + x4) < 0 ∨ 320 ≤ (x1 + x4) then (none) else (zlet (z_i M 105 (Int.toNat (x1 + x4)) (M.1 127 (Int.toNat x4))) (fun M8 => zJ80_160 n (zL80_135 n k) x1 x3 x4 M8))) else none))
set_option maxRecDepth 100000 in
set_option maxHeartbeats 4000000 in
theorem zL80_135_r (n : Nat) : ∀ (k : Nat) {X1_ : Int32} {x1 : Int} (hx1 : rp X1_ x1) {X3_ : Int32} {x3 : Int} (hx3 : rp X3_ x3) {X4_ : Int32} {x4 : Int} (hx4 : rp X4_ x4) {M_ : Mem} {M : ZM} (gM : rm M_ M) {r : Int} {m' : ZM} (_ : zL80_135 n k x1 x3 x4 M = some (r, m')), sI (L80_135 n k X1_ X3_ X4_ M_) r m' := by
  intro k
  induction k with
  | zero => intro X1_ x1 hx1 X3_ x3 hx3 X4_ x4 hx4 M_ M gM r m' h; cases h
  | succ k ih =>
    intro X1_ x1 hx1 X3_ x3 hx3 X4_ x4 hx4 M_ M gM r m' h
    rw [zL80_135] at h
    rw [L80_135]
    by_cases q1 : (M.1 83 62) ≤ x4
    · rw [if_pos q1] at h
      rw [if_pos ((rp_le (rm_rd gM 83 62) hx4).mpr q1)]
      by_cases w2 : rg ((M.1 83 34) + x3)
      · rw [if_pos w2] at h
        have gM5 : rm (m_i M_ 83 34 ((M_.1 83 34) + X3_)) (z_i M 83 34 ((M.1 83 34) + x3)) := rm_i gM 83 34 (rp_add (rp_iz (rm_rd gM 83 34)) (rp_iz hx3) w2)
        rw [mlet]
        rw [zlet] at h
        generalize z_i M 83 34 ((M.1 83 34) + x3) = M5 at h gM5
        generalize m_i M_ 83 34 ((M_.1 83 34) + X3_) = NM5 at gM5 ⊢
        obtain ⟨rfl, rfl⟩ := Prod.mk.inj (Option.some.inj h)
        exact ⟨_, _, rfl, (show rp 1 1 from rfl), gM5⟩
      · rw [if_neg w2] at h
        cases h
    · rw [if_neg q1] at h
      rw [if_neg (fun z => q1 ((rp_le (rm_rd gM 83 62) hx4).mp z))]
      by_cases q3 : x4 < 0 ∨ 160 ≤ x4
      · rw [if_pos q3] at h
        rw [if_pos ((rp_ob hx4 160).mpr q3)]
        cases h
      · rw [if_neg q3] at h
        rw [if_neg (fun z => q3 ((rp_ob hx4 160).mp z))]
        by_cases w4 : rg (x1 + x4)
        · rw [if_pos w4] at h
          by_cases q5 : (x1 + x4) < 0 ∨ 320 ≤ (x1 + x4)
          · rw [if_pos q5] at h
            rw [if_pos ((rp_ob (rp_add (rp_iz hx1) (rp_iz hx4) w4) 320).mpr q5)]
            cases h
          · rw [if_neg q5] at h
            rw [if_neg (fun z => q5 ((rp_ob (rp_add (rp_iz hx1) (rp_iz hx4) w4) 320).mp z))]
            have gM8 : rm (m_i M_ 105 ((X1_ + X4_)).toNatClampNeg (M_.1 127 (X4_).toNatClampNeg)) (z_i M 105 (Int.toNat (x1 + x4)) (M.1 127 (Int.toNat x4))) := rm_ix gM 105 (rp_add (rp_iz hx1) (rp_iz hx4) w4) (rm_rdx gM 127 hx4)
            rw [mlet]
            rw [zlet] at h
            generalize z_i M 105 (Int.toNat (x1 + x4)) (M.1 127 (Int.toNat x4)) = M8 at h gM8
            generalize m_i M_ 105 ((X1_ + X4_)).toNatClampNeg (M_.1 127 (X4_).toNatClampNeg) = NM8 at gM8 ⊢
            exact zJ80_160_r n _ _ ih hx1 hx3 hx4 gM8 h
        · rw [if_neg w4] at h
          cases h
def zJ80_132 (n : Nat) (x1 : Int) (x3 : Int) (M : ZM) : Option (Int × ZM) :=
  zL80_135 n n x1 x3 0 M
set_option maxRecDepth 100000 in
set_option maxHeartbeats 4000000 in
theorem zJ80_132_r (n : Nat) {X1_ : Int32} {x1 : Int} (hx1 : rp X1_ x1) {X3_ : Int32} {x3 : Int} (hx3 : rp X3_ x3) {M_ : Mem} {M : ZM} (gM : rm M_ M) {r : Int} {m' : ZM} (h : zJ80_132 n x1 x3 M = some (r, m')) : sI (J80_132 n X1_ X3_ M_) r m' := by
  unfold zJ80_132 at h
  unfold J80_132
  exact zL80_135_r n n hx1 hx3 (show rp 0 0 from rfl) gM h
def zJ80_110 (n : Nat) (zrec85 : Int → Int → Int → ZM → Option (Int × ZM)) (x1 : Int) (x3 : Int) (x4 : Int) (M : ZM) : Option (Int × ZM) :=
  if x4 < 0 ∨ 320 ≤ x4 then (none) else (if rg (x4 + x3) then (if (x4 + x3) < 0 ∨ 320 ≤ (x4 + x3) then (none) else (zlet (z_i M 106 (Int.toNat (x4 + x3)) (M.1 106 (Int.toNat x4))) (fun M17 => if rg (x4 + 1) then (zrec85 x1 x3 (x4 + 1) M17) else none))) else none)
set_option maxRecDepth 100000 in
set_option maxHeartbeats 4000000 in
theorem zJ80_110_r (n : Nat) (rec85 : Int32 → Int32 → Int32 → Mem → Option (Int32 × Mem)) (zrec85 : Int → Int → Int → ZM → Option (Int × ZM)) (hrec85 : ∀ {Y1 : Int32} {y1 : Int} (_ : rp Y1 y1) {Y2 : Int32} {y2 : Int} (_ : rp Y2 y2) {Y3 : Int32} {y3 : Int} (_ : rp Y3 y3) {M : Mem} {m : ZM} (_ : rm M m) {r : Int} {m' : ZM} (_ : zrec85 y1 y2 y3 m = some (r, m')), sI (rec85 Y1 Y2 Y3 M) r m') {X1_ : Int32} {x1 : Int} (hx1 : rp X1_ x1) {X3_ : Int32} {x3 : Int} (hx3 : rp X3_ x3) {X4_ : Int32} {x4 : Int} (hx4 : rp X4_ x4) {M_ : Mem} {M : ZM} (gM : rm M_ M) {r : Int} {m' : ZM} (h : zJ80_110 n zrec85 x1 x3 x4 M = some (r, m')) : sI (J80_110 n rec85 X1_ X3_ X4_ M_) r m' := by
  unfold zJ80_110 at h
  unfold J80_110
  by_cases q1 : x4 < 0 ∨ 320 ≤ x4
  · rw [if_pos q1] at h
    rw [if_pos ((rp_ob hx4 320).mpr q1)]
    cases h
  · rw [if_neg q1] at h
    rw [if_neg (fun z => q1 ((rp_ob hx4 320).mp z))]
    by_cases w2 : rg (x4 + x3)
    · rw [if_pos w2] at h
      by_cases q3 : (x4 + x3) < 0 ∨ 320 ≤ (x4 + x3)
      · rw [if_pos q3] at h
        rw [if_pos ((rp_ob (rp_add (rp_iz hx4) (rp_iz hx3) w2) 320).mpr q3)]
        cases h
      · rw [if_neg q3] at h
        rw [if_neg (fun z => q3 ((rp_ob (rp_add (rp_iz hx4) (rp_iz hx3) w2) 320).mp z))]
        have gM17 : rm (m_i M_ 106 ((X4_ + X3_)).toNatClampNeg (M_.1 106 (X4_).toNatClampNeg)) (z_i M 106 (Int.toNat (x4 + x3)) (M.1 106 (Int.toNat x4))) := rm_ix gM 106 (rp_add (rp_iz hx4) (rp_iz hx3) w2) (rm_rdx gM 106 hx4)
        rw [mlet]
        rw [zlet] at h
        generalize z_i M 106 (Int.toNat (x4 + x3)) (M.1 106 (Int.toNat x4)) = M17 at h gM17
        generalize m_i M_ 106 ((X4_ + X3_)).toNatClampNeg (M_.1 106 (X4_).toNatClampNeg) = NM17 at gM17 ⊢
        by_cases w4 : rg (x4 + 1)
        · rw [if_pos w4] at h
          exact hrec85 hx1 hx3 (rp_add (rp_iz hx4) (rp_iz (show rp 1 1 from rfl)) w4) gM17 h
        · rw [if_neg w4] at h
          cases h
    · rw [if_neg w2] at h
      cases h
def zL80_85 (n : Nat) : Nat → Int → Int → Int → ZM → Option (Int × ZM)
  | 0, _, _, _, _ => none
  | k + 1, x1, x3, x4, M => if (M.1 83 34) ≤ x4 then (zJ80_132 n x1 x3 M) else (if x4 < 0 ∨ 320 ≤ x4 then (none) else (if rg (x4 + x3) then (if (x4 + x3) < 0 ∨ 320 ≤ (x4 + x3) then (none) else (zlet (z_i M 105 (Int.toNat (x4 + x3)) (M.1 105 (Int.toNat x4))) (fun M14 => zJ80_110 n (zL80_85 n k) x1 x3 x4 M14))) else none))
set_option maxRecDepth 100000 in
set_option maxHeartbeats 4000000 in
theorem zL80_85_r (n : Nat) : ∀ (k : Nat) {X1_ : Int32} {x1 : Int} (hx1 : rp X1_ x1) {X3_ : Int32} {x3 : Int} (hx3 : rp X3_ x3) {X4_ : Int32} {x4 : Int} (hx4 : rp X4_ x4) {M_ : Mem} {M : ZM} (gM : rm M_ M) {r : Int} {m' : ZM} (_ : zL80_85 n k x1 x3 x4 M = some (r, m')), sI (L80_85 n k X1_ X3_ X4_ M_) r m' := by
  intro k
  induction k with
  | zero => intro X1_ x1 hx1 X3_ x3 hx3 X4_ x4 hx4 M_ M gM r m' h; cases h
  | succ k ih =>
    intro X1_ x1 hx1 X3_ x3 hx3 X4_ x4 hx4 M_ M gM r m' h
    rw [zL80_85] at h
    rw [L80_85]
    by_cases q1 : (M.1 83 34) ≤ x4
    · rw [if_pos q1] at h
      rw [if_pos ((rp_le (rm_rd gM 83 34) hx4).mpr q1)]
      exact zJ80_132_r n hx1 hx3 gM h
    · rw [if_neg q1] at h
      rw [if_neg (fun z => q1 ((rp_le (rm_rd gM 83 34) hx4).mp z))]
      by_cases q2 : x4 < 0 ∨ 320 ≤ x4
      · rw [if_pos q2] at h
        rw [if_pos ((rp_ob hx4 320).mpr q2)]
        cases h
      · rw [if_neg q2] at h
        rw [if_neg (fun z => q2 ((rp_ob hx4 320).mp z))]
        by_cases w3 : rg (x4 + x3)
        · rw [if_pos w3] at h
          by_cases q4 : (x4 + x3) < 0 ∨ 320 ≤ (x4 + x3)
          · rw [if_pos q4] at h
            rw [if_pos ((rp_ob (rp_add (rp_iz hx4) (rp_iz hx3) w3) 320).mpr q4)]
            cases h
          · rw [if_neg q4] at h
            rw [if_neg (fun z => q4 ((rp_ob (rp_add (rp_iz hx4) (rp_iz hx3) w3) 320).mp z))]
            have gM14 : rm (m_i M_ 105 ((X4_ + X3_)).toNatClampNeg (M_.1 105 (X4_).toNatClampNeg)) (z_i M 105 (Int.toNat (x4 + x3)) (M.1 105 (Int.toNat x4))) := rm_ix gM 105 (rp_add (rp_iz hx4) (rp_iz hx3) w3) (rm_rdx gM 105 hx4)
            rw [mlet]
            rw [zlet] at h
            generalize z_i M 105 (Int.toNat (x4 + x3)) (M.1 105 (Int.toNat x4)) = M14 at h gM14
            generalize m_i M_ 105 ((X4_ + X3_)).toNatClampNeg (M_.1 105 (X4_).toNatClampNeg) = NM14 at gM14 ⊢
            exact zJ80_110_r n _ _ ih hx1 hx3 hx4 gM14 h
        · rw [if_neg w3] at h
          cases h
def zJ80_57 (n : Nat) (zrec35 : Int → Int → Int → Int → ZM → Option (Int × ZM)) (x1 : Int) (x2 : Int) (x3 : Int) (x4 : Int) (M : ZM) : Option (Int × ZM) :=
  if x4 < 0 ∨ 320 ≤ x4 then (none) else (if rg (x4 + x3) then (if (x4 + x3) < 0 ∨ 320 ≤ (x4 + x3) then (none) else (zlet (z_i M 106 (Int.toNat (x4 + x3)) (M.1 106 (Int.toNat x4))) (fun M24 => if rg (x4 + (-1)) then (zrec35 x1 x2 x3 (x4 + (-1)) M24) else none))) else none)
set_option maxRecDepth 100000 in
set_option maxHeartbeats 4000000 in
theorem zJ80_57_r (n : Nat) (rec35 : Int32 → Int32 → Int32 → Int32 → Mem → Option (Int32 × Mem)) (zrec35 : Int → Int → Int → Int → ZM → Option (Int × ZM)) (hrec35 : ∀ {Y1 : Int32} {y1 : Int} (_ : rp Y1 y1) {Y2 : Int32} {y2 : Int} (_ : rp Y2 y2) {Y3 : Int32} {y3 : Int} (_ : rp Y3 y3) {Y4 : Int32} {y4 : Int} (_ : rp Y4 y4) {M : Mem} {m : ZM} (_ : rm M m) {r : Int} {m' : ZM} (_ : zrec35 y1 y2 y3 y4 m = some (r, m')), sI (rec35 Y1 Y2 Y3 Y4 M) r m') {X1_ : Int32} {x1 : Int} (hx1 : rp X1_ x1) {X2_ : Int32} {x2 : Int} (hx2 : rp X2_ x2) {X3_ : Int32} {x3 : Int} (hx3 : rp X3_ x3) {X4_ : Int32} {x4 : Int} (hx4 : rp X4_ x4) {M_ : Mem} {M : ZM} (gM : rm M_ M) {r : Int} {m' : ZM} (h : zJ80_57 n zrec35 x1 x2 x3 x4 M = some (r, m')) : sI (J80_57 n rec35 X1_ X2_ X3_ X4_ M_) r m' := by
  unfold zJ80_57 at h
  unfold J80_57
  by_cases q1 : x4 < 0 ∨ 320 ≤ x4
  · rw [if_pos q1] at h
    rw [if_pos ((rp_ob hx4 320).mpr q1)]
    cases h
  · rw [if_neg q1] at h
    rw [if_neg (fun z => q1 ((rp_ob hx4 320).mp z))]
    by_cases w2 : rg (x4 + x3)
    · rw [if_pos w2] at h
      by_cases q3 : (x4 + x3) < 0 ∨ 320 ≤ (x4 + x3)
      · rw [if_pos q3] at h
        rw [if_pos ((rp_ob (rp_add (rp_iz hx4) (rp_iz hx3) w2) 320).mpr q3)]
        cases h
      · rw [if_neg q3] at h
        rw [if_neg (fun z => q3 ((rp_ob (rp_add (rp_iz hx4) (rp_iz hx3) w2) 320).mp z))]
        have gM24 : rm (m_i M_ 106 ((X4_ + X3_)).toNatClampNeg (M_.1 106 (X4_).toNatClampNeg)) (z_i M 106 (Int.toNat (x4 + x3)) (M.1 106 (Int.toNat x4))) := rm_ix gM 106 (rp_add (rp_iz hx4) (rp_iz hx3) w2) (rm_rdx gM 106 hx4)
        rw [mlet]
        rw [zlet] at h
        generalize z_i M 106 (Int.toNat (x4 + x3)) (M.1 106 (Int.toNat x4)) = M24 at h gM24
        generalize m_i M_ 106 ((X4_ + X3_)).toNatClampNeg (M_.1 106 (X4_).toNatClampNeg) = NM24 at gM24 ⊢
        by_cases w4 : rg (x4 + (-1))
        · rw [if_pos w4] at h
          exact hrec35 hx1 hx2 hx3 (rp_add (rp_iz hx4) (rp_iz (show rp (-1) (-1) from rfl)) w4) gM24 h
        · rw [if_neg w4] at h
          cases h
    · rw [if_neg w2] at h
      cases h
def zL80_35 (n : Nat) : Nat → Int → Int → Int → Int → ZM → Option (Int × ZM)
  | 0, _, _, _, _, _ => none
  | k + 1, x1, x2, x3, x4, M => if x4 < x2 then (zJ80_132 n x1 x3 M) else (if x4 < 0 ∨ 320 ≤ x4 then (none) else (if rg (x4 + x3) then (if (x4 + x3) < 0 ∨ 320 ≤ (x4 + x3) then (none) else (zlet (z_i M 105 (Int.toNat (x4 + x3)) (M.1 105 (Int.toNat x4))) (fun M21 => zJ80_57 n (zL80_35 n k) x1 x2 x3 x4 M21))) else none))
set_option maxRecDepth 100000 in
set_option maxHeartbeats 4000000 in
theorem zL80_35_r (n : Nat) : ∀ (k : Nat) {X1_ : Int32} {x1 : Int} (hx1 : rp X1_ x1) {X2_ : Int32} {x2 : Int} (hx2 : rp X2_ x2) {X3_ : Int32} {x3 : Int} (hx3 : rp X3_ x3) {X4_ : Int32} {x4 : Int} (hx4 : rp X4_ x4) {M_ : Mem} {M : ZM} (gM : rm M_ M) {r : Int} {m' : ZM} (_ : zL80_35 n k x1 x2 x3 x4 M = some (r, m')), sI (L80_35 n k X1_ X2_ X3_ X4_ M_) r m' := by
  intro k
  induction k with
  | zero => intro X1_ x1 hx1 X2_ x2 hx2 X3_ x3 hx3 X4_ x4 hx4 M_ M gM r m' h; cases h
  | succ k ih =>
    intro X1_ x1 hx1 X2_ x2 hx2 X3_ x3 hx3 X4_ x4 hx4 M_ M gM r m' h
    rw [zL80_35] at h
    rw [L80_35]
    by_cases q1 : x4 < x2
    · rw [if_pos q1] at h
      rw [if_pos ((rp_lt hx4 hx2).mpr q1)]
      exact zJ80_132_r n hx1 hx3 gM h
    · rw [if_neg q1] at h
      rw [if_neg (fun z => q1 ((rp_lt hx4 hx2).mp z))]
      by_cases q2 : x4 < 0 ∨ 320 ≤ x4
      · rw [if_pos q2] at h
        rw [if_pos ((rp_ob hx4 320).mpr q2)]
        cases h
      · rw [if_neg q2] at h
        rw [if_neg (fun z => q2 ((rp_ob hx4 320).mp z))]
        by_cases w3 : rg (x4 + x3)
        · rw [if_pos w3] at h
          by_cases q4 : (x4 + x3) < 0 ∨ 320 ≤ (x4 + x3)
          · rw [if_pos q4] at h
            rw [if_pos ((rp_ob (rp_add (rp_iz hx4) (rp_iz hx3) w3) 320).mpr q4)]
            cases h
          · rw [if_neg q4] at h
            rw [if_neg (fun z => q4 ((rp_ob (rp_add (rp_iz hx4) (rp_iz hx3) w3) 320).mp z))]
            have gM21 : rm (m_i M_ 105 ((X4_ + X3_)).toNatClampNeg (M_.1 105 (X4_).toNatClampNeg)) (z_i M 105 (Int.toNat (x4 + x3)) (M.1 105 (Int.toNat x4))) := rm_ix gM 105 (rp_add (rp_iz hx4) (rp_iz hx3) w3) (rm_rdx gM 105 hx4)
            rw [mlet]
            rw [zlet] at h
            generalize z_i M 105 (Int.toNat (x4 + x3)) (M.1 105 (Int.toNat x4)) = M21 at h gM21
            generalize m_i M_ 105 ((X4_ + X3_)).toNatClampNeg (M_.1 105 (X4_).toNatClampNeg) = NM21 at gM21 ⊢
            exact zJ80_57_r n _ _ ih hx1 hx2 hx3 hx4 gM21 h
        · rw [if_neg w3] at h
          cases h
/-- ArmExpanderModel.replace -/
def zF80 (n : Nat) (a0 : Int) (a1 : Int) (M : ZM) : Option (Int × ZM) :=
  if rg ((M.1 83 34) + ((M.1 83 62) - (a1 - a0))) then (if ((M.1 83 34) + ((M.1 83 62) - (a1 - a0))) ≤ 150 then (if rg ((M.1 83 62) - (a1 - a0)) then (if ((M.1 83 62) - (a1 - a0)) ≤ 0 then (zL80_85 n n a0 ((M.1 83 62) - (a1 - a0)) a1 M) else (if rg ((M.1 83 34) - 1) then (zL80_35 n n a0 a1 ((M.1 83 62) - (a1 - a0)) ((M.1 83 34) - 1) M) else none)) else none) else (some (0, M))) else none
set_option maxRecDepth 100000 in
set_option maxHeartbeats 4000000 in
theorem zF80_r (n : Nat) {A0_ : Int32} {a0 : Int} (ha0 : rp A0_ a0) {A1_ : Int32} {a1 : Int} (ha1 : rp A1_ a1) {M_ : Mem} {M : ZM} (gM : rm M_ M) {r : Int} {m' : ZM} (h : zF80 n a0 a1 M = some (r, m')) : sI (F80 n A0_ A1_ M_) r m' := by
  unfold zF80 at h
  unfold F80
  by_cases w1 : rg ((M.1 83 34) + ((M.1 83 62) - (a1 - a0)))
  · rw [if_pos w1] at h
    by_cases q2 : ((M.1 83 34) + ((M.1 83 62) - (a1 - a0))) ≤ 150
    · rw [if_pos q2] at h
      rw [if_pos ((rp_le (rp_add (rp_iz (rm_rd gM 83 34)) (rw_sub (rp_iz (rm_rd gM 83 62)) (rw_sub (rp_iz ha1) (rp_iz ha0))) w1) (show rp 150 150 from rfl)).mpr q2)]
      by_cases w3 : rg ((M.1 83 62) - (a1 - a0))
      · rw [if_pos w3] at h
        by_cases q4 : ((M.1 83 62) - (a1 - a0)) ≤ 0
        · rw [if_pos q4] at h
          rw [if_pos ((rp_le (rp_sub (rp_iz (rm_rd gM 83 62)) (rw_sub (rp_iz ha1) (rp_iz ha0)) w3) (show rp 0 0 from rfl)).mpr q4)]
          exact zL80_85_r n n ha0 (rp_sub (rp_iz (rm_rd gM 83 62)) (rw_sub (rp_iz ha1) (rp_iz ha0)) w3) ha1 gM h
        · rw [if_neg q4] at h
          rw [if_neg (fun z => q4 ((rp_le (rp_sub (rp_iz (rm_rd gM 83 62)) (rw_sub (rp_iz ha1) (rp_iz ha0)) w3) (show rp 0 0 from rfl)).mp z))]
          by_cases w5 : rg ((M.1 83 34) - 1)
          · rw [if_pos w5] at h
            exact zL80_35_r n n ha0 ha1 (rp_sub (rp_iz (rm_rd gM 83 62)) (rw_sub (rp_iz ha1) (rp_iz ha0)) w3) (rp_sub (rp_iz (rm_rd gM 83 34)) (rp_iz (show rp 1 1 from rfl)) w5) gM h
          · rw [if_neg w5] at h
            cases h
      · rw [if_neg w3] at h
        cases h
    · rw [if_neg q2] at h
      rw [if_neg (fun z => q2 ((rp_le (rp_add (rp_iz (rm_rd gM 83 34)) (rw_sub (rp_iz (rm_rd gM 83 62)) (rw_sub (rp_iz ha1) (rp_iz ha0))) w1) (show rp 150 150 from rfl)).mp z))]
      obtain ⟨rfl, rfl⟩ := Prod.mk.inj (Option.some.inj h)
      exact ⟨_, _, rfl, (show rp 0 0 from rfl), gM⟩
  · rw [if_neg w1] at h
    cases h
def zJ83_24 (n : Nat) (s0 : Int) (M : ZM) : Option (Int × ZM) :=
  some (s0, M)
set_option maxRecDepth 100000 in
set_option maxHeartbeats 4000000 in
theorem zJ83_24_r (n : Nat) {S0_ : Int32} {s0 : Int} (hs0 : rp S0_ s0) {M_ : Mem} {M : ZM} (gM : rm M_ M) {r : Int} {m' : ZM} (h : zJ83_24 n s0 M = some (r, m')) : sI (J83_24 n S0_ M_) r m' := by
  unfold zJ83_24 at h
  unfold J83_24
  obtain ⟨rfl, rfl⟩ := Prod.mk.inj (Option.some.inj h)
  exact ⟨_, _, rfl, hs0, gM⟩
/-- ArmExpanderModel.token -/
def zF83 (n : Nat) (a0 : Int) (M : ZM) : Option (Int × ZM) :=
  if rg ((M.1 83 37) - 1) then (match zF19 n a0 0 ((M.1 83 37) - 1) M with | some (v1, M2) => (if v1 = 0 then (zJ83_24 n (-1) M2) else (if a0 < 0 ∨ 320 ≤ a0 then (none) else (zJ83_24 n (M2.1 105 (Int.toNat a0)) M2))) | none => none) else none
set_option maxRecDepth 100000 in
set_option maxHeartbeats 4000000 in
theorem zF83_r (n : Nat) {A0_ : Int32} {a0 : Int} (ha0 : rp A0_ a0) {M_ : Mem} {M : ZM} (gM : rm M_ M) {r : Int} {m' : ZM} (h : zF83 n a0 M = some (r, m')) : sI (F83 n A0_ M_) r m' := by
  unfold zF83 at h
  unfold F83
  by_cases w1 : rg ((M.1 83 37) - 1)
  · rw [if_pos w1] at h
    cases hc2 : zF19 n a0 0 ((M.1 83 37) - 1) M with
    | none => rw [hc2] at h; cases h
    | some w =>
      obtain ⟨v1, M2⟩ := w
      rw [hc2] at h
      dsimp only at h
      obtain ⟨V1, NM2, ehc2, hv1, gM2⟩ := zF19_r n ha0 (show rp 0 0 from rfl) (rp_sub (rp_iz (rm_rd gM 83 37)) (rp_iz (show rp 1 1 from rfl)) w1) gM hc2
      rw [ehc2]
      dsimp only
      by_cases q3 : v1 = 0
      · rw [if_pos q3] at h
        rw [if_pos ((rp_eq hv1 (show rp 0 0 from rfl)).mpr q3)]
        exact zJ83_24_r n (show rp (-1) (-1) from rfl) gM2 h
      · rw [if_neg q3] at h
        rw [if_neg (fun z => q3 ((rp_eq hv1 (show rp 0 0 from rfl)).mp z))]
        by_cases q4 : a0 < 0 ∨ 320 ≤ a0
        · rw [if_pos q4] at h
          rw [if_pos ((rp_ob ha0 320).mpr q4)]
          cases h
        · rw [if_neg q4] at h
          rw [if_neg (fun z => q4 ((rp_ob ha0 320).mp z))]
          exact zJ83_24_r n (rm_rdx gM2 105 ha0) gM2 h
  · rw [if_neg w1] at h
    cases h
def zJ84_24 (n : Nat) (s0 : Int) (M : ZM) : Option (Int × ZM) :=
  some (s0, M)
set_option maxRecDepth 100000 in
set_option maxHeartbeats 4000000 in
theorem zJ84_24_r (n : Nat) {S0_ : Int32} {s0 : Int} (hs0 : rp S0_ s0) {M_ : Mem} {M : ZM} (gM : rm M_ M) {r : Int} {m' : ZM} (h : zJ84_24 n s0 M = some (r, m')) : sI (J84_24 n S0_ M_) r m' := by
  unfold zJ84_24 at h
  unfold J84_24
  obtain ⟨rfl, rfl⟩ := Prod.mk.inj (Option.some.inj h)
  exact ⟨_, _, rfl, hs0, gM⟩
