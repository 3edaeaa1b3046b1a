/-! Methods of Row, Takings, Nesting without a loop. Written by program. -/
/-- the cells of a view R -/
def vR (h : Nat → va_E) (b : Nat) (sz ov : Int32) (cs os : Nat → Int32) : Prop := b + 2 < 129 ∧ h b = .inr (7, [.ref (b + 1), .ref (b + 2), .int sz, .int ov]) ∧ h (b + 1) = .inl (0, 150, .inl cs) ∧ h (b + 2) = .inl (0, 150, .inl os)
/-- the cells of a view K -/
def vK (h : Nat → va_E) (b : Nat) (sz : Int32) (fr ou fo to rd : Nat → Int32) : Prop := b + 5 < 129 ∧ h b = .inr (8, [.ref (b + 1), .ref (b + 2), .ref (b + 3), .ref (b + 4), .ref (b + 5), .int sz]) ∧ h (b + 1) = .inl (0, 150, .inl fr) ∧ h (b + 2) = .inl (0, 150, .inl ou) ∧ h (b + 3) = .inl (0, 150, .inl fo) ∧ h (b + 4) = .inl (0, 150, .inl to) ∧ h (b + 5) = .inl (0, 4, .inl rd)
/-- the cells of a view N -/
def vN (h : Nat → va_E) (b : Nat) (dp : Int32) (pl cg : Nat → Int32) : Prop := b + 2 < 129 ∧ h b = .inr (6, [.ref (b + 1), .ref (b + 2), .int dp]) ∧ h (b + 1) = .inl (0, 10, .inl pl) ∧ h (b + 2) = .inl (0, 10, .inl cg)
set_option maxRecDepth 100000 in
set_option maxHeartbeats 4000000 in
theorem R_size (sc : Option (Nat × (Nat → Int32))) (d : Nat) {h : Nat → va_E} (b : Nat) (sz ov : Int32) (cs os : Nat → Int32) (hv : vR h b sz ov cs os) (w_sz : 0 ≤ sz.toInt ∧ sz.toInt ≤ 150) (w_ov : 0 ≤ ov.toInt ∧ ov.toInt ≤ 1) : pm_ev pmT sc d 166 false (0, [some (.ref b)], [], 129, 17845, h) (some (.int sz), 129, 17845, h) := by
  obtain ⟨hb, v0, v1, v2⟩ := hv
  refine pe_blk mm_166 1 (s' := (1, [some (.ref b)], [.ref b], _, _, _)) rfl ?_
  refine pe_get mm_166 rfl rfl v0 (by omega) rfl ?_
  exact pe_ret mm_166 rfl rfl
set_option maxRecDepth 100000 in
set_option maxHeartbeats 4000000 in
theorem R_codeAt (sc : Option (Nat × (Nat → Int32))) (d : Nat) {h : Nat → va_E} (b : Nat) (sz ov : Int32) (cs os : Nat → Int32) (hv : vR h b sz ov cs os) (w_sz : 0 ≤ sz.toInt ∧ sz.toInt ≤ 150) (w_ov : 0 ≤ ov.toInt ∧ ov.toInt ≤ 1) (k : Int32) (h_k : -1000 ≤ k.toInt ∧ k.toInt ≤ 1000) : pm_ev pmT sc d 170 false (0, [some (.ref b), some (.int k)], [], 129, 17845, h) (some (.int (if k < 0 then (-1) else if sz ≤ k then (-1) else cs (k : Int32).toNatClampNeg)), 129, 17845, h) := by
  obtain ⟨hb, v0, v1, v2⟩ := hv
  refine pe_blk mm_170 1 (s' := (1, [some (.ref b), some (.int k)], [.int k], _, _, _)) rfl ?_
  by_cases q1 : k < 0
  · rw [if_pos q1]
    refine pe_blk mm_170 1 (s' := (if k < 0 then 21 else 4, [some (.ref b), some (.int k)], [], _, _, _)) rfl ?_
    rw [if_pos q1]
    refine pe_blk mm_170 1 (s' := (22, [some (.ref b), some (.int k)], [.int (-1)], _, _, _)) rfl ?_
    exact pe_ret mm_170 rfl rfl
  · rw [if_neg q1]
    refine pe_blk mm_170 1 (s' := (if k < 0 then 21 else 4, [some (.ref b), some (.int k)], [], _, _, _)) rfl ?_
    rw [if_neg q1]
    refine pe_blk mm_170 2 (s' := (6, [some (.ref b), some (.int k)], [.ref b, .int k], _, _, _)) rfl ?_
    refine pe_get mm_170 rfl rfl v0 (by omega) rfl ?_
    by_cases q2 : sz ≤ k
    · rw [if_pos q2]
      refine pe_blk mm_170 1 (s' := (if sz ≤ k then 21 else 12, [some (.ref b), some (.int k)], [], _, _, _)) rfl ?_
      rw [if_pos q2]
      refine pe_blk mm_170 1 (s' := (22, [some (.ref b), some (.int k)], [.int (-1)], _, _, _)) rfl ?_
      exact pe_ret mm_170 rfl rfl
    · rw [if_neg q2]
      refine pe_blk mm_170 1 (s' := (if sz ≤ k then 21 else 12, [some (.ref b), some (.int k)], [], _, _, _)) rfl ?_
      rw [if_neg q2]
      refine pe_blk mm_170 1 (s' := (13, [some (.ref b), some (.int k)], [.ref b], _, _, _)) rfl ?_
      refine pe_get mm_170 rfl rfl v0 (by omega) rfl ?_
      refine pe_blk mm_170 1 (s' := (17, [some (.ref b), some (.int k)], [.int k, .ref (b + 1)], _, _, _)) rfl ?_
      have k0 : (0 : Int32).toInt = 0 := rfl
      have t_q1 : ¬ (k : Int32).toInt < (0 : Int32).toInt := fun z => q1 (Int32.lt_iff_toInt_lt.mpr z)
      have t_q2 : ¬ (sz : Int32).toInt ≤ (k : Int32).toInt := fun z => q2 (Int32.le_iff_toInt_le.mpr z)
      refine pe_iald mm_170 rfl v1 (by omega) (ixp (by omega) (by omega)) ?_
      refine pe_blk mm_170 1 (s' := (22, [some (.ref b), some (.int k)], [.int (cs (k : Int32).toNatClampNeg)], _, _, _)) rfl ?_
      exact pe_ret mm_170 rfl rfl
set_option maxRecDepth 100000 in
set_option maxHeartbeats 4000000 in
theorem R_originAt (sc : Option (Nat × (Nat → Int32))) (d : Nat) {h : Nat → va_E} (b : Nat) (sz ov : Int32) (cs os : Nat → Int32) (hv : vR h b sz ov cs os) (w_sz : 0 ≤ sz.toInt ∧ sz.toInt ≤ 150) (w_ov : 0 ≤ ov.toInt ∧ ov.toInt ≤ 1) (k : Int32) (h_k : -1000 ≤ k.toInt ∧ k.toInt ≤ 1000) : pm_ev pmT sc d 171 false (0, [some (.ref b), some (.int k)], [], 129, 17845, h) (some (.int (if k < 0 then (-1) else if sz ≤ k then (-1) else os (k : Int32).toNatClampNeg)), 129, 17845, h) := by
  obtain ⟨hb, v0, v1, v2⟩ := hv
  refine pe_blk mm_171 1 (s' := (1, [some (.ref b), some (.int k)], [.int k], _, _, _)) rfl ?_
  by_cases q1 : k < 0
  · rw [if_pos q1]
    refine pe_blk mm_171 1 (s' := (if k < 0 then 21 else 4, [some (.ref b), some (.int k)], [], _, _, _)) rfl ?_
    rw [if_pos q1]
    refine pe_blk mm_171 1 (s' := (22, [some (.ref b), some (.int k)], [.int (-1)], _, _, _)) rfl ?_
    exact pe_ret mm_171 rfl rfl
  · rw [if_neg q1]
    refine pe_blk mm_171 1 (s' := (if k < 0 then 21 else 4, [some (.ref b), some (.int k)], [], _, _, _)) rfl ?_
    rw [if_neg q1]
    refine pe_blk mm_171 2 (s' := (6, [some (.ref b), some (.int k)], [.ref b, .int k], _, _, _)) rfl ?_
    refine pe_get mm_171 rfl rfl v0 (by omega) rfl ?_
    by_cases q2 : sz ≤ k
    · rw [if_pos q2]
      refine pe_blk mm_171 1 (s' := (if sz ≤ k then 21 else 12, [some (.ref b), some (.int k)], [], _, _, _)) rfl ?_
      rw [if_pos q2]
      refine pe_blk mm_171 1 (s' := (22, [some (.ref b), some (.int k)], [.int (-1)], _, _, _)) rfl ?_
      exact pe_ret mm_171 rfl rfl
    · rw [if_neg q2]
      refine pe_blk mm_171 1 (s' := (if sz ≤ k then 21 else 12, [some (.ref b), some (.int k)], [], _, _, _)) rfl ?_
      rw [if_neg q2]
      refine pe_blk mm_171 1 (s' := (13, [some (.ref b), some (.int k)], [.ref b], _, _, _)) rfl ?_
      refine pe_get mm_171 rfl rfl v0 (by omega) rfl ?_
      refine pe_blk mm_171 1 (s' := (17, [some (.ref b), some (.int k)], [.int k, .ref (b + 2)], _, _, _)) rfl ?_
      have k0 : (0 : Int32).toInt = 0 := rfl
      have t_q1 : ¬ (k : Int32).toInt < (0 : Int32).toInt := fun z => q1 (Int32.lt_iff_toInt_lt.mpr z)
      have t_q2 : ¬ (sz : Int32).toInt ≤ (k : Int32).toInt := fun z => q2 (Int32.le_iff_toInt_le.mpr z)
      refine pe_iald mm_171 rfl v2 (by omega) (ixp (by omega) (by omega)) ?_
      refine pe_blk mm_171 1 (s' := (22, [some (.ref b), some (.int k)], [.int (os (k : Int32).toNatClampNeg)], _, _, _)) rfl ?_
      exact pe_ret mm_171 rfl rfl
set_option maxRecDepth 100000 in
set_option maxHeartbeats 4000000 in
theorem R_clear (sc : Option (Nat × (Nat → Int32))) (d : Nat) {h : Nat → va_E} (b : Nat) (sz ov : Int32) (cs os : Nat → Int32) (hv : vR h b sz ov cs os) (w_sz : 0 ≤ sz.toInt ∧ sz.toInt ≤ 150) (w_ov : 0 ≤ ov.toInt ∧ ov.toInt ≤ 1) : pm_ev pmT sc d 165 false (0, [some (.ref b)], [], 129, 17845, h) (none, 129, 17845, va_up (va_up h b (.inr (7, [.ref (b + 1), .ref (b + 2), .int 0, .int ov]))) b (.inr (7, [.ref (b + 1), .ref (b + 2), .int 0, .int 0]))) := by
  obtain ⟨hb, v0, v1, v2⟩ := hv
  refine pe_blk mm_165 2 (s' := (2, [some (.ref b)], [.int 0, .ref b], _, _, _)) rfl ?_
  refine pe_put mm_165 rfl rfl v0 (by omega) (Nat.le_of_ble_eq_true rfl) rfl ?_
  show pm_ev _ _ _ _ _ (5, [some (.ref b)], [], _, _, va_up _ b (.inr (7, [.ref (b + 1), .ref (b + 2), .int 0, .int ov]))) _
  refine pe_blk mm_165 2 (s' := (7, [some (.ref b)], [.int 0, .ref b], _, _, _)) rfl ?_
  refine pe_put mm_165 rfl rfl (va_up_self _ _ _) (by omega) (Nat.le_of_ble_eq_true rfl) rfl ?_
  show pm_ev _ _ _ _ _ (10, [some (.ref b)], [], _, _, va_up _ b (.inr (7, [.ref (b + 1), .ref (b + 2), .int 0, .int 0]))) _
  exact pe_ret mm_165 rfl rfl
set_option maxRecDepth 100000 in
set_option maxHeartbeats 4000000 in
theorem R_add_0 (sc : Option (Nat × (Nat → Int32))) (d : Nat) {h : Nat → va_E} (b : Nat) (sz ov : Int32) (cs os : Nat → Int32) (hv : vR h b sz ov cs os) (w_sz : 0 ≤ sz.toInt ∧ sz.toInt ≤ 150) (w_ov : 0 ≤ ov.toInt ∧ ov.toInt ≤ 1) (c : Int32) (g : Int32) (h_c : -1000 ≤ c.toInt ∧ c.toInt ≤ 1000) (h_g : -1000 ≤ g.toInt ∧ g.toInt ≤ 1000) (p0 : sz < 150) : pm_ev pmT sc d 168 false (0, [some (.ref b), some (.int c), some (.int g)], [], 129, 17845, h) (none, 129, 17845, va_up (va_up (va_up h (b + 1) (.inl (0, 150, .inl (upd cs (sz : Int32).toNatClampNeg c)))) (b + 2) (.inl (0, 150, .inl (upd os (sz : Int32).toNatClampNeg g)))) b (.inr (7, [.ref (b + 1), .ref (b + 2), .int (sz + 1), .int ov]))) := by
  obtain ⟨hb, v0, v1, v2⟩ := hv
  refine pe_blk mm_168 1 (s' := (1, [some (.ref b), some (.int c), some (.int g)], [.ref b], _, _, _)) rfl ?_
  refine pe_get mm_168 rfl rfl v0 (by omega) rfl ?_
  refine pe_blk mm_168 1 (s' := (7, [some (.ref b), some (.int c), some (.int g)], [.int 150, .int sz], _, _, _)) rfl ?_
  refine pe_blk mm_168 1 (s' := (if sz < 150 then 16 else 10, [some (.ref b), some (.int c), some (.int g)], [], _, _, _)) rfl ?_
  rw [if_pos p0]
  refine pe_blk mm_168 1 (s' := (17, [some (.ref b), some (.int c), some (.int g)], [.ref b], _, _, _)) rfl ?_
  refine pe_get mm_168 rfl rfl v0 (by omega) rfl ?_
  refine pe_blk mm_168 1 (s' := (21, [some (.ref b), some (.int c), some (.int g)], [.ref b, .ref (b + 1)], _, _, _)) rfl ?_
  refine pe_get mm_168 rfl rfl v0 (by omega) rfl ?_
  refine pe_blk mm_168 1 (s' := (25, [some (.ref b), some (.int c), some (.int g)], [.int c, .int sz, .ref (b + 1)], _, _, _)) rfl ?_
  have k150 : (150 : Int32).toInt = 150 := rfl
  have t_p0 := Int32.lt_iff_toInt_lt.mp p0
  refine pe_iast mm_168 rfl v1 (by omega) (ixp (by omega) (by omega)) ?_
  refine pe_blk mm_168 1 (s' := (27, [some (.ref b), some (.int c), some (.int g)], [.ref b], _, _, _)) rfl ?_
  refine pe_get mm_168 rfl rfl ((va_up_ne _ _ (by omega)).trans v0) (by omega) rfl ?_
  refine pe_blk mm_168 1 (s' := (31, [some (.ref b), some (.int c), some (.int g)], [.ref b, .ref (b + 2)], _, _, _)) rfl ?_
  refine pe_get mm_168 rfl rfl ((va_up_ne _ _ (by omega)).trans v0) (by omega) rfl ?_
  refine pe_blk mm_168 1 (s' := (35, [some (.ref b), some (.int c), some (.int g)], [.int g, .int sz, .ref (b + 2)], _, _, _)) rfl ?_
  have k150 : (150 : Int32).toInt = 150 := rfl
  have t_p0 := Int32.lt_iff_toInt_lt.mp p0
  refine pe_iast mm_168 rfl ((va_up_ne _ _ (by omega)).trans v2) (by omega) (ixp (by omega) (by omega)) ?_
  refine pe_blk mm_168 2 (s' := (38, [some (.ref b), some (.int c), some (.int g)], [.ref b, .ref b], _, _, _)) rfl ?_
  refine pe_get mm_168 rfl rfl ((va_up_ne _ _ (by omega)).trans ((va_up_ne _ _ (by omega)).trans v0)) (by omega) rfl ?_
  refine pe_blk mm_168 2 (s' := (43, [some (.ref b), some (.int c), some (.int g)], [.int (sz + 1), .ref b], _, _, _)) rfl ?_
  refine pe_put mm_168 rfl rfl ((va_up_ne _ _ (by omega)).trans ((va_up_ne _ _ (by omega)).trans v0)) (by omega) (Nat.le_of_ble_eq_true rfl) rfl ?_
  show pm_ev _ _ _ _ _ (46, [some (.ref b), some (.int c), some (.int g)], [], _, _, va_up _ b (.inr (7, [.ref (b + 1), .ref (b + 2), .int (sz + 1), .int ov]))) _
  exact pe_ret mm_168 rfl rfl
set_option maxRecDepth 100000 in
set_option maxHeartbeats 4000000 in
theorem R_add_1 (sc : Option (Nat × (Nat → Int32))) (d : Nat) {h : Nat → va_E} (b : Nat) (sz ov : Int32) (cs os : Nat → Int32) (hv : vR h b sz ov cs os) (w_sz : 0 ≤ sz.toInt ∧ sz.toInt ≤ 150) (w_ov : 0 ≤ ov.toInt ∧ ov.toInt ≤ 1) (c : Int32) (g : Int32) (h_c : -1000 ≤ c.toInt ∧ c.toInt ≤ 1000) (h_g : -1000 ≤ g.toInt ∧ g.toInt ≤ 1000) (p0 : ¬ (sz < 150)) : pm_ev pmT sc d 168 false (0, [some (.ref b), some (.int c), some (.int g)], [], 129, 17845, h) (none, 129, 17845, va_up h b (.inr (7, [.ref (b + 1), .ref (b + 2), .int sz, .int 1]))) := by
  obtain ⟨hb, v0, v1, v2⟩ := hv
  refine pe_blk mm_168 1 (s' := (1, [some (.ref b), some (.int c), some (.int g)], [.ref b], _, _, _)) rfl ?_
  refine pe_get mm_168 rfl rfl v0 (by omega) rfl ?_
  refine pe_blk mm_168 1 (s' := (7, [some (.ref b), some (.int c), some (.int g)], [.int 150, .int sz], _, _, _)) rfl ?_
  refine pe_blk mm_168 1 (s' := (if sz < 150 then 16 else 10, [some (.ref b), some (.int c), some (.int g)], [], _, _, _)) rfl ?_
  rw [if_neg p0]
  refine pe_blk mm_168 2 (s' := (12, [some (.ref b), some (.int c), some (.int g)], [.int 1, .ref b], _, _, _)) rfl ?_
  refine pe_put mm_168 rfl rfl v0 (by omega) (Nat.le_of_ble_eq_true rfl) rfl ?_
  show pm_ev _ _ _ _ _ (15, [some (.ref b), some (.int c), some (.int g)], [], _, _, va_up _ b (.inr (7, [.ref (b + 1), .ref (b + 2), .int sz, .int 1]))) _
  exact pe_ret mm_168 rfl rfl
set_option maxRecDepth 100000 in
set_option maxHeartbeats 4000000 in
theorem K_roundsOf (sc : Option (Nat × (Nat → Int32))) (d : Nat) {h : Nat → va_E} (b : Nat) (sz : Int32) (fr ou fo to rd : Nat → Int32) (hv : vK h b sz fr ou fo to rd) (w_sz : 0 ≤ sz.toInt ∧ sz.toInt ≤ 150) (k : Int32) (h_k : -1000 ≤ k.toInt ∧ k.toInt ≤ 1000) : pm_ev pmT sc d 181 false (0, [some (.ref b), some (.int k)], [], 129, 17845, h) (some (.int (if k < 0 then 0 else if 4 ≤ k then 0 else rd (k : Int32).toNatClampNeg)), 129, 17845, h) := by
  obtain ⟨hb, v0, v1, v2, v3, v4, v5⟩ := hv
  refine pe_blk mm_181 1 (s' := (1, [some (.ref b), some (.int k)], [.int k], _, _, _)) rfl ?_
  by_cases q1 : k < 0
  · rw [if_pos q1]
    refine pe_blk mm_181 1 (s' := (if k < 0 then 18 else 4, [some (.ref b), some (.int k)], [], _, _, _)) rfl ?_
    rw [if_pos q1]
    refine pe_blk mm_181 1 (s' := (19, [some (.ref b), some (.int k)], [.int 0], _, _, _)) rfl ?_
    exact pe_ret mm_181 rfl rfl
  · rw [if_neg q1]
    refine pe_blk mm_181 1 (s' := (if k < 0 then 18 else 4, [some (.ref b), some (.int k)], [], _, _, _)) rfl ?_
    rw [if_neg q1]
    refine pe_blk mm_181 2 (s' := (6, [some (.ref b), some (.int k)], [.int 4, .int k], _, _, _)) rfl ?_
    by_cases q2 : 4 ≤ k
    · rw [if_pos q2]
      refine pe_blk mm_181 1 (s' := (if 4 ≤ k then 18 else 9, [some (.ref b), some (.int k)], [], _, _, _)) rfl ?_
      rw [if_pos q2]
      refine pe_blk mm_181 1 (s' := (19, [some (.ref b), some (.int k)], [.int 0], _, _, _)) rfl ?_
      exact pe_ret mm_181 rfl rfl
    · rw [if_neg q2]
      refine pe_blk mm_181 1 (s' := (if 4 ≤ k then 18 else 9, [some (.ref b), some (.int k)], [], _, _, _)) rfl ?_
      rw [if_neg q2]
      refine pe_blk mm_181 1 (s' := (10, [some (.ref b), some (.int k)], [.ref b], _, _, _)) rfl ?_
      refine pe_get mm_181 rfl rfl v0 (by omega) rfl ?_
      refine pe_blk mm_181 1 (s' := (14, [some (.ref b), some (.int k)], [.int k, .ref (b + 5)], _, _, _)) rfl ?_
      have k0 : (0 : Int32).toInt = 0 := rfl
      have k4 : (4 : Int32).toInt = 4 := rfl
      have t_q1 : ¬ (k : Int32).toInt < (0 : Int32).toInt := fun z => q1 (Int32.lt_iff_toInt_lt.mpr z)
      have t_q2 : ¬ (4 : Int32).toInt ≤ (k : Int32).toInt := fun z => q2 (Int32.le_iff_toInt_le.mpr z)
      refine pe_iald mm_181 rfl v5 (by omega) (ixp (by omega) (by omega)) ?_
      refine pe_blk mm_181 1 (s' := (19, [some (.ref b), some (.int k)], [.int (rd (k : Int32).toNatClampNeg)], _, _, _)) rfl ?_
      exact pe_ret mm_181 rfl rfl
set_option maxRecDepth 100000 in
set_option maxHeartbeats 4000000 in
theorem K_fromOf (sc : Option (Nat × (Nat → Int32))) (d : Nat) {h : Nat → va_E} (b : Nat) (sz : Int32) (fr ou fo to rd : Nat → Int32) (hv : vK h b sz fr ou fo to rd) (w_sz : 0 ≤ sz.toInt ∧ sz.toInt ≤ 150) (k : Int32) (h_k : -1000 ≤ k.toInt ∧ k.toInt ≤ 1000) : pm_ev pmT sc d 184 false (0, [some (.ref b), some (.int k)], [], 129, 17845, h) (some (.int (if k < 0 then 0 else if sz ≤ k then 0 else fo (k : Int32).toNatClampNeg)), 129, 17845, h) := by
  obtain ⟨hb, v0, v1, v2, v3, v4, v5⟩ := hv
  refine pe_blk mm_184 1 (s' := (1, [some (.ref b), some (.int k)], [.int k], _, _, _)) rfl ?_
  by_cases q1 : k < 0
  · rw [if_pos q1]
    refine pe_blk mm_184 1 (s' := (if k < 0 then 21 else 4, [some (.ref b), some (.int k)], [], _, _, _)) rfl ?_
    rw [if_pos q1]
    refine pe_blk mm_184 1 (s' := (22, [some (.ref b), some (.int k)], [.int 0], _, _, _)) rfl ?_
    exact pe_ret mm_184 rfl rfl
  · rw [if_neg q1]
    refine pe_blk mm_184 1 (s' := (if k < 0 then 21 else 4, [some (.ref b), some (.int k)], [], _, _, _)) rfl ?_
    rw [if_neg q1]
    refine pe_blk mm_184 2 (s' := (6, [some (.ref b), some (.int k)], [.ref b, .int k], _, _, _)) rfl ?_
    refine pe_get mm_184 rfl rfl v0 (by omega) rfl ?_
    by_cases q2 : sz ≤ k
    · rw [if_pos q2]
      refine pe_blk mm_184 1 (s' := (if sz ≤ k then 21 else 12, [some (.ref b), some (.int k)], [], _, _, _)) rfl ?_
      rw [if_pos q2]
      refine pe_blk mm_184 1 (s' := (22, [some (.ref b), some (.int k)], [.int 0], _, _, _)) rfl ?_
      exact pe_ret mm_184 rfl rfl
    · rw [if_neg q2]
      refine pe_blk mm_184 1 (s' := (if sz ≤ k then 21 else 12, [some (.ref b), some (.int k)], [], _, _, _)) rfl ?_
      rw [if_neg q2]
      refine pe_blk mm_184 1 (s' := (13, [some (.ref b), some (.int k)], [.ref b], _, _, _)) rfl ?_
      refine pe_get mm_184 rfl rfl v0 (by omega) rfl ?_
      refine pe_blk mm_184 1 (s' := (17, [some (.ref b), some (.int k)], [.int k, .ref (b + 3)], _, _, _)) rfl ?_
      have k0 : (0 : Int32).toInt = 0 := rfl
      have t_q1 : ¬ (k : Int32).toInt < (0 : Int32).toInt := fun z => q1 (Int32.lt_iff_toInt_lt.mpr z)
      have t_q2 : ¬ (sz : Int32).toInt ≤ (k : Int32).toInt := fun z => q2 (Int32.le_iff_toInt_le.mpr z)
      refine pe_iald mm_184 rfl v3 (by omega) (ixp (by omega) (by omega)) ?_
      refine pe_blk mm_184 1 (s' := (22, [some (.ref b), some (.int k)], [.int (fo (k : Int32).toNatClampNeg)], _, _, _)) rfl ?_
      exact pe_ret mm_184 rfl rfl
set_option maxRecDepth 100000 in
set_option maxHeartbeats 4000000 in
theorem K_toOf (sc : Option (Nat × (Nat → Int32))) (d : Nat) {h : Nat → va_E} (b : Nat) (sz : Int32) (fr ou fo to rd : Nat → Int32) (hv : vK h b sz fr ou fo to rd) (w_sz : 0 ≤ sz.toInt ∧ sz.toInt ≤ 150) (k : Int32) (h_k : -1000 ≤ k.toInt ∧ k.toInt ≤ 1000) : pm_ev pmT sc d 185 false (0, [some (.ref b), some (.int k)], [], 129, 17845, h) (some (.int (if k < 0 then 0 else if sz ≤ k then 0 else to (k : Int32).toNatClampNeg)), 129, 17845, h) := by
  obtain ⟨hb, v0, v1, v2, v3, v4, v5⟩ := hv
  refine pe_blk mm_185 1 (s' := (1, [some (.ref b), some (.int k)], [.int k], _, _, _)) rfl ?_
  by_cases q1 : k < 0
  · rw [if_pos q1]
    refine pe_blk mm_185 1 (s' := (if k < 0 then 21 else 4, [some (.ref b), some (.int k)], [], _, _, _)) rfl ?_
    rw [if_pos q1]
    refine pe_blk mm_185 1 (s' := (22, [some (.ref b), some (.int k)], [.int 0], _, _, _)) rfl ?_
    exact pe_ret mm_185 rfl rfl
  · rw [if_neg q1]
    refine pe_blk mm_185 1 (s' := (if k < 0 then 21 else 4, [some (.ref b), some (.int k)], [], _, _, _)) rfl ?_
    rw [if_neg q1]
    refine pe_blk mm_185 2 (s' := (6, [some (.ref b), some (.int k)], [.ref b, .int k], _, _, _)) rfl ?_
    refine pe_get mm_185 rfl rfl v0 (by omega) rfl ?_
    by_cases q2 : sz ≤ k
    · rw [if_pos q2]
      refine pe_blk mm_185 1 (s' := (if sz ≤ k then 21 else 12, [some (.ref b), some (.int k)], [], _, _, _)) rfl ?_
      rw [if_pos q2]
      refine pe_blk mm_185 1 (s' := (22, [some (.ref b), some (.int k)], [.int 0], _, _, _)) rfl ?_
      exact pe_ret mm_185 rfl rfl
    · rw [if_neg q2]
      refine pe_blk mm_185 1 (s' := (if sz ≤ k then 21 else 12, [some (.ref b), some (.int k)], [], _, _, _)) rfl ?_
      rw [if_neg q2]
      refine pe_blk mm_185 1 (s' := (13, [some (.ref b), some (.int k)], [.ref b], _, _, _)) rfl ?_
      refine pe_get mm_185 rfl rfl v0 (by omega) rfl ?_
      refine pe_blk mm_185 1 (s' := (17, [some (.ref b), some (.int k)], [.int k, .ref (b + 4)], _, _, _)) rfl ?_
      have k0 : (0 : Int32).toInt = 0 := rfl
      have t_q1 : ¬ (k : Int32).toInt < (0 : Int32).toInt := fun z => q1 (Int32.lt_iff_toInt_lt.mpr z)
      have t_q2 : ¬ (sz : Int32).toInt ≤ (k : Int32).toInt := fun z => q2 (Int32.le_iff_toInt_le.mpr z)
      refine pe_iald mm_185 rfl v4 (by omega) (ixp (by omega) (by omega)) ?_
      refine pe_blk mm_185 1 (s' := (22, [some (.ref b), some (.int k)], [.int (to (k : Int32).toNatClampNeg)], _, _, _)) rfl ?_
      exact pe_ret mm_185 rfl rfl
set_option maxRecDepth 100000 in
set_option maxHeartbeats 4000000 in
theorem K_clear (sc : Option (Nat × (Nat → Int32))) (d : Nat) {h : Nat → va_E} (b : Nat) (sz : Int32) (fr ou fo to rd : Nat → Int32) (hv : vK h b sz fr ou fo to rd) (w_sz : 0 ≤ sz.toInt ∧ sz.toInt ≤ 150) : pm_ev pmT sc d 178 false (0, [some (.ref b)], [], 129, 17845, h) (none, 129, 17845, va_up h b (.inr (8, [.ref (b + 1), .ref (b + 2), .ref (b + 3), .ref (b + 4), .ref (b + 5), .int 0]))) := by
  obtain ⟨hb, v0, v1, v2, v3, v4, v5⟩ := hv
  refine pe_blk mm_178 2 (s' := (2, [some (.ref b)], [.int 0, .ref b], _, _, _)) rfl ?_
  refine pe_put mm_178 rfl rfl v0 (by omega) (Nat.le_of_ble_eq_true rfl) rfl ?_
  show pm_ev _ _ _ _ _ (5, [some (.ref b)], [], _, _, va_up _ b (.inr (8, [.ref (b + 1), .ref (b + 2), .ref (b + 3), .ref (b + 4), .ref (b + 5), .int 0]))) _
  exact pe_ret mm_178 rfl rfl
set_option maxRecDepth 100000 in
set_option maxHeartbeats 4000000 in
theorem K_add_0 (sc : Option (Nat × (Nat → Int32))) (d : Nat) {h : Nat → va_E} (b : Nat) (sz : Int32) (fr ou fo to rd : Nat → Int32) (hv : vK h b sz fr ou fo to rd) (w_sz : 0 ≤ sz.toInt ∧ sz.toInt ≤ 150) (f : Int32) (r : Int32) (x : Int32) (y : Int32) (h_f : -1000 ≤ f.toInt ∧ f.toInt ≤ 1000) (h_r : -1000 ≤ r.toInt ∧ r.toInt ≤ 1000) (h_x : -1000 ≤ x.toInt ∧ x.toInt ≤ 1000) (h_y : -1000 ≤ y.toInt ∧ y.toInt ≤ 1000) (p0 : 150 ≤ sz) : pm_ev pmT sc d 179 false (0, [some (.ref b), some (.int f), some (.int r), some (.int x), some (.int y)], [], 129, 17845, h) (none, 129, 17845, h) := by
  obtain ⟨hb, v0, v1, v2, v3, v4, v5⟩ := hv
  refine pe_blk mm_179 1 (s' := (1, [some (.ref b), some (.int f), some (.int r), some (.int x), some (.int y)], [.ref b], _, _, _)) rfl ?_
  refine pe_get mm_179 rfl rfl v0 (by omega) rfl ?_
  refine pe_blk mm_179 1 (s' := (7, [some (.ref b), some (.int f), some (.int r), some (.int x), some (.int y)], [.int 150, .int sz], _, _, _)) rfl ?_
  refine pe_blk mm_179 1 (s' := (if 150 ≤ sz then 61 else 10, [some (.ref b), some (.int f), some (.int r), some (.int x), some (.int y)], [], _, _, _)) rfl ?_
  rw [if_pos p0]
  exact pe_ret mm_179 rfl rfl
set_option maxRecDepth 100000 in
set_option maxHeartbeats 4000000 in
theorem K_add_1 (sc : Option (Nat × (Nat → Int32))) (d : Nat) {h : Nat → va_E} (b : Nat) (sz : Int32) (fr ou fo to rd : Nat → Int32) (hv : vK h b sz fr ou fo to rd) (w_sz : 0 ≤ sz.toInt ∧ sz.toInt ≤ 150) (f : Int32) (r : Int32) (x : Int32) (y : Int32) (h_f : -1000 ≤ f.toInt ∧ f.toInt ≤ 1000) (h_r : -1000 ≤ r.toInt ∧ r.toInt ≤ 1000) (h_x : -1000 ≤ x.toInt ∧ x.toInt ≤ 1000) (h_y : -1000 ≤ y.toInt ∧ y.toInt ≤ 1000) (p0 : ¬ (150 ≤ sz)) : pm_ev pmT sc d 179 false (0, [some (.ref b), some (.int f), some (.int r), some (.int x), some (.int y)], [], 129, 17845, h) (none, 129, 17845, va_up (va_up (va_up (va_up (va_up h (b + 1) (.inl (0, 150, .inl (upd fr (sz : Int32).toNatClampNeg f)))) (b + 2) (.inl (0, 150, .inl (upd ou (sz : Int32).toNatClampNeg r)))) (b + 3) (.inl (0, 150, .inl (upd fo (sz : Int32).toNatClampNeg x)))) (b + 4) (.inl (0, 150, .inl (upd to (sz : Int32).toNatClampNeg y)))) b (.inr (8, [.ref (b + 1), .ref (b + 2), .ref (b + 3), .ref (b + 4), .ref (b + 5), .int (sz + 1)]))) := by
  obtain ⟨hb, v0, v1, v2, v3, v4, v5⟩ := hv
  refine pe_blk mm_179 1 (s' := (1, [some (.ref b), some (.int f), some (.int r), some (.int x), some (.int y)], [.ref b], _, _, _)) rfl ?_
  refine pe_get mm_179 rfl rfl v0 (by omega) rfl ?_
  refine pe_blk mm_179 1 (s' := (7, [some (.ref b), some (.int f), some (.int r), some (.int x), some (.int y)], [.int 150, .int sz], _, _, _)) rfl ?_
  refine pe_blk mm_179 1 (s' := (if 150 ≤ sz then 61 else 10, [some (.ref b), some (.int f), some (.int r), some (.int x), some (.int y)], [], _, _, _)) rfl ?_
  rw [if_neg p0]
  refine pe_blk mm_179 1 (s' := (11, [some (.ref b), some (.int f), some (.int r), some (.int x), some (.int y)], [.ref b], _, _, _)) rfl ?_
  refine pe_get mm_179 rfl rfl v0 (by omega) rfl ?_
  refine pe_blk mm_179 1 (s' := (15, [some (.ref b), some (.int f), some (.int r), some (.int x), some (.int y)], [.ref b, .ref (b + 1)], _, _, _)) rfl ?_
  refine pe_get mm_179 rfl rfl v0 (by omega) rfl ?_
  refine pe_blk mm_179 1 (s' := (19, [some (.ref b), some (.int f), some (.int r), some (.int x), some (.int y)], [.int f, .int sz, .ref (b + 1)], _, _, _)) rfl ?_
  have k150 : (150 : Int32).toInt = 150 := rfl
  have t_p0 : ¬ (150 : Int32).toInt ≤ (sz : Int32).toInt := fun z => p0 (Int32.le_iff_toInt_le.mpr z)
  refine pe_iast mm_179 rfl v1 (by omega) (ixp (by omega) (by omega)) ?_
  refine pe_blk mm_179 1 (s' := (21, [some (.ref b), some (.int f), some (.int r), some (.int x), some (.int y)], [.ref b], _, _, _)) rfl ?_
  refine pe_get mm_179 rfl rfl ((va_up_ne _ _ (by omega)).trans v0) (by omega) rfl ?_
  refine pe_blk mm_179 1 (s' := (25, [some (.ref b), some (.int f), some (.int r), some (.int x), some (.int y)], [.ref b, .ref (b + 2)], _, _, _)) rfl ?_
  refine pe_get mm_179 rfl rfl ((va_up_ne _ _ (by omega)).trans v0) (by omega) rfl ?_
  refine pe_blk mm_179 1 (s' := (29, [some (.ref b), some (.int f), some (.int r), some (.int x), some (.int y)], [.int r, .int sz, .ref (b + 2)], _, _, _)) rfl ?_
  have k150 : (150 : Int32).toInt = 150 := rfl
  have t_p0 : ¬ (150 : Int32).toInt ≤ (sz : Int32).toInt := fun z => p0 (Int32.le_iff_toInt_le.mpr z)
  refine pe_iast mm_179 rfl ((va_up_ne _ _ (by omega)).trans v2) (by omega) (ixp (by omega) (by omega)) ?_
  refine pe_blk mm_179 1 (s' := (31, [some (.ref b), some (.int f), some (.int r), some (.int x), some (.int y)], [.ref b], _, _, _)) rfl ?_
  refine pe_get mm_179 rfl rfl ((va_up_ne _ _ (by omega)).trans ((va_up_ne _ _ (by omega)).trans v0)) (by omega) rfl ?_
  refine pe_blk mm_179 1 (s' := (35, [some (.ref b), some (.int f), some (.int r), some (.int x), some (.int y)], [.ref b, .ref (b + 3)], _, _, _)) rfl ?_
  refine pe_get mm_179 rfl rfl ((va_up_ne _ _ (by omega)).trans ((va_up_ne _ _ (by omega)).trans v0)) (by omega) rfl ?_
  refine pe_blk mm_179 1 (s' := (39, [some (.ref b), some (.int f), some (.int r), some (.int x), some (.int y)], [.int x, .int sz, .ref (b + 3)], _, _, _)) rfl ?_
  have k150 : (150 : Int32).toInt = 150 := rfl
  have t_p0 : ¬ (150 : Int32).toInt ≤ (sz : Int32).toInt := fun z => p0 (Int32.le_iff_toInt_le.mpr z)
  refine pe_iast mm_179 rfl ((va_up_ne _ _ (by omega)).trans ((va_up_ne _ _ (by omega)).trans v3)) (by omega) (ixp (by omega) (by omega)) ?_
  refine pe_blk mm_179 1 (s' := (41, [some (.ref b), some (.int f), some (.int r), some (.int x), some (.int y)], [.ref b], _, _, _)) rfl ?_
  refine pe_get mm_179 rfl rfl ((va_up_ne _ _ (by omega)).trans ((va_up_ne _ _ (by omega)).trans ((va_up_ne _ _ (by omega)).trans v0))) (by omega) rfl ?_
  refine pe_blk mm_179 1 (s' := (45, [some (.ref b), some (.int f), some (.int r), some (.int x), some (.int y)], [.ref b, .ref (b + 4)], _, _, _)) rfl ?_
  refine pe_get mm_179 rfl rfl ((va_up_ne _ _ (by omega)).trans ((va_up_ne _ _ (by omega)).trans ((va_up_ne _ _ (by omega)).trans v0))) (by omega) rfl ?_
  refine pe_blk mm_179 1 (s' := (50, [some (.ref b), some (.int f), some (.int r), some (.int x), some (.int y)], [.int y, .int sz, .ref (b + 4)], _, _, _)) rfl ?_
  have k150 : (150 : Int32).toInt = 150 := rfl
  have t_p0 : ¬ (150 : Int32).toInt ≤ (sz : Int32).toInt := fun z => p0 (Int32.le_iff_toInt_le.mpr z)
  refine pe_iast mm_179 rfl ((va_up_ne _ _ (by omega)).trans ((va_up_ne _ _ (by omega)).trans ((va_up_ne _ _ (by omega)).trans v4))) (by omega) (ixp (by omega) (by omega)) ?_
  refine pe_blk mm_179 2 (s' := (53, [some (.ref b), some (.int f), some (.int r), some (.int x), some (.int y)], [.ref b, .ref b], _, _, _)) rfl ?_
  refine pe_get mm_179 rfl rfl ((va_up_ne _ _ (by omega)).trans ((va_up_ne _ _ (by omega)).trans ((va_up_ne _ _ (by omega)).trans ((va_up_ne _ _ (by omega)).trans v0)))) (by omega) rfl ?_
  refine pe_blk mm_179 2 (s' := (58, [some (.ref b), some (.int f), some (.int r), some (.int x), some (.int y)], [.int (sz + 1), .ref b], _, _, _)) rfl ?_
  refine pe_put mm_179 rfl rfl ((va_up_ne _ _ (by omega)).trans ((va_up_ne _ _ (by omega)).trans ((va_up_ne _ _ (by omega)).trans ((va_up_ne _ _ (by omega)).trans v0)))) (by omega) (Nat.le_of_ble_eq_true rfl) rfl ?_
  show pm_ev _ _ _ _ _ (61, [some (.ref b), some (.int f), some (.int r), some (.int x), some (.int y)], [], _, _, va_up _ b (.inr (8, [.ref (b + 1), .ref (b + 2), .ref (b + 3), .ref (b + 4), .ref (b + 5), .int (sz + 1)]))) _
  exact pe_ret mm_179 rfl rfl
set_option maxRecDepth 100000 in
set_option maxHeartbeats 4000000 in
theorem K_setRounds_0 (sc : Option (Nat × (Nat → Int32))) (d : Nat) {h : Nat → va_E} (b : Nat) (sz : Int32) (fr ou fo to rd : Nat → Int32) (hv : vK h b sz fr ou fo to rd) (w_sz : 0 ≤ sz.toInt ∧ sz.toInt ≤ 150) (k : Int32) (n : Int32) (h_k : -1000 ≤ k.toInt ∧ k.toInt ≤ 1000) (h_n : -1000 ≤ n.toInt ∧ n.toInt ≤ 1000) (p0 : k < 0) : pm_ev pmT sc d 180 false (0, [some (.ref b), some (.int k), some (.int n)], [], 129, 17845, h) (none, 129, 17845, h) := by
  obtain ⟨hb, v0, v1, v2, v3, v4, v5⟩ := hv
  refine pe_blk mm_180 1 (s' := (1, [some (.ref b), some (.int k), some (.int n)], [.int k], _, _, _)) rfl ?_
  refine pe_blk mm_180 1 (s' := (if k < 0 then 16 else 4, [some (.ref b), some (.int k), some (.int n)], [], _, _, _)) rfl ?_
  rw [if_pos p0]
  exact pe_ret mm_180 rfl rfl
set_option maxRecDepth 100000 in
set_option maxHeartbeats 4000000 in
theorem K_setRounds_1 (sc : Option (Nat × (Nat → Int32))) (d : Nat) {h : Nat → va_E} (b : Nat) (sz : Int32) (fr ou fo to rd : Nat → Int32) (hv : vK h b sz fr ou fo to rd) (w_sz : 0 ≤ sz.toInt ∧ sz.toInt ≤ 150) (k : Int32) (n : Int32) (h_k : -1000 ≤ k.toInt ∧ k.toInt ≤ 1000) (h_n : -1000 ≤ n.toInt ∧ n.toInt ≤ 1000) (p0 : ¬ (k < 0)) (p1 : 4 ≤ k) : pm_ev pmT sc d 180 false (0, [some (.ref b), some (.int k), some (.int n)], [], 129, 17845, h) (none, 129, 17845, h) := by
  obtain ⟨hb, v0, v1, v2, v3, v4, v5⟩ := hv
  refine pe_blk mm_180 1 (s' := (1, [some (.ref b), some (.int k), some (.int n)], [.int k], _, _, _)) rfl ?_
  refine pe_blk mm_180 1 (s' := (if k < 0 then 16 else 4, [some (.ref b), some (.int k), some (.int n)], [], _, _, _)) rfl ?_
  rw [if_neg p0]
  refine pe_blk mm_180 2 (s' := (6, [some (.ref b), some (.int k), some (.int n)], [.int 4, .int k], _, _, _)) rfl ?_
  refine pe_blk mm_180 1 (s' := (if 4 ≤ k then 16 else 9, [some (.ref b), some (.int k), some (.int n)], [], _, _, _)) rfl ?_
  rw [if_pos p1]
  exact pe_ret mm_180 rfl rfl
set_option maxRecDepth 100000 in
set_option maxHeartbeats 4000000 in
theorem K_setRounds_2 (sc : Option (Nat × (Nat → Int32))) (d : Nat) {h : Nat → va_E} (b : Nat) (sz : Int32) (fr ou fo to rd : Nat → Int32) (hv : vK h b sz fr ou fo to rd) (w_sz : 0 ≤ sz.toInt ∧ sz.toInt ≤ 150) (k : Int32) (n : Int32) (h_k : -1000 ≤ k.toInt ∧ k.toInt ≤ 1000) (h_n : -1000 ≤ n.toInt ∧ n.toInt ≤ 1000) (p0 : ¬ (k < 0)) (p1 : ¬ (4 ≤ k)) : pm_ev pmT sc d 180 false (0, [some (.ref b), some (.int k), some (.int n)], [], 129, 17845, h) (none, 129, 17845, va_up h (b + 5) (.inl (0, 4, .inl (upd rd (k : Int32).toNatClampNeg n)))) := by
  obtain ⟨hb, v0, v1, v2, v3, v4, v5⟩ := hv
  refine pe_blk mm_180 1 (s' := (1, [some (.ref b), some (.int k), some (.int n)], [.int k], _, _, _)) rfl ?_
  refine pe_blk mm_180 1 (s' := (if k < 0 then 16 else 4, [some (.ref b), some (.int k), some (.int n)], [], _, _, _)) rfl ?_
  rw [if_neg p0]
  refine pe_blk mm_180 2 (s' := (6, [some (.ref b), some (.int k), some (.int n)], [.int 4, .int k], _, _, _)) rfl ?_
  refine pe_blk mm_180 1 (s' := (if 4 ≤ k then 16 else 9, [some (.ref b), some (.int k), some (.int n)], [], _, _, _)) rfl ?_
  rw [if_neg p1]
  refine pe_blk mm_180 1 (s' := (10, [some (.ref b), some (.int k), some (.int n)], [.ref b], _, _, _)) rfl ?_
  refine pe_get mm_180 rfl rfl v0 (by omega) rfl ?_
  refine pe_blk mm_180 2 (s' := (15, [some (.ref b), some (.int k), some (.int n)], [.int n, .int k, .ref (b + 5)], _, _, _)) rfl ?_
  have k0 : (0 : Int32).toInt = 0 := rfl
  have k4 : (4 : Int32).toInt = 4 := rfl
  have t_p0 : ¬ (k : Int32).toInt < (0 : Int32).toInt := fun z => p0 (Int32.lt_iff_toInt_lt.mpr z)
  have t_p1 : ¬ (4 : Int32).toInt ≤ (k : Int32).toInt := fun z => p1 (Int32.le_iff_toInt_le.mpr z)
  refine pe_iast mm_180 rfl v5 (by omega) (ixp (by omega) (by omega)) ?_
  exact pe_ret mm_180 rfl rfl
set_option maxRecDepth 100000 in
set_option maxHeartbeats 4000000 in
theorem N_isEmpty (sc : Option (Nat × (Nat → Int32))) (d : Nat) {h : Nat → va_E} (b : Nat) (dp : Int32) (pl cg : Nat → Int32) (hv : vN h b dp pl cg) (w_dp : 0 ≤ dp.toInt ∧ dp.toInt ≤ 10) : pm_ev pmT sc d 161 false (0, [some (.ref b)], [], 129, 17845, h) (some (.int (if dp = 0 then 1 else 0)), 129, 17845, h) := by
  obtain ⟨hb, v0, v1, v2⟩ := hv
  refine pe_blk mm_161 1 (s' := (1, [some (.ref b)], [.ref b], _, _, _)) rfl ?_
  refine pe_get mm_161 rfl rfl v0 (by omega) rfl ?_
  by_cases q1 : dp = 0
  · rw [if_pos q1]
    refine pe_blk mm_161 1 (s' := (if dp = 0 then 7 else 11, [some (.ref b)], [], _, _, _)) rfl ?_
    rw [if_pos q1]
    refine pe_blk mm_161 2 (s' := (12, [some (.ref b)], [.int 1], _, _, _)) rfl ?_
    exact pe_ret mm_161 rfl rfl
  · rw [if_neg q1]
    refine pe_blk mm_161 1 (s' := (if dp = 0 then 7 else 11, [some (.ref b)], [], _, _, _)) rfl ?_
    rw [if_neg q1]
    refine pe_blk mm_161 1 (s' := (12, [some (.ref b)], [.int 0], _, _, _)) rfl ?_
    exact pe_ret mm_161 rfl rfl
set_option maxRecDepth 100000 in
set_option maxHeartbeats 4000000 in
theorem N_clear (sc : Option (Nat × (Nat → Int32))) (d : Nat) {h : Nat → va_E} (b : Nat) (dp : Int32) (pl cg : Nat → Int32) (hv : vN h b dp pl cg) (w_dp : 0 ≤ dp.toInt ∧ dp.toInt ≤ 10) : pm_ev pmT sc d 160 false (0, [some (.ref b)], [], 129, 17845, h) (none, 129, 17845, va_up h b (.inr (6, [.ref (b + 1), .ref (b + 2), .int 0]))) := by
  obtain ⟨hb, v0, v1, v2⟩ := hv
  refine pe_blk mm_160 2 (s' := (2, [some (.ref b)], [.int 0, .ref b], _, _, _)) rfl ?_
  refine pe_put mm_160 rfl rfl v0 (by omega) (Nat.le_of_ble_eq_true rfl) rfl ?_
  show pm_ev _ _ _ _ _ (5, [some (.ref b)], [], _, _, va_up _ b (.inr (6, [.ref (b + 1), .ref (b + 2), .int 0]))) _
  exact pe_ret mm_160 rfl rfl
set_option maxRecDepth 100000 in
set_option maxHeartbeats 4000000 in
theorem N_close_0 (sc : Option (Nat × (Nat → Int32))) (d : Nat) {h : Nat → va_E} (b : Nat) (dp : Int32) (pl cg : Nat → Int32) (hv : vN h b dp pl cg) (w_dp : 0 ≤ dp.toInt ∧ dp.toInt ≤ 10) (c : Int32) (h_c : -1000 ≤ c.toInt ∧ c.toInt ≤ 1000) (p0 : dp ≤ 0) : pm_ev pmT sc d 163 false (0, [some (.ref b), some (.int c)], [], 129, 17845, h) (some (.int (-1)), 129, 17845, h) := by
  obtain ⟨hb, v0, v1, v2⟩ := hv
  refine pe_blk mm_163 1 (s' := (1, [some (.ref b), some (.int c)], [.ref b], _, _, _)) rfl ?_
  refine pe_get mm_163 rfl rfl v0 (by omega) rfl ?_
  refine pe_blk mm_163 1 (s' := (if dp ≤ 0 then 22 else 7, [some (.ref b), some (.int c)], [], _, _, _)) rfl ?_
  rw [if_pos p0]
  refine pe_blk mm_163 1 (s' := (23, [some (.ref b), some (.int c)], [.int (-1)], _, _, _)) rfl ?_
  exact pe_ret mm_163 rfl rfl
set_option maxRecDepth 100000 in
set_option maxHeartbeats 4000000 in
theorem N_close_1 (sc : Option (Nat × (Nat → Int32))) (d : Nat) {h : Nat → va_E} (b : Nat) (dp : Int32) (pl cg : Nat → Int32) (hv : vN h b dp pl cg) (w_dp : 0 ≤ dp.toInt ∧ dp.toInt ≤ 10) (c : Int32) (h_c : -1000 ≤ c.toInt ∧ c.toInt ≤ 1000) (p0 : ¬ (dp ≤ 0)) (p1 : (cg ((dp - 1) : Int32).toNatClampNeg) = c) : pm_ev pmT sc d 163 false (0, [some (.ref b), some (.int c)], [], 129, 17845, h) (some (.int (pl ((dp - 1) : Int32).toNatClampNeg)), 129, 17845, va_up h b (.inr (6, [.ref (b + 1), .ref (b + 2), .int (dp - 1)]))) := by
  obtain ⟨hb, v0, v1, v2⟩ := hv
  refine pe_blk mm_163 1 (s' := (1, [some (.ref b), some (.int c)], [.ref b], _, _, _)) rfl ?_
  refine pe_get mm_163 rfl rfl v0 (by omega) rfl ?_
  refine pe_blk mm_163 1 (s' := (if dp ≤ 0 then 22 else 7, [some (.ref b), some (.int c)], [], _, _, _)) rfl ?_
  rw [if_neg p0]
  refine pe_blk mm_163 1 (s' := (8, [some (.ref b), some (.int c)], [.ref b], _, _, _)) rfl ?_
  refine pe_get mm_163 rfl rfl v0 (by omega) rfl ?_
  refine pe_blk mm_163 1 (s' := (12, [some (.ref b), some (.int c)], [.ref b, .ref (b + 2)], _, _, _)) rfl ?_
  refine pe_get mm_163 rfl rfl v0 (by omega) rfl ?_
  refine pe_blk mm_163 2 (s' := (17, [some (.ref b), some (.int c)], [.int (dp - 1), .ref (b + 2)], _, _, _)) rfl ?_
  have k0 : (0 : Int32).toInt = 0 := rfl
  have k1 : (1 : Int32).toInt = 1 := rfl
  have t_p0 : ¬ (dp : Int32).toInt ≤ (0 : Int32).toInt := fun z => p0 (Int32.le_iff_toInt_le.mpr z)
  have u0 := i_sub (a := dp) (b := 1)
  refine pe_iald mm_163 rfl v2 (by omega) (ixp (by omega) (by omega)) ?_
  refine pe_blk mm_163 1 (s' := (19, [some (.ref b), some (.int c)], [.int c, .int (cg ((dp - 1) : Int32).toNatClampNeg)], _, _, _)) rfl ?_
  refine pe_blk mm_163 1 (s' := (if (cg ((dp - 1) : Int32).toNatClampNeg) = c then 24 else 22, [some (.ref b), some (.int c)], [], _, _, _)) rfl ?_
  rw [if_pos p1]
  refine pe_blk mm_163 2 (s' := (26, [some (.ref b), some (.int c)], [.ref b, .ref b], _, _, _)) rfl ?_
  refine pe_get mm_163 rfl rfl v0 (by omega) rfl ?_
  refine pe_blk mm_163 2 (s' := (31, [some (.ref b), some (.int c)], [.int (dp - 1), .ref b], _, _, _)) rfl ?_
  refine pe_put mm_163 rfl rfl v0 (by omega) (Nat.le_of_ble_eq_true rfl) rfl ?_
  show pm_ev _ _ _ _ _ (34, [some (.ref b), some (.int c)], [], _, _, va_up _ b (.inr (6, [.ref (b + 1), .ref (b + 2), .int (dp - 1)]))) _
  refine pe_blk mm_163 1 (s' := (35, [some (.ref b), some (.int c)], [.ref b], _, _, _)) rfl ?_
  refine pe_get mm_163 rfl rfl (va_up_self _ _ _) (by omega) rfl ?_
  refine pe_blk mm_163 1 (s' := (39, [some (.ref b), some (.int c)], [.ref b, .ref (b + 1)], _, _, _)) rfl ?_
  refine pe_get mm_163 rfl rfl (va_up_self _ _ _) (by omega) rfl ?_
  have k0 : (0 : Int32).toInt = 0 := rfl
  have k1 : (1 : Int32).toInt = 1 := rfl
  have t_p0 : ¬ (dp : Int32).toInt ≤ (0 : Int32).toInt := fun z => p0 (Int32.le_iff_toInt_le.mpr z)
  have u0 := i_sub (a := dp) (b := 1)
  refine pe_iald mm_163 rfl ((va_up_ne _ _ (by omega)).trans v1) (by omega) (ixp (by omega) (by omega)) ?_
  exact pe_ret mm_163 rfl rfl
set_option maxRecDepth 100000 in
set_option maxHeartbeats 4000000 in
theorem N_close_2 (sc : Option (Nat × (Nat → Int32))) (d : Nat) {h : Nat → va_E} (b : Nat) (dp : Int32) (pl cg : Nat → Int32) (hv : vN h b dp pl cg) (w_dp : 0 ≤ dp.toInt ∧ dp.toInt ≤ 10) (c : Int32) (h_c : -1000 ≤ c.toInt ∧ c.toInt ≤ 1000) (p0 : ¬ (dp ≤ 0)) (p1 : ¬ ((cg ((dp - 1) : Int32).toNatClampNeg) = c)) : pm_ev pmT sc d 163 false (0, [some (.ref b), some (.int c)], [], 129, 17845, h) (some (.int (-1)), 129, 17845, h) := by
  obtain ⟨hb, v0, v1, v2⟩ := hv
  refine pe_blk mm_163 1 (s' := (1, [some (.ref b), some (.int c)], [.ref b], _, _, _)) rfl ?_
  refine pe_get mm_163 rfl rfl v0 (by omega) rfl ?_
  refine pe_blk mm_163 1 (s' := (if dp ≤ 0 then 22 else 7, [some (.ref b), some (.int c)], [], _, _, _)) rfl ?_
  rw [if_neg p0]
  refine pe_blk mm_163 1 (s' := (8, [some (.ref b), some (.int c)], [.ref b], _, _, _)) rfl ?_
  refine pe_get mm_163 rfl rfl v0 (by omega) rfl ?_
  refine pe_blk mm_163 1 (s' := (12, [some (.ref b), some (.int c)], [.ref b, .ref (b + 2)], _, _, _)) rfl ?_
  refine pe_get mm_163 rfl rfl v0 (by omega) rfl ?_
  refine pe_blk mm_163 2 (s' := (17, [some (.ref b), some (.int c)], [.int (dp - 1), .ref (b + 2)], _, _, _)) rfl ?_
  have k0 : (0 : Int32).toInt = 0 := rfl
  have k1 : (1 : Int32).toInt = 1 := rfl
  have t_p0 : ¬ (dp : Int32).toInt ≤ (0 : Int32).toInt := fun z => p0 (Int32.le_iff_toInt_le.mpr z)
  have u0 := i_sub (a := dp) (b := 1)
  refine pe_iald mm_163 rfl v2 (by omega) (ixp (by omega) (by omega)) ?_
  refine pe_blk mm_163 1 (s' := (19, [some (.ref b), some (.int c)], [.int c, .int (cg ((dp - 1) : Int32).toNatClampNeg)], _, _, _)) rfl ?_
  refine pe_blk mm_163 1 (s' := (if (cg ((dp - 1) : Int32).toNatClampNeg) = c then 24 else 22, [some (.ref b), some (.int c)], [], _, _, _)) rfl ?_
  rw [if_neg p1]
  refine pe_blk mm_163 1 (s' := (23, [some (.ref b), some (.int c)], [.int (-1)], _, _, _)) rfl ?_
  exact pe_ret mm_163 rfl rfl
