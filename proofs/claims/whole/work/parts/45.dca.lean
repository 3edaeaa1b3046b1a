/-! The methods as functions over Mem; written by program. -/
/-- ArmExpander$Threads.clear -/
def F187 (n : Nat) (b : Nat) (g0 : Nat) (M : Mem) : Option (Unit × Mem) :=
  mlet (m_r M b 4 (some g0)) (fun M1 => mlet (m_fill (b + 1) 0 120 0 M1) (fun M2 => some ((), M2)))
set_option maxRecDepth 100000 in
set_option maxHeartbeats 4000000 in
theorem F187_ev (sc : Option (Nat × (Nat → Int32))) (n : Nat) (b : Nat) (g0 : Nat) (hb : isT b) (hg0 : isD g0) (M : Mem) (e : Nat) (he : 2 ≤ e) (r : Unit) (M' : Mem) (h : F187 n b g0 M = some (r, M')) : pm_ev pmT sc e 187 false (0, [some (.ref b), some (.ref g0)], [], 129, 17845, hp M) (none, 129, 17845, hp M') := by
  unfold F187 at h
  refine pe_blk mm_187 2 (s' := (2, [some (.ref b), some (.ref g0)], [.ref g0, .ref b], _, _, _)) rfl ?_
  refine pe_putr mm_187 rfl rfl (isT_0 hb _) (by have := isT_lt hb; omega) (Nat.le_of_ble_eq_true rfl) rfl ((isT_0 hb _).trans (by simp [m_r, va_up, va_rf])) ?_
  show pm_ev _ _ _ _ _ (5, [some (.ref b), some (.ref g0)], [], _, _, hp (m_r M b 4 (some g0))) _
  generalize m_r M b 4 (some g0) = M1 at h ⊢
  rw [mlet] at h
  refine pe_blk mm_187 1 (s' := (6, [some (.ref b), some (.ref g0)], [.ref b], _, _, _)) rfl ?_
  refine pe_get mm_187 rfl rfl (isT_0 hb _) (by have := isT_lt hb; omega) rfl ?_
  refine pe_blk mm_187 1 (s' := (10, [some (.ref b), some (.ref g0)], [.int 0, .ref (b + 1)], _, _, _)) rfl ?_
  obtain ⟨e1, rfl⟩ : ∃ e1, e = e1 + 1 := ⟨e - 1, by omega⟩
  refine pe_stat (al := [.int 0, .ref (b + 1)]) (L0 := [some (.ref (b + 1)), some (.int 0), none, none]) (r1 := (none, 129, 17845, hp (m_fill (b + 1) 0 120 0 M1))) mm_187 rfl rfl rfl mm_223 rfl (Nat.le_of_ble_eq_true rfl) (Nat.le_of_ble_eq_true rfl) rfl rfl (fill_ev sc _ _ _ _ _ (by have := isT_lt hb; omega) (by decide) (fun M => isT_1 hb M)) ?_
  show pm_ev _ _ _ _ _ (13, [some (.ref b), some (.ref g0)], [], _, _, hp (m_fill (b + 1) 0 120 0 M1)) _
  generalize m_fill (b + 1) 0 120 0 M1 = M2 at h ⊢
  rw [mlet] at h
  cases h
  exact pe_ret mm_187 rfl rfl
/-- ArmExpander$Threads.setOut -/
def F190 (n : Nat) (b : Nat) (M : Mem) : Option (Unit × Mem) :=
  mlet (m_fill (b + 3) 0 4 0 M) (fun M1 => mlet (m_i M1 b 3 1) (fun M2 => some ((), M2)))
set_option maxRecDepth 100000 in
set_option maxHeartbeats 4000000 in
theorem F190_ev (sc : Option (Nat × (Nat → Int32))) (n : Nat) (b : Nat) (hb : isT b) (M : Mem) (e : Nat) (he : 2 ≤ e) (r : Unit) (M' : Mem) (h : F190 n b M = some (r, M')) : pm_ev pmT sc e 190 false (0, [some (.ref b)], [], 129, 17845, hp M) (none, 129, 17845, hp M') := by
  unfold F190 at h
  refine pe_blk mm_190 1 (s' := (1, [some (.ref b)], [.ref b], _, _, _)) rfl ?_
  refine pe_get mm_190 rfl rfl (isT_0 hb _) (by have := isT_lt hb; omega) rfl ?_
  refine pe_blk mm_190 1 (s' := (5, [some (.ref b)], [.int 0, .ref (b + 3)], _, _, _)) rfl ?_
  obtain ⟨e1, rfl⟩ : ∃ e1, e = e1 + 1 := ⟨e - 1, by omega⟩
  refine pe_stat (al := [.int 0, .ref (b + 3)]) (L0 := [some (.ref (b + 3)), some (.int 0), none, none]) (r1 := (none, 129, 17845, hp (m_fill (b + 3) 0 4 0 M))) mm_190 rfl rfl rfl mm_223 rfl (Nat.le_of_ble_eq_true rfl) (Nat.le_of_ble_eq_true rfl) rfl rfl (fill_ev sc _ _ _ _ _ (by have := isT_lt hb; omega) (by decide) (fun M => isT_3 hb M)) ?_
  show pm_ev _ _ _ _ _ (8, [some (.ref b)], [], _, _, hp (m_fill (b + 3) 0 4 0 M)) _
  generalize m_fill (b + 3) 0 4 0 M = M1 at h ⊢
  rw [mlet] at h
  refine pe_blk mm_190 2 (s' := (10, [some (.ref b)], [.int 1, .ref b], _, _, _)) rfl ?_
  refine pe_puti mm_190 rfl rfl (isT_0 hb _) (by have := isT_lt hb; omega) (Nat.le_of_ble_eq_true rfl) rfl ((isT_0 hb _).trans (by simp [m_i, upd])) ?_
  show pm_ev _ _ _ _ _ (13, [some (.ref b)], [], _, _, hp (m_i M1 b 3 1)) _
  generalize m_i M1 b 3 1 = M2 at h ⊢
  rw [mlet] at h
  cases h
  exact pe_ret mm_190 rfl rfl
