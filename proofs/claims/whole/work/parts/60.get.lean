/-! Reading methods of the class's parts: what they answer. Written by program. -/
theorem ixp {j : Int32} {n : Nat} (h1 : 0 ≤ j.toInt) (h2 : j.toInt < n) : ¬ (j < 0 ∨ n ≤ j.toNatClampNeg) := vp_in_iff.mpr ⟨h1, h2⟩
theorem i_add {a b : Int32} : (-2147483648 ≤ a.toInt + b.toInt ∧ a.toInt + b.toInt < 2147483648) → (a + b).toInt = a.toInt + b.toInt := by
  intro h
  rw [Int32.toInt_add]
  exact Int.bmod_eq_of_le (by omega) (by omega)
theorem i_sub {a b : Int32} : (-2147483648 ≤ a.toInt - b.toInt ∧ a.toInt - b.toInt < 2147483648) → (a - b).toInt = a.toInt - b.toInt := by
  intro h
  rw [Int32.toInt_sub]
  exact Int.bmod_eq_of_le (by omega) (by omega)
/-- a Definition's cells -/
def vD (h : Nat → va_E) (b : Nat) (sz ac : Int32) (cd pn ak mk od ap : Nat → Int32) : Prop := b + 6 < 129 ∧ h b = .inr (2, [.ref (b + 1), .ref (b + 2), .ref (b + 3), .ref (b + 4), .ref (b + 5), .ref (b + 6), .int sz, .int ac]) ∧ h (b + 1) = .inl (0, 120, .inl cd) ∧ h (b + 2) = .inl (0, 120, .inl pn) ∧ h (b + 3) = .inl (0, 120, .inl ak) ∧ h (b + 4) = .inl (0, 120, .inl mk) ∧ h (b + 5) = .inl (0, 120, .inl od) ∧ h (b + 6) = .inl (0, 3, .inl ap)
/-- its numbers are places -/
def wD (sz ac : Int32) (pn ak mk ap : Nat → Int32) : Prop := (0 ≤ sz.toInt ∧ sz.toInt ≤ 120) ∧ (0 ≤ ac.toInt ∧ ac.toInt ≤ 3) ∧ (∀ j, -1 ≤ (pn j).toInt ∧ (pn j).toInt < 120) ∧ (∀ j, -1 ≤ (ak j).toInt ∧ (ak j).toInt < 120) ∧ (∀ j, -1 ≤ (mk j).toInt ∧ (mk j).toInt < 120) ∧ (∀ j, 0 ≤ (ap j).toInt ∧ (ap j).toInt < 120)
set_option maxRecDepth 100000 in
set_option maxHeartbeats 4000000 in
theorem name_D (sc : Option (Nat × (Nat → Int32))) (d : Nat) {h : Nat → va_E} (b : Nat) (sz ac : Int32) (cd pn ak mk od ap : Nat → Int32) (hv : vD h b sz ac cd pn ak mk od ap) (hw : wD sz ac pn ak mk ap) : pm_ev pmT sc d 107 false (0, [some (.ref b)], [], 129, 17845, h) (some (.int (if sz ≤ 0 then (-1) else cd (0 : Int32).toNatClampNeg)), 129, 17845, h) := by
  obtain ⟨hb, v0, v1, v2, v3, v4, v5, v6⟩ := hv
  obtain ⟨⟨hs0, hs1⟩, ⟨ha0, ha1⟩, hpn, hak, hmk, hap⟩ := hw
  refine pe_blk mm_107 1 (s' := (1, [some (.ref b)], [.ref b], _, _, _)) rfl ?_
  refine pe_get mm_107 rfl rfl v0 (by omega) rfl ?_
  by_cases q1 : sz ≤ 0
  · rw [if_pos q1]
    refine pe_blk mm_107 1 (s' := (if sz ≤ 0 then 16 else 7, [some (.ref b)], [], _, _, _)) rfl ?_
    rw [if_pos q1]
    refine pe_blk mm_107 1 (s' := (17, [some (.ref b)], [.int (-1)], _, _, _)) rfl ?_
    exact pe_ret mm_107 rfl rfl
  · rw [if_neg q1]
    refine pe_blk mm_107 1 (s' := (if sz ≤ 0 then 16 else 7, [some (.ref b)], [], _, _, _)) rfl ?_
    rw [if_neg q1]
    refine pe_blk mm_107 1 (s' := (8, [some (.ref b)], [.ref b], _, _, _)) rfl ?_
    refine pe_get mm_107 rfl rfl v0 (by omega) rfl ?_
    refine pe_blk mm_107 1 (s' := (12, [some (.ref b)], [.int 0, .ref (b + 1)], _, _, _)) rfl ?_
    refine pe_iald mm_107 rfl v1 (by omega) (by decide) ?_
    refine pe_blk mm_107 1 (s' := (17, [some (.ref b)], [.int (cd (0 : Int32).toNatClampNeg)], _, _, _)) rfl ?_
    exact pe_ret mm_107 rfl rfl
set_option maxRecDepth 100000 in
set_option maxHeartbeats 4000000 in
theorem armCount_D (sc : Option (Nat × (Nat → Int32))) (d : Nat) {h : Nat → va_E} (b : Nat) (sz ac : Int32) (cd pn ak mk od ap : Nat → Int32) (hv : vD h b sz ac cd pn ak mk od ap) (hw : wD sz ac pn ak mk ap) : pm_ev pmT sc d 108 false (0, [some (.ref b)], [], 129, 17845, h) (some (.int ac), 129, 17845, h) := by
  obtain ⟨hb, v0, v1, v2, v3, v4, v5, v6⟩ := hv
  obtain ⟨⟨hs0, hs1⟩, ⟨ha0, ha1⟩, hpn, hak, hmk, hap⟩ := hw
  refine pe_blk mm_108 1 (s' := (1, [some (.ref b)], [.ref b], _, _, _)) rfl ?_
  refine pe_get mm_108 rfl rfl v0 (by omega) rfl ?_
  exact pe_ret mm_108 rfl rfl
set_option maxRecDepth 100000 in
set_option maxHeartbeats 4000000 in
theorem codeAt_D (sc : Option (Nat × (Nat → Int32))) (d : Nat) {h : Nat → va_E} (b : Nat) (sz ac : Int32) (cd pn ak mk od ap : Nat → Int32) (hv : vD h b sz ac cd pn ak mk od ap) (hw : wD sz ac pn ak mk ap) (k : Int32) (h_k : -1000 ≤ k.toInt ∧ k.toInt ≤ 1000) : pm_ev pmT sc d 109 false (0, [some (.ref b), some (.int k)], [], 129, 17845, h) (some (.int (if k < 0 then (-1) else if sz ≤ k then (-1) else cd (k : Int32).toNatClampNeg)), 129, 17845, h) := by
  obtain ⟨hb, v0, v1, v2, v3, v4, v5, v6⟩ := hv
  obtain ⟨⟨hs0, hs1⟩, ⟨ha0, ha1⟩, hpn, hak, hmk, hap⟩ := hw
  refine pe_blk mm_109 1 (s' := (1, [some (.ref b), some (.int k)], [.int k], _, _, _)) rfl ?_
  by_cases q1 : k < 0
  · rw [if_pos q1]
    refine pe_blk mm_109 1 (s' := (if k < 0 then 21 else 4, [some (.ref b), some (.int k)], [], _, _, _)) rfl ?_
    rw [if_pos q1]
    refine pe_blk mm_109 1 (s' := (22, [some (.ref b), some (.int k)], [.int (-1)], _, _, _)) rfl ?_
    exact pe_ret mm_109 rfl rfl
  · rw [if_neg q1]
    refine pe_blk mm_109 1 (s' := (if k < 0 then 21 else 4, [some (.ref b), some (.int k)], [], _, _, _)) rfl ?_
    rw [if_neg q1]
    refine pe_blk mm_109 2 (s' := (6, [some (.ref b), some (.int k)], [.ref b, .int k], _, _, _)) rfl ?_
    refine pe_get mm_109 rfl rfl v0 (by omega) rfl ?_
    by_cases q2 : sz ≤ k
    · rw [if_pos q2]
      refine pe_blk mm_109 1 (s' := (if sz ≤ k then 21 else 12, [some (.ref b), some (.int k)], [], _, _, _)) rfl ?_
      rw [if_pos q2]
      refine pe_blk mm_109 1 (s' := (22, [some (.ref b), some (.int k)], [.int (-1)], _, _, _)) rfl ?_
      exact pe_ret mm_109 rfl rfl
    · rw [if_neg q2]
      refine pe_blk mm_109 1 (s' := (if sz ≤ k then 21 else 12, [some (.ref b), some (.int k)], [], _, _, _)) rfl ?_
      rw [if_neg q2]
      refine pe_blk mm_109 1 (s' := (13, [some (.ref b), some (.int k)], [.ref b], _, _, _)) rfl ?_
      refine pe_get mm_109 rfl rfl v0 (by omega) rfl ?_
      refine pe_blk mm_109 1 (s' := (17, [some (.ref b), some (.int k)], [.int k, .ref (b + 1)], _, _, _)) rfl ?_
      have k0 : (0 : Int32).toInt = 0 := rfl
      have t_q1 : ¬ (k : Int32).toInt < (0 : Int32).toInt := fun z => q1 (Int32.lt_iff_toInt_lt.mpr z)
      have t_q2 : ¬ (sz : Int32).toInt ≤ (k : Int32).toInt := fun z => q2 (Int32.le_iff_toInt_le.mpr z)
      refine pe_iald mm_109 rfl v1 (by omega) (ixp (by omega) (by omega)) ?_
      refine pe_blk mm_109 1 (s' := (22, [some (.ref b), some (.int k)], [.int (cd (k : Int32).toNatClampNeg)], _, _, _)) rfl ?_
      exact pe_ret mm_109 rfl rfl
set_option maxRecDepth 100000 in
set_option maxHeartbeats 4000000 in
theorem partnerOf_D (sc : Option (Nat × (Nat → Int32))) (d : Nat) {h : Nat → va_E} (b : Nat) (sz ac : Int32) (cd pn ak mk od ap : Nat → Int32) (hv : vD h b sz ac cd pn ak mk od ap) (hw : wD sz ac pn ak mk ap) (k : Int32) (h_k : -1000 ≤ k.toInt ∧ k.toInt ≤ 1000) : pm_ev pmT sc d 110 false (0, [some (.ref b), some (.int k)], [], 129, 17845, h) (some (.int (if k < 0 then (-1) else if sz ≤ k then (-1) else pn (k : Int32).toNatClampNeg)), 129, 17845, h) := by
  obtain ⟨hb, v0, v1, v2, v3, v4, v5, v6⟩ := hv
  obtain ⟨⟨hs0, hs1⟩, ⟨ha0, ha1⟩, hpn, hak, hmk, hap⟩ := hw
  refine pe_blk mm_110 1 (s' := (1, [some (.ref b), some (.int k)], [.int k], _, _, _)) rfl ?_
  by_cases q1 : k < 0
  · rw [if_pos q1]
    refine pe_blk mm_110 1 (s' := (if k < 0 then 21 else 4, [some (.ref b), some (.int k)], [], _, _, _)) rfl ?_
    rw [if_pos q1]
    refine pe_blk mm_110 1 (s' := (22, [some (.ref b), some (.int k)], [.int (-1)], _, _, _)) rfl ?_
    exact pe_ret mm_110 rfl rfl
  · rw [if_neg q1]
    refine pe_blk mm_110 1 (s' := (if k < 0 then 21 else 4, [some (.ref b), some (.int k)], [], _, _, _)) rfl ?_
    rw [if_neg q1]
    refine pe_blk mm_110 2 (s' := (6, [some (.ref b), some (.int k)], [.ref b, .int k], _, _, _)) rfl ?_
    refine pe_get mm_110 rfl rfl v0 (by omega) rfl ?_
    by_cases q2 : sz ≤ k
    · rw [if_pos q2]
      refine pe_blk mm_110 1 (s' := (if sz ≤ k then 21 else 12, [some (.ref b), some (.int k)], [], _, _, _)) rfl ?_
      rw [if_pos q2]
      refine pe_blk mm_110 1 (s' := (22, [some (.ref b), some (.int k)], [.int (-1)], _, _, _)) rfl ?_
      exact pe_ret mm_110 rfl rfl
    · rw [if_neg q2]
      refine pe_blk mm_110 1 (s' := (if sz ≤ k then 21 else 12, [some (.ref b), some (.int k)], [], _, _, _)) rfl ?_
      rw [if_neg q2]
      refine pe_blk mm_110 1 (s' := (13, [some (.ref b), some (.int k)], [.ref b], _, _, _)) rfl ?_
      refine pe_get mm_110 rfl rfl v0 (by omega) rfl ?_
      refine pe_blk mm_110 1 (s' := (17, [some (.ref b), some (.int k)], [.int k, .ref (b + 2)], _, _, _)) rfl ?_
      have k0 : (0 : Int32).toInt = 0 := rfl
      have t_q1 : ¬ (k : Int32).toInt < (0 : Int32).toInt := fun z => q1 (Int32.lt_iff_toInt_lt.mpr z)
      have t_q2 : ¬ (sz : Int32).toInt ≤ (k : Int32).toInt := fun z => q2 (Int32.le_iff_toInt_le.mpr z)
      refine pe_iald mm_110 rfl v2 (by omega) (ixp (by omega) (by omega)) ?_
      refine pe_blk mm_110 1 (s' := (22, [some (.ref b), some (.int k)], [.int (pn (k : Int32).toNatClampNeg)], _, _, _)) rfl ?_
      exact pe_ret mm_110 rfl rfl
set_option maxRecDepth 100000 in
set_option maxHeartbeats 4000000 in
theorem patternStart_D (sc : Option (Nat × (Nat → Int32))) (d : Nat) {h : Nat → va_E} (b : Nat) (sz ac : Int32) (cd pn ak mk od ap : Nat → Int32) (hv : vD h b sz ac cd pn ak mk od ap) (hw : wD sz ac pn ak mk ap) (k : Int32) (h_k : -1000 ≤ k.toInt ∧ k.toInt ≤ 1000) : pm_ev pmT sc d 111 false (0, [some (.ref b), some (.int k)], [], 129, 17845, h) (some (.int (if k < 0 then 0 else if ac ≤ k then 0 else (ap (k : Int32).toNatClampNeg) + 1)), 129, 17845, h) := by
  obtain ⟨hb, v0, v1, v2, v3, v4, v5, v6⟩ := hv
  obtain ⟨⟨hs0, hs1⟩, ⟨ha0, ha1⟩, hpn, hak, hmk, hap⟩ := hw
  refine pe_blk mm_111 1 (s' := (1, [some (.ref b), some (.int k)], [.int k], _, _, _)) rfl ?_
  by_cases q1 : k < 0
  · rw [if_pos q1]
    refine pe_blk mm_111 1 (s' := (if k < 0 then 23 else 4, [some (.ref b), some (.int k)], [], _, _, _)) rfl ?_
    rw [if_pos q1]
    refine pe_blk mm_111 1 (s' := (24, [some (.ref b), some (.int k)], [.int 0], _, _, _)) rfl ?_
    exact pe_ret mm_111 rfl rfl
  · rw [if_neg q1]
    refine pe_blk mm_111 1 (s' := (if k < 0 then 23 else 4, [some (.ref b), some (.int k)], [], _, _, _)) rfl ?_
    rw [if_neg q1]
    refine pe_blk mm_111 2 (s' := (6, [some (.ref b), some (.int k)], [.ref b, .int k], _, _, _)) rfl ?_
    refine pe_get mm_111 rfl rfl v0 (by omega) rfl ?_
    by_cases q2 : ac ≤ k
    · rw [if_pos q2]
      refine pe_blk mm_111 1 (s' := (if ac ≤ k then 23 else 12, [some (.ref b), some (.int k)], [], _, _, _)) rfl ?_
      rw [if_pos q2]
      refine pe_blk mm_111 1 (s' := (24, [some (.ref b), some (.int k)], [.int 0], _, _, _)) rfl ?_
      exact pe_ret mm_111 rfl rfl
    · rw [if_neg q2]
      refine pe_blk mm_111 1 (s' := (if ac ≤ k then 23 else 12, [some (.ref b), some (.int k)], [], _, _, _)) rfl ?_
      rw [if_neg q2]
      refine pe_blk mm_111 1 (s' := (13, [some (.ref b), some (.int k)], [.ref b], _, _, _)) rfl ?_
      refine pe_get mm_111 rfl rfl v0 (by omega) rfl ?_
      refine pe_blk mm_111 1 (s' := (17, [some (.ref b), some (.int k)], [.int k, .ref (b + 6)], _, _, _)) rfl ?_
      have k0 : (0 : Int32).toInt = 0 := rfl
      have t_q1 : ¬ (k : Int32).toInt < (0 : Int32).toInt := fun z => q1 (Int32.lt_iff_toInt_lt.mpr z)
      have t_q2 : ¬ (ac : Int32).toInt ≤ (k : Int32).toInt := fun z => q2 (Int32.le_iff_toInt_le.mpr z)
      refine pe_iald mm_111 rfl v6 (by omega) (ixp (by omega) (by omega)) ?_
      refine pe_blk mm_111 3 (s' := (24, [some (.ref b), some (.int k)], [.int ((ap (k : Int32).toNatClampNeg) + 1)], _, _, _)) rfl ?_
      exact pe_ret mm_111 rfl rfl
set_option maxRecDepth 100000 in
set_option maxHeartbeats 4000000 in
theorem patternEnd_D (sc : Option (Nat × (Nat → Int32))) (d : Nat) {h : Nat → va_E} (b : Nat) (sz ac : Int32) (cd pn ak mk od ap : Nat → Int32) (hv : vD h b sz ac cd pn ak mk od ap) (hw : wD sz ac pn ak mk ap) (k : Int32) (h_k : -1000 ≤ k.toInt ∧ k.toInt ≤ 1000) : pm_ev pmT sc d 112 false (0, [some (.ref b), some (.int k)], [], 129, 17845, h) (some (.int (if k < 0 then 0 else if ac ≤ k then 0 else pn ((ap (k : Int32).toNatClampNeg) : Int32).toNatClampNeg)), 129, 17845, h) := by
  obtain ⟨hb, v0, v1, v2, v3, v4, v5, v6⟩ := hv
  obtain ⟨⟨hs0, hs1⟩, ⟨ha0, ha1⟩, hpn, hak, hmk, hap⟩ := hw
  refine pe_blk mm_112 1 (s' := (1, [some (.ref b), some (.int k)], [.int k], _, _, _)) rfl ?_
  by_cases q1 : k < 0
  · rw [if_pos q1]
    refine pe_blk mm_112 1 (s' := (if k < 0 then 26 else 4, [some (.ref b), some (.int k)], [], _, _, _)) rfl ?_
    rw [if_pos q1]
    refine pe_blk mm_112 1 (s' := (27, [some (.ref b), some (.int k)], [.int 0], _, _, _)) rfl ?_
    exact pe_ret mm_112 rfl rfl
  · rw [if_neg q1]
    refine pe_blk mm_112 1 (s' := (if k < 0 then 26 else 4, [some (.ref b), some (.int k)], [], _, _, _)) rfl ?_
    rw [if_neg q1]
    refine pe_blk mm_112 2 (s' := (6, [some (.ref b), some (.int k)], [.ref b, .int k], _, _, _)) rfl ?_
    refine pe_get mm_112 rfl rfl v0 (by omega) rfl ?_
    by_cases q2 : ac ≤ k
    · rw [if_pos q2]
      refine pe_blk mm_112 1 (s' := (if ac ≤ k then 26 else 12, [some (.ref b), some (.int k)], [], _, _, _)) rfl ?_
      rw [if_pos q2]
      refine pe_blk mm_112 1 (s' := (27, [some (.ref b), some (.int k)], [.int 0], _, _, _)) rfl ?_
      exact pe_ret mm_112 rfl rfl
    · rw [if_neg q2]
      refine pe_blk mm_112 1 (s' := (if ac ≤ k then 26 else 12, [some (.ref b), some (.int k)], [], _, _, _)) rfl ?_
      rw [if_neg q2]
      refine pe_blk mm_112 1 (s' := (13, [some (.ref b), some (.int k)], [.ref b], _, _, _)) rfl ?_
      refine pe_get mm_112 rfl rfl v0 (by omega) rfl ?_
      refine pe_blk mm_112 1 (s' := (17, [some (.ref b), some (.int k)], [.ref b, .ref (b + 2)], _, _, _)) rfl ?_
      refine pe_get mm_112 rfl rfl v0 (by omega) rfl ?_
      refine pe_blk mm_112 1 (s' := (21, [some (.ref b), some (.int k)], [.int k, .ref (b + 6), .ref (b + 2)], _, _, _)) rfl ?_
      have k0 : (0 : Int32).toInt = 0 := rfl
      have t_q1 : ¬ (k : Int32).toInt < (0 : Int32).toInt := fun z => q1 (Int32.lt_iff_toInt_lt.mpr z)
      have t_q2 : ¬ (ac : Int32).toInt ≤ (k : Int32).toInt := fun z => q2 (Int32.le_iff_toInt_le.mpr z)
      refine pe_iald mm_112 rfl v6 (by omega) (ixp (by omega) (by omega)) ?_
      have k0 : (0 : Int32).toInt = 0 := rfl
      have r1 := hap (k : Int32).toNatClampNeg
      have t_q1 : ¬ (k : Int32).toInt < (0 : Int32).toInt := fun z => q1 (Int32.lt_iff_toInt_lt.mpr z)
      have t_q2 : ¬ (ac : Int32).toInt ≤ (k : Int32).toInt := fun z => q2 (Int32.le_iff_toInt_le.mpr z)
      refine pe_iald mm_112 rfl v2 (by omega) (ixp (by omega) (by omega)) ?_
      refine pe_blk mm_112 1 (s' := (27, [some (.ref b), some (.int k)], [.int (pn ((ap (k : Int32).toNatClampNeg) : Int32).toNatClampNeg)], _, _, _)) rfl ?_
      exact pe_ret mm_112 rfl rfl
set_option maxRecDepth 100000 in
set_option maxHeartbeats 4000000 in
theorem startsVariable_D (sc : Option (Nat × (Nat → Int32))) (d : Nat) {h : Nat → va_E} (b : Nat) (sz ac : Int32) (cd pn ak mk od ap : Nat → Int32) (hv : vD h b sz ac cd pn ak mk od ap) (hw : wD sz ac pn ak mk ap) (k : Int32) (h_k : -1000 ≤ k.toInt ∧ k.toInt ≤ 1000) : pm_ev pmT sc d 115 false (0, [some (.ref b), some (.int k)], [], 129, 17845, h) (some (.int (if k < 0 then 0 else if sz ≤ (k + 1) then 0 else if (cd (k : Int32).toNatClampNeg) = 36 then if (cd ((k + 1) : Int32).toNatClampNeg) = 40 then 0 else 1 else 0)), 129, 17845, h) := by
  obtain ⟨hb, v0, v1, v2, v3, v4, v5, v6⟩ := hv
  obtain ⟨⟨hs0, hs1⟩, ⟨ha0, ha1⟩, hpn, hak, hmk, hap⟩ := hw
  refine pe_blk mm_115 1 (s' := (1, [some (.ref b), some (.int k)], [.int k], _, _, _)) rfl ?_
  by_cases q1 : k < 0
  · rw [if_pos q1]
    refine pe_blk mm_115 1 (s' := (if k < 0 then 42 else 4, [some (.ref b), some (.int k)], [], _, _, _)) rfl ?_
    rw [if_pos q1]
    refine pe_blk mm_115 1 (s' := (43, [some (.ref b), some (.int k)], [.int 0], _, _, _)) rfl ?_
    exact pe_ret mm_115 rfl rfl
  · rw [if_neg q1]
    refine pe_blk mm_115 1 (s' := (if k < 0 then 42 else 4, [some (.ref b), some (.int k)], [], _, _, _)) rfl ?_
    rw [if_neg q1]
    refine pe_blk mm_115 4 (s' := (8, [some (.ref b), some (.int k)], [.ref b, .int (k + 1)], _, _, _)) rfl ?_
    refine pe_get mm_115 rfl rfl v0 (by omega) rfl ?_
    by_cases q2 : sz ≤ (k + 1)
    · rw [if_pos q2]
      refine pe_blk mm_115 1 (s' := (if sz ≤ (k + 1) then 42 else 14, [some (.ref b), some (.int k)], [], _, _, _)) rfl ?_
      rw [if_pos q2]
      refine pe_blk mm_115 1 (s' := (43, [some (.ref b), some (.int k)], [.int 0], _, _, _)) rfl ?_
      exact pe_ret mm_115 rfl rfl
    · rw [if_neg q2]
      refine pe_blk mm_115 1 (s' := (if sz ≤ (k + 1) then 42 else 14, [some (.ref b), some (.int k)], [], _, _, _)) rfl ?_
      rw [if_neg q2]
      refine pe_blk mm_115 1 (s' := (15, [some (.ref b), some (.int k)], [.ref b], _, _, _)) rfl ?_
      refine pe_get mm_115 rfl rfl v0 (by omega) rfl ?_
      refine pe_blk mm_115 1 (s' := (19, [some (.ref b), some (.int k)], [.int k, .ref (b + 1)], _, _, _)) rfl ?_
      have k0 : (0 : Int32).toInt = 0 := rfl
      have k1 : (1 : Int32).toInt = 1 := rfl
      have t_q1 : ¬ (k : Int32).toInt < (0 : Int32).toInt := fun z => q1 (Int32.lt_iff_toInt_lt.mpr z)
      have t_q2 : ¬ (sz : Int32).toInt ≤ ((k + 1) : Int32).toInt := fun z => q2 (Int32.le_iff_toInt_le.mpr z)
      have u0 := i_add (a := k) (b := 1)
      refine pe_iald mm_115 rfl v1 (by omega) (ixp (by omega) (by omega)) ?_
      refine pe_blk mm_115 1 (s' := (22, [some (.ref b), some (.int k)], [.int 36, .int (cd (k : Int32).toNatClampNeg)], _, _, _)) rfl ?_
      by_cases q3 : (cd (k : Int32).toNatClampNeg) = 36
      · rw [if_pos q3]
        refine pe_blk mm_115 1 (s' := (if (cd (k : Int32).toNatClampNeg) = 36 then 25 else 42, [some (.ref b), some (.int k)], [], _, _, _)) rfl ?_
        rw [if_pos q3]
        refine pe_blk mm_115 1 (s' := (26, [some (.ref b), some (.int k)], [.ref b], _, _, _)) rfl ?_
        refine pe_get mm_115 rfl rfl v0 (by omega) rfl ?_
        refine pe_blk mm_115 3 (s' := (32, [some (.ref b), some (.int k)], [.int (k + 1), .ref (b + 1)], _, _, _)) rfl ?_
        have k0 : (0 : Int32).toInt = 0 := rfl
        have k1 : (1 : Int32).toInt = 1 := rfl
        have k36 : (36 : Int32).toInt = 36 := rfl
        have t_q1 : ¬ (k : Int32).toInt < (0 : Int32).toInt := fun z => q1 (Int32.lt_iff_toInt_lt.mpr z)
        have t_q2 : ¬ (sz : Int32).toInt ≤ ((k + 1) : Int32).toInt := fun z => q2 (Int32.le_iff_toInt_le.mpr z)
        have u0 := i_add (a := k) (b := 1)
        refine pe_iald mm_115 rfl v1 (by omega) (ixp (by omega) (by omega)) ?_
        refine pe_blk mm_115 1 (s' := (35, [some (.ref b), some (.int k)], [.int 40, .int (cd ((k + 1) : Int32).toNatClampNeg)], _, _, _)) rfl ?_
        by_cases q4 : (cd ((k + 1) : Int32).toNatClampNeg) = 40
        · rw [if_pos q4]
          refine pe_blk mm_115 1 (s' := (if (cd ((k + 1) : Int32).toNatClampNeg) = 40 then 42 else 38, [some (.ref b), some (.int k)], [], _, _, _)) rfl ?_
          rw [if_pos q4]
          refine pe_blk mm_115 1 (s' := (43, [some (.ref b), some (.int k)], [.int 0], _, _, _)) rfl ?_
          exact pe_ret mm_115 rfl rfl
        · rw [if_neg q4]
          refine pe_blk mm_115 1 (s' := (if (cd ((k + 1) : Int32).toNatClampNeg) = 40 then 42 else 38, [some (.ref b), some (.int k)], [], _, _, _)) rfl ?_
          rw [if_neg q4]
          refine pe_blk mm_115 2 (s' := (43, [some (.ref b), some (.int k)], [.int 1], _, _, _)) rfl ?_
          exact pe_ret mm_115 rfl rfl
      · rw [if_neg q3]
        refine pe_blk mm_115 1 (s' := (if (cd (k : Int32).toNatClampNeg) = 36 then 25 else 42, [some (.ref b), some (.int k)], [], _, _, _)) rfl ?_
        rw [if_neg q3]
        refine pe_blk mm_115 1 (s' := (43, [some (.ref b), some (.int k)], [.int 0], _, _, _)) rfl ?_
        exact pe_ret mm_115 rfl rfl
set_option maxRecDepth 100000 in
set_option maxHeartbeats 4000000 in
theorem startsRepetition_D (sc : Option (Nat × (Nat → Int32))) (d : Nat) {h : Nat → va_E} (b : Nat) (sz ac : Int32) (cd pn ak mk od ap : Nat → Int32) (hv : vD h b sz ac cd pn ak mk od ap) (hw : wD sz ac pn ak mk ap) (k : Int32) (h_k : -1000 ≤ k.toInt ∧ k.toInt ≤ 1000) : pm_ev pmT sc d 116 false (0, [some (.ref b), some (.int k)], [], 129, 17845, h) (some (.int (if k < 0 then 0 else if sz ≤ (k + 1) then 0 else if (cd (k : Int32).toNatClampNeg) = 36 then if (cd ((k + 1) : Int32).toNatClampNeg) = 40 then 1 else 0 else 0)), 129, 17845, h) := by
  obtain ⟨hb, v0, v1, v2, v3, v4, v5, v6⟩ := hv
  obtain ⟨⟨hs0, hs1⟩, ⟨ha0, ha1⟩, hpn, hak, hmk, hap⟩ := hw
  refine pe_blk mm_116 1 (s' := (1, [some (.ref b), some (.int k)], [.int k], _, _, _)) rfl ?_
  by_cases q1 : k < 0
  · rw [if_pos q1]
    refine pe_blk mm_116 1 (s' := (if k < 0 then 42 else 4, [some (.ref b), some (.int k)], [], _, _, _)) rfl ?_
    rw [if_pos q1]
    refine pe_blk mm_116 1 (s' := (43, [some (.ref b), some (.int k)], [.int 0], _, _, _)) rfl ?_
    exact pe_ret mm_116 rfl rfl
  · rw [if_neg q1]
    refine pe_blk mm_116 1 (s' := (if k < 0 then 42 else 4, [some (.ref b), some (.int k)], [], _, _, _)) rfl ?_
    rw [if_neg q1]
    refine pe_blk mm_116 4 (s' := (8, [some (.ref b), some (.int k)], [.ref b, .int (k + 1)], _, _, _)) rfl ?_
    refine pe_get mm_116 rfl rfl v0 (by omega) rfl ?_
    by_cases q2 : sz ≤ (k + 1)
    · rw [if_pos q2]
      refine pe_blk mm_116 1 (s' := (if sz ≤ (k + 1) then 42 else 14, [some (.ref b), some (.int k)], [], _, _, _)) rfl ?_
      rw [if_pos q2]
      refine pe_blk mm_116 1 (s' := (43, [some (.ref b), some (.int k)], [.int 0], _, _, _)) rfl ?_
      exact pe_ret mm_116 rfl rfl
    · rw [if_neg q2]
      refine pe_blk mm_116 1 (s' := (if sz ≤ (k + 1) then 42 else 14, [some (.ref b), some (.int k)], [], _, _, _)) rfl ?_
      rw [if_neg q2]
      refine pe_blk mm_116 1 (s' := (15, [some (.ref b), some (.int k)], [.ref b], _, _, _)) rfl ?_
      refine pe_get mm_116 rfl rfl v0 (by omega) rfl ?_
      refine pe_blk mm_116 1 (s' := (19, [some (.ref b), some (.int k)], [.int k, .ref (b + 1)], _, _, _)) rfl ?_
      have k0 : (0 : Int32).toInt = 0 := rfl
      have k1 : (1 : Int32).toInt = 1 := rfl
      have t_q1 : ¬ (k : Int32).toInt < (0 : Int32).toInt := fun z => q1 (Int32.lt_iff_toInt_lt.mpr z)
      have t_q2 : ¬ (sz : Int32).toInt ≤ ((k + 1) : Int32).toInt := fun z => q2 (Int32.le_iff_toInt_le.mpr z)
      have u0 := i_add (a := k) (b := 1)
      refine pe_iald mm_116 rfl v1 (by omega) (ixp (by omega) (by omega)) ?_
      refine pe_blk mm_116 1 (s' := (22, [some (.ref b), some (.int k)], [.int 36, .int (cd (k : Int32).toNatClampNeg)], _, _, _)) rfl ?_
      by_cases q3 : (cd (k : Int32).toNatClampNeg) = 36
      · rw [if_pos q3]
        refine pe_blk mm_116 1 (s' := (if (cd (k : Int32).toNatClampNeg) = 36 then 25 else 42, [some (.ref b), some (.int k)], [], _, _, _)) rfl ?_
        rw [if_pos q3]
        refine pe_blk mm_116 1 (s' := (26, [some (.ref b), some (.int k)], [.ref b], _, _, _)) rfl ?_
        refine pe_get mm_116 rfl rfl v0 (by omega) rfl ?_
        refine pe_blk mm_116 3 (s' := (32, [some (.ref b), some (.int k)], [.int (k + 1), .ref (b + 1)], _, _, _)) rfl ?_
        have k0 : (0 : Int32).toInt = 0 := rfl
        have k1 : (1 : Int32).toInt = 1 := rfl
        have k36 : (36 : Int32).toInt = 36 := rfl
        have t_q1 : ¬ (k : Int32).toInt < (0 : Int32).toInt := fun z => q1 (Int32.lt_iff_toInt_lt.mpr z)
        have t_q2 : ¬ (sz : Int32).toInt ≤ ((k + 1) : Int32).toInt := fun z => q2 (Int32.le_iff_toInt_le.mpr z)
        have u0 := i_add (a := k) (b := 1)
        refine pe_iald mm_116 rfl v1 (by omega) (ixp (by omega) (by omega)) ?_
        refine pe_blk mm_116 1 (s' := (35, [some (.ref b), some (.int k)], [.int 40, .int (cd ((k + 1) : Int32).toNatClampNeg)], _, _, _)) rfl ?_
        by_cases q4 : (cd ((k + 1) : Int32).toNatClampNeg) = 40
        · rw [if_pos q4]
          refine pe_blk mm_116 1 (s' := (if (cd ((k + 1) : Int32).toNatClampNeg) = 40 then 38 else 42, [some (.ref b), some (.int k)], [], _, _, _)) rfl ?_
          rw [if_pos q4]
          refine pe_blk mm_116 2 (s' := (43, [some (.ref b), some (.int k)], [.int 1], _, _, _)) rfl ?_
          exact pe_ret mm_116 rfl rfl
        · rw [if_neg q4]
          refine pe_blk mm_116 1 (s' := (if (cd ((k + 1) : Int32).toNatClampNeg) = 40 then 38 else 42, [some (.ref b), some (.int k)], [], _, _, _)) rfl ?_
          rw [if_neg q4]
          refine pe_blk mm_116 1 (s' := (43, [some (.ref b), some (.int k)], [.int 0], _, _, _)) rfl ?_
          exact pe_ret mm_116 rfl rfl
      · rw [if_neg q3]
        refine pe_blk mm_116 1 (s' := (if (cd (k : Int32).toNatClampNeg) = 36 then 25 else 42, [some (.ref b), some (.int k)], [], _, _, _)) rfl ?_
        rw [if_neg q3]
        refine pe_blk mm_116 1 (s' := (43, [some (.ref b), some (.int k)], [.int 0], _, _, _)) rfl ?_
        exact pe_ret mm_116 rfl rfl
set_option maxRecDepth 100000 in
set_option maxHeartbeats 4000000 in
theorem repetitionEndedAt_D (sc : Option (Nat × (Nat → Int32))) (d : Nat) {h : Nat → va_E} (b : Nat) (sz ac : Int32) (cd pn ak mk od ap : Nat → Int32) (hv : vD h b sz ac cd pn ak mk od ap) (hw : wD sz ac pn ak mk ap) (k : Int32) (h_k : -1000 ≤ k.toInt ∧ k.toInt ≤ 1000) : pm_ev pmT sc d 117 false (0, [some (.ref b), some (.int k), none], [], 129, 17845, h) (some (.int (if k < 0 then (-1) else if sz ≤ k then (-1) else if (cd (k : Int32).toNatClampNeg) = 41 then if ((pn (k : Int32).toNatClampNeg) - 1) < 0 then (-1) else if (cd (((pn (k : Int32).toNatClampNeg) - 1) : Int32).toNatClampNeg) = 36 then (pn (k : Int32).toNatClampNeg) - 1 else (-1) else (-1))), 129, 17845, h) := by
  obtain ⟨hb, v0, v1, v2, v3, v4, v5, v6⟩ := hv
  obtain ⟨⟨hs0, hs1⟩, ⟨ha0, ha1⟩, hpn, hak, hmk, hap⟩ := hw
  refine pe_blk mm_117 1 (s' := (1, [some (.ref b), some (.int k), none], [.int k], _, _, _)) rfl ?_
  by_cases q1 : k < 0
  · rw [if_pos q1]
    refine pe_blk mm_117 1 (s' := (if k < 0 then 23 else 4, [some (.ref b), some (.int k), none], [], _, _, _)) rfl ?_
    rw [if_pos q1]
    refine pe_blk mm_117 1 (s' := (24, [some (.ref b), some (.int k), none], [.int (-1)], _, _, _)) rfl ?_
    exact pe_ret mm_117 rfl rfl
  · rw [if_neg q1]
    refine pe_blk mm_117 1 (s' := (if k < 0 then 23 else 4, [some (.ref b), some (.int k), none], [], _, _, _)) rfl ?_
    rw [if_neg q1]
    refine pe_blk mm_117 2 (s' := (6, [some (.ref b), some (.int k), none], [.ref b, .int k], _, _, _)) rfl ?_
    refine pe_get mm_117 rfl rfl v0 (by omega) rfl ?_
    by_cases q2 : sz ≤ k
    · rw [if_pos q2]
      refine pe_blk mm_117 1 (s' := (if sz ≤ k then 23 else 12, [some (.ref b), some (.int k), none], [], _, _, _)) rfl ?_
      rw [if_pos q2]
      refine pe_blk mm_117 1 (s' := (24, [some (.ref b), some (.int k), none], [.int (-1)], _, _, _)) rfl ?_
      exact pe_ret mm_117 rfl rfl
    · rw [if_neg q2]
      refine pe_blk mm_117 1 (s' := (if sz ≤ k then 23 else 12, [some (.ref b), some (.int k), none], [], _, _, _)) rfl ?_
      rw [if_neg q2]
      refine pe_blk mm_117 1 (s' := (13, [some (.ref b), some (.int k), none], [.ref b], _, _, _)) rfl ?_
      refine pe_get mm_117 rfl rfl v0 (by omega) rfl ?_
      refine pe_blk mm_117 1 (s' := (17, [some (.ref b), some (.int k), none], [.int k, .ref (b + 1)], _, _, _)) rfl ?_
      have k0 : (0 : Int32).toInt = 0 := rfl
      have t_q1 : ¬ (k : Int32).toInt < (0 : Int32).toInt := fun z => q1 (Int32.lt_iff_toInt_lt.mpr z)
      have t_q2 : ¬ (sz : Int32).toInt ≤ (k : Int32).toInt := fun z => q2 (Int32.le_iff_toInt_le.mpr z)
      refine pe_iald mm_117 rfl v1 (by omega) (ixp (by omega) (by omega)) ?_
      refine pe_blk mm_117 1 (s' := (20, [some (.ref b), some (.int k), none], [.int 41, .int (cd (k : Int32).toNatClampNeg)], _, _, _)) rfl ?_
      by_cases q3 : (cd (k : Int32).toNatClampNeg) = 41
      · rw [if_pos q3]
        refine pe_blk mm_117 1 (s' := (if (cd (k : Int32).toNatClampNeg) = 41 then 25 else 23, [some (.ref b), some (.int k), none], [], _, _, _)) rfl ?_
        rw [if_pos q3]
        refine pe_blk mm_117 1 (s' := (26, [some (.ref b), some (.int k), none], [.ref b], _, _, _)) rfl ?_
        refine pe_get mm_117 rfl rfl v0 (by omega) rfl ?_
        refine pe_blk mm_117 1 (s' := (30, [some (.ref b), some (.int k), none], [.int k, .ref (b + 2)], _, _, _)) rfl ?_
        have k0 : (0 : Int32).toInt = 0 := rfl
        have k41 : (41 : Int32).toInt = 41 := rfl
        have t_q1 : ¬ (k : Int32).toInt < (0 : Int32).toInt := fun z => q1 (Int32.lt_iff_toInt_lt.mpr z)
        have t_q2 : ¬ (sz : Int32).toInt ≤ (k : Int32).toInt := fun z => q2 (Int32.le_iff_toInt_le.mpr z)
        refine pe_iald mm_117 rfl v2 (by omega) (ixp (by omega) (by omega)) ?_
        refine pe_blk mm_117 4 (s' := (35, [some (.ref b), some (.int k), some (.int ((pn (k : Int32).toNatClampNeg) - 1))], [.int ((pn (k : Int32).toNatClampNeg) - 1)], _, _, _)) rfl ?_
        by_cases q4 : ((pn (k : Int32).toNatClampNeg) - 1) < 0
        · rw [if_pos q4]
          refine pe_blk mm_117 1 (s' := (if ((pn (k : Int32).toNatClampNeg) - 1) < 0 then 53 else 38, [some (.ref b), some (.int k), some (.int ((pn (k : Int32).toNatClampNeg) - 1))], [], _, _, _)) rfl ?_
          rw [if_pos q4]
          refine pe_blk mm_117 1 (s' := (54, [some (.ref b), some (.int k), some (.int ((pn (k : Int32).toNatClampNeg) - 1))], [.int (-1)], _, _, _)) rfl ?_
          exact pe_ret mm_117 rfl rfl
        · rw [if_neg q4]
          refine pe_blk mm_117 1 (s' := (if ((pn (k : Int32).toNatClampNeg) - 1) < 0 then 53 else 38, [some (.ref b), some (.int k), some (.int ((pn (k : Int32).toNatClampNeg) - 1))], [], _, _, _)) rfl ?_
          rw [if_neg q4]
          refine pe_blk mm_117 1 (s' := (39, [some (.ref b), some (.int k), some (.int ((pn (k : Int32).toNatClampNeg) - 1))], [.ref b], _, _, _)) rfl ?_
          refine pe_get mm_117 rfl rfl v0 (by omega) rfl ?_
          refine pe_blk mm_117 1 (s' := (43, [some (.ref b), some (.int k), some (.int ((pn (k : Int32).toNatClampNeg) - 1))], [.int ((pn (k : Int32).toNatClampNeg) - 1), .ref (b + 1)], _, _, _)) rfl ?_
          have k0 : (0 : Int32).toInt = 0 := rfl
          have k1 : (1 : Int32).toInt = 1 := rfl
          have k41 : (41 : Int32).toInt = 41 := rfl
          have r1 := hpn (k : Int32).toNatClampNeg
          have t_q1 : ¬ (k : Int32).toInt < (0 : Int32).toInt := fun z => q1 (Int32.lt_iff_toInt_lt.mpr z)
          have t_q2 : ¬ (sz : Int32).toInt ≤ (k : Int32).toInt := fun z => q2 (Int32.le_iff_toInt_le.mpr z)
          have t_q4 : ¬ (((pn (k : Int32).toNatClampNeg) - 1) : Int32).toInt < (0 : Int32).toInt := fun z => q4 (Int32.lt_iff_toInt_lt.mpr z)
          have u0 := i_sub (a := (pn (k : Int32).toNatClampNeg)) (b := 1)
          refine pe_iald mm_117 rfl v1 (by omega) (ixp (by omega) (by omega)) ?_
          refine pe_blk mm_117 1 (s' := (46, [some (.ref b), some (.int k), some (.int ((pn (k : Int32).toNatClampNeg) - 1))], [.int 36, .int (cd (((pn (k : Int32).toNatClampNeg) - 1) : Int32).toNatClampNeg)], _, _, _)) rfl ?_
          by_cases q5 : (cd (((pn (k : Int32).toNatClampNeg) - 1) : Int32).toNatClampNeg) = 36
          · rw [if_pos q5]
            refine pe_blk mm_117 1 (s' := (if (cd (((pn (k : Int32).toNatClampNeg) - 1) : Int32).toNatClampNeg) = 36 then 49 else 53, [some (.ref b), some (.int k), some (.int ((pn (k : Int32).toNatClampNeg) - 1))], [], _, _, _)) rfl ?_
            rw [if_pos q5]
            refine pe_blk mm_117 2 (s' := (54, [some (.ref b), some (.int k), some (.int ((pn (k : Int32).toNatClampNeg) - 1))], [.int ((pn (k : Int32).toNatClampNeg) - 1)], _, _, _)) rfl ?_
            exact pe_ret mm_117 rfl rfl
          · rw [if_neg q5]
            refine pe_blk mm_117 1 (s' := (if (cd (((pn (k : Int32).toNatClampNeg) - 1) : Int32).toNatClampNeg) = 36 then 49 else 53, [some (.ref b), some (.int k), some (.int ((pn (k : Int32).toNatClampNeg) - 1))], [], _, _, _)) rfl ?_
            rw [if_neg q5]
            refine pe_blk mm_117 1 (s' := (54, [some (.ref b), some (.int k), some (.int ((pn (k : Int32).toNatClampNeg) - 1))], [.int (-1)], _, _, _)) rfl ?_
            exact pe_ret mm_117 rfl rfl
      · rw [if_neg q3]
        refine pe_blk mm_117 1 (s' := (if (cd (k : Int32).toNatClampNeg) = 41 then 25 else 23, [some (.ref b), some (.int k), none], [], _, _, _)) rfl ?_
        rw [if_neg q3]
        refine pe_blk mm_117 1 (s' := (24, [some (.ref b), some (.int k), none], [.int (-1)], _, _, _)) rfl ?_
        exact pe_ret mm_117 rfl rfl
set_option maxRecDepth 100000 in
set_option maxHeartbeats 4000000 in
theorem markOf_D (sc : Option (Nat × (Nat → Int32))) (d : Nat) {h : Nat → va_E} (b : Nat) (sz ac : Int32) (cd pn ak mk od ap : Nat → Int32) (hv : vD h b sz ac cd pn ak mk od ap) (hw : wD sz ac pn ak mk ap) (k : Int32) (h_k : -1000 ≤ k.toInt ∧ k.toInt ≤ 1000) : pm_ev pmT sc d 118 false (0, [some (.ref b), some (.int k)], [], 129, 17845, h) (some (.int (if k < 0 then (-1) else if sz ≤ k then (-1) else if 0 ≤ (mk (k : Int32).toNatClampNeg) then cd ((mk (k : Int32).toNatClampNeg) : Int32).toNatClampNeg else (-1))), 129, 17845, h) := by
  obtain ⟨hb, v0, v1, v2, v3, v4, v5, v6⟩ := hv
  obtain ⟨⟨hs0, hs1⟩, ⟨ha0, ha1⟩, hpn, hak, hmk, hap⟩ := hw
  refine pe_blk mm_118 1 (s' := (1, [some (.ref b), some (.int k)], [.int k], _, _, _)) rfl ?_
  by_cases q1 : k < 0
  · rw [if_pos q1]
    refine pe_blk mm_118 1 (s' := (if k < 0 then 21 else 4, [some (.ref b), some (.int k)], [], _, _, _)) rfl ?_
    rw [if_pos q1]
    refine pe_blk mm_118 1 (s' := (22, [some (.ref b), some (.int k)], [.int (-1)], _, _, _)) rfl ?_
    exact pe_ret mm_118 rfl rfl
  · rw [if_neg q1]
    refine pe_blk mm_118 1 (s' := (if k < 0 then 21 else 4, [some (.ref b), some (.int k)], [], _, _, _)) rfl ?_
    rw [if_neg q1]
    refine pe_blk mm_118 2 (s' := (6, [some (.ref b), some (.int k)], [.ref b, .int k], _, _, _)) rfl ?_
    refine pe_get mm_118 rfl rfl v0 (by omega) rfl ?_
    by_cases q2 : sz ≤ k
    · rw [if_pos q2]
      refine pe_blk mm_118 1 (s' := (if sz ≤ k then 21 else 12, [some (.ref b), some (.int k)], [], _, _, _)) rfl ?_
      rw [if_pos q2]
      refine pe_blk mm_118 1 (s' := (22, [some (.ref b), some (.int k)], [.int (-1)], _, _, _)) rfl ?_
      exact pe_ret mm_118 rfl rfl
    · rw [if_neg q2]
      refine pe_blk mm_118 1 (s' := (if sz ≤ k then 21 else 12, [some (.ref b), some (.int k)], [], _, _, _)) rfl ?_
      rw [if_neg q2]
      refine pe_blk mm_118 1 (s' := (13, [some (.ref b), some (.int k)], [.ref b], _, _, _)) rfl ?_
      refine pe_get mm_118 rfl rfl v0 (by omega) rfl ?_
      refine pe_blk mm_118 1 (s' := (17, [some (.ref b), some (.int k)], [.int k, .ref (b + 4)], _, _, _)) rfl ?_
      have k0 : (0 : Int32).toInt = 0 := rfl
      have t_q1 : ¬ (k : Int32).toInt < (0 : Int32).toInt := fun z => q1 (Int32.lt_iff_toInt_lt.mpr z)
      have t_q2 : ¬ (sz : Int32).toInt ≤ (k : Int32).toInt := fun z => q2 (Int32.le_iff_toInt_le.mpr z)
      refine pe_iald mm_118 rfl v4 (by omega) (ixp (by omega) (by omega)) ?_
      by_cases q3 : 0 ≤ (mk (k : Int32).toNatClampNeg)
      · rw [if_pos q3]
        refine pe_blk mm_118 1 (s' := (if 0 ≤ (mk (k : Int32).toNatClampNeg) then 23 else 21, [some (.ref b), some (.int k)], [], _, _, _)) rfl ?_
        rw [if_pos q3]
        refine pe_blk mm_118 1 (s' := (24, [some (.ref b), some (.int k)], [.ref b], _, _, _)) rfl ?_
        refine pe_get mm_118 rfl rfl v0 (by omega) rfl ?_
        refine pe_blk mm_118 1 (s' := (28, [some (.ref b), some (.int k)], [.ref b, .ref (b + 1)], _, _, _)) rfl ?_
        refine pe_get mm_118 rfl rfl v0 (by omega) rfl ?_
        refine pe_blk mm_118 1 (s' := (32, [some (.ref b), some (.int k)], [.int k, .ref (b + 4), .ref (b + 1)], _, _, _)) rfl ?_
        have k0 : (0 : Int32).toInt = 0 := rfl
        have r1 := hmk (k : Int32).toNatClampNeg
        have t_q1 : ¬ (k : Int32).toInt < (0 : Int32).toInt := fun z => q1 (Int32.lt_iff_toInt_lt.mpr z)
        have t_q2 : ¬ (sz : Int32).toInt ≤ (k : Int32).toInt := fun z => q2 (Int32.le_iff_toInt_le.mpr z)
        have t_q3 := Int32.le_iff_toInt_le.mp q3
        refine pe_iald mm_118 rfl v4 (by omega) (ixp (by omega) (by omega)) ?_
        have k0 : (0 : Int32).toInt = 0 := rfl
        have r1 := hmk (k : Int32).toNatClampNeg
        have t_q1 : ¬ (k : Int32).toInt < (0 : Int32).toInt := fun z => q1 (Int32.lt_iff_toInt_lt.mpr z)
        have t_q2 : ¬ (sz : Int32).toInt ≤ (k : Int32).toInt := fun z => q2 (Int32.le_iff_toInt_le.mpr z)
        have t_q3 := Int32.le_iff_toInt_le.mp q3
        refine pe_iald mm_118 rfl v1 (by omega) (ixp (by omega) (by omega)) ?_
        exact pe_ret mm_118 rfl rfl
      · rw [if_neg q3]
        refine pe_blk mm_118 1 (s' := (if 0 ≤ (mk (k : Int32).toNatClampNeg) then 23 else 21, [some (.ref b), some (.int k)], [], _, _, _)) rfl ?_
        rw [if_neg q3]
        refine pe_blk mm_118 1 (s' := (22, [some (.ref b), some (.int k)], [.int (-1)], _, _, _)) rfl ?_
        exact pe_ret mm_118 rfl rfl
set_option maxRecDepth 100000 in
set_option maxHeartbeats 4000000 in
theorem behind_D (sc : Option (Nat × (Nat → Int32))) (d : Nat) {h : Nat → va_E} (b : Nat) (sz ac : Int32) (cd pn ak mk od ap : Nat → Int32) (hv : vD h b sz ac cd pn ak mk od ap) (hw : wD sz ac pn ak mk ap) (k : Int32) (h_k : -1000 ≤ k.toInt ∧ k.toInt ≤ 1000) : pm_ev pmT sc d 119 false (0, [some (.ref b), some (.int k)], [], 129, 17845, h) (some (.int (if k < 0 then sz else if sz ≤ k then sz else if 0 ≤ (mk (k : Int32).toNatClampNeg) then (mk (k : Int32).toNatClampNeg) + 1 else sz)), 129, 17845, h) := by
  obtain ⟨hb, v0, v1, v2, v3, v4, v5, v6⟩ := hv
  obtain ⟨⟨hs0, hs1⟩, ⟨ha0, ha1⟩, hpn, hak, hmk, hap⟩ := hw
  refine pe_blk mm_119 1 (s' := (1, [some (.ref b), some (.int k)], [.int k], _, _, _)) rfl ?_
  by_cases q1 : k < 0
  · rw [if_pos q1]
    refine pe_blk mm_119 1 (s' := (if k < 0 then 21 else 4, [some (.ref b), some (.int k)], [], _, _, _)) rfl ?_
    rw [if_pos q1]
    refine pe_blk mm_119 1 (s' := (22, [some (.ref b), some (.int k)], [.ref b], _, _, _)) rfl ?_
    refine pe_get mm_119 rfl rfl v0 (by omega) rfl ?_
    exact pe_ret mm_119 rfl rfl
  · rw [if_neg q1]
    refine pe_blk mm_119 1 (s' := (if k < 0 then 21 else 4, [some (.ref b), some (.int k)], [], _, _, _)) rfl ?_
    rw [if_neg q1]
    refine pe_blk mm_119 2 (s' := (6, [some (.ref b), some (.int k)], [.ref b, .int k], _, _, _)) rfl ?_
    refine pe_get mm_119 rfl rfl v0 (by omega) rfl ?_
    by_cases q2 : sz ≤ k
    · rw [if_pos q2]
      refine pe_blk mm_119 1 (s' := (if sz ≤ k then 21 else 12, [some (.ref b), some (.int k)], [], _, _, _)) rfl ?_
      rw [if_pos q2]
      refine pe_blk mm_119 1 (s' := (22, [some (.ref b), some (.int k)], [.ref b], _, _, _)) rfl ?_
      refine pe_get mm_119 rfl rfl v0 (by omega) rfl ?_
      exact pe_ret mm_119 rfl rfl
    · rw [if_neg q2]
      refine pe_blk mm_119 1 (s' := (if sz ≤ k then 21 else 12, [some (.ref b), some (.int k)], [], _, _, _)) rfl ?_
      rw [if_neg q2]
      refine pe_blk mm_119 1 (s' := (13, [some (.ref b), some (.int k)], [.ref b], _, _, _)) rfl ?_
      refine pe_get mm_119 rfl rfl v0 (by omega) rfl ?_
      refine pe_blk mm_119 1 (s' := (17, [some (.ref b), some (.int k)], [.int k, .ref (b + 4)], _, _, _)) rfl ?_
      have k0 : (0 : Int32).toInt = 0 := rfl
      have t_q1 : ¬ (k : Int32).toInt < (0 : Int32).toInt := fun z => q1 (Int32.lt_iff_toInt_lt.mpr z)
      have t_q2 : ¬ (sz : Int32).toInt ≤ (k : Int32).toInt := fun z => q2 (Int32.le_iff_toInt_le.mpr z)
      refine pe_iald mm_119 rfl v4 (by omega) (ixp (by omega) (by omega)) ?_
      by_cases q3 : 0 ≤ (mk (k : Int32).toNatClampNeg)
      · rw [if_pos q3]
        refine pe_blk mm_119 1 (s' := (if 0 ≤ (mk (k : Int32).toNatClampNeg) then 26 else 21, [some (.ref b), some (.int k)], [], _, _, _)) rfl ?_
        rw [if_pos q3]
        refine pe_blk mm_119 1 (s' := (27, [some (.ref b), some (.int k)], [.ref b], _, _, _)) rfl ?_
        refine pe_get mm_119 rfl rfl v0 (by omega) rfl ?_
        refine pe_blk mm_119 1 (s' := (31, [some (.ref b), some (.int k)], [.int k, .ref (b + 4)], _, _, _)) rfl ?_
        have k0 : (0 : Int32).toInt = 0 := rfl
        have r1 := hmk (k : Int32).toNatClampNeg
        have t_q1 : ¬ (k : Int32).toInt < (0 : Int32).toInt := fun z => q1 (Int32.lt_iff_toInt_lt.mpr z)
        have t_q2 : ¬ (sz : Int32).toInt ≤ (k : Int32).toInt := fun z => q2 (Int32.le_iff_toInt_le.mpr z)
        have t_q3 := Int32.le_iff_toInt_le.mp q3
        refine pe_iald mm_119 rfl v4 (by omega) (ixp (by omega) (by omega)) ?_
        refine pe_blk mm_119 2 (s' := (34, [some (.ref b), some (.int k)], [.int ((mk (k : Int32).toNatClampNeg) + 1)], _, _, _)) rfl ?_
        exact pe_ret mm_119 rfl rfl
      · rw [if_neg q3]
        refine pe_blk mm_119 1 (s' := (if 0 ≤ (mk (k : Int32).toNatClampNeg) then 26 else 21, [some (.ref b), some (.int k)], [], _, _, _)) rfl ?_
        rw [if_neg q3]
        refine pe_blk mm_119 1 (s' := (22, [some (.ref b), some (.int k)], [.ref b], _, _, _)) rfl ?_
        refine pe_get mm_119 rfl rfl v0 (by omega) rfl ?_
        exact pe_ret mm_119 rfl rfl
set_option maxRecDepth 100000 in
set_option maxHeartbeats 4000000 in
theorem separatorOf_D (sc : Option (Nat × (Nat → Int32))) (d : Nat) {h : Nat → va_E} (b : Nat) (sz ac : Int32) (cd pn ak mk od ap : Nat → Int32) (hv : vD h b sz ac cd pn ak mk od ap) (hw : wD sz ac pn ak mk ap) (k : Int32) (h_k : -1000 ≤ k.toInt ∧ k.toInt ≤ 1000) : pm_ev pmT sc d 120 false (0, [some (.ref b), some (.int k), none], [], 129, 17845, h) (some (.int (if k < 0 then (-1) else if (k + 1) < sz then if (mk (k : Int32).toNatClampNeg) = ((pn ((k + 1) : Int32).toNatClampNeg) + 2) then (pn ((k + 1) : Int32).toNatClampNeg) + 1 else (-1) else (-1))), 129, 17845, h) := by
  obtain ⟨hb, v0, v1, v2, v3, v4, v5, v6⟩ := hv
  obtain ⟨⟨hs0, hs1⟩, ⟨ha0, ha1⟩, hpn, hak, hmk, hap⟩ := hw
  refine pe_blk mm_120 1 (s' := (1, [some (.ref b), some (.int k), none], [.int k], _, _, _)) rfl ?_
  by_cases q1 : k < 0
  · rw [if_pos q1]
    refine pe_blk mm_120 1 (s' := (if k < 0 then 14 else 4, [some (.ref b), some (.int k), none], [], _, _, _)) rfl ?_
    rw [if_pos q1]
    refine pe_blk mm_120 1 (s' := (15, [some (.ref b), some (.int k), none], [.int (-1)], _, _, _)) rfl ?_
    exact pe_ret mm_120 rfl rfl
  · rw [if_neg q1]
    refine pe_blk mm_120 1 (s' := (if k < 0 then 14 else 4, [some (.ref b), some (.int k), none], [], _, _, _)) rfl ?_
    rw [if_neg q1]
    refine pe_blk mm_120 4 (s' := (8, [some (.ref b), some (.int k), none], [.ref b, .int (k + 1)], _, _, _)) rfl ?_
    refine pe_get mm_120 rfl rfl v0 (by omega) rfl ?_
    by_cases q2 : (k + 1) < sz
    · rw [if_pos q2]
      refine pe_blk mm_120 1 (s' := (if (k + 1) < sz then 16 else 14, [some (.ref b), some (.int k), none], [], _, _, _)) rfl ?_
      rw [if_pos q2]
      refine pe_blk mm_120 1 (s' := (17, [some (.ref b), some (.int k), none], [.ref b], _, _, _)) rfl ?_
      refine pe_get mm_120 rfl rfl v0 (by omega) rfl ?_
      refine pe_blk mm_120 3 (s' := (23, [some (.ref b), some (.int k), none], [.int (k + 1), .ref (b + 2)], _, _, _)) rfl ?_
      have k0 : (0 : Int32).toInt = 0 := rfl
      have k1 : (1 : Int32).toInt = 1 := rfl
      have t_q1 : ¬ (k : Int32).toInt < (0 : Int32).toInt := fun z => q1 (Int32.lt_iff_toInt_lt.mpr z)
      have t_q2 := Int32.lt_iff_toInt_lt.mp q2
      have u0 := i_add (a := k) (b := 1)
      refine pe_iald mm_120 rfl v2 (by omega) (ixp (by omega) (by omega)) ?_
      refine pe_blk mm_120 2 (s' := (26, [some (.ref b), some (.int k), some (.int (pn ((k + 1) : Int32).toNatClampNeg))], [.ref b], _, _, _)) rfl ?_
      refine pe_get mm_120 rfl rfl v0 (by omega) rfl ?_
      refine pe_blk mm_120 1 (s' := (30, [some (.ref b), some (.int k), some (.int (pn ((k + 1) : Int32).toNatClampNeg))], [.int k, .ref (b + 4)], _, _, _)) rfl ?_
      have k0 : (0 : Int32).toInt = 0 := rfl
      have k1 : (1 : Int32).toInt = 1 := rfl
      have t_q1 : ¬ (k : Int32).toInt < (0 : Int32).toInt := fun z => q1 (Int32.lt_iff_toInt_lt.mpr z)
      have t_q2 := Int32.lt_iff_toInt_lt.mp q2
      have u0 := i_add (a := k) (b := 1)
      refine pe_iald mm_120 rfl v4 (by omega) (ixp (by omega) (by omega)) ?_
      refine pe_blk mm_120 3 (s' := (34, [some (.ref b), some (.int k), some (.int (pn ((k + 1) : Int32).toNatClampNeg))], [.int ((pn ((k + 1) : Int32).toNatClampNeg) + 2), .int (mk (k : Int32).toNatClampNeg)], _, _, _)) rfl ?_
      by_cases q3 : (mk (k : Int32).toNatClampNeg) = ((pn ((k + 1) : Int32).toNatClampNeg) + 2)
      · rw [if_pos q3]
        refine pe_blk mm_120 1 (s' := (if (mk (k : Int32).toNatClampNeg) = ((pn ((k + 1) : Int32).toNatClampNeg) + 2) then 37 else 43, [some (.ref b), some (.int k), some (.int (pn ((k + 1) : Int32).toNatClampNeg))], [], _, _, _)) rfl ?_
        rw [if_pos q3]
        refine pe_blk mm_120 4 (s' := (44, [some (.ref b), some (.int k), some (.int (pn ((k + 1) : Int32).toNatClampNeg))], [.int ((pn ((k + 1) : Int32).toNatClampNeg) + 1)], _, _, _)) rfl ?_
        exact pe_ret mm_120 rfl rfl
      · rw [if_neg q3]
        refine pe_blk mm_120 1 (s' := (if (mk (k : Int32).toNatClampNeg) = ((pn ((k + 1) : Int32).toNatClampNeg) + 2) then 37 else 43, [some (.ref b), some (.int k), some (.int (pn ((k + 1) : Int32).toNatClampNeg))], [], _, _, _)) rfl ?_
        rw [if_neg q3]
        refine pe_blk mm_120 1 (s' := (44, [some (.ref b), some (.int k), some (.int (pn ((k + 1) : Int32).toNatClampNeg))], [.int (-1)], _, _, _)) rfl ?_
        exact pe_ret mm_120 rfl rfl
    · rw [if_neg q2]
      refine pe_blk mm_120 1 (s' := (if (k + 1) < sz then 16 else 14, [some (.ref b), some (.int k), none], [], _, _, _)) rfl ?_
      rw [if_neg q2]
      refine pe_blk mm_120 1 (s' := (15, [some (.ref b), some (.int k), none], [.int (-1)], _, _, _)) rfl ?_
      exact pe_ret mm_120 rfl rfl
set_option maxRecDepth 100000 in
set_option maxHeartbeats 4000000 in
theorem repetitionAround_D (sc : Option (Nat × (Nat → Int32))) (d : Nat) {h : Nat → va_E} (b : Nat) (sz ac : Int32) (cd pn ak mk od ap : Nat → Int32) (hv : vD h b sz ac cd pn ak mk od ap) (hw : wD sz ac pn ak mk ap) (k : Int32) (h_k : -1000 ≤ k.toInt ∧ k.toInt ≤ 1000) : pm_ev pmT sc d 121 false (0, [some (.ref b), some (.int k)], [], 129, 17845, h) (some (.int (if k < 0 then (-1) else if sz ≤ k then (-1) else ak (k : Int32).toNatClampNeg)), 129, 17845, h) := by
  obtain ⟨hb, v0, v1, v2, v3, v4, v5, v6⟩ := hv
  obtain ⟨⟨hs0, hs1⟩, ⟨ha0, ha1⟩, hpn, hak, hmk, hap⟩ := hw
  refine pe_blk mm_121 1 (s' := (1, [some (.ref b), some (.int k)], [.int k], _, _, _)) rfl ?_
  by_cases q1 : k < 0
  · rw [if_pos q1]
    refine pe_blk mm_121 1 (s' := (if k < 0 then 21 else 4, [some (.ref b), some (.int k)], [], _, _, _)) rfl ?_
    rw [if_pos q1]
    refine pe_blk mm_121 1 (s' := (22, [some (.ref b), some (.int k)], [.int (-1)], _, _, _)) rfl ?_
    exact pe_ret mm_121 rfl rfl
  · rw [if_neg q1]
    refine pe_blk mm_121 1 (s' := (if k < 0 then 21 else 4, [some (.ref b), some (.int k)], [], _, _, _)) rfl ?_
    rw [if_neg q1]
    refine pe_blk mm_121 2 (s' := (6, [some (.ref b), some (.int k)], [.ref b, .int k], _, _, _)) rfl ?_
    refine pe_get mm_121 rfl rfl v0 (by omega) rfl ?_
    by_cases q2 : sz ≤ k
    · rw [if_pos q2]
      refine pe_blk mm_121 1 (s' := (if sz ≤ k then 21 else 12, [some (.ref b), some (.int k)], [], _, _, _)) rfl ?_
      rw [if_pos q2]
      refine pe_blk mm_121 1 (s' := (22, [some (.ref b), some (.int k)], [.int (-1)], _, _, _)) rfl ?_
      exact pe_ret mm_121 rfl rfl
    · rw [if_neg q2]
      refine pe_blk mm_121 1 (s' := (if sz ≤ k then 21 else 12, [some (.ref b), some (.int k)], [], _, _, _)) rfl ?_
      rw [if_neg q2]
      refine pe_blk mm_121 1 (s' := (13, [some (.ref b), some (.int k)], [.ref b], _, _, _)) rfl ?_
      refine pe_get mm_121 rfl rfl v0 (by omega) rfl ?_
      refine pe_blk mm_121 1 (s' := (17, [some (.ref b), some (.int k)], [.int k, .ref (b + 3)], _, _, _)) rfl ?_
      have k0 : (0 : Int32).toInt = 0 := rfl
      have t_q1 : ¬ (k : Int32).toInt < (0 : Int32).toInt := fun z => q1 (Int32.lt_iff_toInt_lt.mpr z)
      have t_q2 : ¬ (sz : Int32).toInt ≤ (k : Int32).toInt := fun z => q2 (Int32.le_iff_toInt_le.mpr z)
      refine pe_iald mm_121 rfl v3 (by omega) (ixp (by omega) (by omega)) ?_
      refine pe_blk mm_121 1 (s' := (22, [some (.ref b), some (.int k)], [.int (ak (k : Int32).toNatClampNeg)], _, _, _)) rfl ?_
      exact pe_ret mm_121 rfl rfl
set_option maxRecDepth 100000 in
set_option maxHeartbeats 4000000 in
theorem outerOrder_D (sc : Option (Nat × (Nat → Int32))) (d : Nat) {h : Nat → va_E} (b : Nat) (sz ac : Int32) (cd pn ak mk od ap : Nat → Int32) (hv : vD h b sz ac cd pn ak mk od ap) (hw : wD sz ac pn ak mk ap) (k : Int32) (h_k : -1000 ≤ k.toInt ∧ k.toInt ≤ 1000) : pm_ev pmT sc d 123 false (0, [some (.ref b), some (.int k)], [], 129, 17845, h) (some (.int (if k < 0 then (-1) else if sz ≤ k then (-1) else if (ak (k : Int32).toNatClampNeg) = (-1) then od (k : Int32).toNatClampNeg else (-1))), 129, 17845, h) := by
  obtain ⟨hb, v0, v1, v2, v3, v4, v5, v6⟩ := hv
  obtain ⟨⟨hs0, hs1⟩, ⟨ha0, ha1⟩, hpn, hak, hmk, hap⟩ := hw
  refine pe_blk mm_123 1 (s' := (1, [some (.ref b), some (.int k)], [.int k], _, _, _)) rfl ?_
  by_cases q1 : k < 0
  · rw [if_pos q1]
    refine pe_blk mm_123 1 (s' := (if k < 0 then 22 else 4, [some (.ref b), some (.int k)], [], _, _, _)) rfl ?_
    rw [if_pos q1]
    refine pe_blk mm_123 1 (s' := (23, [some (.ref b), some (.int k)], [.int (-1)], _, _, _)) rfl ?_
    exact pe_ret mm_123 rfl rfl
  · rw [if_neg q1]
    refine pe_blk mm_123 1 (s' := (if k < 0 then 22 else 4, [some (.ref b), some (.int k)], [], _, _, _)) rfl ?_
    rw [if_neg q1]
    refine pe_blk mm_123 2 (s' := (6, [some (.ref b), some (.int k)], [.ref b, .int k], _, _, _)) rfl ?_
    refine pe_get mm_123 rfl rfl v0 (by omega) rfl ?_
    by_cases q2 : sz ≤ k
    · rw [if_pos q2]
      refine pe_blk mm_123 1 (s' := (if sz ≤ k then 22 else 12, [some (.ref b), some (.int k)], [], _, _, _)) rfl ?_
      rw [if_pos q2]
      refine pe_blk mm_123 1 (s' := (23, [some (.ref b), some (.int k)], [.int (-1)], _, _, _)) rfl ?_
      exact pe_ret mm_123 rfl rfl
    · rw [if_neg q2]
      refine pe_blk mm_123 1 (s' := (if sz ≤ k then 22 else 12, [some (.ref b), some (.int k)], [], _, _, _)) rfl ?_
      rw [if_neg q2]
      refine pe_blk mm_123 1 (s' := (13, [some (.ref b), some (.int k)], [.ref b], _, _, _)) rfl ?_
      refine pe_get mm_123 rfl rfl v0 (by omega) rfl ?_
      refine pe_blk mm_123 1 (s' := (17, [some (.ref b), some (.int k)], [.int k, .ref (b + 3)], _, _, _)) rfl ?_
      have k0 : (0 : Int32).toInt = 0 := rfl
      have t_q1 : ¬ (k : Int32).toInt < (0 : Int32).toInt := fun z => q1 (Int32.lt_iff_toInt_lt.mpr z)
      have t_q2 : ¬ (sz : Int32).toInt ≤ (k : Int32).toInt := fun z => q2 (Int32.le_iff_toInt_le.mpr z)
      refine pe_iald mm_123 rfl v3 (by omega) (ixp (by omega) (by omega)) ?_
      refine pe_blk mm_123 1 (s' := (19, [some (.ref b), some (.int k)], [.int (-1), .int (ak (k : Int32).toNatClampNeg)], _, _, _)) rfl ?_
      by_cases q3 : (ak (k : Int32).toNatClampNeg) = (-1)
      · rw [if_pos q3]
        refine pe_blk mm_123 1 (s' := (if (ak (k : Int32).toNatClampNeg) = (-1) then 24 else 22, [some (.ref b), some (.int k)], [], _, _, _)) rfl ?_
        rw [if_pos q3]
        refine pe_blk mm_123 1 (s' := (25, [some (.ref b), some (.int k)], [.ref b], _, _, _)) rfl ?_
        refine pe_get mm_123 rfl rfl v0 (by omega) rfl ?_
        refine pe_blk mm_123 1 (s' := (29, [some (.ref b), some (.int k)], [.int k, .ref (b + 5)], _, _, _)) rfl ?_
        have km1 : (-1 : Int32).toInt = -1 := rfl
        have k0 : (0 : Int32).toInt = 0 := rfl
        have r1 := hak (k : Int32).toNatClampNeg
        have t_q1 : ¬ (k : Int32).toInt < (0 : Int32).toInt := fun z => q1 (Int32.lt_iff_toInt_lt.mpr z)
        have t_q2 : ¬ (sz : Int32).toInt ≤ (k : Int32).toInt := fun z => q2 (Int32.le_iff_toInt_le.mpr z)
        refine pe_iald mm_123 rfl v5 (by omega) (ixp (by omega) (by omega)) ?_
        exact pe_ret mm_123 rfl rfl
      · rw [if_neg q3]
        refine pe_blk mm_123 1 (s' := (if (ak (k : Int32).toNatClampNeg) = (-1) then 24 else 22, [some (.ref b), some (.int k)], [], _, _, _)) rfl ?_
        rw [if_neg q3]
        refine pe_blk mm_123 1 (s' := (23, [some (.ref b), some (.int k)], [.int (-1)], _, _, _)) rfl ?_
        exact pe_ret mm_123 rfl rfl
set_option maxRecDepth 100000 in
set_option maxHeartbeats 4000000 in
theorem orderAround_D (sc : Option (Nat × (Nat → Int32))) (d : Nat) {h : Nat → va_E} (b : Nat) (sz ac : Int32) (cd pn ak mk od ap : Nat → Int32) (hv : vD h b sz ac cd pn ak mk od ap) (hw : wD sz ac pn ak mk ap) (k : Int32) (h_k : -1000 ≤ k.toInt ∧ k.toInt ≤ 1000) : pm_ev pmT sc d 124 false (0, [some (.ref b), some (.int k), none], [], 129, 17845, h) (some (.int (if k < 0 then (-1) else if sz ≤ k then (-1) else if 0 ≤ (ak (k : Int32).toNatClampNeg) then if 0 ≤ (ak ((ak (k : Int32).toNatClampNeg) : Int32).toNatClampNeg) then od ((ak ((ak (k : Int32).toNatClampNeg) : Int32).toNatClampNeg) : Int32).toNatClampNeg else od ((ak (k : Int32).toNatClampNeg) : Int32).toNatClampNeg else (-1))), 129, 17845, h) := by
  obtain ⟨hb, v0, v1, v2, v3, v4, v5, v6⟩ := hv
  obtain ⟨⟨hs0, hs1⟩, ⟨ha0, ha1⟩, hpn, hak, hmk, hap⟩ := hw
  refine pe_blk mm_124 1 (s' := (1, [some (.ref b), some (.int k), none], [.int k], _, _, _)) rfl ?_
  by_cases q1 : k < 0
  · rw [if_pos q1]
    refine pe_blk mm_124 1 (s' := (if k < 0 then 21 else 4, [some (.ref b), some (.int k), none], [], _, _, _)) rfl ?_
    rw [if_pos q1]
    refine pe_blk mm_124 1 (s' := (22, [some (.ref b), some (.int k), none], [.int (-1)], _, _, _)) rfl ?_
    exact pe_ret mm_124 rfl rfl
  · rw [if_neg q1]
    refine pe_blk mm_124 1 (s' := (if k < 0 then 21 else 4, [some (.ref b), some (.int k), none], [], _, _, _)) rfl ?_
    rw [if_neg q1]
    refine pe_blk mm_124 2 (s' := (6, [some (.ref b), some (.int k), none], [.ref b, .int k], _, _, _)) rfl ?_
    refine pe_get mm_124 rfl rfl v0 (by omega) rfl ?_
    by_cases q2 : sz ≤ k
    · rw [if_pos q2]
      refine pe_blk mm_124 1 (s' := (if sz ≤ k then 21 else 12, [some (.ref b), some (.int k), none], [], _, _, _)) rfl ?_
      rw [if_pos q2]
      refine pe_blk mm_124 1 (s' := (22, [some (.ref b), some (.int k), none], [.int (-1)], _, _, _)) rfl ?_
      exact pe_ret mm_124 rfl rfl
    · rw [if_neg q2]
      refine pe_blk mm_124 1 (s' := (if sz ≤ k then 21 else 12, [some (.ref b), some (.int k), none], [], _, _, _)) rfl ?_
      rw [if_neg q2]
      refine pe_blk mm_124 1 (s' := (13, [some (.ref b), some (.int k), none], [.ref b], _, _, _)) rfl ?_
      refine pe_get mm_124 rfl rfl v0 (by omega) rfl ?_
      refine pe_blk mm_124 1 (s' := (17, [some (.ref b), some (.int k), none], [.int k, .ref (b + 3)], _, _, _)) rfl ?_
      have k0 : (0 : Int32).toInt = 0 := rfl
      have t_q1 : ¬ (k : Int32).toInt < (0 : Int32).toInt := fun z => q1 (Int32.lt_iff_toInt_lt.mpr z)
      have t_q2 : ¬ (sz : Int32).toInt ≤ (k : Int32).toInt := fun z => q2 (Int32.le_iff_toInt_le.mpr z)
      refine pe_iald mm_124 rfl v3 (by omega) (ixp (by omega) (by omega)) ?_
      by_cases q3 : 0 ≤ (ak (k : Int32).toNatClampNeg)
      · rw [if_pos q3]
        refine pe_blk mm_124 1 (s' := (if 0 ≤ (ak (k : Int32).toNatClampNeg) then 23 else 21, [some (.ref b), some (.int k), none], [], _, _, _)) rfl ?_
        rw [if_pos q3]
        refine pe_blk mm_124 1 (s' := (24, [some (.ref b), some (.int k), none], [.ref b], _, _, _)) rfl ?_
        refine pe_get mm_124 rfl rfl v0 (by omega) rfl ?_
        refine pe_blk mm_124 1 (s' := (28, [some (.ref b), some (.int k), none], [.int k, .ref (b + 3)], _, _, _)) rfl ?_
        have k0 : (0 : Int32).toInt = 0 := rfl
        have r1 := hak (k : Int32).toNatClampNeg
        have t_q1 : ¬ (k : Int32).toInt < (0 : Int32).toInt := fun z => q1 (Int32.lt_iff_toInt_lt.mpr z)
        have t_q2 : ¬ (sz : Int32).toInt ≤ (k : Int32).toInt := fun z => q2 (Int32.le_iff_toInt_le.mpr z)
        have t_q3 := Int32.le_iff_toInt_le.mp q3
        refine pe_iald mm_124 rfl v3 (by omega) (ixp (by omega) (by omega)) ?_
        refine pe_blk mm_124 2 (s' := (31, [some (.ref b), some (.int k), some (.int (ak (k : Int32).toNatClampNeg))], [.ref b], _, _, _)) rfl ?_
        refine pe_get mm_124 rfl rfl v0 (by omega) rfl ?_
        refine pe_blk mm_124 1 (s' := (35, [some (.ref b), some (.int k), some (.int (ak (k : Int32).toNatClampNeg))], [.int (ak (k : Int32).toNatClampNeg), .ref (b + 3)], _, _, _)) rfl ?_
        have k0 : (0 : Int32).toInt = 0 := rfl
        have r1 := hak (k : Int32).toNatClampNeg
        have t_q1 : ¬ (k : Int32).toInt < (0 : Int32).toInt := fun z => q1 (Int32.lt_iff_toInt_lt.mpr z)
        have t_q2 : ¬ (sz : Int32).toInt ≤ (k : Int32).toInt := fun z => q2 (Int32.le_iff_toInt_le.mpr z)
        have t_q3 := Int32.le_iff_toInt_le.mp q3
        refine pe_iald mm_124 rfl v3 (by omega) (ixp (by omega) (by omega)) ?_
        by_cases q4 : 0 ≤ (ak ((ak (k : Int32).toNatClampNeg) : Int32).toNatClampNeg)
        · rw [if_pos q4]
          refine pe_blk mm_124 1 (s' := (if 0 ≤ (ak ((ak (k : Int32).toNatClampNeg) : Int32).toNatClampNeg) then 48 else 39, [some (.ref b), some (.int k), some (.int (ak (k : Int32).toNatClampNeg))], [], _, _, _)) rfl ?_
          rw [if_pos q4]
          refine pe_blk mm_124 1 (s' := (49, [some (.ref b), some (.int k), some (.int (ak (k : Int32).toNatClampNeg))], [.ref b], _, _, _)) rfl ?_
          refine pe_get mm_124 rfl rfl v0 (by omega) rfl ?_
          refine pe_blk mm_124 1 (s' := (53, [some (.ref b), some (.int k), some (.int (ak (k : Int32).toNatClampNeg))], [.ref b, .ref (b + 5)], _, _, _)) rfl ?_
          refine pe_get mm_124 rfl rfl v0 (by omega) rfl ?_
          refine pe_blk mm_124 1 (s' := (57, [some (.ref b), some (.int k), some (.int (ak (k : Int32).toNatClampNeg))], [.int (ak (k : Int32).toNatClampNeg), .ref (b + 3), .ref (b + 5)], _, _, _)) rfl ?_
          have k0 : (0 : Int32).toInt = 0 := rfl
          have r1 := hak (k : Int32).toNatClampNeg
          have r2 := hak ((ak (k : Int32).toNatClampNeg) : Int32).toNatClampNeg
          have t_q1 : ¬ (k : Int32).toInt < (0 : Int32).toInt := fun z => q1 (Int32.lt_iff_toInt_lt.mpr z)
          have t_q2 : ¬ (sz : Int32).toInt ≤ (k : Int32).toInt := fun z => q2 (Int32.le_iff_toInt_le.mpr z)
          have t_q3 := Int32.le_iff_toInt_le.mp q3
          have t_q4 := Int32.le_iff_toInt_le.mp q4
          refine pe_iald mm_124 rfl v3 (by omega) (ixp (by omega) (by omega)) ?_
          have k0 : (0 : Int32).toInt = 0 := rfl
          have r1 := hak (k : Int32).toNatClampNeg
          have r2 := hak ((ak (k : Int32).toNatClampNeg) : Int32).toNatClampNeg
          have t_q1 : ¬ (k : Int32).toInt < (0 : Int32).toInt := fun z => q1 (Int32.lt_iff_toInt_lt.mpr z)
          have t_q2 : ¬ (sz : Int32).toInt ≤ (k : Int32).toInt := fun z => q2 (Int32.le_iff_toInt_le.mpr z)
          have t_q3 := Int32.le_iff_toInt_le.mp q3
          have t_q4 := Int32.le_iff_toInt_le.mp q4
          refine pe_iald mm_124 rfl v5 (by omega) (ixp (by omega) (by omega)) ?_
          exact pe_ret mm_124 rfl rfl
        · rw [if_neg q4]
          refine pe_blk mm_124 1 (s' := (if 0 ≤ (ak ((ak (k : Int32).toNatClampNeg) : Int32).toNatClampNeg) then 48 else 39, [some (.ref b), some (.int k), some (.int (ak (k : Int32).toNatClampNeg))], [], _, _, _)) rfl ?_
          rw [if_neg q4]
          refine pe_blk mm_124 1 (s' := (40, [some (.ref b), some (.int k), some (.int (ak (k : Int32).toNatClampNeg))], [.ref b], _, _, _)) rfl ?_
          refine pe_get mm_124 rfl rfl v0 (by omega) rfl ?_
          refine pe_blk mm_124 1 (s' := (44, [some (.ref b), some (.int k), some (.int (ak (k : Int32).toNatClampNeg))], [.int (ak (k : Int32).toNatClampNeg), .ref (b + 5)], _, _, _)) rfl ?_
          have k0 : (0 : Int32).toInt = 0 := rfl
          have r1 := hak (k : Int32).toNatClampNeg
          have r2 := hak ((ak (k : Int32).toNatClampNeg) : Int32).toNatClampNeg
          have t_q1 : ¬ (k : Int32).toInt < (0 : Int32).toInt := fun z => q1 (Int32.lt_iff_toInt_lt.mpr z)
          have t_q2 : ¬ (sz : Int32).toInt ≤ (k : Int32).toInt := fun z => q2 (Int32.le_iff_toInt_le.mpr z)
          have t_q3 := Int32.le_iff_toInt_le.mp q3
          have t_q4 : ¬ (0 : Int32).toInt ≤ ((ak ((ak (k : Int32).toNatClampNeg) : Int32).toNatClampNeg) : Int32).toInt := fun z => q4 (Int32.le_iff_toInt_le.mpr z)
          refine pe_iald mm_124 rfl v5 (by omega) (ixp (by omega) (by omega)) ?_
          refine pe_blk mm_124 1 (s' := (59, [some (.ref b), some (.int k), some (.int (ak (k : Int32).toNatClampNeg))], [.int (od ((ak (k : Int32).toNatClampNeg) : Int32).toNatClampNeg)], _, _, _)) rfl ?_
          exact pe_ret mm_124 rfl rfl
      · rw [if_neg q3]
        refine pe_blk mm_124 1 (s' := (if 0 ≤ (ak (k : Int32).toNatClampNeg) then 23 else 21, [some (.ref b), some (.int k), none], [], _, _, _)) rfl ?_
        rw [if_neg q3]
        refine pe_blk mm_124 1 (s' := (22, [some (.ref b), some (.int k), none], [.int (-1)], _, _, _)) rfl ?_
        exact pe_ret mm_124 rfl rfl
