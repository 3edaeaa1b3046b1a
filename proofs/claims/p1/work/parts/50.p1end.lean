set_option maxRecDepth 100000 in
set_option maxHeartbeats 4000000 in
theorem p1_0_1 (d : Nat) (xs : Nat → Int32) (h : Nat → va_E) (hi : pm_init h) (hn : xs 2 = 1) : ∃ h' : Nat → va_E, pm_ev pmT (some (3, xs)) (d + 10) 214 true (32, [some (.retAddr 0), some (.ref 0), some (.ref 83), some (.int 0)], [.int 0], 129, 17845, h) (some (.int 1), 129, 17845, h') := by
  by_cases a0 : ((((xs 1)).toUInt32 >>> ((0 : Int32).toUInt32 &&& Int32.toUInt32 31)).toInt32) &&& 255 < 32
  · exact p1_0_1_0lo d xs h hi hn _ rfl (by_0 _) a0
  by_cases c0 : ((((xs 1)).toUInt32 >>> ((0 : Int32).toUInt32 &&& Int32.toUInt32 31)).toInt32) &&& 255 ≤ 126
  case neg =>
    exact p1_0_1_0hi d xs h hi hn _ rfl (by_0 _) a0 c0 (ii_7 c0)
  exact p1_0_1_1ok d xs h hi hn _ rfl (by_0 _) a0 c0 (ii_6 c0)
set_option maxRecDepth 100000 in
set_option maxHeartbeats 4000000 in
theorem p1_0_2 (d : Nat) (xs : Nat → Int32) (h : Nat → va_E) (hi : pm_init h) (hn : xs 2 = 2) : ∃ h' : Nat → va_E, pm_ev pmT (some (3, xs)) (d + 10) 214 true (32, [some (.retAddr 0), some (.ref 0), some (.ref 83), some (.int 0)], [.int 0], 129, 17845, h) (some (.int 1), 129, 17845, h') := by
  by_cases a0 : ((((xs 1)).toUInt32 >>> ((0 : Int32).toUInt32 &&& Int32.toUInt32 31)).toInt32) &&& 255 < 32
  · exact p1_0_2_0lo d xs h hi hn _ rfl (by_0 _) a0 _ rfl (by_1 _)
  by_cases c0 : ((((xs 1)).toUInt32 >>> ((0 : Int32).toUInt32 &&& Int32.toUInt32 31)).toInt32) &&& 255 ≤ 126
  case neg =>
    exact p1_0_2_0hi d xs h hi hn _ rfl (by_0 _) a0 c0 (ii_7 c0) _ rfl (by_1 _)
  by_cases a1 : ((((xs 1)).toUInt32 >>> ((8 : Int32).toUInt32 &&& Int32.toUInt32 31)).toInt32) &&& 255 < 32
  · exact p1_0_2_1lo d xs h hi hn _ rfl (by_0 _) a0 c0 (ii_6 c0) _ rfl (by_1 _) a1
  by_cases c1 : ((((xs 1)).toUInt32 >>> ((8 : Int32).toUInt32 &&& Int32.toUInt32 31)).toInt32) &&& 255 ≤ 126
  case neg =>
    exact p1_0_2_1hi d xs h hi hn _ rfl (by_0 _) a0 c0 (ii_6 c0) _ rfl (by_1 _) a1 c1 (ii_7 c1)
  exact p1_0_2_2ok d xs h hi hn _ rfl (by_0 _) a0 c0 (ii_6 c0) _ rfl (by_1 _) a1 c1 (ii_6 c1)
set_option maxRecDepth 100000 in
set_option maxHeartbeats 4000000 in
theorem p1_0_3 (d : Nat) (xs : Nat → Int32) (h : Nat → va_E) (hi : pm_init h) (hn : xs 2 = 3) : ∃ h' : Nat → va_E, pm_ev pmT (some (3, xs)) (d + 10) 214 true (32, [some (.retAddr 0), some (.ref 0), some (.ref 83), some (.int 0)], [.int 0], 129, 17845, h) (some (.int 1), 129, 17845, h') := by
  by_cases a0 : ((((xs 1)).toUInt32 >>> ((0 : Int32).toUInt32 &&& Int32.toUInt32 31)).toInt32) &&& 255 < 32
  · exact p1_0_3_0lo d xs h hi hn _ rfl (by_0 _) a0 _ rfl (by_1 _) _ rfl (by_2 _)
  by_cases c0 : ((((xs 1)).toUInt32 >>> ((0 : Int32).toUInt32 &&& Int32.toUInt32 31)).toInt32) &&& 255 ≤ 126
  case neg =>
    exact p1_0_3_0hi d xs h hi hn _ rfl (by_0 _) a0 c0 (ii_7 c0) _ rfl (by_1 _) _ rfl (by_2 _)
  by_cases a1 : ((((xs 1)).toUInt32 >>> ((8 : Int32).toUInt32 &&& Int32.toUInt32 31)).toInt32) &&& 255 < 32
  · exact p1_0_3_1lo d xs h hi hn _ rfl (by_0 _) a0 c0 (ii_6 c0) _ rfl (by_1 _) a1 _ rfl (by_2 _)
  by_cases c1 : ((((xs 1)).toUInt32 >>> ((8 : Int32).toUInt32 &&& Int32.toUInt32 31)).toInt32) &&& 255 ≤ 126
  case neg =>
    exact p1_0_3_1hi d xs h hi hn _ rfl (by_0 _) a0 c0 (ii_6 c0) _ rfl (by_1 _) a1 c1 (ii_7 c1) _ rfl (by_2 _)
  by_cases a2 : ((((xs 1)).toUInt32 >>> ((16 : Int32).toUInt32 &&& Int32.toUInt32 31)).toInt32) &&& 255 < 32
  · exact p1_0_3_2lo d xs h hi hn _ rfl (by_0 _) a0 c0 (ii_6 c0) _ rfl (by_1 _) a1 c1 (ii_6 c1) _ rfl (by_2 _) a2
  by_cases c2 : ((((xs 1)).toUInt32 >>> ((16 : Int32).toUInt32 &&& Int32.toUInt32 31)).toInt32) &&& 255 ≤ 126
  case neg =>
    exact p1_0_3_2hi d xs h hi hn _ rfl (by_0 _) a0 c0 (ii_6 c0) _ rfl (by_1 _) a1 c1 (ii_6 c1) _ rfl (by_2 _) a2 c2 (ii_7 c2)
  exact p1_0_3_3ok d xs h hi hn _ rfl (by_0 _) a0 c0 (ii_6 c0) _ rfl (by_1 _) a1 c1 (ii_6 c1) _ rfl (by_2 _) a2 c2 (ii_6 c2)
set_option maxRecDepth 100000 in
set_option maxHeartbeats 4000000 in
theorem p1_0_4 (d : Nat) (xs : Nat → Int32) (h : Nat → va_E) (hi : pm_init h) (hn : xs 2 = 4) : ∃ h' : Nat → va_E, pm_ev pmT (some (3, xs)) (d + 10) 214 true (32, [some (.retAddr 0), some (.ref 0), some (.ref 83), some (.int 0)], [.int 0], 129, 17845, h) (some (.int 1), 129, 17845, h') := by
  by_cases a0 : ((((xs 1)).toUInt32 >>> ((0 : Int32).toUInt32 &&& Int32.toUInt32 31)).toInt32) &&& 255 < 32
  · exact p1_0_4_0lo d xs h hi hn _ rfl (by_0 _) a0 _ rfl (by_1 _) _ rfl (by_2 _) _ rfl (by_3 _)
  by_cases c0 : ((((xs 1)).toUInt32 >>> ((0 : Int32).toUInt32 &&& Int32.toUInt32 31)).toInt32) &&& 255 ≤ 126
  case neg =>
    exact p1_0_4_0hi d xs h hi hn _ rfl (by_0 _) a0 c0 (ii_7 c0) _ rfl (by_1 _) _ rfl (by_2 _) _ rfl (by_3 _)
  by_cases a1 : ((((xs 1)).toUInt32 >>> ((8 : Int32).toUInt32 &&& Int32.toUInt32 31)).toInt32) &&& 255 < 32
  · exact p1_0_4_1lo d xs h hi hn _ rfl (by_0 _) a0 c0 (ii_6 c0) _ rfl (by_1 _) a1 _ rfl (by_2 _) _ rfl (by_3 _)
  by_cases c1 : ((((xs 1)).toUInt32 >>> ((8 : Int32).toUInt32 &&& Int32.toUInt32 31)).toInt32) &&& 255 ≤ 126
  case neg =>
    exact p1_0_4_1hi d xs h hi hn _ rfl (by_0 _) a0 c0 (ii_6 c0) _ rfl (by_1 _) a1 c1 (ii_7 c1) _ rfl (by_2 _) _ rfl (by_3 _)
  by_cases a2 : ((((xs 1)).toUInt32 >>> ((16 : Int32).toUInt32 &&& Int32.toUInt32 31)).toInt32) &&& 255 < 32
  · exact p1_0_4_2lo d xs h hi hn _ rfl (by_0 _) a0 c0 (ii_6 c0) _ rfl (by_1 _) a1 c1 (ii_6 c1) _ rfl (by_2 _) a2 _ rfl (by_3 _)
  by_cases c2 : ((((xs 1)).toUInt32 >>> ((16 : Int32).toUInt32 &&& Int32.toUInt32 31)).toInt32) &&& 255 ≤ 126
  case neg =>
    exact p1_0_4_2hi d xs h hi hn _ rfl (by_0 _) a0 c0 (ii_6 c0) _ rfl (by_1 _) a1 c1 (ii_6 c1) _ rfl (by_2 _) a2 c2 (ii_7 c2) _ rfl (by_3 _)
  by_cases a3 : ((((xs 1)).toUInt32 >>> ((24 : Int32).toUInt32 &&& Int32.toUInt32 31)).toInt32) &&& 255 < 32
  · exact p1_0_4_3lo d xs h hi hn _ rfl (by_0 _) a0 c0 (ii_6 c0) _ rfl (by_1 _) a1 c1 (ii_6 c1) _ rfl (by_2 _) a2 c2 (ii_6 c2) _ rfl (by_3 _) a3
  by_cases c3 : ((((xs 1)).toUInt32 >>> ((24 : Int32).toUInt32 &&& Int32.toUInt32 31)).toInt32) &&& 255 ≤ 126
  case neg =>
    exact p1_0_4_3hi d xs h hi hn _ rfl (by_0 _) a0 c0 (ii_6 c0) _ rfl (by_1 _) a1 c1 (ii_6 c1) _ rfl (by_2 _) a2 c2 (ii_6 c2) _ rfl (by_3 _) a3 c3 (ii_7 c3)
  exact p1_0_4_4ok d xs h hi hn _ rfl (by_0 _) a0 c0 (ii_6 c0) _ rfl (by_1 _) a1 c1 (ii_6 c1) _ rfl (by_2 _) a2 c2 (ii_6 c2) _ rfl (by_3 _) a3 c3 (ii_6 c3)
set_option maxRecDepth 100000 in
set_option maxHeartbeats 4000000 in
theorem p1_0 (d : Nat) (xs : Nat → Int32) (h : Nat → va_E) (hi : pm_init h) : ∃ h' : Nat → va_E, pm_ev pmT (some (3, xs)) (d + 10) 214 true (32, [some (.retAddr 0), some (.ref 0), some (.ref 83), some (.int 0)], [.int 0], 129, 17845, h) (some (.int 1), 129, 17845, h') := by
  by_cases h1 : xs 2 < 1
  · by_cases h3 : xs 2 - 1 < 0
    · exact p1_0lox d xs h hi h1 (ii_1 h1) h3
    · exact p1_0loy d xs h hi h1 (ii_1 h1) h3
  · by_cases h4 : 4 < xs 2
    · by_cases h3 : xs 2 - 1 < 0
      · exact p1_0hix d xs h hi h1 h4 (ii_2 h1) h3
      · exact p1_0hiy d xs h hi h1 h4 (ii_2 h1) h3
    · rcases ii_8 h1 h4 with hn | hn | hn | hn
      · exact p1_0_1 d xs h hi hn
      · exact p1_0_2 d xs h hi hn
      · exact p1_0_3 d xs h hi hn
      · exact p1_0_4 d xs h hi hn
set_option maxRecDepth 100000 in
set_option maxHeartbeats 4000000 in
theorem p1_sw (xs : Nat → Int32) (h : Nat → va_E) (hi : pm_init h) : ∃ h' : Nat → va_E, pm_ev pmT (some (3, xs)) 10 214 true (32, [some (.retAddr 0), some (.ref 0), some (.ref 83), some (.int 0)], [.int (xs 0 &&& 15)], 129, 17845, h) (some (.int 1), 129, 17845, h') := by
  obtain ⟨j, hj, hx⟩ := pk_andE (xs 0) (m := 15) 4 rfl
  rw [hx]
  have hj : j < 16 := hj
  rcases (show j = 0 ∨ j = 1 ∨ j = 2 ∨ j = 3 ∨ j = 4 ∨ j = 5 ∨ j = 6 ∨ j = 7 ∨ j = 8 ∨ j = 9 ∨ j = 10 ∨ j = 11 ∨ j = 12 ∨ j = 13 ∨ j = 14 ∨ j = 15 by omega) with rfl | rfl | rfl | rfl | rfl | rfl | rfl | rfl | rfl | rfl | rfl | rfl | rfl | rfl | rfl | rfl
  · exact p1_0 0 xs h hi
  · exact p1_1 0 xs h hi
  · exact p1_2 0 xs h hi
  · exact p1_3 0 xs h hi
  · by_cases hk : xs 1 < 0
    · exact p1_4a 0 xs h hi hk
    · exact p1_4b 0 xs h hi hk (ii_3 hk) (ii_4 hk)
  · by_cases hk : xs 1 < 0
    · exact p1_5a 0 xs h hi hk
    · exact p1_5b 0 xs h hi hk (ii_3 hk) (ii_4 hk)
  · by_cases hk : xs 1 < 0
    · exact p1_6a 0 xs h hi hk
    · exact p1_6b 0 xs h hi hk (ii_3 hk) (ii_4 hk)
  · by_cases hk : xs 1 < 0
    · exact p1_7a 0 xs h hi hk
    · exact p1_7b 0 xs h hi hk (ii_3 hk) (ii_4 hk)
  · exact p1_8 0 xs h hi
  · by_cases hk : xs 1 < 1
    · exact p1_9a 0 xs h hi hk
    · exact p1_9b 0 xs h hi hk (ii_5 hk)
  · exact p1_10 0 xs h hi
  · exact p1_11 0 xs h hi
  · exact p1_12 0 xs h hi
  · exact p1_13 0 xs h hi
  · exact p1_14 0 xs h hi
  · exact p1_15 0 xs h hi
set_option maxRecDepth 100000 in
set_option maxHeartbeats 4000000 in
theorem pm_whole (L : Nat) (xs : Nat → Int32) (hL : L ≤ 3) : ∃ (d N' S' : Nat) (h' : Nat → va_E), d ≤ 1400 ∧ N' ≤ 600000 ∧ S' ≤ 7302250 ∧ pm_ev pmT (some (L, xs)) d pm_law true (0, [some (.retAddr 0), none, none, none], [], 0, 0, pm_h0) (some (.int 1), N', S', h') := by
  obtain ⟨h, hi, hstart⟩ := law_init (some (L, xs)) 0
  have hs : ∃ h' : Nat → va_E, pm_ev pmT (some (L, xs)) 10 214 true (18, [some (.retAddr 0), some (.ref 0), some (.ref 83), some (.int 0)], [], 129, 17845, h) (some (.int 1), 129, 17845, h') := by
    rcases (show L = 0 ∨ L = 1 ∨ L = 2 ∨ L = 3 by omega) with rfl | rfl | rfl | rfl
    · exact ⟨h, 50, rfl⟩
    · exact ⟨h, 50, rfl⟩
    · exact ⟨h, 50, rfl⟩
    · obtain ⟨h', e⟩ := p1_sw xs h hi
      exact ⟨h', pm_ev_many 11 rfl e⟩
  obtain ⟨h', e⟩ := hs
  exact ⟨10, 129, 17845, h', by decide, by decide, by decide, hstart _ e⟩
