set_option maxRecDepth 100000 in
set_option maxHeartbeats 4000000 in
theorem p1_0_3_1lo (d : Nat) (xs : Nat → Int32) (h : Nat → va_E) (hi : pm_init h) (hn : xs 2 = 3) (b0 : Int32) (hc0 : ((((xs 1)).toUInt32 >>> ((0 : Int32).toUInt32 &&& Int32.toUInt32 31)).toInt32) &&& 255 = b0) (hm0 : ((xs 1) >>> (0 &&& 31)) &&& 255 = b0) (a0 : ¬ b0 < 32) (c0 : b0 ≤ 126) (e0 : ¬ 126 < b0) (b1 : Int32) (hc1 : ((((xs 1)).toUInt32 >>> ((8 : Int32).toUInt32 &&& Int32.toUInt32 31)).toInt32) &&& 255 = b1) (hm1 : ((xs 1) >>> (8 &&& 31)) &&& 255 = b1) (a1 : b1 < 32) (b2 : Int32) (hc2 : ((((xs 1)).toUInt32 >>> ((16 : Int32).toUInt32 &&& Int32.toUInt32 31)).toInt32) &&& 255 = b2) (hm2 : ((xs 1) >>> (16 &&& 31)) &&& 255 = b2) : ∃ h' : Nat → va_E, pm_ev pmT (some (3, xs)) (d + 10) 214 true (32, [some (.retAddr 0), some (.ref 0), some (.ref 83), some (.int 0)], [.int 0], 129, 17845, h) (some (.int 1), 129, 17845, h') := by
  obtain ⟨f0, f1, f2, f3, f4, f5, f6, f7, f8, f9, f10, f11, f12, f13, f14, f15, f16, f17, f18, f19, f20, f21, f22, f23, f24, f25, f26, f27, f28, f29, f30, f31, f32, f33, f34, f35, f36, f37, f38, f39, f40, f41, f42, f43, f44, f45, f46, f47, f48, f49, f50, f51, f52, f53, f54, f55, f56, f57, f58, f59, f60, f61, f62, f63, f64, f65, f66, f67, f68, f69, f70, f71, f72, f73, f74, f75, f76, f77, f78, f79, f80, f81, f82, f83, f84, f85, f86, f87, f88, f89, f90, f91, f92, f93, f94, f95, f96, f97, f98, f99, f100, f101, f102, f103, f104, f105, f106, f107, f108, f109, f110, f111, f112, f113, f114, f115, f116, f117, f118, f119, f120, f121, f122, f123, f124, f125, f126, f127, f128⟩ := hi
  refine ⟨h, ?_⟩
  refine pm_ev_many 12 (s' := (99, [some (.retAddr 0), some (.ref 0), some (.ref 83), some (.int 0)], [.int (xs 2), .int (xs 1), .ref 0], _, _, _)) rfl ?_
  rw [hn]
  refine pe_virt (al := [.int 3, .int (xs 1)]) (a := 0) (L0 := [some (.ref 0), some (.int (xs 1)), some (.int 3)]) (r1 := (some (.int 0), 129, 17845, h)) rfl rfl rfl rfl rfl f0 (by decide) rfl (Nat.le_of_ble_eq_true rfl) (Nat.le_of_ble_eq_true rfl) rfl rfl ?_ ?_
  · refine pm_ev_many 1 (s' := (1, [some (.ref 0), some (.int (xs 1)), some (.int 3)], [.ref 0], _, _, _)) rfl ?_
    refine pe_get rfl rfl rfl f0 (by decide) rfl ?_
    refine pm_ev_many 2 (s' := (6, [some (.ref 0), some (.int (xs 1)), some (.int 3)], [.int 3, .int (xs 1), .ref 1], _, _, _)) rfl ?_
    refine pe_virt (al := [.int 3, .int (xs 1)]) (a := 1) (L0 := [some (.ref 1), some (.int (xs 1)), some (.int 3), none, none]) (r1 := (some (.int 0), 129, 17845, h)) rfl rfl rfl rfl rfl f1 (by decide) rfl (Nat.le_of_ble_eq_true rfl) (Nat.le_of_ble_eq_true rfl) rfl rfl ?_ ?_
    · refine pm_ev_many 7 (s' := (11, [some (.ref 1), some (.int (xs 1)), some (.int 3), none, none], [.ref 1], _, _, _)) rfl ?_
      refine pe_get rfl rfl rfl f1 (by decide) rfl ?_
      refine pm_ev_many 11 (s' := (32, [some (.ref 1), some (.int (xs 1)), some (.int 3), some (.int 0), none], [.int 0, .int (xs 1)], _, _, _)) rfl ?_
      refine pe_stat (al := [.int 0, .int (xs 1)]) (L0 := [some (.int (xs 1)), some (.int 0)]) (r1 := (some (.int b0), 129, 17845, h)) rfl rfl rfl rfl rfl rfl (Nat.le_of_ble_eq_true rfl) (Nat.le_of_ble_eq_true rfl) rfl rfl ?_ ?_
      · refine pm_ev_many 7 (s' := (10, [some (.int (xs 1)), some (.int 0)], [.int (((((xs 1)).toUInt32 >>> ((0 : Int32).toUInt32 &&& Int32.toUInt32 31)).toInt32) &&& 255)], _, _, _)) rfl ?_
        rw [hc0]
        exact pm_ev_ret rfl
      show pm_ev _ _ _ _ _ (35, [some (.ref 1), some (.int (xs 1)), some (.int 3), some (.int 0), none], [.int b0], _, _, _) _
      refine pm_ev_many 3 (s' := (41, [some (.ref 1), some (.int (xs 1)), some (.int 3), some (.int 0), some (.int b0)], [.int 32, .int b0], _, _, _)) rfl ?_
      refine pm_ev_many 1 (s' := (if b0 < 32 then 51 else 44, [some (.ref 1), some (.int (xs 1)), some (.int 3), some (.int 0), some (.int b0)], [], _, _, _)) rfl ?_
      rw [if_neg a0]
      refine pm_ev_many 2 (s' := (48, [some (.ref 1), some (.int (xs 1)), some (.int 3), some (.int 0), some (.int b0)], [.int 126, .int b0], _, _, _)) rfl ?_
      refine pm_ev_many 1 (s' := (if b0 ≤ 126 then 53 else 51, [some (.ref 1), some (.int (xs 1)), some (.int 3), some (.int 0), some (.int b0)], [], _, _, _)) rfl ?_
      rw [if_pos c0]
      refine pm_ev_many 7 (s' := (32, [some (.ref 1), some (.int (xs 1)), some (.int 3), some (.int 1), some (.int b0)], [.int 1, .int (xs 1)], _, _, _)) rfl ?_
      refine pe_stat (al := [.int 1, .int (xs 1)]) (L0 := [some (.int (xs 1)), some (.int 1)]) (r1 := (some (.int b1), 129, 17845, h)) rfl rfl rfl rfl rfl rfl (Nat.le_of_ble_eq_true rfl) (Nat.le_of_ble_eq_true rfl) rfl rfl ?_ ?_
      · refine pm_ev_many 7 (s' := (10, [some (.int (xs 1)), some (.int 1)], [.int (((((xs 1)).toUInt32 >>> ((8 : Int32).toUInt32 &&& Int32.toUInt32 31)).toInt32) &&& 255)], _, _, _)) rfl ?_
        rw [hc1]
        exact pm_ev_ret rfl
      show pm_ev _ _ _ _ _ (35, [some (.ref 1), some (.int (xs 1)), some (.int 3), some (.int 1), some (.int b0)], [.int b1], _, _, _) _
      refine pm_ev_many 3 (s' := (41, [some (.ref 1), some (.int (xs 1)), some (.int 3), some (.int 1), some (.int b1)], [.int 32, .int b1], _, _, _)) rfl ?_
      refine pm_ev_many 1 (s' := (if b1 < 32 then 51 else 44, [some (.ref 1), some (.int (xs 1)), some (.int 3), some (.int 1), some (.int b1)], [], _, _, _)) rfl ?_
      rw [if_pos a1]
      refine pm_ev_many 1 (s' := (52, [some (.ref 1), some (.int (xs 1)), some (.int 3), some (.int 1), some (.int b1)], [.int 0], _, _, _)) rfl ?_
      exact pm_ev_ret rfl
    show pm_ev _ _ _ _ _ (9, [some (.ref 0), some (.int (xs 1)), some (.int 3)], [.int 0], _, _, _) _
    exact pm_ev_ret rfl
  show pm_ev _ _ _ _ _ (102, [some (.retAddr 0), some (.ref 0), some (.ref 83), some (.int 0)], [.int 0], _, _, _) _
  refine pm_ev_many 11 (s' := (113, [some (.retAddr 0), some (.ref 0), some (.ref 83), some (.int 0)], [.int (xs 2), .int (xs 1), .ref 83, .int 0], _, _, _)) rfl ?_
  rw [hn]
  refine pe_virt (al := [.int 3, .int (xs 1)]) (a := 83) (L0 := [some (.ref 83), some (.int (xs 1)), some (.int 3), none, none]) (r1 := (some (.int 0), 129, 17845, h)) rfl rfl rfl rfl rfl f83 (by decide) rfl (Nat.le_of_ble_eq_true rfl) (Nat.le_of_ble_eq_true rfl) rfl rfl ?_ ?_
  · refine pm_ev_many 3 (s' := (3, [some (.ref 83), some (.int (xs 1)), some (.int 3), none, none], [.int 4, .int 1, .int 3], _, _, _)) rfl ?_
    refine pe_stat (al := [.int 4, .int 1, .int 3]) (L0 := [some (.int 3), some (.int 1), some (.int 4)]) (r1 := (some (.int 1), 129, 17845, h)) rfl rfl rfl rfl rfl rfl (Nat.le_of_ble_eq_true rfl) (Nat.le_of_ble_eq_true rfl) rfl rfl ?_ ?_
    · refine pm_ev_many 8 (s' := (15, [some (.int 3), some (.int 1), some (.int 4)], [.int 1], _, _, _)) rfl ?_
      exact pm_ev_ret rfl
    show pm_ev _ _ _ _ _ (6, [some (.ref 83), some (.int (xs 1)), some (.int 3), none, none], [.int 1], _, _, _) _
    refine pm_ev_many 2 (s' := (10, [some (.ref 83), some (.int (xs 1)), some (.int 3), none, none], [.ref 83], _, _, _)) rfl ?_
    refine pe_get rfl rfl rfl f83 (by decide) rfl ?_
    refine pm_ev_many 21 (s' := (50, [some (.ref 83), some (.int (xs 1)), some (.int 3), some (.int 1), some (.int 0)], [.int (((xs 1) >>> (0 &&& 31)) &&& 255)], _, _, _)) rfl ?_
    rw [hm0]
    refine pm_ev_many 2 (s' := (54, [some (.ref 83), some (.int (xs 1)), some (.int 3), some (.int 1), some (.int 0)], [.int 126, .int 32, .int b0], _, _, _)) rfl ?_
    refine pe_stat (al := [.int 126, .int 32, .int b0]) (L0 := [some (.int b0), some (.int 32), some (.int 126)]) (r1 := (some (.int 1), 129, 17845, h)) rfl rfl rfl rfl rfl rfl (Nat.le_of_ble_eq_true rfl) (Nat.le_of_ble_eq_true rfl) rfl rfl ?_ ?_
    · refine pm_ev_many 2 (s' := (2, [some (.int b0), some (.int 32), some (.int 126)], [.int 32, .int b0], _, _, _)) rfl ?_
      refine pm_ev_many 1 (s' := (if b0 < 32 then 14 else 5, [some (.int b0), some (.int 32), some (.int 126)], [], _, _, _)) rfl ?_
      rw [if_neg a0]
      refine pm_ev_many 2 (s' := (7, [some (.int b0), some (.int 32), some (.int 126)], [.int 126, .int b0], _, _, _)) rfl ?_
      refine pm_ev_many 1 (s' := (if 126 < b0 then 14 else 10, [some (.int b0), some (.int 32), some (.int 126)], [], _, _, _)) rfl ?_
      rw [if_neg e0]
      refine pm_ev_many 2 (s' := (15, [some (.int b0), some (.int 32), some (.int 126)], [.int 1], _, _, _)) rfl ?_
      exact pm_ev_ret rfl
    show pm_ev _ _ _ _ _ (57, [some (.ref 83), some (.int (xs 1)), some (.int 3), some (.int 1), some (.int 0)], [.int 1], _, _, _) _
    refine pm_ev_many 15 (s' := (50, [some (.ref 83), some (.int (xs 1)), some (.int 3), some (.int 1), some (.int 1)], [.int (((xs 1) >>> (8 &&& 31)) &&& 255)], _, _, _)) rfl ?_
    rw [hm1]
    refine pm_ev_many 2 (s' := (54, [some (.ref 83), some (.int (xs 1)), some (.int 3), some (.int 1), some (.int 1)], [.int 126, .int 32, .int b1], _, _, _)) rfl ?_
    refine pe_stat (al := [.int 126, .int 32, .int b1]) (L0 := [some (.int b1), some (.int 32), some (.int 126)]) (r1 := (some (.int 0), 129, 17845, h)) rfl rfl rfl rfl rfl rfl (Nat.le_of_ble_eq_true rfl) (Nat.le_of_ble_eq_true rfl) rfl rfl ?_ ?_
    · refine pm_ev_many 2 (s' := (2, [some (.int b1), some (.int 32), some (.int 126)], [.int 32, .int b1], _, _, _)) rfl ?_
      refine pm_ev_many 1 (s' := (if b1 < 32 then 14 else 5, [some (.int b1), some (.int 32), some (.int 126)], [], _, _, _)) rfl ?_
      rw [if_pos a1]
      refine pm_ev_many 1 (s' := (15, [some (.int b1), some (.int 32), some (.int 126)], [.int 0], _, _, _)) rfl ?_
      exact pm_ev_ret rfl
    show pm_ev _ _ _ _ _ (57, [some (.ref 83), some (.int (xs 1)), some (.int 3), some (.int 1), some (.int 1)], [.int 0], _, _, _) _
    refine pm_ev_many 17 (s' := (115, [some (.ref 83), some (.int (xs 1)), some (.int 3), some (.int 0), some (.int 2)], [.int 0], _, _, _)) rfl ?_
    exact pm_ev_ret rfl
  show pm_ev _ _ _ _ _ (116, [some (.retAddr 0), some (.ref 0), some (.ref 83), some (.int 0)], [.int 0, .int 0], _, _, _) _
  refine pm_ev_many 10 (s' := (295, [some (.retAddr 0), some (.ref 0), some (.ref 83), some (.int 3)], [.int 1], _, _, _)) rfl ?_
  exact pm_ev_ret rfl
set_option maxRecDepth 100000 in
set_option maxHeartbeats 4000000 in
theorem p1_0_3_1hi (d : Nat) (xs : Nat → Int32) (h : Nat → va_E) (hi : pm_init h) (hn : xs 2 = 3) (b0 : Int32) (hc0 : ((((xs 1)).toUInt32 >>> ((0 : Int32).toUInt32 &&& Int32.toUInt32 31)).toInt32) &&& 255 = b0) (hm0 : ((xs 1) >>> (0 &&& 31)) &&& 255 = b0) (a0 : ¬ b0 < 32) (c0 : b0 ≤ 126) (e0 : ¬ 126 < b0) (b1 : Int32) (hc1 : ((((xs 1)).toUInt32 >>> ((8 : Int32).toUInt32 &&& Int32.toUInt32 31)).toInt32) &&& 255 = b1) (hm1 : ((xs 1) >>> (8 &&& 31)) &&& 255 = b1) (a1 : ¬ b1 < 32) (c1 : ¬ b1 ≤ 126) (e1 : 126 < b1) (b2 : Int32) (hc2 : ((((xs 1)).toUInt32 >>> ((16 : Int32).toUInt32 &&& Int32.toUInt32 31)).toInt32) &&& 255 = b2) (hm2 : ((xs 1) >>> (16 &&& 31)) &&& 255 = b2) : ∃ h' : Nat → va_E, pm_ev pmT (some (3, xs)) (d + 10) 214 true (32, [some (.retAddr 0), some (.ref 0), some (.ref 83), some (.int 0)], [.int 0], 129, 17845, h) (some (.int 1), 129, 17845, h') := by
  obtain ⟨f0, f1, f2, f3, f4, f5, f6, f7, f8, f9, f10, f11, f12, f13, f14, f15, f16, f17, f18, f19, f20, f21, f22, f23, f24, f25, f26, f27, f28, f29, f30, f31, f32, f33, f34, f35, f36, f37, f38, f39, f40, f41, f42, f43, f44, f45, f46, f47, f48, f49, f50, f51, f52, f53, f54, f55, f56, f57, f58, f59, f60, f61, f62, f63, f64, f65, f66, f67, f68, f69, f70, f71, f72, f73, f74, f75, f76, f77, f78, f79, f80, f81, f82, f83, f84, f85, f86, f87, f88, f89, f90, f91, f92, f93, f94, f95, f96, f97, f98, f99, f100, f101, f102, f103, f104, f105, f106, f107, f108, f109, f110, f111, f112, f113, f114, f115, f116, f117, f118, f119, f120, f121, f122, f123, f124, f125, f126, f127, f128⟩ := hi
  refine ⟨h, ?_⟩
  refine pm_ev_many 12 (s' := (99, [some (.retAddr 0), some (.ref 0), some (.ref 83), some (.int 0)], [.int (xs 2), .int (xs 1), .ref 0], _, _, _)) rfl ?_
  rw [hn]
  refine pe_virt (al := [.int 3, .int (xs 1)]) (a := 0) (L0 := [some (.ref 0), some (.int (xs 1)), some (.int 3)]) (r1 := (some (.int 0), 129, 17845, h)) rfl rfl rfl rfl rfl f0 (by decide) rfl (Nat.le_of_ble_eq_true rfl) (Nat.le_of_ble_eq_true rfl) rfl rfl ?_ ?_
  · refine pm_ev_many 1 (s' := (1, [some (.ref 0), some (.int (xs 1)), some (.int 3)], [.ref 0], _, _, _)) rfl ?_
    refine pe_get rfl rfl rfl f0 (by decide) rfl ?_
    refine pm_ev_many 2 (s' := (6, [some (.ref 0), some (.int (xs 1)), some (.int 3)], [.int 3, .int (xs 1), .ref 1], _, _, _)) rfl ?_
    refine pe_virt (al := [.int 3, .int (xs 1)]) (a := 1) (L0 := [some (.ref 1), some (.int (xs 1)), some (.int 3), none, none]) (r1 := (some (.int 0), 129, 17845, h)) rfl rfl rfl rfl rfl f1 (by decide) rfl (Nat.le_of_ble_eq_true rfl) (Nat.le_of_ble_eq_true rfl) rfl rfl ?_ ?_
    · refine pm_ev_many 7 (s' := (11, [some (.ref 1), some (.int (xs 1)), some (.int 3), none, none], [.ref 1], _, _, _)) rfl ?_
      refine pe_get rfl rfl rfl f1 (by decide) rfl ?_
      refine pm_ev_many 11 (s' := (32, [some (.ref 1), some (.int (xs 1)), some (.int 3), some (.int 0), none], [.int 0, .int (xs 1)], _, _, _)) rfl ?_
      refine pe_stat (al := [.int 0, .int (xs 1)]) (L0 := [some (.int (xs 1)), some (.int 0)]) (r1 := (some (.int b0), 129, 17845, h)) rfl rfl rfl rfl rfl rfl (Nat.le_of_ble_eq_true rfl) (Nat.le_of_ble_eq_true rfl) rfl rfl ?_ ?_
      · refine pm_ev_many 7 (s' := (10, [some (.int (xs 1)), some (.int 0)], [.int (((((xs 1)).toUInt32 >>> ((0 : Int32).toUInt32 &&& Int32.toUInt32 31)).toInt32) &&& 255)], _, _, _)) rfl ?_
        rw [hc0]
        exact pm_ev_ret rfl
      show pm_ev _ _ _ _ _ (35, [some (.ref 1), some (.int (xs 1)), some (.int 3), some (.int 0), none], [.int b0], _, _, _) _
      refine pm_ev_many 3 (s' := (41, [some (.ref 1), some (.int (xs 1)), some (.int 3), some (.int 0), some (.int b0)], [.int 32, .int b0], _, _, _)) rfl ?_
      refine pm_ev_many 1 (s' := (if b0 < 32 then 51 else 44, [some (.ref 1), some (.int (xs 1)), some (.int 3), some (.int 0), some (.int b0)], [], _, _, _)) rfl ?_
      rw [if_neg a0]
      refine pm_ev_many 2 (s' := (48, [some (.ref 1), some (.int (xs 1)), some (.int 3), some (.int 0), some (.int b0)], [.int 126, .int b0], _, _, _)) rfl ?_
      refine pm_ev_many 1 (s' := (if b0 ≤ 126 then 53 else 51, [some (.ref 1), some (.int (xs 1)), some (.int 3), some (.int 0), some (.int b0)], [], _, _, _)) rfl ?_
      rw [if_pos c0]
      refine pm_ev_many 7 (s' := (32, [some (.ref 1), some (.int (xs 1)), some (.int 3), some (.int 1), some (.int b0)], [.int 1, .int (xs 1)], _, _, _)) rfl ?_
      refine pe_stat (al := [.int 1, .int (xs 1)]) (L0 := [some (.int (xs 1)), some (.int 1)]) (r1 := (some (.int b1), 129, 17845, h)) rfl rfl rfl rfl rfl rfl (Nat.le_of_ble_eq_true rfl) (Nat.le_of_ble_eq_true rfl) rfl rfl ?_ ?_
      · refine pm_ev_many 7 (s' := (10, [some (.int (xs 1)), some (.int 1)], [.int (((((xs 1)).toUInt32 >>> ((8 : Int32).toUInt32 &&& Int32.toUInt32 31)).toInt32) &&& 255)], _, _, _)) rfl ?_
        rw [hc1]
        exact pm_ev_ret rfl
      show pm_ev _ _ _ _ _ (35, [some (.ref 1), some (.int (xs 1)), some (.int 3), some (.int 1), some (.int b0)], [.int b1], _, _, _) _
      refine pm_ev_many 3 (s' := (41, [some (.ref 1), some (.int (xs 1)), some (.int 3), some (.int 1), some (.int b1)], [.int 32, .int b1], _, _, _)) rfl ?_
      refine pm_ev_many 1 (s' := (if b1 < 32 then 51 else 44, [some (.ref 1), some (.int (xs 1)), some (.int 3), some (.int 1), some (.int b1)], [], _, _, _)) rfl ?_
      rw [if_neg a1]
      refine pm_ev_many 2 (s' := (48, [some (.ref 1), some (.int (xs 1)), some (.int 3), some (.int 1), some (.int b1)], [.int 126, .int b1], _, _, _)) rfl ?_
      refine pm_ev_many 1 (s' := (if b1 ≤ 126 then 53 else 51, [some (.ref 1), some (.int (xs 1)), some (.int 3), some (.int 1), some (.int b1)], [], _, _, _)) rfl ?_
      rw [if_neg c1]
      refine pm_ev_many 1 (s' := (52, [some (.ref 1), some (.int (xs 1)), some (.int 3), some (.int 1), some (.int b1)], [.int 0], _, _, _)) rfl ?_
      exact pm_ev_ret rfl
    show pm_ev _ _ _ _ _ (9, [some (.ref 0), some (.int (xs 1)), some (.int 3)], [.int 0], _, _, _) _
    exact pm_ev_ret rfl
  show pm_ev _ _ _ _ _ (102, [some (.retAddr 0), some (.ref 0), some (.ref 83), some (.int 0)], [.int 0], _, _, _) _
  refine pm_ev_many 11 (s' := (113, [some (.retAddr 0), some (.ref 0), some (.ref 83), some (.int 0)], [.int (xs 2), .int (xs 1), .ref 83, .int 0], _, _, _)) rfl ?_
  rw [hn]
  refine pe_virt (al := [.int 3, .int (xs 1)]) (a := 83) (L0 := [some (.ref 83), some (.int (xs 1)), some (.int 3), none, none]) (r1 := (some (.int 0), 129, 17845, h)) rfl rfl rfl rfl rfl f83 (by decide) rfl (Nat.le_of_ble_eq_true rfl) (Nat.le_of_ble_eq_true rfl) rfl rfl ?_ ?_
  · refine pm_ev_many 3 (s' := (3, [some (.ref 83), some (.int (xs 1)), some (.int 3), none, none], [.int 4, .int 1, .int 3], _, _, _)) rfl ?_
    refine pe_stat (al := [.int 4, .int 1, .int 3]) (L0 := [some (.int 3), some (.int 1), some (.int 4)]) (r1 := (some (.int 1), 129, 17845, h)) rfl rfl rfl rfl rfl rfl (Nat.le_of_ble_eq_true rfl) (Nat.le_of_ble_eq_true rfl) rfl rfl ?_ ?_
    · refine pm_ev_many 8 (s' := (15, [some (.int 3), some (.int 1), some (.int 4)], [.int 1], _, _, _)) rfl ?_
      exact pm_ev_ret rfl
    show pm_ev _ _ _ _ _ (6, [some (.ref 83), some (.int (xs 1)), some (.int 3), none, none], [.int 1], _, _, _) _
    refine pm_ev_many 2 (s' := (10, [some (.ref 83), some (.int (xs 1)), some (.int 3), none, none], [.ref 83], _, _, _)) rfl ?_
    refine pe_get rfl rfl rfl f83 (by decide) rfl ?_
    refine pm_ev_many 21 (s' := (50, [some (.ref 83), some (.int (xs 1)), some (.int 3), some (.int 1), some (.int 0)], [.int (((xs 1) >>> (0 &&& 31)) &&& 255)], _, _, _)) rfl ?_
    rw [hm0]
    refine pm_ev_many 2 (s' := (54, [some (.ref 83), some (.int (xs 1)), some (.int 3), some (.int 1), some (.int 0)], [.int 126, .int 32, .int b0], _, _, _)) rfl ?_
    refine pe_stat (al := [.int 126, .int 32, .int b0]) (L0 := [some (.int b0), some (.int 32), some (.int 126)]) (r1 := (some (.int 1), 129, 17845, h)) rfl rfl rfl rfl rfl rfl (Nat.le_of_ble_eq_true rfl) (Nat.le_of_ble_eq_true rfl) rfl rfl ?_ ?_
    · refine pm_ev_many 2 (s' := (2, [some (.int b0), some (.int 32), some (.int 126)], [.int 32, .int b0], _, _, _)) rfl ?_
      refine pm_ev_many 1 (s' := (if b0 < 32 then 14 else 5, [some (.int b0), some (.int 32), some (.int 126)], [], _, _, _)) rfl ?_
      rw [if_neg a0]
      refine pm_ev_many 2 (s' := (7, [some (.int b0), some (.int 32), some (.int 126)], [.int 126, .int b0], _, _, _)) rfl ?_
      refine pm_ev_many 1 (s' := (if 126 < b0 then 14 else 10, [some (.int b0), some (.int 32), some (.int 126)], [], _, _, _)) rfl ?_
      rw [if_neg e0]
      refine pm_ev_many 2 (s' := (15, [some (.int b0), some (.int 32), some (.int 126)], [.int 1], _, _, _)) rfl ?_
      exact pm_ev_ret rfl
    show pm_ev _ _ _ _ _ (57, [some (.ref 83), some (.int (xs 1)), some (.int 3), some (.int 1), some (.int 0)], [.int 1], _, _, _) _
    refine pm_ev_many 15 (s' := (50, [some (.ref 83), some (.int (xs 1)), some (.int 3), some (.int 1), some (.int 1)], [.int (((xs 1) >>> (8 &&& 31)) &&& 255)], _, _, _)) rfl ?_
    rw [hm1]
    refine pm_ev_many 2 (s' := (54, [some (.ref 83), some (.int (xs 1)), some (.int 3), some (.int 1), some (.int 1)], [.int 126, .int 32, .int b1], _, _, _)) rfl ?_
    refine pe_stat (al := [.int 126, .int 32, .int b1]) (L0 := [some (.int b1), some (.int 32), some (.int 126)]) (r1 := (some (.int 0), 129, 17845, h)) rfl rfl rfl rfl rfl rfl (Nat.le_of_ble_eq_true rfl) (Nat.le_of_ble_eq_true rfl) rfl rfl ?_ ?_
    · refine pm_ev_many 2 (s' := (2, [some (.int b1), some (.int 32), some (.int 126)], [.int 32, .int b1], _, _, _)) rfl ?_
      refine pm_ev_many 1 (s' := (if b1 < 32 then 14 else 5, [some (.int b1), some (.int 32), some (.int 126)], [], _, _, _)) rfl ?_
      rw [if_neg a1]
      refine pm_ev_many 2 (s' := (7, [some (.int b1), some (.int 32), some (.int 126)], [.int 126, .int b1], _, _, _)) rfl ?_
      refine pm_ev_many 1 (s' := (if 126 < b1 then 14 else 10, [some (.int b1), some (.int 32), some (.int 126)], [], _, _, _)) rfl ?_
      rw [if_pos e1]
      refine pm_ev_many 1 (s' := (15, [some (.int b1), some (.int 32), some (.int 126)], [.int 0], _, _, _)) rfl ?_
      exact pm_ev_ret rfl
    show pm_ev _ _ _ _ _ (57, [some (.ref 83), some (.int (xs 1)), some (.int 3), some (.int 1), some (.int 1)], [.int 0], _, _, _) _
    refine pm_ev_many 17 (s' := (115, [some (.ref 83), some (.int (xs 1)), some (.int 3), some (.int 0), some (.int 2)], [.int 0], _, _, _)) rfl ?_
    exact pm_ev_ret rfl
  show pm_ev _ _ _ _ _ (116, [some (.retAddr 0), some (.ref 0), some (.ref 83), some (.int 0)], [.int 0, .int 0], _, _, _) _
  refine pm_ev_many 10 (s' := (295, [some (.retAddr 0), some (.ref 0), some (.ref 83), some (.int 3)], [.int 1], _, _, _)) rfl ?_
  exact pm_ev_ret rfl
set_option maxRecDepth 100000 in
set_option maxHeartbeats 4000000 in
theorem p1_0_3_2lo (d : Nat) (xs : Nat → Int32) (h : Nat → va_E) (hi : pm_init h) (hn : xs 2 = 3) (b0 : Int32) (hc0 : ((((xs 1)).toUInt32 >>> ((0 : Int32).toUInt32 &&& Int32.toUInt32 31)).toInt32) &&& 255 = b0) (hm0 : ((xs 1) >>> (0 &&& 31)) &&& 255 = b0) (a0 : ¬ b0 < 32) (c0 : b0 ≤ 126) (e0 : ¬ 126 < b0) (b1 : Int32) (hc1 : ((((xs 1)).toUInt32 >>> ((8 : Int32).toUInt32 &&& Int32.toUInt32 31)).toInt32) &&& 255 = b1) (hm1 : ((xs 1) >>> (8 &&& 31)) &&& 255 = b1) (a1 : ¬ b1 < 32) (c1 : b1 ≤ 126) (e1 : ¬ 126 < b1) (b2 : Int32) (hc2 : ((((xs 1)).toUInt32 >>> ((16 : Int32).toUInt32 &&& Int32.toUInt32 31)).toInt32) &&& 255 = b2) (hm2 : ((xs 1) >>> (16 &&& 31)) &&& 255 = b2) (a2 : b2 < 32) : ∃ h' : Nat → va_E, pm_ev pmT (some (3, xs)) (d + 10) 214 true (32, [some (.retAddr 0), some (.ref 0), some (.ref 83), some (.int 0)], [.int 0], 129, 17845, h) (some (.int 1), 129, 17845, h') := by
  obtain ⟨f0, f1, f2, f3, f4, f5, f6, f7, f8, f9, f10, f11, f12, f13, f14, f15, f16, f17, f18, f19, f20, f21, f22, f23, f24, f25, f26, f27, f28, f29, f30, f31, f32, f33, f34, f35, f36, f37, f38, f39, f40, f41, f42, f43, f44, f45, f46, f47, f48, f49, f50, f51, f52, f53, f54, f55, f56, f57, f58, f59, f60, f61, f62, f63, f64, f65, f66, f67, f68, f69, f70, f71, f72, f73, f74, f75, f76, f77, f78, f79, f80, f81, f82, f83, f84, f85, f86, f87, f88, f89, f90, f91, f92, f93, f94, f95, f96, f97, f98, f99, f100, f101, f102, f103, f104, f105, f106, f107, f108, f109, f110, f111, f112, f113, f114, f115, f116, f117, f118, f119, f120, f121, f122, f123, f124, f125, f126, f127, f128⟩ := hi
  refine ⟨h, ?_⟩
  refine pm_ev_many 12 (s' := (99, [some (.retAddr 0), some (.ref 0), some (.ref 83), some (.int 0)], [.int (xs 2), .int (xs 1), .ref 0], _, _, _)) rfl ?_
  rw [hn]
  refine pe_virt (al := [.int 3, .int (xs 1)]) (a := 0) (L0 := [some (.ref 0), some (.int (xs 1)), some (.int 3)]) (r1 := (some (.int 0), 129, 17845, h)) rfl rfl rfl rfl rfl f0 (by decide) rfl (Nat.le_of_ble_eq_true rfl) (Nat.le_of_ble_eq_true rfl) rfl rfl ?_ ?_
  · refine pm_ev_many 1 (s' := (1, [some (.ref 0), some (.int (xs 1)), some (.int 3)], [.ref 0], _, _, _)) rfl ?_
    refine pe_get rfl rfl rfl f0 (by decide) rfl ?_
    refine pm_ev_many 2 (s' := (6, [some (.ref 0), some (.int (xs 1)), some (.int 3)], [.int 3, .int (xs 1), .ref 1], _, _, _)) rfl ?_
    refine pe_virt (al := [.int 3, .int (xs 1)]) (a := 1) (L0 := [some (.ref 1), some (.int (xs 1)), some (.int 3), none, none]) (r1 := (some (.int 0), 129, 17845, h)) rfl rfl rfl rfl rfl f1 (by decide) rfl (Nat.le_of_ble_eq_true rfl) (Nat.le_of_ble_eq_true rfl) rfl rfl ?_ ?_
    · refine pm_ev_many 7 (s' := (11, [some (.ref 1), some (.int (xs 1)), some (.int 3), none, none], [.ref 1], _, _, _)) rfl ?_
      refine pe_get rfl rfl rfl f1 (by decide) rfl ?_
      refine pm_ev_many 11 (s' := (32, [some (.ref 1), some (.int (xs 1)), some (.int 3), some (.int 0), none], [.int 0, .int (xs 1)], _, _, _)) rfl ?_
      refine pe_stat (al := [.int 0, .int (xs 1)]) (L0 := [some (.int (xs 1)), some (.int 0)]) (r1 := (some (.int b0), 129, 17845, h)) rfl rfl rfl rfl rfl rfl (Nat.le_of_ble_eq_true rfl) (Nat.le_of_ble_eq_true rfl) rfl rfl ?_ ?_
      · refine pm_ev_many 7 (s' := (10, [some (.int (xs 1)), some (.int 0)], [.int (((((xs 1)).toUInt32 >>> ((0 : Int32).toUInt32 &&& Int32.toUInt32 31)).toInt32) &&& 255)], _, _, _)) rfl ?_
        rw [hc0]
        exact pm_ev_ret rfl
      show pm_ev _ _ _ _ _ (35, [some (.ref 1), some (.int (xs 1)), some (.int 3), some (.int 0), none], [.int b0], _, _, _) _
      refine pm_ev_many 3 (s' := (41, [some (.ref 1), some (.int (xs 1)), some (.int 3), some (.int 0), some (.int b0)], [.int 32, .int b0], _, _, _)) rfl ?_
      refine pm_ev_many 1 (s' := (if b0 < 32 then 51 else 44, [some (.ref 1), some (.int (xs 1)), some (.int 3), some (.int 0), some (.int b0)], [], _, _, _)) rfl ?_
      rw [if_neg a0]
      refine pm_ev_many 2 (s' := (48, [some (.ref 1), some (.int (xs 1)), some (.int 3), some (.int 0), some (.int b0)], [.int 126, .int b0], _, _, _)) rfl ?_
      refine pm_ev_many 1 (s' := (if b0 ≤ 126 then 53 else 51, [some (.ref 1), some (.int (xs 1)), some (.int 3), some (.int 0), some (.int b0)], [], _, _, _)) rfl ?_
      rw [if_pos c0]
      refine pm_ev_many 7 (s' := (32, [some (.ref 1), some (.int (xs 1)), some (.int 3), some (.int 1), some (.int b0)], [.int 1, .int (xs 1)], _, _, _)) rfl ?_
      refine pe_stat (al := [.int 1, .int (xs 1)]) (L0 := [some (.int (xs 1)), some (.int 1)]) (r1 := (some (.int b1), 129, 17845, h)) rfl rfl rfl rfl rfl rfl (Nat.le_of_ble_eq_true rfl) (Nat.le_of_ble_eq_true rfl) rfl rfl ?_ ?_
      · refine pm_ev_many 7 (s' := (10, [some (.int (xs 1)), some (.int 1)], [.int (((((xs 1)).toUInt32 >>> ((8 : Int32).toUInt32 &&& Int32.toUInt32 31)).toInt32) &&& 255)], _, _, _)) rfl ?_
        rw [hc1]
        exact pm_ev_ret rfl
      show pm_ev _ _ _ _ _ (35, [some (.ref 1), some (.int (xs 1)), some (.int 3), some (.int 1), some (.int b0)], [.int b1], _, _, _) _
      refine pm_ev_many 3 (s' := (41, [some (.ref 1), some (.int (xs 1)), some (.int 3), some (.int 1), some (.int b1)], [.int 32, .int b1], _, _, _)) rfl ?_
      refine pm_ev_many 1 (s' := (if b1 < 32 then 51 else 44, [some (.ref 1), some (.int (xs 1)), some (.int 3), some (.int 1), some (.int b1)], [], _, _, _)) rfl ?_
      rw [if_neg a1]
      refine pm_ev_many 2 (s' := (48, [some (.ref 1), some (.int (xs 1)), some (.int 3), some (.int 1), some (.int b1)], [.int 126, .int b1], _, _, _)) rfl ?_
      refine pm_ev_many 1 (s' := (if b1 ≤ 126 then 53 else 51, [some (.ref 1), some (.int (xs 1)), some (.int 3), some (.int 1), some (.int b1)], [], _, _, _)) rfl ?_
      rw [if_pos c1]
      refine pm_ev_many 7 (s' := (32, [some (.ref 1), some (.int (xs 1)), some (.int 3), some (.int 2), some (.int b1)], [.int 2, .int (xs 1)], _, _, _)) rfl ?_
      refine pe_stat (al := [.int 2, .int (xs 1)]) (L0 := [some (.int (xs 1)), some (.int 2)]) (r1 := (some (.int b2), 129, 17845, h)) rfl rfl rfl rfl rfl rfl (Nat.le_of_ble_eq_true rfl) (Nat.le_of_ble_eq_true rfl) rfl rfl ?_ ?_
      · refine pm_ev_many 7 (s' := (10, [some (.int (xs 1)), some (.int 2)], [.int (((((xs 1)).toUInt32 >>> ((16 : Int32).toUInt32 &&& Int32.toUInt32 31)).toInt32) &&& 255)], _, _, _)) rfl ?_
        rw [hc2]
        exact pm_ev_ret rfl
      show pm_ev _ _ _ _ _ (35, [some (.ref 1), some (.int (xs 1)), some (.int 3), some (.int 2), some (.int b1)], [.int b2], _, _, _) _
      refine pm_ev_many 3 (s' := (41, [some (.ref 1), some (.int (xs 1)), some (.int 3), some (.int 2), some (.int b2)], [.int 32, .int b2], _, _, _)) rfl ?_
      refine pm_ev_many 1 (s' := (if b2 < 32 then 51 else 44, [some (.ref 1), some (.int (xs 1)), some (.int 3), some (.int 2), some (.int b2)], [], _, _, _)) rfl ?_
      rw [if_pos a2]
      refine pm_ev_many 1 (s' := (52, [some (.ref 1), some (.int (xs 1)), some (.int 3), some (.int 2), some (.int b2)], [.int 0], _, _, _)) rfl ?_
      exact pm_ev_ret rfl
    show pm_ev _ _ _ _ _ (9, [some (.ref 0), some (.int (xs 1)), some (.int 3)], [.int 0], _, _, _) _
    exact pm_ev_ret rfl
  show pm_ev _ _ _ _ _ (102, [some (.retAddr 0), some (.ref 0), some (.ref 83), some (.int 0)], [.int 0], _, _, _) _
  refine pm_ev_many 11 (s' := (113, [some (.retAddr 0), some (.ref 0), some (.ref 83), some (.int 0)], [.int (xs 2), .int (xs 1), .ref 83, .int 0], _, _, _)) rfl ?_
  rw [hn]
  refine pe_virt (al := [.int 3, .int (xs 1)]) (a := 83) (L0 := [some (.ref 83), some (.int (xs 1)), some (.int 3), none, none]) (r1 := (some (.int 0), 129, 17845, h)) rfl rfl rfl rfl rfl f83 (by decide) rfl (Nat.le_of_ble_eq_true rfl) (Nat.le_of_ble_eq_true rfl) rfl rfl ?_ ?_
  · refine pm_ev_many 3 (s' := (3, [some (.ref 83), some (.int (xs 1)), some (.int 3), none, none], [.int 4, .int 1, .int 3], _, _, _)) rfl ?_
    refine pe_stat (al := [.int 4, .int 1, .int 3]) (L0 := [some (.int 3), some (.int 1), some (.int 4)]) (r1 := (some (.int 1), 129, 17845, h)) rfl rfl rfl rfl rfl rfl (Nat.le_of_ble_eq_true rfl) (Nat.le_of_ble_eq_true rfl) rfl rfl ?_ ?_
    · refine pm_ev_many 8 (s' := (15, [some (.int 3), some (.int 1), some (.int 4)], [.int 1], _, _, _)) rfl ?_
      exact pm_ev_ret rfl
    show pm_ev _ _ _ _ _ (6, [some (.ref 83), some (.int (xs 1)), some (.int 3), none, none], [.int 1], _, _, _) _
    refine pm_ev_many 2 (s' := (10, [some (.ref 83), some (.int (xs 1)), some (.int 3), none, none], [.ref 83], _, _, _)) rfl ?_
    refine pe_get rfl rfl rfl f83 (by decide) rfl ?_
    refine pm_ev_many 21 (s' := (50, [some (.ref 83), some (.int (xs 1)), some (.int 3), some (.int 1), some (.int 0)], [.int (((xs 1) >>> (0 &&& 31)) &&& 255)], _, _, _)) rfl ?_
    rw [hm0]
    refine pm_ev_many 2 (s' := (54, [some (.ref 83), some (.int (xs 1)), some (.int 3), some (.int 1), some (.int 0)], [.int 126, .int 32, .int b0], _, _, _)) rfl ?_
    refine pe_stat (al := [.int 126, .int 32, .int b0]) (L0 := [some (.int b0), some (.int 32), some (.int 126)]) (r1 := (some (.int 1), 129, 17845, h)) rfl rfl rfl rfl rfl rfl (Nat.le_of_ble_eq_true rfl) (Nat.le_of_ble_eq_true rfl) rfl rfl ?_ ?_
    · refine pm_ev_many 2 (s' := (2, [some (.int b0), some (.int 32), some (.int 126)], [.int 32, .int b0], _, _, _)) rfl ?_
      refine pm_ev_many 1 (s' := (if b0 < 32 then 14 else 5, [some (.int b0), some (.int 32), some (.int 126)], [], _, _, _)) rfl ?_
      rw [if_neg a0]
      refine pm_ev_many 2 (s' := (7, [some (.int b0), some (.int 32), some (.int 126)], [.int 126, .int b0], _, _, _)) rfl ?_
      refine pm_ev_many 1 (s' := (if 126 < b0 then 14 else 10, [some (.int b0), some (.int 32), some (.int 126)], [], _, _, _)) rfl ?_
      rw [if_neg e0]
      refine pm_ev_many 2 (s' := (15, [some (.int b0), some (.int 32), some (.int 126)], [.int 1], _, _, _)) rfl ?_
      exact pm_ev_ret rfl
    show pm_ev _ _ _ _ _ (57, [some (.ref 83), some (.int (xs 1)), some (.int 3), some (.int 1), some (.int 0)], [.int 1], _, _, _) _
    refine pm_ev_many 15 (s' := (50, [some (.ref 83), some (.int (xs 1)), some (.int 3), some (.int 1), some (.int 1)], [.int (((xs 1) >>> (8 &&& 31)) &&& 255)], _, _, _)) rfl ?_
    rw [hm1]
    refine pm_ev_many 2 (s' := (54, [some (.ref 83), some (.int (xs 1)), some (.int 3), some (.int 1), some (.int 1)], [.int 126, .int 32, .int b1], _, _, _)) rfl ?_
    refine pe_stat (al := [.int 126, .int 32, .int b1]) (L0 := [some (.int b1), some (.int 32), some (.int 126)]) (r1 := (some (.int 1), 129, 17845, h)) rfl rfl rfl rfl rfl rfl (Nat.le_of_ble_eq_true rfl) (Nat.le_of_ble_eq_true rfl) rfl rfl ?_ ?_
    · refine pm_ev_many 2 (s' := (2, [some (.int b1), some (.int 32), some (.int 126)], [.int 32, .int b1], _, _, _)) rfl ?_
      refine pm_ev_many 1 (s' := (if b1 < 32 then 14 else 5, [some (.int b1), some (.int 32), some (.int 126)], [], _, _, _)) rfl ?_
      rw [if_neg a1]
      refine pm_ev_many 2 (s' := (7, [some (.int b1), some (.int 32), some (.int 126)], [.int 126, .int b1], _, _, _)) rfl ?_
      refine pm_ev_many 1 (s' := (if 126 < b1 then 14 else 10, [some (.int b1), some (.int 32), some (.int 126)], [], _, _, _)) rfl ?_
      rw [if_neg e1]
      refine pm_ev_many 2 (s' := (15, [some (.int b1), some (.int 32), some (.int 126)], [.int 1], _, _, _)) rfl ?_
      exact pm_ev_ret rfl
    show pm_ev _ _ _ _ _ (57, [some (.ref 83), some (.int (xs 1)), some (.int 3), some (.int 1), some (.int 1)], [.int 1], _, _, _) _
    refine pm_ev_many 15 (s' := (50, [some (.ref 83), some (.int (xs 1)), some (.int 3), some (.int 1), some (.int 2)], [.int (((xs 1) >>> (16 &&& 31)) &&& 255)], _, _, _)) rfl ?_
    rw [hm2]
    refine pm_ev_many 2 (s' := (54, [some (.ref 83), some (.int (xs 1)), some (.int 3), some (.int 1), some (.int 2)], [.int 126, .int 32, .int b2], _, _, _)) rfl ?_
    refine pe_stat (al := [.int 126, .int 32, .int b2]) (L0 := [some (.int b2), some (.int 32), some (.int 126)]) (r1 := (some (.int 0), 129, 17845, h)) rfl rfl rfl rfl rfl rfl (Nat.le_of_ble_eq_true rfl) (Nat.le_of_ble_eq_true rfl) rfl rfl ?_ ?_
    · refine pm_ev_many 2 (s' := (2, [some (.int b2), some (.int 32), some (.int 126)], [.int 32, .int b2], _, _, _)) rfl ?_
      refine pm_ev_many 1 (s' := (if b2 < 32 then 14 else 5, [some (.int b2), some (.int 32), some (.int 126)], [], _, _, _)) rfl ?_
      rw [if_pos a2]
      refine pm_ev_many 1 (s' := (15, [some (.int b2), some (.int 32), some (.int 126)], [.int 0], _, _, _)) rfl ?_
      exact pm_ev_ret rfl
    show pm_ev _ _ _ _ _ (57, [some (.ref 83), some (.int (xs 1)), some (.int 3), some (.int 1), some (.int 2)], [.int 0], _, _, _) _
    refine pm_ev_many 15 (s' := (115, [some (.ref 83), some (.int (xs 1)), some (.int 3), some (.int 0), some (.int 2)], [.int 0], _, _, _)) rfl ?_
    exact pm_ev_ret rfl
  show pm_ev _ _ _ _ _ (116, [some (.retAddr 0), some (.ref 0), some (.ref 83), some (.int 0)], [.int 0, .int 0], _, _, _) _
  refine pm_ev_many 10 (s' := (295, [some (.retAddr 0), some (.ref 0), some (.ref 83), some (.int 3)], [.int 1], _, _, _)) rfl ?_
  exact pm_ev_ret rfl
set_option maxRecDepth 100000 in
set_option maxHeartbeats 4000000 in
theorem p1_0_3_2hi (d : Nat) (xs : Nat → Int32) (h : Nat → va_E) (hi : pm_init h) (hn : xs 2 = 3) (b0 : Int32) (hc0 : ((((xs 1)).toUInt32 >>> ((0 : Int32).toUInt32 &&& Int32.toUInt32 31)).toInt32) &&& 255 = b0) (hm0 : ((xs 1) >>> (0 &&& 31)) &&& 255 = b0) (a0 : ¬ b0 < 32) (c0 : b0 ≤ 126) (e0 : ¬ 126 < b0) (b1 : Int32) (hc1 : ((((xs 1)).toUInt32 >>> ((8 : Int32).toUInt32 &&& Int32.toUInt32 31)).toInt32) &&& 255 = b1) (hm1 : ((xs 1) >>> (8 &&& 31)) &&& 255 = b1) (a1 : ¬ b1 < 32) (c1 : b1 ≤ 126) (e1 : ¬ 126 < b1) (b2 : Int32) (hc2 : ((((xs 1)).toUInt32 >>> ((16 : Int32).toUInt32 &&& Int32.toUInt32 31)).toInt32) &&& 255 = b2) (hm2 : ((xs 1) >>> (16 &&& 31)) &&& 255 = b2) (a2 : ¬ b2 < 32) (c2 : ¬ b2 ≤ 126) (e2 : 126 < b2) : ∃ h' : Nat → va_E, pm_ev pmT (some (3, xs)) (d + 10) 214 true (32, [some (.retAddr 0), some (.ref 0), some (.ref 83), some (.int 0)], [.int 0], 129, 17845, h) (some (.int 1), 129, 17845, h') := by
  obtain ⟨f0, f1, f2, f3, f4, f5, f6, f7, f8, f9, f10, f11, f12, f13, f14, f15, f16, f17, f18, f19, f20, f21, f22, f23, f24, f25, f26, f27, f28, f29, f30, f31, f32, f33, f34, f35, f36, f37, f38, f39, f40, f41, f42, f43, f44, f45, f46, f47, f48, f49, f50, f51, f52, f53, f54, f55, f56, f57, f58, f59, f60, f61, f62, f63, f64, f65, f66, f67, f68, f69, f70, f71, f72, f73, f74, f75, f76, f77, f78, f79, f80, f81, f82, f83, f84, f85, f86, f87, f88, f89, f90, f91, f92, f93, f94, f95, f96, f97, f98, f99, f100, f101, f102, f103, f104, f105, f106, f107, f108, f109, f110, f111, f112, f113, f114, f115, f116, f117, f118, f119, f120, f121, f122, f123, f124, f125, f126, f127, f128⟩ := hi
  refine ⟨h, ?_⟩
  refine pm_ev_many 12 (s' := (99, [some (.retAddr 0), some (.ref 0), some (.ref 83), some (.int 0)], [.int (xs 2), .int (xs 1), .ref 0], _, _, _)) rfl ?_
  rw [hn]
  refine pe_virt (al := [.int 3, .int (xs 1)]) (a := 0) (L0 := [some (.ref 0), some (.int (xs 1)), some (.int 3)]) (r1 := (some (.int 0), 129, 17845, h)) rfl rfl rfl rfl rfl f0 (by decide) rfl (Nat.le_of_ble_eq_true rfl) (Nat.le_of_ble_eq_true rfl) rfl rfl ?_ ?_
  · refine pm_ev_many 1 (s' := (1, [some (.ref 0), some (.int (xs 1)), some (.int 3)], [.ref 0], _, _, _)) rfl ?_
    refine pe_get rfl rfl rfl f0 (by decide) rfl ?_
    refine pm_ev_many 2 (s' := (6, [some (.ref 0), some (.int (xs 1)), some (.int 3)], [.int 3, .int (xs 1), .ref 1], _, _, _)) rfl ?_
    refine pe_virt (al := [.int 3, .int (xs 1)]) (a := 1) (L0 := [some (.ref 1), some (.int (xs 1)), some (.int 3), none, none]) (r1 := (some (.int 0), 129, 17845, h)) rfl rfl rfl rfl rfl f1 (by decide) rfl (Nat.le_of_ble_eq_true rfl) (Nat.le_of_ble_eq_true rfl) rfl rfl ?_ ?_
    · refine pm_ev_many 7 (s' := (11, [some (.ref 1), some (.int (xs 1)), some (.int 3), none, none], [.ref 1], _, _, _)) rfl ?_
      refine pe_get rfl rfl rfl f1 (by decide) rfl ?_
      refine pm_ev_many 11 (s' := (32, [some (.ref 1), some (.int (xs 1)), some (.int 3), some (.int 0), none], [.int 0, .int (xs 1)], _, _, _)) rfl ?_
      refine pe_stat (al := [.int 0, .int (xs 1)]) (L0 := [some (.int (xs 1)), some (.int 0)]) (r1 := (some (.int b0), 129, 17845, h)) rfl rfl rfl rfl rfl rfl (Nat.le_of_ble_eq_true rfl) (Nat.le_of_ble_eq_true rfl) rfl rfl ?_ ?_
      · refine pm_ev_many 7 (s' := (10, [some (.int (xs 1)), some (.int 0)], [.int (((((xs 1)).toUInt32 >>> ((0 : Int32).toUInt32 &&& Int32.toUInt32 31)).toInt32) &&& 255)], _, _, _)) rfl ?_
        rw [hc0]
        exact pm_ev_ret rfl
      show pm_ev _ _ _ _ _ (35, [some (.ref 1), some (.int (xs 1)), some (.int 3), some (.int 0), none], [.int b0], _, _, _) _
      refine pm_ev_many 3 (s' := (41, [some (.ref 1), some (.int (xs 1)), some (.int 3), some (.int 0), some (.int b0)], [.int 32, .int b0], _, _, _)) rfl ?_
      refine pm_ev_many 1 (s' := (if b0 < 32 then 51 else 44, [some (.ref 1), some (.int (xs 1)), some (.int 3), some (.int 0), some (.int b0)], [], _, _, _)) rfl ?_
      rw [if_neg a0]
      refine pm_ev_many 2 (s' := (48, [some (.ref 1), some (.int (xs 1)), some (.int 3), some (.int 0), some (.int b0)], [.int 126, .int b0], _, _, _)) rfl ?_
      refine pm_ev_many 1 (s' := (if b0 ≤ 126 then 53 else 51, [some (.ref 1), some (.int (xs 1)), some (.int 3), some (.int 0), some (.int b0)], [], _, _, _)) rfl ?_
      rw [if_pos c0]
      refine pm_ev_many 7 (s' := (32, [some (.ref 1), some (.int (xs 1)), some (.int 3), some (.int 1), some (.int b0)], [.int 1, .int (xs 1)], _, _, _)) rfl ?_
      refine pe_stat (al := [.int 1, .int (xs 1)]) (L0 := [some (.int (xs 1)), some (.int 1)]) (r1 := (some (.int b1), 129, 17845, h)) rfl rfl rfl rfl rfl rfl (Nat.le_of_ble_eq_true rfl) (Nat.le_of_ble_eq_true rfl) rfl rfl ?_ ?_
      · refine pm_ev_many 7 (s' := (10, [some (.int (xs 1)), some (.int 1)], [.int (((((xs 1)).toUInt32 >>> ((8 : Int32).toUInt32 &&& Int32.toUInt32 31)).toInt32) &&& 255)], _, _, _)) rfl ?_
        rw [hc1]
        exact pm_ev_ret rfl
      show pm_ev _ _ _ _ _ (35, [some (.ref 1), some (.int (xs 1)), some (.int 3), some (.int 1), some (.int b0)], [.int b1], _, _, _) _
      refine pm_ev_many 3 (s' := (41, [some (.ref 1), some (.int (xs 1)), some (.int 3), some (.int 1), some (.int b1)], [.int 32, .int b1], _, _, _)) rfl ?_
      refine pm_ev_many 1 (s' := (if b1 < 32 then 51 else 44, [some (.ref 1), some (.int (xs 1)), some (.int 3), some (.int 1), some (.int b1)], [], _, _, _)) rfl ?_
      rw [if_neg a1]
      refine pm_ev_many 2 (s' := (48, [some (.ref 1), some (.int (xs 1)), some (.int 3), some (.int 1), some (.int b1)], [.int 126, .int b1], _, _, _)) rfl ?_
      refine pm_ev_many 1 (s' := (if b1 ≤ 126 then 53 else 51, [some (.ref 1), some (.int (xs 1)), some (.int 3), some (.int 1), some (.int b1)], [], _, _, _)) rfl ?_
      rw [if_pos c1]
      refine pm_ev_many 7 (s' := (32, [some (.ref 1), some (.int (xs 1)), some (.int 3), some (.int 2), some (.int b1)], [.int 2, .int (xs 1)], _, _, _)) rfl ?_
      refine pe_stat (al := [.int 2, .int (xs 1)]) (L0 := [some (.int (xs 1)), some (.int 2)]) (r1 := (some (.int b2), 129, 17845, h)) rfl rfl rfl rfl rfl rfl (Nat.le_of_ble_eq_true rfl) (Nat.le_of_ble_eq_true rfl) rfl rfl ?_ ?_
      · refine pm_ev_many 7 (s' := (10, [some (.int (xs 1)), some (.int 2)], [.int (((((xs 1)).toUInt32 >>> ((16 : Int32).toUInt32 &&& Int32.toUInt32 31)).toInt32) &&& 255)], _, _, _)) rfl ?_
        rw [hc2]
        exact pm_ev_ret rfl
      show pm_ev _ _ _ _ _ (35, [some (.ref 1), some (.int (xs 1)), some (.int 3), some (.int 2), some (.int b1)], [.int b2], _, _, _) _
      refine pm_ev_many 3 (s' := (41, [some (.ref 1), some (.int (xs 1)), some (.int 3), some (.int 2), some (.int b2)], [.int 32, .int b2], _, _, _)) rfl ?_
      refine pm_ev_many 1 (s' := (if b2 < 32 then 51 else 44, [some (.ref 1), some (.int (xs 1)), some (.int 3), some (.int 2), some (.int b2)], [], _, _, _)) rfl ?_
      rw [if_neg a2]
      refine pm_ev_many 2 (s' := (48, [some (.ref 1), some (.int (xs 1)), some (.int 3), some (.int 2), some (.int b2)], [.int 126, .int b2], _, _, _)) rfl ?_
      refine pm_ev_many 1 (s' := (if b2 ≤ 126 then 53 else 51, [some (.ref 1), some (.int (xs 1)), some (.int 3), some (.int 2), some (.int b2)], [], _, _, _)) rfl ?_
      rw [if_neg c2]
      refine pm_ev_many 1 (s' := (52, [some (.ref 1), some (.int (xs 1)), some (.int 3), some (.int 2), some (.int b2)], [.int 0], _, _, _)) rfl ?_
      exact pm_ev_ret rfl
    show pm_ev _ _ _ _ _ (9, [some (.ref 0), some (.int (xs 1)), some (.int 3)], [.int 0], _, _, _) _
    exact pm_ev_ret rfl
  show pm_ev _ _ _ _ _ (102, [some (.retAddr 0), some (.ref 0), some (.ref 83), some (.int 0)], [.int 0], _, _, _) _
  refine pm_ev_many 11 (s' := (113, [some (.retAddr 0), some (.ref 0), some (.ref 83), some (.int 0)], [.int (xs 2), .int (xs 1), .ref 83, .int 0], _, _, _)) rfl ?_
  rw [hn]
  refine pe_virt (al := [.int 3, .int (xs 1)]) (a := 83) (L0 := [some (.ref 83), some (.int (xs 1)), some (.int 3), none, none]) (r1 := (some (.int 0), 129, 17845, h)) rfl rfl rfl rfl rfl f83 (by decide) rfl (Nat.le_of_ble_eq_true rfl) (Nat.le_of_ble_eq_true rfl) rfl rfl ?_ ?_
  · refine pm_ev_many 3 (s' := (3, [some (.ref 83), some (.int (xs 1)), some (.int 3), none, none], [.int 4, .int 1, .int 3], _, _, _)) rfl ?_
    refine pe_stat (al := [.int 4, .int 1, .int 3]) (L0 := [some (.int 3), some (.int 1), some (.int 4)]) (r1 := (some (.int 1), 129, 17845, h)) rfl rfl rfl rfl rfl rfl (Nat.le_of_ble_eq_true rfl) (Nat.le_of_ble_eq_true rfl) rfl rfl ?_ ?_
    · refine pm_ev_many 8 (s' := (15, [some (.int 3), some (.int 1), some (.int 4)], [.int 1], _, _, _)) rfl ?_
      exact pm_ev_ret rfl
    show pm_ev _ _ _ _ _ (6, [some (.ref 83), some (.int (xs 1)), some (.int 3), none, none], [.int 1], _, _, _) _
    refine pm_ev_many 2 (s' := (10, [some (.ref 83), some (.int (xs 1)), some (.int 3), none, none], [.ref 83], _, _, _)) rfl ?_
    refine pe_get rfl rfl rfl f83 (by decide) rfl ?_
    refine pm_ev_many 21 (s' := (50, [some (.ref 83), some (.int (xs 1)), some (.int 3), some (.int 1), some (.int 0)], [.int (((xs 1) >>> (0 &&& 31)) &&& 255)], _, _, _)) rfl ?_
    rw [hm0]
    refine pm_ev_many 2 (s' := (54, [some (.ref 83), some (.int (xs 1)), some (.int 3), some (.int 1), some (.int 0)], [.int 126, .int 32, .int b0], _, _, _)) rfl ?_
    refine pe_stat (al := [.int 126, .int 32, .int b0]) (L0 := [some (.int b0), some (.int 32), some (.int 126)]) (r1 := (some (.int 1), 129, 17845, h)) rfl rfl rfl rfl rfl rfl (Nat.le_of_ble_eq_true rfl) (Nat.le_of_ble_eq_true rfl) rfl rfl ?_ ?_
    · refine pm_ev_many 2 (s' := (2, [some (.int b0), some (.int 32), some (.int 126)], [.int 32, .int b0], _, _, _)) rfl ?_
      refine pm_ev_many 1 (s' := (if b0 < 32 then 14 else 5, [some (.int b0), some (.int 32), some (.int 126)], [], _, _, _)) rfl ?_
      rw [if_neg a0]
      refine pm_ev_many 2 (s' := (7, [some (.int b0), some (.int 32), some (.int 126)], [.int 126, .int b0], _, _, _)) rfl ?_
      refine pm_ev_many 1 (s' := (if 126 < b0 then 14 else 10, [some (.int b0), some (.int 32), some (.int 126)], [], _, _, _)) rfl ?_
      rw [if_neg e0]
      refine pm_ev_many 2 (s' := (15, [some (.int b0), some (.int 32), some (.int 126)], [.int 1], _, _, _)) rfl ?_
      exact pm_ev_ret rfl
    show pm_ev _ _ _ _ _ (57, [some (.ref 83), some (.int (xs 1)), some (.int 3), some (.int 1), some (.int 0)], [.int 1], _, _, _) _
    refine pm_ev_many 15 (s' := (50, [some (.ref 83), some (.int (xs 1)), some (.int 3), some (.int 1), some (.int 1)], [.int (((xs 1) >>> (8 &&& 31)) &&& 255)], _, _, _)) rfl ?_
    rw [hm1]
    refine pm_ev_many 2 (s' := (54, [some (.ref 83), some (.int (xs 1)), some (.int 3), some (.int 1), some (.int 1)], [.int 126, .int 32, .int b1], _, _, _)) rfl ?_
    refine pe_stat (al := [.int 126, .int 32, .int b1]) (L0 := [some (.int b1), some (.int 32), some (.int 126)]) (r1 := (some (.int 1), 129, 17845, h)) rfl rfl rfl rfl rfl rfl (Nat.le_of_ble_eq_true rfl) (Nat.le_of_ble_eq_true rfl) rfl rfl ?_ ?_
    · refine pm_ev_many 2 (s' := (2, [some (.int b1), some (.int 32), some (.int 126)], [.int 32, .int b1], _, _, _)) rfl ?_
      refine pm_ev_many 1 (s' := (if b1 < 32 then 14 else 5, [some (.int b1), some (.int 32), some (.int 126)], [], _, _, _)) rfl ?_
      rw [if_neg a1]
      refine pm_ev_many 2 (s' := (7, [some (.int b1), some (.int 32), some (.int 126)], [.int 126, .int b1], _, _, _)) rfl ?_
      refine pm_ev_many 1 (s' := (if 126 < b1 then 14 else 10, [some (.int b1), some (.int 32), some (.int 126)], [], _, _, _)) rfl ?_
      rw [if_neg e1]
      refine pm_ev_many 2 (s' := (15, [some (.int b1), some (.int 32), some (.int 126)], [.int 1], _, _, _)) rfl ?_
      exact pm_ev_ret rfl
    show pm_ev _ _ _ _ _ (57, [some (.ref 83), some (.int (xs 1)), some (.int 3), some (.int 1), some (.int 1)], [.int 1], _, _, _) _
    refine pm_ev_many 15 (s' := (50, [some (.ref 83), some (.int (xs 1)), some (.int 3), some (.int 1), some (.int 2)], [.int (((xs 1) >>> (16 &&& 31)) &&& 255)], _, _, _)) rfl ?_
    rw [hm2]
    refine pm_ev_many 2 (s' := (54, [some (.ref 83), some (.int (xs 1)), some (.int 3), some (.int 1), some (.int 2)], [.int 126, .int 32, .int b2], _, _, _)) rfl ?_
    refine pe_stat (al := [.int 126, .int 32, .int b2]) (L0 := [some (.int b2), some (.int 32), some (.int 126)]) (r1 := (some (.int 0), 129, 17845, h)) rfl rfl rfl rfl rfl rfl (Nat.le_of_ble_eq_true rfl) (Nat.le_of_ble_eq_true rfl) rfl rfl ?_ ?_
    · refine pm_ev_many 2 (s' := (2, [some (.int b2), some (.int 32), some (.int 126)], [.int 32, .int b2], _, _, _)) rfl ?_
      refine pm_ev_many 1 (s' := (if b2 < 32 then 14 else 5, [some (.int b2), some (.int 32), some (.int 126)], [], _, _, _)) rfl ?_
      rw [if_neg a2]
      refine pm_ev_many 2 (s' := (7, [some (.int b2), some (.int 32), some (.int 126)], [.int 126, .int b2], _, _, _)) rfl ?_
      refine pm_ev_many 1 (s' := (if 126 < b2 then 14 else 10, [some (.int b2), some (.int 32), some (.int 126)], [], _, _, _)) rfl ?_
      rw [if_pos e2]
      refine pm_ev_many 1 (s' := (15, [some (.int b2), some (.int 32), some (.int 126)], [.int 0], _, _, _)) rfl ?_
      exact pm_ev_ret rfl
    show pm_ev _ _ _ _ _ (57, [some (.ref 83), some (.int (xs 1)), some (.int 3), some (.int 1), some (.int 2)], [.int 0], _, _, _) _
    refine pm_ev_many 15 (s' := (115, [some (.ref 83), some (.int (xs 1)), some (.int 3), some (.int 0), some (.int 2)], [.int 0], _, _, _)) rfl ?_
    exact pm_ev_ret rfl
  show pm_ev _ _ _ _ _ (116, [some (.retAddr 0), some (.ref 0), some (.ref 83), some (.int 0)], [.int 0, .int 0], _, _, _) _
  refine pm_ev_many 10 (s' := (295, [some (.retAddr 0), some (.ref 0), some (.ref 83), some (.int 3)], [.int 1], _, _, _)) rfl ?_
  exact pm_ev_ret rfl
set_option maxRecDepth 100000 in
set_option maxHeartbeats 4000000 in
theorem p1_0_3_3ok (d : Nat) (xs : Nat → Int32) (h : Nat → va_E) (hi : pm_init h) (hn : xs 2 = 3) (b0 : Int32) (hc0 : ((((xs 1)).toUInt32 >>> ((0 : Int32).toUInt32 &&& Int32.toUInt32 31)).toInt32) &&& 255 = b0) (hm0 : ((xs 1) >>> (0 &&& 31)) &&& 255 = b0) (a0 : ¬ b0 < 32) (c0 : b0 ≤ 126) (e0 : ¬ 126 < b0) (b1 : Int32) (hc1 : ((((xs 1)).toUInt32 >>> ((8 : Int32).toUInt32 &&& Int32.toUInt32 31)).toInt32) &&& 255 = b1) (hm1 : ((xs 1) >>> (8 &&& 31)) &&& 255 = b1) (a1 : ¬ b1 < 32) (c1 : b1 ≤ 126) (e1 : ¬ 126 < b1) (b2 : Int32) (hc2 : ((((xs 1)).toUInt32 >>> ((16 : Int32).toUInt32 &&& Int32.toUInt32 31)).toInt32) &&& 255 = b2) (hm2 : ((xs 1) >>> (16 &&& 31)) &&& 255 = b2) (a2 : ¬ b2 < 32) (c2 : b2 ≤ 126) (e2 : ¬ 126 < b2) : ∃ h' : Nat → va_E, pm_ev pmT (some (3, xs)) (d + 10) 214 true (32, [some (.retAddr 0), some (.ref 0), some (.ref 83), some (.int 0)], [.int 0], 129, 17845, h) (some (.int 1), 129, 17845, h') := by
  obtain ⟨f0, f1, f2, f3, f4, f5, f6, f7, f8, f9, f10, f11, f12, f13, f14, f15, f16, f17, f18, f19, f20, f21, f22, f23, f24, f25, f26, f27, f28, f29, f30, f31, f32, f33, f34, f35, f36, f37, f38, f39, f40, f41, f42, f43, f44, f45, f46, f47, f48, f49, f50, f51, f52, f53, f54, f55, f56, f57, f58, f59, f60, f61, f62, f63, f64, f65, f66, f67, f68, f69, f70, f71, f72, f73, f74, f75, f76, f77, f78, f79, f80, f81, f82, f83, f84, f85, f86, f87, f88, f89, f90, f91, f92, f93, f94, f95, f96, f97, f98, f99, f100, f101, f102, f103, f104, f105, f106, f107, f108, f109, f110, f111, f112, f113, f114, f115, f116, f117, f118, f119, f120, f121, f122, f123, f124, f125, f126, f127, f128⟩ := hi
  refine ⟨va_up (va_up (va_up (va_up (va_up (va_up (va_up (va_up (va_up (va_up (va_up (va_up h 2 (.inl (0, 120, .inl (upd (fun _ => 0) (0 : Int32).toNatClampNeg b2)))) 1 (.inr (10, [.ref 2, .int 1, .int 0, .int 0]))) 2 (.inl (0, 120, .inl (upd (upd (fun _ => 0) (0 : Int32).toNatClampNeg b2) (1 : Int32).toNatClampNeg b1)))) 1 (.inr (10, [.ref 2, .int 2, .int 0, .int 0]))) 2 (.inl (0, 120, .inl (upd (upd (upd (fun _ => 0) (0 : Int32).toNatClampNeg b2) (1 : Int32).toNatClampNeg b1) (2 : Int32).toNatClampNeg b0)))) 1 (.inr (10, [.ref 2, .int 3, .int 0, .int 0]))) 84 (.inl (0, 120, .inl (upd (fun _ => 0) (0 : Int32).toNatClampNeg b2)))) 83 (.inr (12, [.ref 84, .int 1, .ref 85, .int 0, .int 0, .int 0, .int 0, .int 0, .int 0, .int 0, .ref 86, .ref 87, .ref 88, .ref 89, .ref 90, .ref 91, .ref 92, .ref 93, .ref 94, .ref 95, .ref 96, .ref 97, .ref 98, .ref 99, .ref 100, .ref 101, .ref 102, .int 0, .ref 103, .ref 104, .int 0, .int 0, .int 0, .int 0, .int 0, .ref 105, .ref 106, .int 0, .int 0, .ref 107, .int 0, .ref 108, .ref 109, .ref 110, .ref 111, .ref 112, .ref 113, .ref 114, .ref 115, .ref 116, .ref 117, .ref 118, .int 0, .ref 119, .ref 120, .ref 121, .int 0, .ref 122, .ref 123, .ref 124, .ref 125, .ref 126, .int 0, .ref 127, .ref 128]))) 84 (.inl (0, 120, .inl (upd (upd (fun _ => 0) (0 : Int32).toNatClampNeg b2) (1 : Int32).toNatClampNeg b1)))) 83 (.inr (12, [.ref 84, .int 2, .ref 85, .int 0, .int 0, .int 0, .int 0, .int 0, .int 0, .int 0, .ref 86, .ref 87, .ref 88, .ref 89, .ref 90, .ref 91, .ref 92, .ref 93, .ref 94, .ref 95, .ref 96, .ref 97, .ref 98, .ref 99, .ref 100, .ref 101, .ref 102, .int 0, .ref 103, .ref 104, .int 0, .int 0, .int 0, .int 0, .int 0, .ref 105, .ref 106, .int 0, .int 0, .ref 107, .int 0, .ref 108, .ref 109, .ref 110, .ref 111, .ref 112, .ref 113, .ref 114, .ref 115, .ref 116, .ref 117, .ref 118, .int 0, .ref 119, .ref 120, .ref 121, .int 0, .ref 122, .ref 123, .ref 124, .ref 125, .ref 126, .int 0, .ref 127, .ref 128]))) 84 (.inl (0, 120, .inl (upd (upd (upd (fun _ => 0) (0 : Int32).toNatClampNeg b2) (1 : Int32).toNatClampNeg b1) (2 : Int32).toNatClampNeg b0)))) 83 (.inr (12, [.ref 84, .int 3, .ref 85, .int 0, .int 0, .int 0, .int 0, .int 0, .int 0, .int 0, .ref 86, .ref 87, .ref 88, .ref 89, .ref 90, .ref 91, .ref 92, .ref 93, .ref 94, .ref 95, .ref 96, .ref 97, .ref 98, .ref 99, .ref 100, .ref 101, .ref 102, .int 0, .ref 103, .ref 104, .int 0, .int 0, .int 0, .int 0, .int 0, .ref 105, .ref 106, .int 0, .int 0, .ref 107, .int 0, .ref 108, .ref 109, .ref 110, .ref 111, .ref 112, .ref 113, .ref 114, .ref 115, .ref 116, .ref 117, .ref 118, .int 0, .ref 119, .ref 120, .ref 121, .int 0, .ref 122, .ref 123, .ref 124, .ref 125, .ref 126, .int 0, .ref 127, .ref 128])), ?_⟩
  refine pm_ev_many 12 (s' := (99, [some (.retAddr 0), some (.ref 0), some (.ref 83), some (.int 0)], [.int (xs 2), .int (xs 1), .ref 0], _, _, _)) rfl ?_
  rw [hn]
  refine pe_virt (al := [.int 3, .int (xs 1)]) (a := 0) (L0 := [some (.ref 0), some (.int (xs 1)), some (.int 3)]) (r1 := (some (.int 1), 129, 17845, va_up (va_up (va_up (va_up (va_up (va_up h 2 (.inl (0, 120, .inl (upd (fun _ => 0) (0 : Int32).toNatClampNeg b2)))) 1 (.inr (10, [.ref 2, .int 1, .int 0, .int 0]))) 2 (.inl (0, 120, .inl (upd (upd (fun _ => 0) (0 : Int32).toNatClampNeg b2) (1 : Int32).toNatClampNeg b1)))) 1 (.inr (10, [.ref 2, .int 2, .int 0, .int 0]))) 2 (.inl (0, 120, .inl (upd (upd (upd (fun _ => 0) (0 : Int32).toNatClampNeg b2) (1 : Int32).toNatClampNeg b1) (2 : Int32).toNatClampNeg b0)))) 1 (.inr (10, [.ref 2, .int 3, .int 0, .int 0])))) rfl rfl rfl rfl rfl f0 (by decide) rfl (Nat.le_of_ble_eq_true rfl) (Nat.le_of_ble_eq_true rfl) rfl rfl ?_ ?_
  · refine pm_ev_many 1 (s' := (1, [some (.ref 0), some (.int (xs 1)), some (.int 3)], [.ref 0], _, _, _)) rfl ?_
    refine pe_get rfl rfl rfl f0 (by decide) rfl ?_
    refine pm_ev_many 2 (s' := (6, [some (.ref 0), some (.int (xs 1)), some (.int 3)], [.int 3, .int (xs 1), .ref 1], _, _, _)) rfl ?_
    refine pe_virt (al := [.int 3, .int (xs 1)]) (a := 1) (L0 := [some (.ref 1), some (.int (xs 1)), some (.int 3), none, none]) (r1 := (some (.int 1), 129, 17845, va_up (va_up (va_up (va_up (va_up (va_up h 2 (.inl (0, 120, .inl (upd (fun _ => 0) (0 : Int32).toNatClampNeg b2)))) 1 (.inr (10, [.ref 2, .int 1, .int 0, .int 0]))) 2 (.inl (0, 120, .inl (upd (upd (fun _ => 0) (0 : Int32).toNatClampNeg b2) (1 : Int32).toNatClampNeg b1)))) 1 (.inr (10, [.ref 2, .int 2, .int 0, .int 0]))) 2 (.inl (0, 120, .inl (upd (upd (upd (fun _ => 0) (0 : Int32).toNatClampNeg b2) (1 : Int32).toNatClampNeg b1) (2 : Int32).toNatClampNeg b0)))) 1 (.inr (10, [.ref 2, .int 3, .int 0, .int 0])))) rfl rfl rfl rfl rfl f1 (by decide) rfl (Nat.le_of_ble_eq_true rfl) (Nat.le_of_ble_eq_true rfl) rfl rfl ?_ ?_
    · refine pm_ev_many 7 (s' := (11, [some (.ref 1), some (.int (xs 1)), some (.int 3), none, none], [.ref 1], _, _, _)) rfl ?_
      refine pe_get rfl rfl rfl f1 (by decide) rfl ?_
      refine pm_ev_many 11 (s' := (32, [some (.ref 1), some (.int (xs 1)), some (.int 3), some (.int 0), none], [.int 0, .int (xs 1)], _, _, _)) rfl ?_
      refine pe_stat (al := [.int 0, .int (xs 1)]) (L0 := [some (.int (xs 1)), some (.int 0)]) (r1 := (some (.int b0), 129, 17845, h)) rfl rfl rfl rfl rfl rfl (Nat.le_of_ble_eq_true rfl) (Nat.le_of_ble_eq_true rfl) rfl rfl ?_ ?_
      · refine pm_ev_many 7 (s' := (10, [some (.int (xs 1)), some (.int 0)], [.int (((((xs 1)).toUInt32 >>> ((0 : Int32).toUInt32 &&& Int32.toUInt32 31)).toInt32) &&& 255)], _, _, _)) rfl ?_
        rw [hc0]
        exact pm_ev_ret rfl
      show pm_ev _ _ _ _ _ (35, [some (.ref 1), some (.int (xs 1)), some (.int 3), some (.int 0), none], [.int b0], _, _, _) _
      refine pm_ev_many 3 (s' := (41, [some (.ref 1), some (.int (xs 1)), some (.int 3), some (.int 0), some (.int b0)], [.int 32, .int b0], _, _, _)) rfl ?_
      refine pm_ev_many 1 (s' := (if b0 < 32 then 51 else 44, [some (.ref 1), some (.int (xs 1)), some (.int 3), some (.int 0), some (.int b0)], [], _, _, _)) rfl ?_
      rw [if_neg a0]
      refine pm_ev_many 2 (s' := (48, [some (.ref 1), some (.int (xs 1)), some (.int 3), some (.int 0), some (.int b0)], [.int 126, .int b0], _, _, _)) rfl ?_
      refine pm_ev_many 1 (s' := (if b0 ≤ 126 then 53 else 51, [some (.ref 1), some (.int (xs 1)), some (.int 3), some (.int 0), some (.int b0)], [], _, _, _)) rfl ?_
      rw [if_pos c0]
      refine pm_ev_many 7 (s' := (32, [some (.ref 1), some (.int (xs 1)), some (.int 3), some (.int 1), some (.int b0)], [.int 1, .int (xs 1)], _, _, _)) rfl ?_
      refine pe_stat (al := [.int 1, .int (xs 1)]) (L0 := [some (.int (xs 1)), some (.int 1)]) (r1 := (some (.int b1), 129, 17845, h)) rfl rfl rfl rfl rfl rfl (Nat.le_of_ble_eq_true rfl) (Nat.le_of_ble_eq_true rfl) rfl rfl ?_ ?_
      · refine pm_ev_many 7 (s' := (10, [some (.int (xs 1)), some (.int 1)], [.int (((((xs 1)).toUInt32 >>> ((8 : Int32).toUInt32 &&& Int32.toUInt32 31)).toInt32) &&& 255)], _, _, _)) rfl ?_
        rw [hc1]
        exact pm_ev_ret rfl
      show pm_ev _ _ _ _ _ (35, [some (.ref 1), some (.int (xs 1)), some (.int 3), some (.int 1), some (.int b0)], [.int b1], _, _, _) _
      refine pm_ev_many 3 (s' := (41, [some (.ref 1), some (.int (xs 1)), some (.int 3), some (.int 1), some (.int b1)], [.int 32, .int b1], _, _, _)) rfl ?_
      refine pm_ev_many 1 (s' := (if b1 < 32 then 51 else 44, [some (.ref 1), some (.int (xs 1)), some (.int 3), some (.int 1), some (.int b1)], [], _, _, _)) rfl ?_
      rw [if_neg a1]
      refine pm_ev_many 2 (s' := (48, [some (.ref 1), some (.int (xs 1)), some (.int 3), some (.int 1), some (.int b1)], [.int 126, .int b1], _, _, _)) rfl ?_
      refine pm_ev_many 1 (s' := (if b1 ≤ 126 then 53 else 51, [some (.ref 1), some (.int (xs 1)), some (.int 3), some (.int 1), some (.int b1)], [], _, _, _)) rfl ?_
      rw [if_pos c1]
      refine pm_ev_many 7 (s' := (32, [some (.ref 1), some (.int (xs 1)), some (.int 3), some (.int 2), some (.int b1)], [.int 2, .int (xs 1)], _, _, _)) rfl ?_
      refine pe_stat (al := [.int 2, .int (xs 1)]) (L0 := [some (.int (xs 1)), some (.int 2)]) (r1 := (some (.int b2), 129, 17845, h)) rfl rfl rfl rfl rfl rfl (Nat.le_of_ble_eq_true rfl) (Nat.le_of_ble_eq_true rfl) rfl rfl ?_ ?_
      · refine pm_ev_many 7 (s' := (10, [some (.int (xs 1)), some (.int 2)], [.int (((((xs 1)).toUInt32 >>> ((16 : Int32).toUInt32 &&& Int32.toUInt32 31)).toInt32) &&& 255)], _, _, _)) rfl ?_
        rw [hc2]
        exact pm_ev_ret rfl
      show pm_ev _ _ _ _ _ (35, [some (.ref 1), some (.int (xs 1)), some (.int 3), some (.int 2), some (.int b1)], [.int b2], _, _, _) _
      refine pm_ev_many 3 (s' := (41, [some (.ref 1), some (.int (xs 1)), some (.int 3), some (.int 2), some (.int b2)], [.int 32, .int b2], _, _, _)) rfl ?_
      refine pm_ev_many 1 (s' := (if b2 < 32 then 51 else 44, [some (.ref 1), some (.int (xs 1)), some (.int 3), some (.int 2), some (.int b2)], [], _, _, _)) rfl ?_
      rw [if_neg a2]
      refine pm_ev_many 2 (s' := (48, [some (.ref 1), some (.int (xs 1)), some (.int 3), some (.int 2), some (.int b2)], [.int 126, .int b2], _, _, _)) rfl ?_
      refine pm_ev_many 1 (s' := (if b2 ≤ 126 then 53 else 51, [some (.ref 1), some (.int (xs 1)), some (.int 3), some (.int 2), some (.int b2)], [], _, _, _)) rfl ?_
      rw [if_pos c2]
      refine pm_ev_many 12 (s' := (68, [some (.ref 1), some (.int (xs 1)), some (.int 3), some (.int 2), some (.int b2)], [.ref 1], _, _, _)) rfl ?_
      refine pe_get rfl rfl rfl f1 (by decide) rfl ?_
      refine pm_ev_many 1 (s' := (72, [some (.ref 1), some (.int (xs 1)), some (.int 3), some (.int 2), some (.int b2)], [.ref 1, .ref 2], _, _, _)) rfl ?_
      refine pe_get rfl rfl rfl f1 (by decide) rfl ?_
      refine pm_ev_many 2 (s' := (77, [some (.ref 1), some (.int (xs 1)), some (.int 3), some (.int 2), some (.int b2)], [.int 2, .int (xs 1), .int 0, .ref 2], _, _, _)) rfl ?_
      refine pe_stat (al := [.int 2, .int (xs 1)]) (L0 := [some (.int (xs 1)), some (.int 2)]) (r1 := (some (.int b2), 129, 17845, h)) rfl rfl rfl rfl rfl rfl (Nat.le_of_ble_eq_true rfl) (Nat.le_of_ble_eq_true rfl) rfl rfl ?_ ?_
      · refine pm_ev_many 7 (s' := (10, [some (.int (xs 1)), some (.int 2)], [.int (((((xs 1)).toUInt32 >>> ((16 : Int32).toUInt32 &&& Int32.toUInt32 31)).toInt32) &&& 255)], _, _, _)) rfl ?_
        rw [hc2]
        exact pm_ev_ret rfl
      show pm_ev _ _ _ _ _ (80, [some (.ref 1), some (.int (xs 1)), some (.int 3), some (.int 2), some (.int b2)], [.int b2, .int 0, .ref 2], _, _, _) _
      refine pe_iast rfl rfl f2 (by decide) (by decide) ?_
      refine pm_ev_many 2 (s' := (83, [some (.ref 1), some (.int (xs 1)), some (.int 3), some (.int 2), some (.int b2)], [.ref 1, .ref 1], _, _, _)) rfl ?_
      refine pe_get rfl rfl rfl ((va_up_ne _ _ (by decide)).trans f1) (by decide) rfl ?_
      refine pm_ev_many 2 (s' := (88, [some (.ref 1), some (.int (xs 1)), some (.int 3), some (.int 2), some (.int b2)], [.int 1, .ref 1], _, _, _)) rfl ?_
      refine pe_put rfl rfl rfl ((va_up_ne _ _ (by decide)).trans f1) (by decide) (Nat.le_of_ble_eq_true rfl) rfl ?_
      show pm_ev _ _ _ _ _ (91, [some (.ref 1), some (.int (xs 1)), some (.int 3), some (.int 2), some (.int b2)], [], _, _, va_up _ 1 (.inr (10, [.ref 2, .int 1, .int 0, .int 0]))) _
      refine pm_ev_many 5 (s' := (68, [some (.ref 1), some (.int (xs 1)), some (.int 3), some (.int 1), some (.int b2)], [.ref 1], _, _, _)) rfl ?_
      refine pe_get rfl rfl rfl (va_up_self _ _ _) (by decide) rfl ?_
      refine pm_ev_many 1 (s' := (72, [some (.ref 1), some (.int (xs 1)), some (.int 3), some (.int 1), some (.int b2)], [.ref 1, .ref 2], _, _, _)) rfl ?_
      refine pe_get rfl rfl rfl (va_up_self _ _ _) (by decide) rfl ?_
      refine pm_ev_many 2 (s' := (77, [some (.ref 1), some (.int (xs 1)), some (.int 3), some (.int 1), some (.int b2)], [.int 1, .int (xs 1), .int 1, .ref 2], _, _, _)) rfl ?_
      refine pe_stat (al := [.int 1, .int (xs 1)]) (L0 := [some (.int (xs 1)), some (.int 1)]) (r1 := (some (.int b1), 129, 17845, va_up (va_up h 2 (.inl (0, 120, .inl (upd (fun _ => 0) (0 : Int32).toNatClampNeg b2)))) 1 (.inr (10, [.ref 2, .int 1, .int 0, .int 0])))) rfl rfl rfl rfl rfl rfl (Nat.le_of_ble_eq_true rfl) (Nat.le_of_ble_eq_true rfl) rfl rfl ?_ ?_
      · refine pm_ev_many 7 (s' := (10, [some (.int (xs 1)), some (.int 1)], [.int (((((xs 1)).toUInt32 >>> ((8 : Int32).toUInt32 &&& Int32.toUInt32 31)).toInt32) &&& 255)], _, _, _)) rfl ?_
        rw [hc1]
        exact pm_ev_ret rfl
      show pm_ev _ _ _ _ _ (80, [some (.ref 1), some (.int (xs 1)), some (.int 3), some (.int 1), some (.int b2)], [.int b1, .int 1, .ref 2], _, _, _) _
      refine pe_iast rfl rfl ((va_up_ne _ _ (by decide)).trans (va_up_self _ _ _)) (by decide) (by decide) ?_
      refine pm_ev_many 2 (s' := (83, [some (.ref 1), some (.int (xs 1)), some (.int 3), some (.int 1), some (.int b2)], [.ref 1, .ref 1], _, _, _)) rfl ?_
      refine pe_get rfl rfl rfl ((va_up_ne _ _ (by decide)).trans (va_up_self _ _ _)) (by decide) rfl ?_
      refine pm_ev_many 2 (s' := (88, [some (.ref 1), some (.int (xs 1)), some (.int 3), some (.int 1), some (.int b2)], [.int 2, .ref 1], _, _, _)) rfl ?_
      refine pe_put rfl rfl rfl ((va_up_ne _ _ (by decide)).trans (va_up_self _ _ _)) (by decide) (Nat.le_of_ble_eq_true rfl) rfl ?_
      show pm_ev _ _ _ _ _ (91, [some (.ref 1), some (.int (xs 1)), some (.int 3), some (.int 1), some (.int b2)], [], _, _, va_up _ 1 (.inr (10, [.ref 2, .int 2, .int 0, .int 0]))) _
      refine pm_ev_many 5 (s' := (68, [some (.ref 1), some (.int (xs 1)), some (.int 3), some (.int 0), some (.int b2)], [.ref 1], _, _, _)) rfl ?_
      refine pe_get rfl rfl rfl (va_up_self _ _ _) (by decide) rfl ?_
      refine pm_ev_many 1 (s' := (72, [some (.ref 1), some (.int (xs 1)), some (.int 3), some (.int 0), some (.int b2)], [.ref 1, .ref 2], _, _, _)) rfl ?_
      refine pe_get rfl rfl rfl (va_up_self _ _ _) (by decide) rfl ?_
      refine pm_ev_many 2 (s' := (77, [some (.ref 1), some (.int (xs 1)), some (.int 3), some (.int 0), some (.int b2)], [.int 0, .int (xs 1), .int 2, .ref 2], _, _, _)) rfl ?_
      refine pe_stat (al := [.int 0, .int (xs 1)]) (L0 := [some (.int (xs 1)), some (.int 0)]) (r1 := (some (.int b0), 129, 17845, va_up (va_up (va_up (va_up h 2 (.inl (0, 120, .inl (upd (fun _ => 0) (0 : Int32).toNatClampNeg b2)))) 1 (.inr (10, [.ref 2, .int 1, .int 0, .int 0]))) 2 (.inl (0, 120, .inl (upd (upd (fun _ => 0) (0 : Int32).toNatClampNeg b2) (1 : Int32).toNatClampNeg b1)))) 1 (.inr (10, [.ref 2, .int 2, .int 0, .int 0])))) rfl rfl rfl rfl rfl rfl (Nat.le_of_ble_eq_true rfl) (Nat.le_of_ble_eq_true rfl) rfl rfl ?_ ?_
      · refine pm_ev_many 7 (s' := (10, [some (.int (xs 1)), some (.int 0)], [.int (((((xs 1)).toUInt32 >>> ((0 : Int32).toUInt32 &&& Int32.toUInt32 31)).toInt32) &&& 255)], _, _, _)) rfl ?_
        rw [hc0]
        exact pm_ev_ret rfl
      show pm_ev _ _ _ _ _ (80, [some (.ref 1), some (.int (xs 1)), some (.int 3), some (.int 0), some (.int b2)], [.int b0, .int 2, .ref 2], _, _, _) _
      refine pe_iast rfl rfl ((va_up_ne _ _ (by decide)).trans (va_up_self _ _ _)) (by decide) (by decide) ?_
      refine pm_ev_many 2 (s' := (83, [some (.ref 1), some (.int (xs 1)), some (.int 3), some (.int 0), some (.int b2)], [.ref 1, .ref 1], _, _, _)) rfl ?_
      refine pe_get rfl rfl rfl ((va_up_ne _ _ (by decide)).trans (va_up_self _ _ _)) (by decide) rfl ?_
      refine pm_ev_many 2 (s' := (88, [some (.ref 1), some (.int (xs 1)), some (.int 3), some (.int 0), some (.int b2)], [.int 3, .ref 1], _, _, _)) rfl ?_
      refine pe_put rfl rfl rfl ((va_up_ne _ _ (by decide)).trans (va_up_self _ _ _)) (by decide) (Nat.le_of_ble_eq_true rfl) rfl ?_
      show pm_ev _ _ _ _ _ (91, [some (.ref 1), some (.int (xs 1)), some (.int 3), some (.int 0), some (.int b2)], [], _, _, va_up _ 1 (.inr (10, [.ref 2, .int 3, .int 0, .int 0]))) _
      refine pm_ev_many 5 (s' := (98, [some (.ref 1), some (.int (xs 1)), some (.int 3), some (.int (-1)), some (.int b2)], [.int 1], _, _, _)) rfl ?_
      exact pm_ev_ret rfl
    show pm_ev _ _ _ _ _ (9, [some (.ref 0), some (.int (xs 1)), some (.int 3)], [.int 1], _, _, _) _
    exact pm_ev_ret rfl
  show pm_ev _ _ _ _ _ (102, [some (.retAddr 0), some (.ref 0), some (.ref 83), some (.int 0)], [.int 1], _, _, _) _
  refine pm_ev_many 11 (s' := (113, [some (.retAddr 0), some (.ref 0), some (.ref 83), some (.int 0)], [.int (xs 2), .int (xs 1), .ref 83, .int 1], _, _, _)) rfl ?_
  rw [hn]
  refine pe_virt (al := [.int 3, .int (xs 1)]) (a := 83) (L0 := [some (.ref 83), some (.int (xs 1)), some (.int 3), none, none]) (r1 := (some (.int 1), 129, 17845, va_up (va_up (va_up (va_up (va_up (va_up (va_up (va_up (va_up (va_up (va_up (va_up h 2 (.inl (0, 120, .inl (upd (fun _ => 0) (0 : Int32).toNatClampNeg b2)))) 1 (.inr (10, [.ref 2, .int 1, .int 0, .int 0]))) 2 (.inl (0, 120, .inl (upd (upd (fun _ => 0) (0 : Int32).toNatClampNeg b2) (1 : Int32).toNatClampNeg b1)))) 1 (.inr (10, [.ref 2, .int 2, .int 0, .int 0]))) 2 (.inl (0, 120, .inl (upd (upd (upd (fun _ => 0) (0 : Int32).toNatClampNeg b2) (1 : Int32).toNatClampNeg b1) (2 : Int32).toNatClampNeg b0)))) 1 (.inr (10, [.ref 2, .int 3, .int 0, .int 0]))) 84 (.inl (0, 120, .inl (upd (fun _ => 0) (0 : Int32).toNatClampNeg b2)))) 83 (.inr (12, [.ref 84, .int 1, .ref 85, .int 0, .int 0, .int 0, .int 0, .int 0, .int 0, .int 0, .ref 86, .ref 87, .ref 88, .ref 89, .ref 90, .ref 91, .ref 92, .ref 93, .ref 94, .ref 95, .ref 96, .ref 97, .ref 98, .ref 99, .ref 100, .ref 101, .ref 102, .int 0, .ref 103, .ref 104, .int 0, .int 0, .int 0, .int 0, .int 0, .ref 105, .ref 106, .int 0, .int 0, .ref 107, .int 0, .ref 108, .ref 109, .ref 110, .ref 111, .ref 112, .ref 113, .ref 114, .ref 115, .ref 116, .ref 117, .ref 118, .int 0, .ref 119, .ref 120, .ref 121, .int 0, .ref 122, .ref 123, .ref 124, .ref 125, .ref 126, .int 0, .ref 127, .ref 128]))) 84 (.inl (0, 120, .inl (upd (upd (fun _ => 0) (0 : Int32).toNatClampNeg b2) (1 : Int32).toNatClampNeg b1)))) 83 (.inr (12, [.ref 84, .int 2, .ref 85, .int 0, .int 0, .int 0, .int 0, .int 0, .int 0, .int 0, .ref 86, .ref 87, .ref 88, .ref 89, .ref 90, .ref 91, .ref 92, .ref 93, .ref 94, .ref 95, .ref 96, .ref 97, .ref 98, .ref 99, .ref 100, .ref 101, .ref 102, .int 0, .ref 103, .ref 104, .int 0, .int 0, .int 0, .int 0, .int 0, .ref 105, .ref 106, .int 0, .int 0, .ref 107, .int 0, .ref 108, .ref 109, .ref 110, .ref 111, .ref 112, .ref 113, .ref 114, .ref 115, .ref 116, .ref 117, .ref 118, .int 0, .ref 119, .ref 120, .ref 121, .int 0, .ref 122, .ref 123, .ref 124, .ref 125, .ref 126, .int 0, .ref 127, .ref 128]))) 84 (.inl (0, 120, .inl (upd (upd (upd (fun _ => 0) (0 : Int32).toNatClampNeg b2) (1 : Int32).toNatClampNeg b1) (2 : Int32).toNatClampNeg b0)))) 83 (.inr (12, [.ref 84, .int 3, .ref 85, .int 0, .int 0, .int 0, .int 0, .int 0, .int 0, .int 0, .ref 86, .ref 87, .ref 88, .ref 89, .ref 90, .ref 91, .ref 92, .ref 93, .ref 94, .ref 95, .ref 96, .ref 97, .ref 98, .ref 99, .ref 100, .ref 101, .ref 102, .int 0, .ref 103, .ref 104, .int 0, .int 0, .int 0, .int 0, .int 0, .ref 105, .ref 106, .int 0, .int 0, .ref 107, .int 0, .ref 108, .ref 109, .ref 110, .ref 111, .ref 112, .ref 113, .ref 114, .ref 115, .ref 116, .ref 117, .ref 118, .int 0, .ref 119, .ref 120, .ref 121, .int 0, .ref 122, .ref 123, .ref 124, .ref 125, .ref 126, .int 0, .ref 127, .ref 128])))) rfl rfl rfl rfl rfl ((va_up_ne _ _ (by decide)).trans ((va_up_ne _ _ (by decide)).trans ((va_up_ne _ _ (by decide)).trans ((va_up_ne _ _ (by decide)).trans ((va_up_ne _ _ (by decide)).trans ((va_up_ne _ _ (by decide)).trans f83)))))) (by decide) rfl (Nat.le_of_ble_eq_true rfl) (Nat.le_of_ble_eq_true rfl) rfl rfl ?_ ?_
  · refine pm_ev_many 3 (s' := (3, [some (.ref 83), some (.int (xs 1)), some (.int 3), none, none], [.int 4, .int 1, .int 3], _, _, _)) rfl ?_
    refine pe_stat (al := [.int 4, .int 1, .int 3]) (L0 := [some (.int 3), some (.int 1), some (.int 4)]) (r1 := (some (.int 1), 129, 17845, va_up (va_up (va_up (va_up (va_up (va_up h 2 (.inl (0, 120, .inl (upd (fun _ => 0) (0 : Int32).toNatClampNeg b2)))) 1 (.inr (10, [.ref 2, .int 1, .int 0, .int 0]))) 2 (.inl (0, 120, .inl (upd (upd (fun _ => 0) (0 : Int32).toNatClampNeg b2) (1 : Int32).toNatClampNeg b1)))) 1 (.inr (10, [.ref 2, .int 2, .int 0, .int 0]))) 2 (.inl (0, 120, .inl (upd (upd (upd (fun _ => 0) (0 : Int32).toNatClampNeg b2) (1 : Int32).toNatClampNeg b1) (2 : Int32).toNatClampNeg b0)))) 1 (.inr (10, [.ref 2, .int 3, .int 0, .int 0])))) rfl rfl rfl rfl rfl rfl (Nat.le_of_ble_eq_true rfl) (Nat.le_of_ble_eq_true rfl) rfl rfl ?_ ?_
    · refine pm_ev_many 8 (s' := (15, [some (.int 3), some (.int 1), some (.int 4)], [.int 1], _, _, _)) rfl ?_
      exact pm_ev_ret rfl
    show pm_ev _ _ _ _ _ (6, [some (.ref 83), some (.int (xs 1)), some (.int 3), none, none], [.int 1], _, _, _) _
    refine pm_ev_many 2 (s' := (10, [some (.ref 83), some (.int (xs 1)), some (.int 3), none, none], [.ref 83], _, _, _)) rfl ?_
    refine pe_get rfl rfl rfl ((va_up_ne _ _ (by decide)).trans ((va_up_ne _ _ (by decide)).trans ((va_up_ne _ _ (by decide)).trans ((va_up_ne _ _ (by decide)).trans ((va_up_ne _ _ (by decide)).trans ((va_up_ne _ _ (by decide)).trans f83)))))) (by decide) rfl ?_
    refine pm_ev_many 21 (s' := (50, [some (.ref 83), some (.int (xs 1)), some (.int 3), some (.int 1), some (.int 0)], [.int (((xs 1) >>> (0 &&& 31)) &&& 255)], _, _, _)) rfl ?_
    rw [hm0]
    refine pm_ev_many 2 (s' := (54, [some (.ref 83), some (.int (xs 1)), some (.int 3), some (.int 1), some (.int 0)], [.int 126, .int 32, .int b0], _, _, _)) rfl ?_
    refine pe_stat (al := [.int 126, .int 32, .int b0]) (L0 := [some (.int b0), some (.int 32), some (.int 126)]) (r1 := (some (.int 1), 129, 17845, va_up (va_up (va_up (va_up (va_up (va_up h 2 (.inl (0, 120, .inl (upd (fun _ => 0) (0 : Int32).toNatClampNeg b2)))) 1 (.inr (10, [.ref 2, .int 1, .int 0, .int 0]))) 2 (.inl (0, 120, .inl (upd (upd (fun _ => 0) (0 : Int32).toNatClampNeg b2) (1 : Int32).toNatClampNeg b1)))) 1 (.inr (10, [.ref 2, .int 2, .int 0, .int 0]))) 2 (.inl (0, 120, .inl (upd (upd (upd (fun _ => 0) (0 : Int32).toNatClampNeg b2) (1 : Int32).toNatClampNeg b1) (2 : Int32).toNatClampNeg b0)))) 1 (.inr (10, [.ref 2, .int 3, .int 0, .int 0])))) rfl rfl rfl rfl rfl rfl (Nat.le_of_ble_eq_true rfl) (Nat.le_of_ble_eq_true rfl) rfl rfl ?_ ?_
    · refine pm_ev_many 2 (s' := (2, [some (.int b0), some (.int 32), some (.int 126)], [.int 32, .int b0], _, _, _)) rfl ?_
      refine pm_ev_many 1 (s' := (if b0 < 32 then 14 else 5, [some (.int b0), some (.int 32), some (.int 126)], [], _, _, _)) rfl ?_
      rw [if_neg a0]
      refine pm_ev_many 2 (s' := (7, [some (.int b0), some (.int 32), some (.int 126)], [.int 126, .int b0], _, _, _)) rfl ?_
      refine pm_ev_many 1 (s' := (if 126 < b0 then 14 else 10, [some (.int b0), some (.int 32), some (.int 126)], [], _, _, _)) rfl ?_
      rw [if_neg e0]
      refine pm_ev_many 2 (s' := (15, [some (.int b0), some (.int 32), some (.int 126)], [.int 1], _, _, _)) rfl ?_
      exact pm_ev_ret rfl
    show pm_ev _ _ _ _ _ (57, [some (.ref 83), some (.int (xs 1)), some (.int 3), some (.int 1), some (.int 0)], [.int 1], _, _, _) _
    refine pm_ev_many 15 (s' := (50, [some (.ref 83), some (.int (xs 1)), some (.int 3), some (.int 1), some (.int 1)], [.int (((xs 1) >>> (8 &&& 31)) &&& 255)], _, _, _)) rfl ?_
    rw [hm1]
    refine pm_ev_many 2 (s' := (54, [some (.ref 83), some (.int (xs 1)), some (.int 3), some (.int 1), some (.int 1)], [.int 126, .int 32, .int b1], _, _, _)) rfl ?_
    refine pe_stat (al := [.int 126, .int 32, .int b1]) (L0 := [some (.int b1), some (.int 32), some (.int 126)]) (r1 := (some (.int 1), 129, 17845, va_up (va_up (va_up (va_up (va_up (va_up h 2 (.inl (0, 120, .inl (upd (fun _ => 0) (0 : Int32).toNatClampNeg b2)))) 1 (.inr (10, [.ref 2, .int 1, .int 0, .int 0]))) 2 (.inl (0, 120, .inl (upd (upd (fun _ => 0) (0 : Int32).toNatClampNeg b2) (1 : Int32).toNatClampNeg b1)))) 1 (.inr (10, [.ref 2, .int 2, .int 0, .int 0]))) 2 (.inl (0, 120, .inl (upd (upd (upd (fun _ => 0) (0 : Int32).toNatClampNeg b2) (1 : Int32).toNatClampNeg b1) (2 : Int32).toNatClampNeg b0)))) 1 (.inr (10, [.ref 2, .int 3, .int 0, .int 0])))) rfl rfl rfl rfl rfl rfl (Nat.le_of_ble_eq_true rfl) (Nat.le_of_ble_eq_true rfl) rfl rfl ?_ ?_
    · refine pm_ev_many 2 (s' := (2, [some (.int b1), some (.int 32), some (.int 126)], [.int 32, .int b1], _, _, _)) rfl ?_
      refine pm_ev_many 1 (s' := (if b1 < 32 then 14 else 5, [some (.int b1), some (.int 32), some (.int 126)], [], _, _, _)) rfl ?_
      rw [if_neg a1]
      refine pm_ev_many 2 (s' := (7, [some (.int b1), some (.int 32), some (.int 126)], [.int 126, .int b1], _, _, _)) rfl ?_
      refine pm_ev_many 1 (s' := (if 126 < b1 then 14 else 10, [some (.int b1), some (.int 32), some (.int 126)], [], _, _, _)) rfl ?_
      rw [if_neg e1]
      refine pm_ev_many 2 (s' := (15, [some (.int b1), some (.int 32), some (.int 126)], [.int 1], _, _, _)) rfl ?_
      exact pm_ev_ret rfl
    show pm_ev _ _ _ _ _ (57, [some (.ref 83), some (.int (xs 1)), some (.int 3), some (.int 1), some (.int 1)], [.int 1], _, _, _) _
    refine pm_ev_many 15 (s' := (50, [some (.ref 83), some (.int (xs 1)), some (.int 3), some (.int 1), some (.int 2)], [.int (((xs 1) >>> (16 &&& 31)) &&& 255)], _, _, _)) rfl ?_
    rw [hm2]
    refine pm_ev_many 2 (s' := (54, [some (.ref 83), some (.int (xs 1)), some (.int 3), some (.int 1), some (.int 2)], [.int 126, .int 32, .int b2], _, _, _)) rfl ?_
    refine pe_stat (al := [.int 126, .int 32, .int b2]) (L0 := [some (.int b2), some (.int 32), some (.int 126)]) (r1 := (some (.int 1), 129, 17845, va_up (va_up (va_up (va_up (va_up (va_up h 2 (.inl (0, 120, .inl (upd (fun _ => 0) (0 : Int32).toNatClampNeg b2)))) 1 (.inr (10, [.ref 2, .int 1, .int 0, .int 0]))) 2 (.inl (0, 120, .inl (upd (upd (fun _ => 0) (0 : Int32).toNatClampNeg b2) (1 : Int32).toNatClampNeg b1)))) 1 (.inr (10, [.ref 2, .int 2, .int 0, .int 0]))) 2 (.inl (0, 120, .inl (upd (upd (upd (fun _ => 0) (0 : Int32).toNatClampNeg b2) (1 : Int32).toNatClampNeg b1) (2 : Int32).toNatClampNeg b0)))) 1 (.inr (10, [.ref 2, .int 3, .int 0, .int 0])))) rfl rfl rfl rfl rfl rfl (Nat.le_of_ble_eq_true rfl) (Nat.le_of_ble_eq_true rfl) rfl rfl ?_ ?_
    · refine pm_ev_many 2 (s' := (2, [some (.int b2), some (.int 32), some (.int 126)], [.int 32, .int b2], _, _, _)) rfl ?_
      refine pm_ev_many 1 (s' := (if b2 < 32 then 14 else 5, [some (.int b2), some (.int 32), some (.int 126)], [], _, _, _)) rfl ?_
      rw [if_neg a2]
      refine pm_ev_many 2 (s' := (7, [some (.int b2), some (.int 32), some (.int 126)], [.int 126, .int b2], _, _, _)) rfl ?_
      refine pm_ev_many 1 (s' := (if 126 < b2 then 14 else 10, [some (.int b2), some (.int 32), some (.int 126)], [], _, _, _)) rfl ?_
      rw [if_neg e2]
      refine pm_ev_many 2 (s' := (15, [some (.int b2), some (.int 32), some (.int 126)], [.int 1], _, _, _)) rfl ?_
      exact pm_ev_ret rfl
    show pm_ev _ _ _ _ _ (57, [some (.ref 83), some (.int (xs 1)), some (.int 3), some (.int 1), some (.int 2)], [.int 1], _, _, _) _
    refine pm_ev_many 15 (s' := (79, [some (.ref 83), some (.int (xs 1)), some (.int 3), some (.int 1), some (.int 2)], [.ref 83], _, _, _)) rfl ?_
    refine pe_get rfl rfl rfl ((va_up_ne _ _ (by decide)).trans ((va_up_ne _ _ (by decide)).trans ((va_up_ne _ _ (by decide)).trans ((va_up_ne _ _ (by decide)).trans ((va_up_ne _ _ (by decide)).trans ((va_up_ne _ _ (by decide)).trans f83)))))) (by decide) rfl ?_
    refine pm_ev_many 1 (s' := (83, [some (.ref 83), some (.int (xs 1)), some (.int 3), some (.int 1), some (.int 2)], [.ref 83, .ref 84], _, _, _)) rfl ?_
    refine pe_get rfl rfl rfl ((va_up_ne _ _ (by decide)).trans ((va_up_ne _ _ (by decide)).trans ((va_up_ne _ _ (by decide)).trans ((va_up_ne _ _ (by decide)).trans ((va_up_ne _ _ (by decide)).trans ((va_up_ne _ _ (by decide)).trans f83)))))) (by decide) rfl ?_
    refine pm_ev_many 7 (s' := (97, [some (.ref 83), some (.int (xs 1)), some (.int 3), some (.int 1), some (.int 2)], [.int (((xs 1) >>> (16 &&& 31)) &&& 255), .int 0, .ref 84], _, _, _)) rfl ?_
    rw [hm2]
    refine pe_iast rfl rfl ((va_up_ne _ _ (by decide)).trans ((va_up_ne _ _ (by decide)).trans ((va_up_ne _ _ (by decide)).trans ((va_up_ne _ _ (by decide)).trans ((va_up_ne _ _ (by decide)).trans ((va_up_ne _ _ (by decide)).trans f84)))))) (by decide) (by decide) ?_
    refine pm_ev_many 2 (s' := (100, [some (.ref 83), some (.int (xs 1)), some (.int 3), some (.int 1), some (.int 2)], [.ref 83, .ref 83], _, _, _)) rfl ?_
    refine pe_get rfl rfl rfl ((va_up_ne _ _ (by decide)).trans ((va_up_ne _ _ (by decide)).trans ((va_up_ne _ _ (by decide)).trans ((va_up_ne _ _ (by decide)).trans ((va_up_ne _ _ (by decide)).trans ((va_up_ne _ _ (by decide)).trans ((va_up_ne _ _ (by decide)).trans f83))))))) (by decide) rfl ?_
    refine pm_ev_many 2 (s' := (105, [some (.ref 83), some (.int (xs 1)), some (.int 3), some (.int 1), some (.int 2)], [.int 1, .ref 83], _, _, _)) rfl ?_
    refine pe_put rfl rfl rfl ((va_up_ne _ _ (by decide)).trans ((va_up_ne _ _ (by decide)).trans ((va_up_ne _ _ (by decide)).trans ((va_up_ne _ _ (by decide)).trans ((va_up_ne _ _ (by decide)).trans ((va_up_ne _ _ (by decide)).trans ((va_up_ne _ _ (by decide)).trans f83))))))) (by decide) (Nat.le_of_ble_eq_true rfl) rfl ?_
    show pm_ev _ _ _ _ _ (108, [some (.ref 83), some (.int (xs 1)), some (.int 3), some (.int 1), some (.int 2)], [], _, _, va_up _ 83 (.inr (12, [.ref 84, .int 1, .ref 85, .int 0, .int 0, .int 0, .int 0, .int 0, .int 0, .int 0, .ref 86, .ref 87, .ref 88, .ref 89, .ref 90, .ref 91, .ref 92, .ref 93, .ref 94, .ref 95, .ref 96, .ref 97, .ref 98, .ref 99, .ref 100, .ref 101, .ref 102, .int 0, .ref 103, .ref 104, .int 0, .int 0, .int 0, .int 0, .int 0, .ref 105, .ref 106, .int 0, .int 0, .ref 107, .int 0, .ref 108, .ref 109, .ref 110, .ref 111, .ref 112, .ref 113, .ref 114, .ref 115, .ref 116, .ref 117, .ref 118, .int 0, .ref 119, .ref 120, .ref 121, .int 0, .ref 122, .ref 123, .ref 124, .ref 125, .ref 126, .int 0, .ref 127, .ref 128]))) _
    refine pm_ev_many 7 (s' := (79, [some (.ref 83), some (.int (xs 1)), some (.int 3), some (.int 1), some (.int 1)], [.ref 83], _, _, _)) rfl ?_
    refine pe_get rfl rfl rfl (va_up_self _ _ _) (by decide) rfl ?_
    refine pm_ev_many 1 (s' := (83, [some (.ref 83), some (.int (xs 1)), some (.int 3), some (.int 1), some (.int 1)], [.ref 83, .ref 84], _, _, _)) rfl ?_
    refine pe_get rfl rfl rfl (va_up_self _ _ _) (by decide) rfl ?_
    refine pm_ev_many 7 (s' := (97, [some (.ref 83), some (.int (xs 1)), some (.int 3), some (.int 1), some (.int 1)], [.int (((xs 1) >>> (8 &&& 31)) &&& 255), .int 1, .ref 84], _, _, _)) rfl ?_
    rw [hm1]
    refine pe_iast rfl rfl ((va_up_ne _ _ (by decide)).trans (va_up_self _ _ _)) (by decide) (by decide) ?_
    refine pm_ev_many 2 (s' := (100, [some (.ref 83), some (.int (xs 1)), some (.int 3), some (.int 1), some (.int 1)], [.ref 83, .ref 83], _, _, _)) rfl ?_
    refine pe_get rfl rfl rfl ((va_up_ne _ _ (by decide)).trans (va_up_self _ _ _)) (by decide) rfl ?_
    refine pm_ev_many 2 (s' := (105, [some (.ref 83), some (.int (xs 1)), some (.int 3), some (.int 1), some (.int 1)], [.int 2, .ref 83], _, _, _)) rfl ?_
    refine pe_put rfl rfl rfl ((va_up_ne _ _ (by decide)).trans (va_up_self _ _ _)) (by decide) (Nat.le_of_ble_eq_true rfl) rfl ?_
    show pm_ev _ _ _ _ _ (108, [some (.ref 83), some (.int (xs 1)), some (.int 3), some (.int 1), some (.int 1)], [], _, _, va_up _ 83 (.inr (12, [.ref 84, .int 2, .ref 85, .int 0, .int 0, .int 0, .int 0, .int 0, .int 0, .int 0, .ref 86, .ref 87, .ref 88, .ref 89, .ref 90, .ref 91, .ref 92, .ref 93, .ref 94, .ref 95, .ref 96, .ref 97, .ref 98, .ref 99, .ref 100, .ref 101, .ref 102, .int 0, .ref 103, .ref 104, .int 0, .int 0, .int 0, .int 0, .int 0, .ref 105, .ref 106, .int 0, .int 0, .ref 107, .int 0, .ref 108, .ref 109, .ref 110, .ref 111, .ref 112, .ref 113, .ref 114, .ref 115, .ref 116, .ref 117, .ref 118, .int 0, .ref 119, .ref 120, .ref 121, .int 0, .ref 122, .ref 123, .ref 124, .ref 125, .ref 126, .int 0, .ref 127, .ref 128]))) _
    refine pm_ev_many 7 (s' := (79, [some (.ref 83), some (.int (xs 1)), some (.int 3), some (.int 1), some (.int 0)], [.ref 83], _, _, _)) rfl ?_
    refine pe_get rfl rfl rfl (va_up_self _ _ _) (by decide) rfl ?_
    refine pm_ev_many 1 (s' := (83, [some (.ref 83), some (.int (xs 1)), some (.int 3), some (.int 1), some (.int 0)], [.ref 83, .ref 84], _, _, _)) rfl ?_
    refine pe_get rfl rfl rfl (va_up_self _ _ _) (by decide) rfl ?_
    refine pm_ev_many 7 (s' := (97, [some (.ref 83), some (.int (xs 1)), some (.int 3), some (.int 1), some (.int 0)], [.int (((xs 1) >>> (0 &&& 31)) &&& 255), .int 2, .ref 84], _, _, _)) rfl ?_
    rw [hm0]
    refine pe_iast rfl rfl ((va_up_ne _ _ (by decide)).trans (va_up_self _ _ _)) (by decide) (by decide) ?_
    refine pm_ev_many 2 (s' := (100, [some (.ref 83), some (.int (xs 1)), some (.int 3), some (.int 1), some (.int 0)], [.ref 83, .ref 83], _, _, _)) rfl ?_
    refine pe_get rfl rfl rfl ((va_up_ne _ _ (by decide)).trans (va_up_self _ _ _)) (by decide) rfl ?_
    refine pm_ev_many 2 (s' := (105, [some (.ref 83), some (.int (xs 1)), some (.int 3), some (.int 1), some (.int 0)], [.int 3, .ref 83], _, _, _)) rfl ?_
    refine pe_put rfl rfl rfl ((va_up_ne _ _ (by decide)).trans (va_up_self _ _ _)) (by decide) (Nat.le_of_ble_eq_true rfl) rfl ?_
    show pm_ev _ _ _ _ _ (108, [some (.ref 83), some (.int (xs 1)), some (.int 3), some (.int 1), some (.int 0)], [], _, _, va_up _ 83 (.inr (12, [.ref 84, .int 3, .ref 85, .int 0, .int 0, .int 0, .int 0, .int 0, .int 0, .int 0, .ref 86, .ref 87, .ref 88, .ref 89, .ref 90, .ref 91, .ref 92, .ref 93, .ref 94, .ref 95, .ref 96, .ref 97, .ref 98, .ref 99, .ref 100, .ref 101, .ref 102, .int 0, .ref 103, .ref 104, .int 0, .int 0, .int 0, .int 0, .int 0, .ref 105, .ref 106, .int 0, .int 0, .ref 107, .int 0, .ref 108, .ref 109, .ref 110, .ref 111, .ref 112, .ref 113, .ref 114, .ref 115, .ref 116, .ref 117, .ref 118, .int 0, .ref 119, .ref 120, .ref 121, .int 0, .ref 122, .ref 123, .ref 124, .ref 125, .ref 126, .int 0, .ref 127, .ref 128]))) _
    refine pm_ev_many 5 (s' := (115, [some (.ref 83), some (.int (xs 1)), some (.int 3), some (.int 1), some (.int (-1))], [.int 1], _, _, _)) rfl ?_
    exact pm_ev_ret rfl
  show pm_ev _ _ _ _ _ (116, [some (.retAddr 0), some (.ref 0), some (.ref 83), some (.int 0)], [.int 1, .int 1], _, _, _) _
  refine pm_ev_many 10 (s' := (295, [some (.retAddr 0), some (.ref 0), some (.ref 83), some (.int 3)], [.int 1], _, _, _)) rfl ?_
  exact pm_ev_ret rfl
set_option maxRecDepth 100000 in
set_option maxHeartbeats 4000000 in
theorem p1_0_4_0lo (d : Nat) (xs : Nat → Int32) (h : Nat → va_E) (hi : pm_init h) (hn : xs 2 = 4) (b0 : Int32) (hc0 : ((((xs 1)).toUInt32 >>> ((0 : Int32).toUInt32 &&& Int32.toUInt32 31)).toInt32) &&& 255 = b0) (hm0 : ((xs 1) >>> (0 &&& 31)) &&& 255 = b0) (a0 : b0 < 32) (b1 : Int32) (hc1 : ((((xs 1)).toUInt32 >>> ((8 : Int32).toUInt32 &&& Int32.toUInt32 31)).toInt32) &&& 255 = b1) (hm1 : ((xs 1) >>> (8 &&& 31)) &&& 255 = b1) (b2 : Int32) (hc2 : ((((xs 1)).toUInt32 >>> ((16 : Int32).toUInt32 &&& Int32.toUInt32 31)).toInt32) &&& 255 = b2) (hm2 : ((xs 1) >>> (16 &&& 31)) &&& 255 = b2) (b3 : Int32) (hc3 : ((((xs 1)).toUInt32 >>> ((24 : Int32).toUInt32 &&& Int32.toUInt32 31)).toInt32) &&& 255 = b3) (hm3 : ((xs 1) >>> (24 &&& 31)) &&& 255 = b3) : ∃ h' : Nat → va_E, pm_ev pmT (some (3, xs)) (d + 10) 214 true (32, [some (.retAddr 0), some (.ref 0), some (.ref 83), some (.int 0)], [.int 0], 129, 17845, h) (some (.int 1), 129, 17845, h') := by
  obtain ⟨f0, f1, f2, f3, f4, f5, f6, f7, f8, f9, f10, f11, f12, f13, f14, f15, f16, f17, f18, f19, f20, f21, f22, f23, f24, f25, f26, f27, f28, f29, f30, f31, f32, f33, f34, f35, f36, f37, f38, f39, f40, f41, f42, f43, f44, f45, f46, f47, f48, f49, f50, f51, f52, f53, f54, f55, f56, f57, f58, f59, f60, f61, f62, f63, f64, f65, f66, f67, f68, f69, f70, f71, f72, f73, f74, f75, f76, f77, f78, f79, f80, f81, f82, f83, f84, f85, f86, f87, f88, f89, f90, f91, f92, f93, f94, f95, f96, f97, f98, f99, f100, f101, f102, f103, f104, f105, f106, f107, f108, f109, f110, f111, f112, f113, f114, f115, f116, f117, f118, f119, f120, f121, f122, f123, f124, f125, f126, f127, f128⟩ := hi
  refine ⟨h, ?_⟩
  refine pm_ev_many 12 (s' := (99, [some (.retAddr 0), some (.ref 0), some (.ref 83), some (.int 0)], [.int (xs 2), .int (xs 1), .ref 0], _, _, _)) rfl ?_
  rw [hn]
  refine pe_virt (al := [.int 4, .int (xs 1)]) (a := 0) (L0 := [some (.ref 0), some (.int (xs 1)), some (.int 4)]) (r1 := (some (.int 0), 129, 17845, h)) rfl rfl rfl rfl rfl f0 (by decide) rfl (Nat.le_of_ble_eq_true rfl) (Nat.le_of_ble_eq_true rfl) rfl rfl ?_ ?_
  · refine pm_ev_many 1 (s' := (1, [some (.ref 0), some (.int (xs 1)), some (.int 4)], [.ref 0], _, _, _)) rfl ?_
    refine pe_get rfl rfl rfl f0 (by decide) rfl ?_
    refine pm_ev_many 2 (s' := (6, [some (.ref 0), some (.int (xs 1)), some (.int 4)], [.int 4, .int (xs 1), .ref 1], _, _, _)) rfl ?_
    refine pe_virt (al := [.int 4, .int (xs 1)]) (a := 1) (L0 := [some (.ref 1), some (.int (xs 1)), some (.int 4), none, none]) (r1 := (some (.int 0), 129, 17845, h)) rfl rfl rfl rfl rfl f1 (by decide) rfl (Nat.le_of_ble_eq_true rfl) (Nat.le_of_ble_eq_true rfl) rfl rfl ?_ ?_
    · refine pm_ev_many 7 (s' := (11, [some (.ref 1), some (.int (xs 1)), some (.int 4), none, none], [.ref 1], _, _, _)) rfl ?_
      refine pe_get rfl rfl rfl f1 (by decide) rfl ?_
      refine pm_ev_many 11 (s' := (32, [some (.ref 1), some (.int (xs 1)), some (.int 4), some (.int 0), none], [.int 0, .int (xs 1)], _, _, _)) rfl ?_
      refine pe_stat (al := [.int 0, .int (xs 1)]) (L0 := [some (.int (xs 1)), some (.int 0)]) (r1 := (some (.int b0), 129, 17845, h)) rfl rfl rfl rfl rfl rfl (Nat.le_of_ble_eq_true rfl) (Nat.le_of_ble_eq_true rfl) rfl rfl ?_ ?_
      · refine pm_ev_many 7 (s' := (10, [some (.int (xs 1)), some (.int 0)], [.int (((((xs 1)).toUInt32 >>> ((0 : Int32).toUInt32 &&& Int32.toUInt32 31)).toInt32) &&& 255)], _, _, _)) rfl ?_
        rw [hc0]
        exact pm_ev_ret rfl
      show pm_ev _ _ _ _ _ (35, [some (.ref 1), some (.int (xs 1)), some (.int 4), some (.int 0), none], [.int b0], _, _, _) _
      refine pm_ev_many 3 (s' := (41, [some (.ref 1), some (.int (xs 1)), some (.int 4), some (.int 0), some (.int b0)], [.int 32, .int b0], _, _, _)) rfl ?_
      refine pm_ev_many 1 (s' := (if b0 < 32 then 51 else 44, [some (.ref 1), some (.int (xs 1)), some (.int 4), some (.int 0), some (.int b0)], [], _, _, _)) rfl ?_
      rw [if_pos a0]
      refine pm_ev_many 1 (s' := (52, [some (.ref 1), some (.int (xs 1)), some (.int 4), some (.int 0), some (.int b0)], [.int 0], _, _, _)) rfl ?_
      exact pm_ev_ret rfl
    show pm_ev _ _ _ _ _ (9, [some (.ref 0), some (.int (xs 1)), some (.int 4)], [.int 0], _, _, _) _
    exact pm_ev_ret rfl
  show pm_ev _ _ _ _ _ (102, [some (.retAddr 0), some (.ref 0), some (.ref 83), some (.int 0)], [.int 0], _, _, _) _
  refine pm_ev_many 11 (s' := (113, [some (.retAddr 0), some (.ref 0), some (.ref 83), some (.int 0)], [.int (xs 2), .int (xs 1), .ref 83, .int 0], _, _, _)) rfl ?_
  rw [hn]
  refine pe_virt (al := [.int 4, .int (xs 1)]) (a := 83) (L0 := [some (.ref 83), some (.int (xs 1)), some (.int 4), none, none]) (r1 := (some (.int 0), 129, 17845, h)) rfl rfl rfl rfl rfl f83 (by decide) rfl (Nat.le_of_ble_eq_true rfl) (Nat.le_of_ble_eq_true rfl) rfl rfl ?_ ?_
  · refine pm_ev_many 3 (s' := (3, [some (.ref 83), some (.int (xs 1)), some (.int 4), none, none], [.int 4, .int 1, .int 4], _, _, _)) rfl ?_
    refine pe_stat (al := [.int 4, .int 1, .int 4]) (L0 := [some (.int 4), some (.int 1), some (.int 4)]) (r1 := (some (.int 1), 129, 17845, h)) rfl rfl rfl rfl rfl rfl (Nat.le_of_ble_eq_true rfl) (Nat.le_of_ble_eq_true rfl) rfl rfl ?_ ?_
    · refine pm_ev_many 8 (s' := (15, [some (.int 4), some (.int 1), some (.int 4)], [.int 1], _, _, _)) rfl ?_
      exact pm_ev_ret rfl
    show pm_ev _ _ _ _ _ (6, [some (.ref 83), some (.int (xs 1)), some (.int 4), none, none], [.int 1], _, _, _) _
    refine pm_ev_many 2 (s' := (10, [some (.ref 83), some (.int (xs 1)), some (.int 4), none, none], [.ref 83], _, _, _)) rfl ?_
    refine pe_get rfl rfl rfl f83 (by decide) rfl ?_
    refine pm_ev_many 21 (s' := (50, [some (.ref 83), some (.int (xs 1)), some (.int 4), some (.int 1), some (.int 0)], [.int (((xs 1) >>> (0 &&& 31)) &&& 255)], _, _, _)) rfl ?_
    rw [hm0]
    refine pm_ev_many 2 (s' := (54, [some (.ref 83), some (.int (xs 1)), some (.int 4), some (.int 1), some (.int 0)], [.int 126, .int 32, .int b0], _, _, _)) rfl ?_
    refine pe_stat (al := [.int 126, .int 32, .int b0]) (L0 := [some (.int b0), some (.int 32), some (.int 126)]) (r1 := (some (.int 0), 129, 17845, h)) rfl rfl rfl rfl rfl rfl (Nat.le_of_ble_eq_true rfl) (Nat.le_of_ble_eq_true rfl) rfl rfl ?_ ?_
    · refine pm_ev_many 2 (s' := (2, [some (.int b0), some (.int 32), some (.int 126)], [.int 32, .int b0], _, _, _)) rfl ?_
      refine pm_ev_many 1 (s' := (if b0 < 32 then 14 else 5, [some (.int b0), some (.int 32), some (.int 126)], [], _, _, _)) rfl ?_
      rw [if_pos a0]
      refine pm_ev_many 1 (s' := (15, [some (.int b0), some (.int 32), some (.int 126)], [.int 0], _, _, _)) rfl ?_
      exact pm_ev_ret rfl
    show pm_ev _ _ _ _ _ (57, [some (.ref 83), some (.int (xs 1)), some (.int 4), some (.int 1), some (.int 0)], [.int 0], _, _, _) _
    refine pm_ev_many 17 (s' := (115, [some (.ref 83), some (.int (xs 1)), some (.int 4), some (.int 0), some (.int 3)], [.int 0], _, _, _)) rfl ?_
    exact pm_ev_ret rfl
  show pm_ev _ _ _ _ _ (116, [some (.retAddr 0), some (.ref 0), some (.ref 83), some (.int 0)], [.int 0, .int 0], _, _, _) _
  refine pm_ev_many 10 (s' := (295, [some (.retAddr 0), some (.ref 0), some (.ref 83), some (.int 3)], [.int 1], _, _, _)) rfl ?_
  exact pm_ev_ret rfl
set_option maxRecDepth 100000 in
set_option maxHeartbeats 4000000 in
theorem p1_0_4_0hi (d : Nat) (xs : Nat → Int32) (h : Nat → va_E) (hi : pm_init h) (hn : xs 2 = 4) (b0 : Int32) (hc0 : ((((xs 1)).toUInt32 >>> ((0 : Int32).toUInt32 &&& Int32.toUInt32 31)).toInt32) &&& 255 = b0) (hm0 : ((xs 1) >>> (0 &&& 31)) &&& 255 = b0) (a0 : ¬ b0 < 32) (c0 : ¬ b0 ≤ 126) (e0 : 126 < b0) (b1 : Int32) (hc1 : ((((xs 1)).toUInt32 >>> ((8 : Int32).toUInt32 &&& Int32.toUInt32 31)).toInt32) &&& 255 = b1) (hm1 : ((xs 1) >>> (8 &&& 31)) &&& 255 = b1) (b2 : Int32) (hc2 : ((((xs 1)).toUInt32 >>> ((16 : Int32).toUInt32 &&& Int32.toUInt32 31)).toInt32) &&& 255 = b2) (hm2 : ((xs 1) >>> (16 &&& 31)) &&& 255 = b2) (b3 : Int32) (hc3 : ((((xs 1)).toUInt32 >>> ((24 : Int32).toUInt32 &&& Int32.toUInt32 31)).toInt32) &&& 255 = b3) (hm3 : ((xs 1) >>> (24 &&& 31)) &&& 255 = b3) : ∃ h' : Nat → va_E, pm_ev pmT (some (3, xs)) (d + 10) 214 true (32, [some (.retAddr 0), some (.ref 0), some (.ref 83), some (.int 0)], [.int 0], 129, 17845, h) (some (.int 1), 129, 17845, h') := by
  obtain ⟨f0, f1, f2, f3, f4, f5, f6, f7, f8, f9, f10, f11, f12, f13, f14, f15, f16, f17, f18, f19, f20, f21, f22, f23, f24, f25, f26, f27, f28, f29, f30, f31, f32, f33, f34, f35, f36, f37, f38, f39, f40, f41, f42, f43, f44, f45, f46, f47, f48, f49, f50, f51, f52, f53, f54, f55, f56, f57, f58, f59, f60, f61, f62, f63, f64, f65, f66, f67, f68, f69, f70, f71, f72, f73, f74, f75, f76, f77, f78, f79, f80, f81, f82, f83, f84, f85, f86, f87, f88, f89, f90, f91, f92, f93, f94, f95, f96, f97, f98, f99, f100, f101, f102, f103, f104, f105, f106, f107, f108, f109, f110, f111, f112, f113, f114, f115, f116, f117, f118, f119, f120, f121, f122, f123, f124, f125, f126, f127, f128⟩ := hi
  refine ⟨h, ?_⟩
  refine pm_ev_many 12 (s' := (99, [some (.retAddr 0), some (.ref 0), some (.ref 83), some (.int 0)], [.int (xs 2), .int (xs 1), .ref 0], _, _, _)) rfl ?_
  rw [hn]
  refine pe_virt (al := [.int 4, .int (xs 1)]) (a := 0) (L0 := [some (.ref 0), some (.int (xs 1)), some (.int 4)]) (r1 := (some (.int 0), 129, 17845, h)) rfl rfl rfl rfl rfl f0 (by decide) rfl (Nat.le_of_ble_eq_true rfl) (Nat.le_of_ble_eq_true rfl) rfl rfl ?_ ?_
  · refine pm_ev_many 1 (s' := (1, [some (.ref 0), some (.int (xs 1)), some (.int 4)], [.ref 0], _, _, _)) rfl ?_
    refine pe_get rfl rfl rfl f0 (by decide) rfl ?_
    refine pm_ev_many 2 (s' := (6, [some (.ref 0), some (.int (xs 1)), some (.int 4)], [.int 4, .int (xs 1), .ref 1], _, _, _)) rfl ?_
    refine pe_virt (al := [.int 4, .int (xs 1)]) (a := 1) (L0 := [some (.ref 1), some (.int (xs 1)), some (.int 4), none, none]) (r1 := (some (.int 0), 129, 17845, h)) rfl rfl rfl rfl rfl f1 (by decide) rfl (Nat.le_of_ble_eq_true rfl) (Nat.le_of_ble_eq_true rfl) rfl rfl ?_ ?_
    · refine pm_ev_many 7 (s' := (11, [some (.ref 1), some (.int (xs 1)), some (.int 4), none, none], [.ref 1], _, _, _)) rfl ?_
      refine pe_get rfl rfl rfl f1 (by decide) rfl ?_
      refine pm_ev_many 11 (s' := (32, [some (.ref 1), some (.int (xs 1)), some (.int 4), some (.int 0), none], [.int 0, .int (xs 1)], _, _, _)) rfl ?_
      refine pe_stat (al := [.int 0, .int (xs 1)]) (L0 := [some (.int (xs 1)), some (.int 0)]) (r1 := (some (.int b0), 129, 17845, h)) rfl rfl rfl rfl rfl rfl (Nat.le_of_ble_eq_true rfl) (Nat.le_of_ble_eq_true rfl) rfl rfl ?_ ?_
      · refine pm_ev_many 7 (s' := (10, [some (.int (xs 1)), some (.int 0)], [.int (((((xs 1)).toUInt32 >>> ((0 : Int32).toUInt32 &&& Int32.toUInt32 31)).toInt32) &&& 255)], _, _, _)) rfl ?_
        rw [hc0]
        exact pm_ev_ret rfl
      show pm_ev _ _ _ _ _ (35, [some (.ref 1), some (.int (xs 1)), some (.int 4), some (.int 0), none], [.int b0], _, _, _) _
      refine pm_ev_many 3 (s' := (41, [some (.ref 1), some (.int (xs 1)), some (.int 4), some (.int 0), some (.int b0)], [.int 32, .int b0], _, _, _)) rfl ?_
      refine pm_ev_many 1 (s' := (if b0 < 32 then 51 else 44, [some (.ref 1), some (.int (xs 1)), some (.int 4), some (.int 0), some (.int b0)], [], _, _, _)) rfl ?_
      rw [if_neg a0]
      refine pm_ev_many 2 (s' := (48, [some (.ref 1), some (.int (xs 1)), some (.int 4), some (.int 0), some (.int b0)], [.int 126, .int b0], _, _, _)) rfl ?_
      refine pm_ev_many 1 (s' := (if b0 ≤ 126 then 53 else 51, [some (.ref 1), some (.int (xs 1)), some (.int 4), some (.int 0), some (.int b0)], [], _, _, _)) rfl ?_
      rw [if_neg c0]
      refine pm_ev_many 1 (s' := (52, [some (.ref 1), some (.int (xs 1)), some (.int 4), some (.int 0), some (.int b0)], [.int 0], _, _, _)) rfl ?_
      exact pm_ev_ret rfl
    show pm_ev _ _ _ _ _ (9, [some (.ref 0), some (.int (xs 1)), some (.int 4)], [.int 0], _, _, _) _
    exact pm_ev_ret rfl
  show pm_ev _ _ _ _ _ (102, [some (.retAddr 0), some (.ref 0), some (.ref 83), some (.int 0)], [.int 0], _, _, _) _
  refine pm_ev_many 11 (s' := (113, [some (.retAddr 0), some (.ref 0), some (.ref 83), some (.int 0)], [.int (xs 2), .int (xs 1), .ref 83, .int 0], _, _, _)) rfl ?_
  rw [hn]
  refine pe_virt (al := [.int 4, .int (xs 1)]) (a := 83) (L0 := [some (.ref 83), some (.int (xs 1)), some (.int 4), none, none]) (r1 := (some (.int 0), 129, 17845, h)) rfl rfl rfl rfl rfl f83 (by decide) rfl (Nat.le_of_ble_eq_true rfl) (Nat.le_of_ble_eq_true rfl) rfl rfl ?_ ?_
  · refine pm_ev_many 3 (s' := (3, [some (.ref 83), some (.int (xs 1)), some (.int 4), none, none], [.int 4, .int 1, .int 4], _, _, _)) rfl ?_
    refine pe_stat (al := [.int 4, .int 1, .int 4]) (L0 := [some (.int 4), some (.int 1), some (.int 4)]) (r1 := (some (.int 1), 129, 17845, h)) rfl rfl rfl rfl rfl rfl (Nat.le_of_ble_eq_true rfl) (Nat.le_of_ble_eq_true rfl) rfl rfl ?_ ?_
    · refine pm_ev_many 8 (s' := (15, [some (.int 4), some (.int 1), some (.int 4)], [.int 1], _, _, _)) rfl ?_
      exact pm_ev_ret rfl
    show pm_ev _ _ _ _ _ (6, [some (.ref 83), some (.int (xs 1)), some (.int 4), none, none], [.int 1], _, _, _) _
    refine pm_ev_many 2 (s' := (10, [some (.ref 83), some (.int (xs 1)), some (.int 4), none, none], [.ref 83], _, _, _)) rfl ?_
    refine pe_get rfl rfl rfl f83 (by decide) rfl ?_
    refine pm_ev_many 21 (s' := (50, [some (.ref 83), some (.int (xs 1)), some (.int 4), some (.int 1), some (.int 0)], [.int (((xs 1) >>> (0 &&& 31)) &&& 255)], _, _, _)) rfl ?_
    rw [hm0]
    refine pm_ev_many 2 (s' := (54, [some (.ref 83), some (.int (xs 1)), some (.int 4), some (.int 1), some (.int 0)], [.int 126, .int 32, .int b0], _, _, _)) rfl ?_
    refine pe_stat (al := [.int 126, .int 32, .int b0]) (L0 := [some (.int b0), some (.int 32), some (.int 126)]) (r1 := (some (.int 0), 129, 17845, h)) rfl rfl rfl rfl rfl rfl (Nat.le_of_ble_eq_true rfl) (Nat.le_of_ble_eq_true rfl) rfl rfl ?_ ?_
    · refine pm_ev_many 2 (s' := (2, [some (.int b0), some (.int 32), some (.int 126)], [.int 32, .int b0], _, _, _)) rfl ?_
      refine pm_ev_many 1 (s' := (if b0 < 32 then 14 else 5, [some (.int b0), some (.int 32), some (.int 126)], [], _, _, _)) rfl ?_
      rw [if_neg a0]
      refine pm_ev_many 2 (s' := (7, [some (.int b0), some (.int 32), some (.int 126)], [.int 126, .int b0], _, _, _)) rfl ?_
      refine pm_ev_many 1 (s' := (if 126 < b0 then 14 else 10, [some (.int b0), some (.int 32), some (.int 126)], [], _, _, _)) rfl ?_
      rw [if_pos e0]
      refine pm_ev_many 1 (s' := (15, [some (.int b0), some (.int 32), some (.int 126)], [.int 0], _, _, _)) rfl ?_
      exact pm_ev_ret rfl
    show pm_ev _ _ _ _ _ (57, [some (.ref 83), some (.int (xs 1)), some (.int 4), some (.int 1), some (.int 0)], [.int 0], _, _, _) _
    refine pm_ev_many 17 (s' := (115, [some (.ref 83), some (.int (xs 1)), some (.int 4), some (.int 0), some (.int 3)], [.int 0], _, _, _)) rfl ?_
    exact pm_ev_ret rfl
  show pm_ev _ _ _ _ _ (116, [some (.retAddr 0), some (.ref 0), some (.ref 83), some (.int 0)], [.int 0, .int 0], _, _, _) _
  refine pm_ev_many 10 (s' := (295, [some (.retAddr 0), some (.ref 0), some (.ref 83), some (.int 3)], [.int 1], _, _, _)) rfl ?_
  exact pm_ev_ret rfl
set_option maxRecDepth 100000 in
set_option maxHeartbeats 4000000 in
theorem p1_0_4_1lo (d : Nat) (xs : Nat → Int32) (h : Nat → va_E) (hi : pm_init h) (hn : xs 2 = 4) (b0 : Int32) (hc0 : ((((xs 1)).toUInt32 >>> ((0 : Int32).toUInt32 &&& Int32.toUInt32 31)).toInt32) &&& 255 = b0) (hm0 : ((xs 1) >>> (0 &&& 31)) &&& 255 = b0) (a0 : ¬ b0 < 32) (c0 : b0 ≤ 126) (e0 : ¬ 126 < b0) (b1 : Int32) (hc1 : ((((xs 1)).toUInt32 >>> ((8 : Int32).toUInt32 &&& Int32.toUInt32 31)).toInt32) &&& 255 = b1) (hm1 : ((xs 1) >>> (8 &&& 31)) &&& 255 = b1) (a1 : b1 < 32) (b2 : Int32) (hc2 : ((((xs 1)).toUInt32 >>> ((16 : Int32).toUInt32 &&& Int32.toUInt32 31)).toInt32) &&& 255 = b2) (hm2 : ((xs 1) >>> (16 &&& 31)) &&& 255 = b2) (b3 : Int32) (hc3 : ((((xs 1)).toUInt32 >>> ((24 : Int32).toUInt32 &&& Int32.toUInt32 31)).toInt32) &&& 255 = b3) (hm3 : ((xs 1) >>> (24 &&& 31)) &&& 255 = b3) : ∃ h' : Nat → va_E, pm_ev pmT (some (3, xs)) (d + 10) 214 true (32, [some (.retAddr 0), some (.ref 0), some (.ref 83), some (.int 0)], [.int 0], 129, 17845, h) (some (.int 1), 129, 17845, h') := by
  obtain ⟨f0, f1, f2, f3, f4, f5, f6, f7, f8, f9, f10, f11, f12, f13, f14, f15, f16, f17, f18, f19, f20, f21, f22, f23, f24, f25, f26, f27, f28, f29, f30, f31, f32, f33, f34, f35, f36, f37, f38, f39, f40, f41, f42, f43, f44, f45, f46, f47, f48, f49, f50, f51, f52, f53, f54, f55, f56, f57, f58, f59, f60, f61, f62, f63, f64, f65, f66, f67, f68, f69, f70, f71, f72, f73, f74, f75, f76, f77, f78, f79, f80, f81, f82, f83, f84, f85, f86, f87, f88, f89, f90, f91, f92, f93, f94, f95, f96, f97, f98, f99, f100, f101, f102, f103, f104, f105, f106, f107, f108, f109, f110, f111, f112, f113, f114, f115, f116, f117, f118, f119, f120, f121, f122, f123, f124, f125, f126, f127, f128⟩ := hi
  refine ⟨h, ?_⟩
  refine pm_ev_many 12 (s' := (99, [some (.retAddr 0), some (.ref 0), some (.ref 83), some (.int 0)], [.int (xs 2), .int (xs 1), .ref 0], _, _, _)) rfl ?_
  rw [hn]
  refine pe_virt (al := [.int 4, .int (xs 1)]) (a := 0) (L0 := [some (.ref 0), some (.int (xs 1)), some (.int 4)]) (r1 := (some (.int 0), 129, 17845, h)) rfl rfl rfl rfl rfl f0 (by decide) rfl (Nat.le_of_ble_eq_true rfl) (Nat.le_of_ble_eq_true rfl) rfl rfl ?_ ?_
  · refine pm_ev_many 1 (s' := (1, [some (.ref 0), some (.int (xs 1)), some (.int 4)], [.ref 0], _, _, _)) rfl ?_
    refine pe_get rfl rfl rfl f0 (by decide) rfl ?_
    refine pm_ev_many 2 (s' := (6, [some (.ref 0), some (.int (xs 1)), some (.int 4)], [.int 4, .int (xs 1), .ref 1], _, _, _)) rfl ?_
    refine pe_virt (al := [.int 4, .int (xs 1)]) (a := 1) (L0 := [some (.ref 1), some (.int (xs 1)), some (.int 4), none, none]) (r1 := (some (.int 0), 129, 17845, h)) rfl rfl rfl rfl rfl f1 (by decide) rfl (Nat.le_of_ble_eq_true rfl) (Nat.le_of_ble_eq_true rfl) rfl rfl ?_ ?_
    · refine pm_ev_many 7 (s' := (11, [some (.ref 1), some (.int (xs 1)), some (.int 4), none, none], [.ref 1], _, _, _)) rfl ?_
      refine pe_get rfl rfl rfl f1 (by decide) rfl ?_
      refine pm_ev_many 11 (s' := (32, [some (.ref 1), some (.int (xs 1)), some (.int 4), some (.int 0), none], [.int 0, .int (xs 1)], _, _, _)) rfl ?_
      refine pe_stat (al := [.int 0, .int (xs 1)]) (L0 := [some (.int (xs 1)), some (.int 0)]) (r1 := (some (.int b0), 129, 17845, h)) rfl rfl rfl rfl rfl rfl (Nat.le_of_ble_eq_true rfl) (Nat.le_of_ble_eq_true rfl) rfl rfl ?_ ?_
      · refine pm_ev_many 7 (s' := (10, [some (.int (xs 1)), some (.int 0)], [.int (((((xs 1)).toUInt32 >>> ((0 : Int32).toUInt32 &&& Int32.toUInt32 31)).toInt32) &&& 255)], _, _, _)) rfl ?_
        rw [hc0]
        exact pm_ev_ret rfl
      show pm_ev _ _ _ _ _ (35, [some (.ref 1), some (.int (xs 1)), some (.int 4), some (.int 0), none], [.int b0], _, _, _) _
      refine pm_ev_many 3 (s' := (41, [some (.ref 1), some (.int (xs 1)), some (.int 4), some (.int 0), some (.int b0)], [.int 32, .int b0], _, _, _)) rfl ?_
      refine pm_ev_many 1 (s' := (if b0 < 32 then 51 else 44, [some (.ref 1), some (.int (xs 1)), some (.int 4), some (.int 0), some (.int b0)], [], _, _, _)) rfl ?_
      rw [if_neg a0]
      refine pm_ev_many 2 (s' := (48, [some (.ref 1), some (.int (xs 1)), some (.int 4), some (.int 0), some (.int b0)], [.int 126, .int b0], _, _, _)) rfl ?_
      refine pm_ev_many 1 (s' := (if b0 ≤ 126 then 53 else 51, [some (.ref 1), some (.int (xs 1)), some (.int 4), some (.int 0), some (.int b0)], [], _, _, _)) rfl ?_
      rw [if_pos c0]
      refine pm_ev_many 7 (s' := (32, [some (.ref 1), some (.int (xs 1)), some (.int 4), some (.int 1), some (.int b0)], [.int 1, .int (xs 1)], _, _, _)) rfl ?_
      refine pe_stat (al := [.int 1, .int (xs 1)]) (L0 := [some (.int (xs 1)), some (.int 1)]) (r1 := (some (.int b1), 129, 17845, h)) rfl rfl rfl rfl rfl rfl (Nat.le_of_ble_eq_true rfl) (Nat.le_of_ble_eq_true rfl) rfl rfl ?_ ?_
      · refine pm_ev_many 7 (s' := (10, [some (.int (xs 1)), some (.int 1)], [.int (((((xs 1)).toUInt32 >>> ((8 : Int32).toUInt32 &&& Int32.toUInt32 31)).toInt32) &&& 255)], _, _, _)) rfl ?_
        rw [hc1]
        exact pm_ev_ret rfl
      show pm_ev _ _ _ _ _ (35, [some (.ref 1), some (.int (xs 1)), some (.int 4), some (.int 1), some (.int b0)], [.int b1], _, _, _) _
      refine pm_ev_many 3 (s' := (41, [some (.ref 1), some (.int (xs 1)), some (.int 4), some (.int 1), some (.int b1)], [.int 32, .int b1], _, _, _)) rfl ?_
      refine pm_ev_many 1 (s' := (if b1 < 32 then 51 else 44, [some (.ref 1), some (.int (xs 1)), some (.int 4), some (.int 1), some (.int b1)], [], _, _, _)) rfl ?_
      rw [if_pos a1]
      refine pm_ev_many 1 (s' := (52, [some (.ref 1), some (.int (xs 1)), some (.int 4), some (.int 1), some (.int b1)], [.int 0], _, _, _)) rfl ?_
      exact pm_ev_ret rfl
    show pm_ev _ _ _ _ _ (9, [some (.ref 0), some (.int (xs 1)), some (.int 4)], [.int 0], _, _, _) _
    exact pm_ev_ret rfl
  show pm_ev _ _ _ _ _ (102, [some (.retAddr 0), some (.ref 0), some (.ref 83), some (.int 0)], [.int 0], _, _, _) _
  refine pm_ev_many 11 (s' := (113, [some (.retAddr 0), some (.ref 0), some (.ref 83), some (.int 0)], [.int (xs 2), .int (xs 1), .ref 83, .int 0], _, _, _)) rfl ?_
  rw [hn]
  refine pe_virt (al := [.int 4, .int (xs 1)]) (a := 83) (L0 := [some (.ref 83), some (.int (xs 1)), some (.int 4), none, none]) (r1 := (some (.int 0), 129, 17845, h)) rfl rfl rfl rfl rfl f83 (by decide) rfl (Nat.le_of_ble_eq_true rfl) (Nat.le_of_ble_eq_true rfl) rfl rfl ?_ ?_
  · refine pm_ev_many 3 (s' := (3, [some (.ref 83), some (.int (xs 1)), some (.int 4), none, none], [.int 4, .int 1, .int 4], _, _, _)) rfl ?_
    refine pe_stat (al := [.int 4, .int 1, .int 4]) (L0 := [some (.int 4), some (.int 1), some (.int 4)]) (r1 := (some (.int 1), 129, 17845, h)) rfl rfl rfl rfl rfl rfl (Nat.le_of_ble_eq_true rfl) (Nat.le_of_ble_eq_true rfl) rfl rfl ?_ ?_
    · refine pm_ev_many 8 (s' := (15, [some (.int 4), some (.int 1), some (.int 4)], [.int 1], _, _, _)) rfl ?_
      exact pm_ev_ret rfl
    show pm_ev _ _ _ _ _ (6, [some (.ref 83), some (.int (xs 1)), some (.int 4), none, none], [.int 1], _, _, _) _
    refine pm_ev_many 2 (s' := (10, [some (.ref 83), some (.int (xs 1)), some (.int 4), none, none], [.ref 83], _, _, _)) rfl ?_
    refine pe_get rfl rfl rfl f83 (by decide) rfl ?_
    refine pm_ev_many 21 (s' := (50, [some (.ref 83), some (.int (xs 1)), some (.int 4), some (.int 1), some (.int 0)], [.int (((xs 1) >>> (0 &&& 31)) &&& 255)], _, _, _)) rfl ?_
    rw [hm0]
    refine pm_ev_many 2 (s' := (54, [some (.ref 83), some (.int (xs 1)), some (.int 4), some (.int 1), some (.int 0)], [.int 126, .int 32, .int b0], _, _, _)) rfl ?_
    refine pe_stat (al := [.int 126, .int 32, .int b0]) (L0 := [some (.int b0), some (.int 32), some (.int 126)]) (r1 := (some (.int 1), 129, 17845, h)) rfl rfl rfl rfl rfl rfl (Nat.le_of_ble_eq_true rfl) (Nat.le_of_ble_eq_true rfl) rfl rfl ?_ ?_
    · refine pm_ev_many 2 (s' := (2, [some (.int b0), some (.int 32), some (.int 126)], [.int 32, .int b0], _, _, _)) rfl ?_
      refine pm_ev_many 1 (s' := (if b0 < 32 then 14 else 5, [some (.int b0), some (.int 32), some (.int 126)], [], _, _, _)) rfl ?_
      rw [if_neg a0]
      refine pm_ev_many 2 (s' := (7, [some (.int b0), some (.int 32), some (.int 126)], [.int 126, .int b0], _, _, _)) rfl ?_
      refine pm_ev_many 1 (s' := (if 126 < b0 then 14 else 10, [some (.int b0), some (.int 32), some (.int 126)], [], _, _, _)) rfl ?_
      rw [if_neg e0]
      refine pm_ev_many 2 (s' := (15, [some (.int b0), some (.int 32), some (.int 126)], [.int 1], _, _, _)) rfl ?_
      exact pm_ev_ret rfl
    show pm_ev _ _ _ _ _ (57, [some (.ref 83), some (.int (xs 1)), some (.int 4), some (.int 1), some (.int 0)], [.int 1], _, _, _) _
    refine pm_ev_many 15 (s' := (50, [some (.ref 83), some (.int (xs 1)), some (.int 4), some (.int 1), some (.int 1)], [.int (((xs 1) >>> (8 &&& 31)) &&& 255)], _, _, _)) rfl ?_
    rw [hm1]
    refine pm_ev_many 2 (s' := (54, [some (.ref 83), some (.int (xs 1)), some (.int 4), some (.int 1), some (.int 1)], [.int 126, .int 32, .int b1], _, _, _)) rfl ?_
    refine pe_stat (al := [.int 126, .int 32, .int b1]) (L0 := [some (.int b1), some (.int 32), some (.int 126)]) (r1 := (some (.int 0), 129, 17845, h)) rfl rfl rfl rfl rfl rfl (Nat.le_of_ble_eq_true rfl) (Nat.le_of_ble_eq_true rfl) rfl rfl ?_ ?_
    · refine pm_ev_many 2 (s' := (2, [some (.int b1), some (.int 32), some (.int 126)], [.int 32, .int b1], _, _, _)) rfl ?_
      refine pm_ev_many 1 (s' := (if b1 < 32 then 14 else 5, [some (.int b1), some (.int 32), some (.int 126)], [], _, _, _)) rfl ?_
      rw [if_pos a1]
      refine pm_ev_many 1 (s' := (15, [some (.int b1), some (.int 32), some (.int 126)], [.int 0], _, _, _)) rfl ?_
      exact pm_ev_ret rfl
    show pm_ev _ _ _ _ _ (57, [some (.ref 83), some (.int (xs 1)), some (.int 4), some (.int 1), some (.int 1)], [.int 0], _, _, _) _
    refine pm_ev_many 17 (s' := (115, [some (.ref 83), some (.int (xs 1)), some (.int 4), some (.int 0), some (.int 3)], [.int 0], _, _, _)) rfl ?_
    exact pm_ev_ret rfl
  show pm_ev _ _ _ _ _ (116, [some (.retAddr 0), some (.ref 0), some (.ref 83), some (.int 0)], [.int 0, .int 0], _, _, _) _
  refine pm_ev_many 10 (s' := (295, [some (.retAddr 0), some (.ref 0), some (.ref 83), some (.int 3)], [.int 1], _, _, _)) rfl ?_
  exact pm_ev_ret rfl
set_option maxRecDepth 100000 in
set_option maxHeartbeats 4000000 in
theorem p1_0_4_1hi (d : Nat) (xs : Nat → Int32) (h : Nat → va_E) (hi : pm_init h) (hn : xs 2 = 4) (b0 : Int32) (hc0 : ((((xs 1)).toUInt32 >>> ((0 : Int32).toUInt32 &&& Int32.toUInt32 31)).toInt32) &&& 255 = b0) (hm0 : ((xs 1) >>> (0 &&& 31)) &&& 255 = b0) (a0 : ¬ b0 < 32) (c0 : b0 ≤ 126) (e0 : ¬ 126 < b0) (b1 : Int32) (hc1 : ((((xs 1)).toUInt32 >>> ((8 : Int32).toUInt32 &&& Int32.toUInt32 31)).toInt32) &&& 255 = b1) (hm1 : ((xs 1) >>> (8 &&& 31)) &&& 255 = b1) (a1 : ¬ b1 < 32) (c1 : ¬ b1 ≤ 126) (e1 : 126 < b1) (b2 : Int32) (hc2 : ((((xs 1)).toUInt32 >>> ((16 : Int32).toUInt32 &&& Int32.toUInt32 31)).toInt32) &&& 255 = b2) (hm2 : ((xs 1) >>> (16 &&& 31)) &&& 255 = b2) (b3 : Int32) (hc3 : ((((xs 1)).toUInt32 >>> ((24 : Int32).toUInt32 &&& Int32.toUInt32 31)).toInt32) &&& 255 = b3) (hm3 : ((xs 1) >>> (24 &&& 31)) &&& 255 = b3) : ∃ h' : Nat → va_E, pm_ev pmT (some (3, xs)) (d + 10) 214 true (32, [some (.retAddr 0), some (.ref 0), some (.ref 83), some (.int 0)], [.int 0], 129, 17845, h) (some (.int 1), 129, 17845, h') := by
  obtain ⟨f0, f1, f2, f3, f4, f5, f6, f7, f8, f9, f10, f11, f12, f13, f14, f15, f16, f17, f18, f19, f20, f21, f22, f23, f24, f25, f26, f27, f28, f29, f30, f31, f32, f33, f34, f35, f36, f37, f38, f39, f40, f41, f42, f43, f44, f45, f46, f47, f48, f49, f50, f51, f52, f53, f54, f55, f56, f57, f58, f59, f60, f61, f62, f63, f64, f65, f66, f67, f68, f69, f70, f71, f72, f73, f74, f75, f76, f77, f78, f79, f80, f81, f82, f83, f84, f85, f86, f87, f88, f89, f90, f91, f92, f93, f94, f95, f96, f97, f98, f99, f100, f101, f102, f103, f104, f105, f106, f107, f108, f109, f110, f111, f112, f113, f114, f115, f116, f117, f118, f119, f120, f121, f122, f123, f124, f125, f126, f127, f128⟩ := hi
  refine ⟨h, ?_⟩
  refine pm_ev_many 12 (s' := (99, [some (.retAddr 0), some (.ref 0), some (.ref 83), some (.int 0)], [.int (xs 2), .int (xs 1), .ref 0], _, _, _)) rfl ?_
  rw [hn]
  refine pe_virt (al := [.int 4, .int (xs 1)]) (a := 0) (L0 := [some (.ref 0), some (.int (xs 1)), some (.int 4)]) (r1 := (some (.int 0), 129, 17845, h)) rfl rfl rfl rfl rfl f0 (by decide) rfl (Nat.le_of_ble_eq_true rfl) (Nat.le_of_ble_eq_true rfl) rfl rfl ?_ ?_
  · refine pm_ev_many 1 (s' := (1, [some (.ref 0), some (.int (xs 1)), some (.int 4)], [.ref 0], _, _, _)) rfl ?_
    refine pe_get rfl rfl rfl f0 (by decide) rfl ?_
    refine pm_ev_many 2 (s' := (6, [some (.ref 0), some (.int (xs 1)), some (.int 4)], [.int 4, .int (xs 1), .ref 1], _, _, _)) rfl ?_
    refine pe_virt (al := [.int 4, .int (xs 1)]) (a := 1) (L0 := [some (.ref 1), some (.int (xs 1)), some (.int 4), none, none]) (r1 := (some (.int 0), 129, 17845, h)) rfl rfl rfl rfl rfl f1 (by decide) rfl (Nat.le_of_ble_eq_true rfl) (Nat.le_of_ble_eq_true rfl) rfl rfl ?_ ?_
    · refine pm_ev_many 7 (s' := (11, [some (.ref 1), some (.int (xs 1)), some (.int 4), none, none], [.ref 1], _, _, _)) rfl ?_
      refine pe_get rfl rfl rfl f1 (by decide) rfl ?_
      refine pm_ev_many 11 (s' := (32, [some (.ref 1), some (.int (xs 1)), some (.int 4), some (.int 0), none], [.int 0, .int (xs 1)], _, _, _)) rfl ?_
      refine pe_stat (al := [.int 0, .int (xs 1)]) (L0 := [some (.int (xs 1)), some (.int 0)]) (r1 := (some (.int b0), 129, 17845, h)) rfl rfl rfl rfl rfl rfl (Nat.le_of_ble_eq_true rfl) (Nat.le_of_ble_eq_true rfl) rfl rfl ?_ ?_
      · refine pm_ev_many 7 (s' := (10, [some (.int (xs 1)), some (.int 0)], [.int (((((xs 1)).toUInt32 >>> ((0 : Int32).toUInt32 &&& Int32.toUInt32 31)).toInt32) &&& 255)], _, _, _)) rfl ?_
        rw [hc0]
        exact pm_ev_ret rfl
      show pm_ev _ _ _ _ _ (35, [some (.ref 1), some (.int (xs 1)), some (.int 4), some (.int 0), none], [.int b0], _, _, _) _
      refine pm_ev_many 3 (s' := (41, [some (.ref 1), some (.int (xs 1)), some (.int 4), some (.int 0), some (.int b0)], [.int 32, .int b0], _, _, _)) rfl ?_
      refine pm_ev_many 1 (s' := (if b0 < 32 then 51 else 44, [some (.ref 1), some (.int (xs 1)), some (.int 4), some (.int 0), some (.int b0)], [], _, _, _)) rfl ?_
      rw [if_neg a0]
      refine pm_ev_many 2 (s' := (48, [some (.ref 1), some (.int (xs 1)), some (.int 4), some (.int 0), some (.int b0)], [.int 126, .int b0], _, _, _)) rfl ?_
      refine pm_ev_many 1 (s' := (if b0 ≤ 126 then 53 else 51, [some (.ref 1), some (.int (xs 1)), some (.int 4), some (.int 0), some (.int b0)], [], _, _, _)) rfl ?_
      rw [if_pos c0]
      refine pm_ev_many 7 (s' := (32, [some (.ref 1), some (.int (xs 1)), some (.int 4), some (.int 1), some (.int b0)], [.int 1, .int (xs 1)], _, _, _)) rfl ?_
      refine pe_stat (al := [.int 1, .int (xs 1)]) (L0 := [some (.int (xs 1)), some (.int 1)]) (r1 := (some (.int b1), 129, 17845, h)) rfl rfl rfl rfl rfl rfl (Nat.le_of_ble_eq_true rfl) (Nat.le_of_ble_eq_true rfl) rfl rfl ?_ ?_
      · refine pm_ev_many 7 (s' := (10, [some (.int (xs 1)), some (.int 1)], [.int (((((xs 1)).toUInt32 >>> ((8 : Int32).toUInt32 &&& Int32.toUInt32 31)).toInt32) &&& 255)], _, _, _)) rfl ?_
        rw [hc1]
        exact pm_ev_ret rfl
      show pm_ev _ _ _ _ _ (35, [some (.ref 1), some (.int (xs 1)), some (.int 4), some (.int 1), some (.int b0)], [.int b1], _, _, _) _
      refine pm_ev_many 3 (s' := (41, [some (.ref 1), some (.int (xs 1)), some (.int 4), some (.int 1), some (.int b1)], [.int 32, .int b1], _, _, _)) rfl ?_
      refine pm_ev_many 1 (s' := (if b1 < 32 then 51 else 44, [some (.ref 1), some (.int (xs 1)), some (.int 4), some (.int 1), some (.int b1)], [], _, _, _)) rfl ?_
      rw [if_neg a1]
      refine pm_ev_many 2 (s' := (48, [some (.ref 1), some (.int (xs 1)), some (.int 4), some (.int 1), some (.int b1)], [.int 126, .int b1], _, _, _)) rfl ?_
      refine pm_ev_many 1 (s' := (if b1 ≤ 126 then 53 else 51, [some (.ref 1), some (.int (xs 1)), some (.int 4), some (.int 1), some (.int b1)], [], _, _, _)) rfl ?_
      rw [if_neg c1]
      refine pm_ev_many 1 (s' := (52, [some (.ref 1), some (.int (xs 1)), some (.int 4), some (.int 1), some (.int b1)], [.int 0], _, _, _)) rfl ?_
      exact pm_ev_ret rfl
    show pm_ev _ _ _ _ _ (9, [some (.ref 0), some (.int (xs 1)), some (.int 4)], [.int 0], _, _, _) _
    exact pm_ev_ret rfl
  show pm_ev _ _ _ _ _ (102, [some (.retAddr 0), some (.ref 0), some (.ref 83), some (.int 0)], [.int 0], _, _, _) _
  refine pm_ev_many 11 (s' := (113, [some (.retAddr 0), some (.ref 0), some (.ref 83), some (.int 0)], [.int (xs 2), .int (xs 1), .ref 83, .int 0], _, _, _)) rfl ?_
  rw [hn]
  refine pe_virt (al := [.int 4, .int (xs 1)]) (a := 83) (L0 := [some (.ref 83), some (.int (xs 1)), some (.int 4), none, none]) (r1 := (some (.int 0), 129, 17845, h)) rfl rfl rfl rfl rfl f83 (by decide) rfl (Nat.le_of_ble_eq_true rfl) (Nat.le_of_ble_eq_true rfl) rfl rfl ?_ ?_
  · refine pm_ev_many 3 (s' := (3, [some (.ref 83), some (.int (xs 1)), some (.int 4), none, none], [.int 4, .int 1, .int 4], _, _, _)) rfl ?_
    refine pe_stat (al := [.int 4, .int 1, .int 4]) (L0 := [some (.int 4), some (.int 1), some (.int 4)]) (r1 := (some (.int 1), 129, 17845, h)) rfl rfl rfl rfl rfl rfl (Nat.le_of_ble_eq_true rfl) (Nat.le_of_ble_eq_true rfl) rfl rfl ?_ ?_
    · refine pm_ev_many 8 (s' := (15, [some (.int 4), some (.int 1), some (.int 4)], [.int 1], _, _, _)) rfl ?_
      exact pm_ev_ret rfl
    show pm_ev _ _ _ _ _ (6, [some (.ref 83), some (.int (xs 1)), some (.int 4), none, none], [.int 1], _, _, _) _
    refine pm_ev_many 2 (s' := (10, [some (.ref 83), some (.int (xs 1)), some (.int 4), none, none], [.ref 83], _, _, _)) rfl ?_
    refine pe_get rfl rfl rfl f83 (by decide) rfl ?_
    refine pm_ev_many 21 (s' := (50, [some (.ref 83), some (.int (xs 1)), some (.int 4), some (.int 1), some (.int 0)], [.int (((xs 1) >>> (0 &&& 31)) &&& 255)], _, _, _)) rfl ?_
    rw [hm0]
    refine pm_ev_many 2 (s' := (54, [some (.ref 83), some (.int (xs 1)), some (.int 4), some (.int 1), some (.int 0)], [.int 126, .int 32, .int b0], _, _, _)) rfl ?_
    refine pe_stat (al := [.int 126, .int 32, .int b0]) (L0 := [some (.int b0), some (.int 32), some (.int 126)]) (r1 := (some (.int 1), 129, 17845, h)) rfl rfl rfl rfl rfl rfl (Nat.le_of_ble_eq_true rfl) (Nat.le_of_ble_eq_true rfl) rfl rfl ?_ ?_
    · refine pm_ev_many 2 (s' := (2, [some (.int b0), some (.int 32), some (.int 126)], [.int 32, .int b0], _, _, _)) rfl ?_
      refine pm_ev_many 1 (s' := (if b0 < 32 then 14 else 5, [some (.int b0), some (.int 32), some (.int 126)], [], _, _, _)) rfl ?_
      rw [if_neg a0]
      refine pm_ev_many 2 (s' := (7, [some (.int b0), some (.int 32), some (.int 126)], [.int 126, .int b0], _, _, _)) rfl ?_
      refine pm_ev_many 1 (s' := (if 126 < b0 then 14 else 10, [some (.int b0), some (.int 32), some (.int 126)], [], _, _, _)) rfl ?_
      rw [if_neg e0]
      refine pm_ev_many 2 (s' := (15, [some (.int b0), some (.int 32), some (.int 126)], [.int 1], _, _, _)) rfl ?_
      exact pm_ev_ret rfl
    show pm_ev _ _ _ _ _ (57, [some (.ref 83), some (.int (xs 1)), some (.int 4), some (.int 1), some (.int 0)], [.int 1], _, _, _) _
    refine pm_ev_many 15 (s' := (50, [some (.ref 83), some (.int (xs 1)), some (.int 4), some (.int 1), some (.int 1)], [.int (((xs 1) >>> (8 &&& 31)) &&& 255)], _, _, _)) rfl ?_
    rw [hm1]
    refine pm_ev_many 2 (s' := (54, [some (.ref 83), some (.int (xs 1)), some (.int 4), some (.int 1), some (.int 1)], [.int 126, .int 32, .int b1], _, _, _)) rfl ?_
    refine pe_stat (al := [.int 126, .int 32, .int b1]) (L0 := [some (.int b1), some (.int 32), some (.int 126)]) (r1 := (some (.int 0), 129, 17845, h)) rfl rfl rfl rfl rfl rfl (Nat.le_of_ble_eq_true rfl) (Nat.le_of_ble_eq_true rfl) rfl rfl ?_ ?_
    · refine pm_ev_many 2 (s' := (2, [some (.int b1), some (.int 32), some (.int 126)], [.int 32, .int b1], _, _, _)) rfl ?_
      refine pm_ev_many 1 (s' := (if b1 < 32 then 14 else 5, [some (.int b1), some (.int 32), some (.int 126)], [], _, _, _)) rfl ?_
      rw [if_neg a1]
      refine pm_ev_many 2 (s' := (7, [some (.int b1), some (.int 32), some (.int 126)], [.int 126, .int b1], _, _, _)) rfl ?_
      refine pm_ev_many 1 (s' := (if 126 < b1 then 14 else 10, [some (.int b1), some (.int 32), some (.int 126)], [], _, _, _)) rfl ?_
      rw [if_pos e1]
      refine pm_ev_many 1 (s' := (15, [some (.int b1), some (.int 32), some (.int 126)], [.int 0], _, _, _)) rfl ?_
      exact pm_ev_ret rfl
    show pm_ev _ _ _ _ _ (57, [some (.ref 83), some (.int (xs 1)), some (.int 4), some (.int 1), some (.int 1)], [.int 0], _, _, _) _
    refine pm_ev_many 17 (s' := (115, [some (.ref 83), some (.int (xs 1)), some (.int 4), some (.int 0), some (.int 3)], [.int 0], _, _, _)) rfl ?_
    exact pm_ev_ret rfl
  show pm_ev _ _ _ _ _ (116, [some (.retAddr 0), some (.ref 0), some (.ref 83), some (.int 0)], [.int 0, .int 0], _, _, _) _
  refine pm_ev_many 10 (s' := (295, [some (.retAddr 0), some (.ref 0), some (.ref 83), some (.int 3)], [.int 1], _, _, _)) rfl ?_
  exact pm_ev_ret rfl
set_option maxRecDepth 100000 in
set_option maxHeartbeats 4000000 in
theorem p1_0_4_2lo (d : Nat) (xs : Nat → Int32) (h : Nat → va_E) (hi : pm_init h) (hn : xs 2 = 4) (b0 : Int32) (hc0 : ((((xs 1)).toUInt32 >>> ((0 : Int32).toUInt32 &&& Int32.toUInt32 31)).toInt32) &&& 255 = b0) (hm0 : ((xs 1) >>> (0 &&& 31)) &&& 255 = b0) (a0 : ¬ b0 < 32) (c0 : b0 ≤ 126) (e0 : ¬ 126 < b0) (b1 : Int32) (hc1 : ((((xs 1)).toUInt32 >>> ((8 : Int32).toUInt32 &&& Int32.toUInt32 31)).toInt32) &&& 255 = b1) (hm1 : ((xs 1) >>> (8 &&& 31)) &&& 255 = b1) (a1 : ¬ b1 < 32) (c1 : b1 ≤ 126) (e1 : ¬ 126 < b1) (b2 : Int32) (hc2 : ((((xs 1)).toUInt32 >>> ((16 : Int32).toUInt32 &&& Int32.toUInt32 31)).toInt32) &&& 255 = b2) (hm2 : ((xs 1) >>> (16 &&& 31)) &&& 255 = b2) (a2 : b2 < 32) (b3 : Int32) (hc3 : ((((xs 1)).toUInt32 >>> ((24 : Int32).toUInt32 &&& Int32.toUInt32 31)).toInt32) &&& 255 = b3) (hm3 : ((xs 1) >>> (24 &&& 31)) &&& 255 = b3) : ∃ h' : Nat → va_E, pm_ev pmT (some (3, xs)) (d + 10) 214 true (32, [some (.retAddr 0), some (.ref 0), some (.ref 83), some (.int 0)], [.int 0], 129, 17845, h) (some (.int 1), 129, 17845, h') := by
  obtain ⟨f0, f1, f2, f3, f4, f5, f6, f7, f8, f9, f10, f11, f12, f13, f14, f15, f16, f17, f18, f19, f20, f21, f22, f23, f24, f25, f26, f27, f28, f29, f30, f31, f32, f33, f34, f35, f36, f37, f38, f39, f40, f41, f42, f43, f44, f45, f46, f47, f48, f49, f50, f51, f52, f53, f54, f55, f56, f57, f58, f59, f60, f61, f62, f63, f64, f65, f66, f67, f68, f69, f70, f71, f72, f73, f74, f75, f76, f77, f78, f79, f80, f81, f82, f83, f84, f85, f86, f87, f88, f89, f90, f91, f92, f93, f94, f95, f96, f97, f98, f99, f100, f101, f102, f103, f104, f105, f106, f107, f108, f109, f110, f111, f112, f113, f114, f115, f116, f117, f118, f119, f120, f121, f122, f123, f124, f125, f126, f127, f128⟩ := hi
  refine ⟨h, ?_⟩
  refine pm_ev_many 12 (s' := (99, [some (.retAddr 0), some (.ref 0), some (.ref 83), some (.int 0)], [.int (xs 2), .int (xs 1), .ref 0], _, _, _)) rfl ?_
  rw [hn]
  refine pe_virt (al := [.int 4, .int (xs 1)]) (a := 0) (L0 := [some (.ref 0), some (.int (xs 1)), some (.int 4)]) (r1 := (some (.int 0), 129, 17845, h)) rfl rfl rfl rfl rfl f0 (by decide) rfl (Nat.le_of_ble_eq_true rfl) (Nat.le_of_ble_eq_true rfl) rfl rfl ?_ ?_
  · refine pm_ev_many 1 (s' := (1, [some (.ref 0), some (.int (xs 1)), some (.int 4)], [.ref 0], _, _, _)) rfl ?_
    refine pe_get rfl rfl rfl f0 (by decide) rfl ?_
    refine pm_ev_many 2 (s' := (6, [some (.ref 0), some (.int (xs 1)), some (.int 4)], [.int 4, .int (xs 1), .ref 1], _, _, _)) rfl ?_
    refine pe_virt (al := [.int 4, .int (xs 1)]) (a := 1) (L0 := [some (.ref 1), some (.int (xs 1)), some (.int 4), none, none]) (r1 := (some (.int 0), 129, 17845, h)) rfl rfl rfl rfl rfl f1 (by decide) rfl (Nat.le_of_ble_eq_true rfl) (Nat.le_of_ble_eq_true rfl) rfl rfl ?_ ?_
    · refine pm_ev_many 7 (s' := (11, [some (.ref 1), some (.int (xs 1)), some (.int 4), none, none], [.ref 1], _, _, _)) rfl ?_
      refine pe_get rfl rfl rfl f1 (by decide) rfl ?_
      refine pm_ev_many 11 (s' := (32, [some (.ref 1), some (.int (xs 1)), some (.int 4), some (.int 0), none], [.int 0, .int (xs 1)], _, _, _)) rfl ?_
      refine pe_stat (al := [.int 0, .int (xs 1)]) (L0 := [some (.int (xs 1)), some (.int 0)]) (r1 := (some (.int b0), 129, 17845, h)) rfl rfl rfl rfl rfl rfl (Nat.le_of_ble_eq_true rfl) (Nat.le_of_ble_eq_true rfl) rfl rfl ?_ ?_
      · refine pm_ev_many 7 (s' := (10, [some (.int (xs 1)), some (.int 0)], [.int (((((xs 1)).toUInt32 >>> ((0 : Int32).toUInt32 &&& Int32.toUInt32 31)).toInt32) &&& 255)], _, _, _)) rfl ?_
        rw [hc0]
        exact pm_ev_ret rfl
      show pm_ev _ _ _ _ _ (35, [some (.ref 1), some (.int (xs 1)), some (.int 4), some (.int 0), none], [.int b0], _, _, _) _
      refine pm_ev_many 3 (s' := (41, [some (.ref 1), some (.int (xs 1)), some (.int 4), some (.int 0), some (.int b0)], [.int 32, .int b0], _, _, _)) rfl ?_
      refine pm_ev_many 1 (s' := (if b0 < 32 then 51 else 44, [some (.ref 1), some (.int (xs 1)), some (.int 4), some (.int 0), some (.int b0)], [], _, _, _)) rfl ?_
      rw [if_neg a0]
      refine pm_ev_many 2 (s' := (48, [some (.ref 1), some (.int (xs 1)), some (.int 4), some (.int 0), some (.int b0)], [.int 126, .int b0], _, _, _)) rfl ?_
      refine pm_ev_many 1 (s' := (if b0 ≤ 126 then 53 else 51, [some (.ref 1), some (.int (xs 1)), some (.int 4), some (.int 0), some (.int b0)], [], _, _, _)) rfl ?_
      rw [if_pos c0]
      refine pm_ev_many 7 (s' := (32, [some (.ref 1), some (.int (xs 1)), some (.int 4), some (.int 1), some (.int b0)], [.int 1, .int (xs 1)], _, _, _)) rfl ?_
      refine pe_stat (al := [.int 1, .int (xs 1)]) (L0 := [some (.int (xs 1)), some (.int 1)]) (r1 := (some (.int b1), 129, 17845, h)) rfl rfl rfl rfl rfl rfl (Nat.le_of_ble_eq_true rfl) (Nat.le_of_ble_eq_true rfl) rfl rfl ?_ ?_
      · refine pm_ev_many 7 (s' := (10, [some (.int (xs 1)), some (.int 1)], [.int (((((xs 1)).toUInt32 >>> ((8 : Int32).toUInt32 &&& Int32.toUInt32 31)).toInt32) &&& 255)], _, _, _)) rfl ?_
        rw [hc1]
        exact pm_ev_ret rfl
      show pm_ev _ _ _ _ _ (35, [some (.ref 1), some (.int (xs 1)), some (.int 4), some (.int 1), some (.int b0)], [.int b1], _, _, _) _
      refine pm_ev_many 3 (s' := (41, [some (.ref 1), some (.int (xs 1)), some (.int 4), some (.int 1), some (.int b1)], [.int 32, .int b1], _, _, _)) rfl ?_
      refine pm_ev_many 1 (s' := (if b1 < 32 then 51 else 44, [some (.ref 1), some (.int (xs 1)), some (.int 4), some (.int 1), some (.int b1)], [], _, _, _)) rfl ?_
      rw [if_neg a1]
      refine pm_ev_many 2 (s' := (48, [some (.ref 1), some (.int (xs 1)), some (.int 4), some (.int 1), some (.int b1)], [.int 126, .int b1], _, _, _)) rfl ?_
      refine pm_ev_many 1 (s' := (if b1 ≤ 126 then 53 else 51, [some (.ref 1), some (.int (xs 1)), some (.int 4), some (.int 1), some (.int b1)], [], _, _, _)) rfl ?_
      rw [if_pos c1]
      refine pm_ev_many 7 (s' := (32, [some (.ref 1), some (.int (xs 1)), some (.int 4), some (.int 2), some (.int b1)], [.int 2, .int (xs 1)], _, _, _)) rfl ?_
      refine pe_stat (al := [.int 2, .int (xs 1)]) (L0 := [some (.int (xs 1)), some (.int 2)]) (r1 := (some (.int b2), 129, 17845, h)) rfl rfl rfl rfl rfl rfl (Nat.le_of_ble_eq_true rfl) (Nat.le_of_ble_eq_true rfl) rfl rfl ?_ ?_
      · refine pm_ev_many 7 (s' := (10, [some (.int (xs 1)), some (.int 2)], [.int (((((xs 1)).toUInt32 >>> ((16 : Int32).toUInt32 &&& Int32.toUInt32 31)).toInt32) &&& 255)], _, _, _)) rfl ?_
        rw [hc2]
        exact pm_ev_ret rfl
      show pm_ev _ _ _ _ _ (35, [some (.ref 1), some (.int (xs 1)), some (.int 4), some (.int 2), some (.int b1)], [.int b2], _, _, _) _
      refine pm_ev_many 3 (s' := (41, [some (.ref 1), some (.int (xs 1)), some (.int 4), some (.int 2), some (.int b2)], [.int 32, .int b2], _, _, _)) rfl ?_
      refine pm_ev_many 1 (s' := (if b2 < 32 then 51 else 44, [some (.ref 1), some (.int (xs 1)), some (.int 4), some (.int 2), some (.int b2)], [], _, _, _)) rfl ?_
      rw [if_pos a2]
      refine pm_ev_many 1 (s' := (52, [some (.ref 1), some (.int (xs 1)), some (.int 4), some (.int 2), some (.int b2)], [.int 0], _, _, _)) rfl ?_
      exact pm_ev_ret rfl
    show pm_ev _ _ _ _ _ (9, [some (.ref 0), some (.int (xs 1)), some (.int 4)], [.int 0], _, _, _) _
    exact pm_ev_ret rfl
  show pm_ev _ _ _ _ _ (102, [some (.retAddr 0), some (.ref 0), some (.ref 83), some (.int 0)], [.int 0], _, _, _) _
  refine pm_ev_many 11 (s' := (113, [some (.retAddr 0), some (.ref 0), some (.ref 83), some (.int 0)], [.int (xs 2), .int (xs 1), .ref 83, .int 0], _, _, _)) rfl ?_
  rw [hn]
  refine pe_virt (al := [.int 4, .int (xs 1)]) (a := 83) (L0 := [some (.ref 83), some (.int (xs 1)), some (.int 4), none, none]) (r1 := (some (.int 0), 129, 17845, h)) rfl rfl rfl rfl rfl f83 (by decide) rfl (Nat.le_of_ble_eq_true rfl) (Nat.le_of_ble_eq_true rfl) rfl rfl ?_ ?_
  · refine pm_ev_many 3 (s' := (3, [some (.ref 83), some (.int (xs 1)), some (.int 4), none, none], [.int 4, .int 1, .int 4], _, _, _)) rfl ?_
    refine pe_stat (al := [.int 4, .int 1, .int 4]) (L0 := [some (.int 4), some (.int 1), some (.int 4)]) (r1 := (some (.int 1), 129, 17845, h)) rfl rfl rfl rfl rfl rfl (Nat.le_of_ble_eq_true rfl) (Nat.le_of_ble_eq_true rfl) rfl rfl ?_ ?_
    · refine pm_ev_many 8 (s' := (15, [some (.int 4), some (.int 1), some (.int 4)], [.int 1], _, _, _)) rfl ?_
      exact pm_ev_ret rfl
    show pm_ev _ _ _ _ _ (6, [some (.ref 83), some (.int (xs 1)), some (.int 4), none, none], [.int 1], _, _, _) _
    refine pm_ev_many 2 (s' := (10, [some (.ref 83), some (.int (xs 1)), some (.int 4), none, none], [.ref 83], _, _, _)) rfl ?_
    refine pe_get rfl rfl rfl f83 (by decide) rfl ?_
    refine pm_ev_many 21 (s' := (50, [some (.ref 83), some (.int (xs 1)), some (.int 4), some (.int 1), some (.int 0)], [.int (((xs 1) >>> (0 &&& 31)) &&& 255)], _, _, _)) rfl ?_
    rw [hm0]
    refine pm_ev_many 2 (s' := (54, [some (.ref 83), some (.int (xs 1)), some (.int 4), some (.int 1), some (.int 0)], [.int 126, .int 32, .int b0], _, _, _)) rfl ?_
    refine pe_stat (al := [.int 126, .int 32, .int b0]) (L0 := [some (.int b0), some (.int 32), some (.int 126)]) (r1 := (some (.int 1), 129, 17845, h)) rfl rfl rfl rfl rfl rfl (Nat.le_of_ble_eq_true rfl) (Nat.le_of_ble_eq_true rfl) rfl rfl ?_ ?_
    · refine pm_ev_many 2 (s' := (2, [some (.int b0), some (.int 32), some (.int 126)], [.int 32, .int b0], _, _, _)) rfl ?_
      refine pm_ev_many 1 (s' := (if b0 < 32 then 14 else 5, [some (.int b0), some (.int 32), some (.int 126)], [], _, _, _)) rfl ?_
      rw [if_neg a0]
      refine pm_ev_many 2 (s' := (7, [some (.int b0), some (.int 32), some (.int 126)], [.int 126, .int b0], _, _, _)) rfl ?_
      refine pm_ev_many 1 (s' := (if 126 < b0 then 14 else 10, [some (.int b0), some (.int 32), some (.int 126)], [], _, _, _)) rfl ?_
      rw [if_neg e0]
      refine pm_ev_many 2 (s' := (15, [some (.int b0), some (.int 32), some (.int 126)], [.int 1], _, _, _)) rfl ?_
      exact pm_ev_ret rfl
    show pm_ev _ _ _ _ _ (57, [some (.ref 83), some (.int (xs 1)), some (.int 4), some (.int 1), some (.int 0)], [.int 1], _, _, _) _
    refine pm_ev_many 15 (s' := (50, [some (.ref 83), some (.int (xs 1)), some (.int 4), some (.int 1), some (.int 1)], [.int (((xs 1) >>> (8 &&& 31)) &&& 255)], _, _, _)) rfl ?_
    rw [hm1]
    refine pm_ev_many 2 (s' := (54, [some (.ref 83), some (.int (xs 1)), some (.int 4), some (.int 1), some (.int 1)], [.int 126, .int 32, .int b1], _, _, _)) rfl ?_
    refine pe_stat (al := [.int 126, .int 32, .int b1]) (L0 := [some (.int b1), some (.int 32), some (.int 126)]) (r1 := (some (.int 1), 129, 17845, h)) rfl rfl rfl rfl rfl rfl (Nat.le_of_ble_eq_true rfl) (Nat.le_of_ble_eq_true rfl) rfl rfl ?_ ?_
    · refine pm_ev_many 2 (s' := (2, [some (.int b1), some (.int 32), some (.int 126)], [.int 32, .int b1], _, _, _)) rfl ?_
      refine pm_ev_many 1 (s' := (if b1 < 32 then 14 else 5, [some (.int b1), some (.int 32), some (.int 126)], [], _, _, _)) rfl ?_
      rw [if_neg a1]
      refine pm_ev_many 2 (s' := (7, [some (.int b1), some (.int 32), some (.int 126)], [.int 126, .int b1], _, _, _)) rfl ?_
      refine pm_ev_many 1 (s' := (if 126 < b1 then 14 else 10, [some (.int b1), some (.int 32), some (.int 126)], [], _, _, _)) rfl ?_
      rw [if_neg e1]
      refine pm_ev_many 2 (s' := (15, [some (.int b1), some (.int 32), some (.int 126)], [.int 1], _, _, _)) rfl ?_
      exact pm_ev_ret rfl
    show pm_ev _ _ _ _ _ (57, [some (.ref 83), some (.int (xs 1)), some (.int 4), some (.int 1), some (.int 1)], [.int 1], _, _, _) _
    refine pm_ev_many 15 (s' := (50, [some (.ref 83), some (.int (xs 1)), some (.int 4), some (.int 1), some (.int 2)], [.int (((xs 1) >>> (16 &&& 31)) &&& 255)], _, _, _)) rfl ?_
    rw [hm2]
    refine pm_ev_many 2 (s' := (54, [some (.ref 83), some (.int (xs 1)), some (.int 4), some (.int 1), some (.int 2)], [.int 126, .int 32, .int b2], _, _, _)) rfl ?_
    refine pe_stat (al := [.int 126, .int 32, .int b2]) (L0 := [some (.int b2), some (.int 32), some (.int 126)]) (r1 := (some (.int 0), 129, 17845, h)) rfl rfl rfl rfl rfl rfl (Nat.le_of_ble_eq_true rfl) (Nat.le_of_ble_eq_true rfl) rfl rfl ?_ ?_
    · refine pm_ev_many 2 (s' := (2, [some (.int b2), some (.int 32), some (.int 126)], [.int 32, .int b2], _, _, _)) rfl ?_
      refine pm_ev_many 1 (s' := (if b2 < 32 then 14 else 5, [some (.int b2), some (.int 32), some (.int 126)], [], _, _, _)) rfl ?_
      rw [if_pos a2]
      refine pm_ev_many 1 (s' := (15, [some (.int b2), some (.int 32), some (.int 126)], [.int 0], _, _, _)) rfl ?_
      exact pm_ev_ret rfl
    show pm_ev _ _ _ _ _ (57, [some (.ref 83), some (.int (xs 1)), some (.int 4), some (.int 1), some (.int 2)], [.int 0], _, _, _) _
    refine pm_ev_many 17 (s' := (115, [some (.ref 83), some (.int (xs 1)), some (.int 4), some (.int 0), some (.int 3)], [.int 0], _, _, _)) rfl ?_
    exact pm_ev_ret rfl
  show pm_ev _ _ _ _ _ (116, [some (.retAddr 0), some (.ref 0), some (.ref 83), some (.int 0)], [.int 0, .int 0], _, _, _) _
  refine pm_ev_many 10 (s' := (295, [some (.retAddr 0), some (.ref 0), some (.ref 83), some (.int 3)], [.int 1], _, _, _)) rfl ?_
  exact pm_ev_ret rfl
set_option maxRecDepth 100000 in
set_option maxHeartbeats 4000000 in
theorem p1_0_4_2hi (d : Nat) (xs : Nat → Int32) (h : Nat → va_E) (hi : pm_init h) (hn : xs 2 = 4) (b0 : Int32) (hc0 : ((((xs 1)).toUInt32 >>> ((0 : Int32).toUInt32 &&& Int32.toUInt32 31)).toInt32) &&& 255 = b0) (hm0 : ((xs 1) >>> (0 &&& 31)) &&& 255 = b0) (a0 : ¬ b0 < 32) (c0 : b0 ≤ 126) (e0 : ¬ 126 < b0) (b1 : Int32) (hc1 : ((((xs 1)).toUInt32 >>> ((8 : Int32).toUInt32 &&& Int32.toUInt32 31)).toInt32) &&& 255 = b1) (hm1 : ((xs 1) >>> (8 &&& 31)) &&& 255 = b1) (a1 : ¬ b1 < 32) (c1 : b1 ≤ 126) (e1 : ¬ 126 < b1) (b2 : Int32) (hc2 : ((((xs 1)).toUInt32 >>> ((16 : Int32).toUInt32 &&& Int32.toUInt32 31)).toInt32) &&& 255 = b2) (hm2 : ((xs 1) >>> (16 &&& 31)) &&& 255 = b2) (a2 : ¬ b2 < 32) (c2 : ¬ b2 ≤ 126) (e2 : 126 < b2) (b3 : Int32) (hc3 : ((((xs 1)).toUInt32 >>> ((24 : Int32).toUInt32 &&& Int32.toUInt32 31)).toInt32) &&& 255 = b3) (hm3 : ((xs 1) >>> (24 &&& 31)) &&& 255 = b3) : ∃ h' : Nat → va_E, pm_ev pmT (some (3, xs)) (d + 10) 214 true (32, [some (.retAddr 0), some (.ref 0), some (.ref 83), some (.int 0)], [.int 0], 129, 17845, h) (some (.int 1), 129, 17845, h') := by
  obtain ⟨f0, f1, f2, f3, f4, f5, f6, f7, f8, f9, f10, f11, f12, f13, f14, f15, f16, f17, f18, f19, f20, f21, f22, f23, f24, f25, f26, f27, f28, f29, f30, f31, f32, f33, f34, f35, f36, f37, f38, f39, f40, f41, f42, f43, f44, f45, f46, f47, f48, f49, f50, f51, f52, f53, f54, f55, f56, f57, f58, f59, f60, f61, f62, f63, f64, f65, f66, f67, f68, f69, f70, f71, f72, f73, f74, f75, f76, f77, f78, f79, f80, f81, f82, f83, f84, f85, f86, f87, f88, f89, f90, f91, f92, f93, f94, f95, f96, f97, f98, f99, f100, f101, f102, f103, f104, f105, f106, f107, f108, f109, f110, f111, f112, f113, f114, f115, f116, f117, f118, f119, f120, f121, f122, f123, f124, f125, f126, f127, f128⟩ := hi
  refine ⟨h, ?_⟩
  refine pm_ev_many 12 (s' := (99, [some (.retAddr 0), some (.ref 0), some (.ref 83), some (.int 0)], [.int (xs 2), .int (xs 1), .ref 0], _, _, _)) rfl ?_
  rw [hn]
  refine pe_virt (al := [.int 4, .int (xs 1)]) (a := 0) (L0 := [some (.ref 0), some (.int (xs 1)), some (.int 4)]) (r1 := (some (.int 0), 129, 17845, h)) rfl rfl rfl rfl rfl f0 (by decide) rfl (Nat.le_of_ble_eq_true rfl) (Nat.le_of_ble_eq_true rfl) rfl rfl ?_ ?_
  · refine pm_ev_many 1 (s' := (1, [some (.ref 0), some (.int (xs 1)), some (.int 4)], [.ref 0], _, _, _)) rfl ?_
    refine pe_get rfl rfl rfl f0 (by decide) rfl ?_
    refine pm_ev_many 2 (s' := (6, [some (.ref 0), some (.int (xs 1)), some (.int 4)], [.int 4, .int (xs 1), .ref 1], _, _, _)) rfl ?_
    refine pe_virt (al := [.int 4, .int (xs 1)]) (a := 1) (L0 := [some (.ref 1), some (.int (xs 1)), some (.int 4), none, none]) (r1 := (some (.int 0), 129, 17845, h)) rfl rfl rfl rfl rfl f1 (by decide) rfl (Nat.le_of_ble_eq_true rfl) (Nat.le_of_ble_eq_true rfl) rfl rfl ?_ ?_
    · refine pm_ev_many 7 (s' := (11, [some (.ref 1), some (.int (xs 1)), some (.int 4), none, none], [.ref 1], _, _, _)) rfl ?_
      refine pe_get rfl rfl rfl f1 (by decide) rfl ?_
      refine pm_ev_many 11 (s' := (32, [some (.ref 1), some (.int (xs 1)), some (.int 4), some (.int 0), none], [.int 0, .int (xs 1)], _, _, _)) rfl ?_
      refine pe_stat (al := [.int 0, .int (xs 1)]) (L0 := [some (.int (xs 1)), some (.int 0)]) (r1 := (some (.int b0), 129, 17845, h)) rfl rfl rfl rfl rfl rfl (Nat.le_of_ble_eq_true rfl) (Nat.le_of_ble_eq_true rfl) rfl rfl ?_ ?_
      · refine pm_ev_many 7 (s' := (10, [some (.int (xs 1)), some (.int 0)], [.int (((((xs 1)).toUInt32 >>> ((0 : Int32).toUInt32 &&& Int32.toUInt32 31)).toInt32) &&& 255)], _, _, _)) rfl ?_
        rw [hc0]
        exact pm_ev_ret rfl
      show pm_ev _ _ _ _ _ (35, [some (.ref 1), some (.int (xs 1)), some (.int 4), some (.int 0), none], [.int b0], _, _, _) _
      refine pm_ev_many 3 (s' := (41, [some (.ref 1), some (.int (xs 1)), some (.int 4), some (.int 0), some (.int b0)], [.int 32, .int b0], _, _, _)) rfl ?_
      refine pm_ev_many 1 (s' := (if b0 < 32 then 51 else 44, [some (.ref 1), some (.int (xs 1)), some (.int 4), some (.int 0), some (.int b0)], [], _, _, _)) rfl ?_
      rw [if_neg a0]
      refine pm_ev_many 2 (s' := (48, [some (.ref 1), some (.int (xs 1)), some (.int 4), some (.int 0), some (.int b0)], [.int 126, .int b0], _, _, _)) rfl ?_
      refine pm_ev_many 1 (s' := (if b0 ≤ 126 then 53 else 51, [some (.ref 1), some (.int (xs 1)), some (.int 4), some (.int 0), some (.int b0)], [], _, _, _)) rfl ?_
      rw [if_pos c0]
      refine pm_ev_many 7 (s' := (32, [some (.ref 1), some (.int (xs 1)), some (.int 4), some (.int 1), some (.int b0)], [.int 1, .int (xs 1)], _, _, _)) rfl ?_
      refine pe_stat (al := [.int 1, .int (xs 1)]) (L0 := [some (.int (xs 1)), some (.int 1)]) (r1 := (some (.int b1), 129, 17845, h)) rfl rfl rfl rfl rfl rfl (Nat.le_of_ble_eq_true rfl) (Nat.le_of_ble_eq_true rfl) rfl rfl ?_ ?_
      · refine pm_ev_many 7 (s' := (10, [some (.int (xs 1)), some (.int 1)], [.int (((((xs 1)).toUInt32 >>> ((8 : Int32).toUInt32 &&& Int32.toUInt32 31)).toInt32) &&& 255)], _, _, _)) rfl ?_
        rw [hc1]
        exact pm_ev_ret rfl
      show pm_ev _ _ _ _ _ (35, [some (.ref 1), some (.int (xs 1)), some (.int 4), some (.int 1), some (.int b0)], [.int b1], _, _, _) _
      refine pm_ev_many 3 (s' := (41, [some (.ref 1), some (.int (xs 1)), some (.int 4), some (.int 1), some (.int b1)], [.int 32, .int b1], _, _, _)) rfl ?_
      refine pm_ev_many 1 (s' := (if b1 < 32 then 51 else 44, [some (.ref 1), some (.int (xs 1)), some (.int 4), some (.int 1), some (.int b1)], [], _, _, _)) rfl ?_
      rw [if_neg a1]
      refine pm_ev_many 2 (s' := (48, [some (.ref 1), some (.int (xs 1)), some (.int 4), some (.int 1), some (.int b1)], [.int 126, .int b1], _, _, _)) rfl ?_
      refine pm_ev_many 1 (s' := (if b1 ≤ 126 then 53 else 51, [some (.ref 1), some (.int (xs 1)), some (.int 4), some (.int 1), some (.int b1)], [], _, _, _)) rfl ?_
      rw [if_pos c1]
      refine pm_ev_many 7 (s' := (32, [some (.ref 1), some (.int (xs 1)), some (.int 4), some (.int 2), some (.int b1)], [.int 2, .int (xs 1)], _, _, _)) rfl ?_
      refine pe_stat (al := [.int 2, .int (xs 1)]) (L0 := [some (.int (xs 1)), some (.int 2)]) (r1 := (some (.int b2), 129, 17845, h)) rfl rfl rfl rfl rfl rfl (Nat.le_of_ble_eq_true rfl) (Nat.le_of_ble_eq_true rfl) rfl rfl ?_ ?_
      · refine pm_ev_many 7 (s' := (10, [some (.int (xs 1)), some (.int 2)], [.int (((((xs 1)).toUInt32 >>> ((16 : Int32).toUInt32 &&& Int32.toUInt32 31)).toInt32) &&& 255)], _, _, _)) rfl ?_
        rw [hc2]
        exact pm_ev_ret rfl
      show pm_ev _ _ _ _ _ (35, [some (.ref 1), some (.int (xs 1)), some (.int 4), some (.int 2), some (.int b1)], [.int b2], _, _, _) _
      refine pm_ev_many 3 (s' := (41, [some (.ref 1), some (.int (xs 1)), some (.int 4), some (.int 2), some (.int b2)], [.int 32, .int b2], _, _, _)) rfl ?_
      refine pm_ev_many 1 (s' := (if b2 < 32 then 51 else 44, [some (.ref 1), some (.int (xs 1)), some (.int 4), some (.int 2), some (.int b2)], [], _, _, _)) rfl ?_
      rw [if_neg a2]
      refine pm_ev_many 2 (s' := (48, [some (.ref 1), some (.int (xs 1)), some (.int 4), some (.int 2), some (.int b2)], [.int 126, .int b2], _, _, _)) rfl ?_
      refine pm_ev_many 1 (s' := (if b2 ≤ 126 then 53 else 51, [some (.ref 1), some (.int (xs 1)), some (.int 4), some (.int 2), some (.int b2)], [], _, _, _)) rfl ?_
      rw [if_neg c2]
      refine pm_ev_many 1 (s' := (52, [some (.ref 1), some (.int (xs 1)), some (.int 4), some (.int 2), some (.int b2)], [.int 0], _, _, _)) rfl ?_
      exact pm_ev_ret rfl
    show pm_ev _ _ _ _ _ (9, [some (.ref 0), some (.int (xs 1)), some (.int 4)], [.int 0], _, _, _) _
    exact pm_ev_ret rfl
  show pm_ev _ _ _ _ _ (102, [some (.retAddr 0), some (.ref 0), some (.ref 83), some (.int 0)], [.int 0], _, _, _) _
  refine pm_ev_many 11 (s' := (113, [some (.retAddr 0), some (.ref 0), some (.ref 83), some (.int 0)], [.int (xs 2), .int (xs 1), .ref 83, .int 0], _, _, _)) rfl ?_
  rw [hn]
  refine pe_virt (al := [.int 4, .int (xs 1)]) (a := 83) (L0 := [some (.ref 83), some (.int (xs 1)), some (.int 4), none, none]) (r1 := (some (.int 0), 129, 17845, h)) rfl rfl rfl rfl rfl f83 (by decide) rfl (Nat.le_of_ble_eq_true rfl) (Nat.le_of_ble_eq_true rfl) rfl rfl ?_ ?_
  · refine pm_ev_many 3 (s' := (3, [some (.ref 83), some (.int (xs 1)), some (.int 4), none, none], [.int 4, .int 1, .int 4], _, _, _)) rfl ?_
    refine pe_stat (al := [.int 4, .int 1, .int 4]) (L0 := [some (.int 4), some (.int 1), some (.int 4)]) (r1 := (some (.int 1), 129, 17845, h)) rfl rfl rfl rfl rfl rfl (Nat.le_of_ble_eq_true rfl) (Nat.le_of_ble_eq_true rfl) rfl rfl ?_ ?_
    · refine pm_ev_many 8 (s' := (15, [some (.int 4), some (.int 1), some (.int 4)], [.int 1], _, _, _)) rfl ?_
      exact pm_ev_ret rfl
    show pm_ev _ _ _ _ _ (6, [some (.ref 83), some (.int (xs 1)), some (.int 4), none, none], [.int 1], _, _, _) _
    refine pm_ev_many 2 (s' := (10, [some (.ref 83), some (.int (xs 1)), some (.int 4), none, none], [.ref 83], _, _, _)) rfl ?_
    refine pe_get rfl rfl rfl f83 (by decide) rfl ?_
    refine pm_ev_many 21 (s' := (50, [some (.ref 83), some (.int (xs 1)), some (.int 4), some (.int 1), some (.int 0)], [.int (((xs 1) >>> (0 &&& 31)) &&& 255)], _, _, _)) rfl ?_
    rw [hm0]
    refine pm_ev_many 2 (s' := (54, [some (.ref 83), some (.int (xs 1)), some (.int 4), some (.int 1), some (.int 0)], [.int 126, .int 32, .int b0], _, _, _)) rfl ?_
    refine pe_stat (al := [.int 126, .int 32, .int b0]) (L0 := [some (.int b0), some (.int 32), some (.int 126)]) (r1 := (some (.int 1), 129, 17845, h)) rfl rfl rfl rfl rfl rfl (Nat.le_of_ble_eq_true rfl) (Nat.le_of_ble_eq_true rfl) rfl rfl ?_ ?_
    · refine pm_ev_many 2 (s' := (2, [some (.int b0), some (.int 32), some (.int 126)], [.int 32, .int b0], _, _, _)) rfl ?_
      refine pm_ev_many 1 (s' := (if b0 < 32 then 14 else 5, [some (.int b0), some (.int 32), some (.int 126)], [], _, _, _)) rfl ?_
      rw [if_neg a0]
      refine pm_ev_many 2 (s' := (7, [some (.int b0), some (.int 32), some (.int 126)], [.int 126, .int b0], _, _, _)) rfl ?_
      refine pm_ev_many 1 (s' := (if 126 < b0 then 14 else 10, [some (.int b0), some (.int 32), some (.int 126)], [], _, _, _)) rfl ?_
      rw [if_neg e0]
      refine pm_ev_many 2 (s' := (15, [some (.int b0), some (.int 32), some (.int 126)], [.int 1], _, _, _)) rfl ?_
      exact pm_ev_ret rfl
    show pm_ev _ _ _ _ _ (57, [some (.ref 83), some (.int (xs 1)), some (.int 4), some (.int 1), some (.int 0)], [.int 1], _, _, _) _
    refine pm_ev_many 15 (s' := (50, [some (.ref 83), some (.int (xs 1)), some (.int 4), some (.int 1), some (.int 1)], [.int (((xs 1) >>> (8 &&& 31)) &&& 255)], _, _, _)) rfl ?_
    rw [hm1]
    refine pm_ev_many 2 (s' := (54, [some (.ref 83), some (.int (xs 1)), some (.int 4), some (.int 1), some (.int 1)], [.int 126, .int 32, .int b1], _, _, _)) rfl ?_
    refine pe_stat (al := [.int 126, .int 32, .int b1]) (L0 := [some (.int b1), some (.int 32), some (.int 126)]) (r1 := (some (.int 1), 129, 17845, h)) rfl rfl rfl rfl rfl rfl (Nat.le_of_ble_eq_true rfl) (Nat.le_of_ble_eq_true rfl) rfl rfl ?_ ?_
    · refine pm_ev_many 2 (s' := (2, [some (.int b1), some (.int 32), some (.int 126)], [.int 32, .int b1], _, _, _)) rfl ?_
      refine pm_ev_many 1 (s' := (if b1 < 32 then 14 else 5, [some (.int b1), some (.int 32), some (.int 126)], [], _, _, _)) rfl ?_
      rw [if_neg a1]
      refine pm_ev_many 2 (s' := (7, [some (.int b1), some (.int 32), some (.int 126)], [.int 126, .int b1], _, _, _)) rfl ?_
      refine pm_ev_many 1 (s' := (if 126 < b1 then 14 else 10, [some (.int b1), some (.int 32), some (.int 126)], [], _, _, _)) rfl ?_
      rw [if_neg e1]
      refine pm_ev_many 2 (s' := (15, [some (.int b1), some (.int 32), some (.int 126)], [.int 1], _, _, _)) rfl ?_
      exact pm_ev_ret rfl
    show pm_ev _ _ _ _ _ (57, [some (.ref 83), some (.int (xs 1)), some (.int 4), some (.int 1), some (.int 1)], [.int 1], _, _, _) _
    refine pm_ev_many 15 (s' := (50, [some (.ref 83), some (.int (xs 1)), some (.int 4), some (.int 1), some (.int 2)], [.int (((xs 1) >>> (16 &&& 31)) &&& 255)], _, _, _)) rfl ?_
    rw [hm2]
    refine pm_ev_many 2 (s' := (54, [some (.ref 83), some (.int (xs 1)), some (.int 4), some (.int 1), some (.int 2)], [.int 126, .int 32, .int b2], _, _, _)) rfl ?_
    refine pe_stat (al := [.int 126, .int 32, .int b2]) (L0 := [some (.int b2), some (.int 32), some (.int 126)]) (r1 := (some (.int 0), 129, 17845, h)) rfl rfl rfl rfl rfl rfl (Nat.le_of_ble_eq_true rfl) (Nat.le_of_ble_eq_true rfl) rfl rfl ?_ ?_
    · refine pm_ev_many 2 (s' := (2, [some (.int b2), some (.int 32), some (.int 126)], [.int 32, .int b2], _, _, _)) rfl ?_
      refine pm_ev_many 1 (s' := (if b2 < 32 then 14 else 5, [some (.int b2), some (.int 32), some (.int 126)], [], _, _, _)) rfl ?_
      rw [if_neg a2]
      refine pm_ev_many 2 (s' := (7, [some (.int b2), some (.int 32), some (.int 126)], [.int 126, .int b2], _, _, _)) rfl ?_
      refine pm_ev_many 1 (s' := (if 126 < b2 then 14 else 10, [some (.int b2), some (.int 32), some (.int 126)], [], _, _, _)) rfl ?_
      rw [if_pos e2]
      refine pm_ev_many 1 (s' := (15, [some (.int b2), some (.int 32), some (.int 126)], [.int 0], _, _, _)) rfl ?_
      exact pm_ev_ret rfl
    show pm_ev _ _ _ _ _ (57, [some (.ref 83), some (.int (xs 1)), some (.int 4), some (.int 1), some (.int 2)], [.int 0], _, _, _) _
    refine pm_ev_many 17 (s' := (115, [some (.ref 83), some (.int (xs 1)), some (.int 4), some (.int 0), some (.int 3)], [.int 0], _, _, _)) rfl ?_
    exact pm_ev_ret rfl
  show pm_ev _ _ _ _ _ (116, [some (.retAddr 0), some (.ref 0), some (.ref 83), some (.int 0)], [.int 0, .int 0], _, _, _) _
  refine pm_ev_many 10 (s' := (295, [some (.retAddr 0), some (.ref 0), some (.ref 83), some (.int 3)], [.int 1], _, _, _)) rfl ?_
  exact pm_ev_ret rfl
set_option maxRecDepth 100000 in
set_option maxHeartbeats 4000000 in
theorem p1_0_4_3lo (d : Nat) (xs : Nat → Int32) (h : Nat → va_E) (hi : pm_init h) (hn : xs 2 = 4) (b0 : Int32) (hc0 : ((((xs 1)).toUInt32 >>> ((0 : Int32).toUInt32 &&& Int32.toUInt32 31)).toInt32) &&& 255 = b0) (hm0 : ((xs 1) >>> (0 &&& 31)) &&& 255 = b0) (a0 : ¬ b0 < 32) (c0 : b0 ≤ 126) (e0 : ¬ 126 < b0) (b1 : Int32) (hc1 : ((((xs 1)).toUInt32 >>> ((8 : Int32).toUInt32 &&& Int32.toUInt32 31)).toInt32) &&& 255 = b1) (hm1 : ((xs 1) >>> (8 &&& 31)) &&& 255 = b1) (a1 : ¬ b1 < 32) (c1 : b1 ≤ 126) (e1 : ¬ 126 < b1) (b2 : Int32) (hc2 : ((((xs 1)).toUInt32 >>> ((16 : Int32).toUInt32 &&& Int32.toUInt32 31)).toInt32) &&& 255 = b2) (hm2 : ((xs 1) >>> (16 &&& 31)) &&& 255 = b2) (a2 : ¬ b2 < 32) (c2 : b2 ≤ 126) (e2 : ¬ 126 < b2) (b3 : Int32) (hc3 : ((((xs 1)).toUInt32 >>> ((24 : Int32).toUInt32 &&& Int32.toUInt32 31)).toInt32) &&& 255 = b3) (hm3 : ((xs 1) >>> (24 &&& 31)) &&& 255 = b3) (a3 : b3 < 32) : ∃ h' : Nat → va_E, pm_ev pmT (some (3, xs)) (d + 10) 214 true (32, [some (.retAddr 0), some (.ref 0), some (.ref 83), some (.int 0)], [.int 0], 129, 17845, h) (some (.int 1), 129, 17845, h') := by
  obtain ⟨f0, f1, f2, f3, f4, f5, f6, f7, f8, f9, f10, f11, f12, f13, f14, f15, f16, f17, f18, f19, f20, f21, f22, f23, f24, f25, f26, f27, f28, f29, f30, f31, f32, f33, f34, f35, f36, f37, f38, f39, f40, f41, f42, f43, f44, f45, f46, f47, f48, f49, f50, f51, f52, f53, f54, f55, f56, f57, f58, f59, f60, f61, f62, f63, f64, f65, f66, f67, f68, f69, f70, f71, f72, f73, f74, f75, f76, f77, f78, f79, f80, f81, f82, f83, f84, f85, f86, f87, f88, f89, f90, f91, f92, f93, f94, f95, f96, f97, f98, f99, f100, f101, f102, f103, f104, f105, f106, f107, f108, f109, f110, f111, f112, f113, f114, f115, f116, f117, f118, f119, f120, f121, f122, f123, f124, f125, f126, f127, f128⟩ := hi
  refine ⟨h, ?_⟩
  refine pm_ev_many 12 (s' := (99, [some (.retAddr 0), some (.ref 0), some (.ref 83), some (.int 0)], [.int (xs 2), .int (xs 1), .ref 0], _, _, _)) rfl ?_
  rw [hn]
  refine pe_virt (al := [.int 4, .int (xs 1)]) (a := 0) (L0 := [some (.ref 0), some (.int (xs 1)), some (.int 4)]) (r1 := (some (.int 0), 129, 17845, h)) rfl rfl rfl rfl rfl f0 (by decide) rfl (Nat.le_of_ble_eq_true rfl) (Nat.le_of_ble_eq_true rfl) rfl rfl ?_ ?_
  · refine pm_ev_many 1 (s' := (1, [some (.ref 0), some (.int (xs 1)), some (.int 4)], [.ref 0], _, _, _)) rfl ?_
    refine pe_get rfl rfl rfl f0 (by decide) rfl ?_
    refine pm_ev_many 2 (s' := (6, [some (.ref 0), some (.int (xs 1)), some (.int 4)], [.int 4, .int (xs 1), .ref 1], _, _, _)) rfl ?_
    refine pe_virt (al := [.int 4, .int (xs 1)]) (a := 1) (L0 := [some (.ref 1), some (.int (xs 1)), some (.int 4), none, none]) (r1 := (some (.int 0), 129, 17845, h)) rfl rfl rfl rfl rfl f1 (by decide) rfl (Nat.le_of_ble_eq_true rfl) (Nat.le_of_ble_eq_true rfl) rfl rfl ?_ ?_
    · refine pm_ev_many 7 (s' := (11, [some (.ref 1), some (.int (xs 1)), some (.int 4), none, none], [.ref 1], _, _, _)) rfl ?_
      refine pe_get rfl rfl rfl f1 (by decide) rfl ?_
      refine pm_ev_many 11 (s' := (32, [some (.ref 1), some (.int (xs 1)), some (.int 4), some (.int 0), none], [.int 0, .int (xs 1)], _, _, _)) rfl ?_
      refine pe_stat (al := [.int 0, .int (xs 1)]) (L0 := [some (.int (xs 1)), some (.int 0)]) (r1 := (some (.int b0), 129, 17845, h)) rfl rfl rfl rfl rfl rfl (Nat.le_of_ble_eq_true rfl) (Nat.le_of_ble_eq_true rfl) rfl rfl ?_ ?_
      · refine pm_ev_many 7 (s' := (10, [some (.int (xs 1)), some (.int 0)], [.int (((((xs 1)).toUInt32 >>> ((0 : Int32).toUInt32 &&& Int32.toUInt32 31)).toInt32) &&& 255)], _, _, _)) rfl ?_
        rw [hc0]
        exact pm_ev_ret rfl
      show pm_ev _ _ _ _ _ (35, [some (.ref 1), some (.int (xs 1)), some (.int 4), some (.int 0), none], [.int b0], _, _, _) _
      refine pm_ev_many 3 (s' := (41, [some (.ref 1), some (.int (xs 1)), some (.int 4), some (.int 0), some (.int b0)], [.int 32, .int b0], _, _, _)) rfl ?_
      refine pm_ev_many 1 (s' := (if b0 < 32 then 51 else 44, [some (.ref 1), some (.int (xs 1)), some (.int 4), some (.int 0), some (.int b0)], [], _, _, _)) rfl ?_
      rw [if_neg a0]
      refine pm_ev_many 2 (s' := (48, [some (.ref 1), some (.int (xs 1)), some (.int 4), some (.int 0), some (.int b0)], [.int 126, .int b0], _, _, _)) rfl ?_
      refine pm_ev_many 1 (s' := (if b0 ≤ 126 then 53 else 51, [some (.ref 1), some (.int (xs 1)), some (.int 4), some (.int 0), some (.int b0)], [], _, _, _)) rfl ?_
      rw [if_pos c0]
      refine pm_ev_many 7 (s' := (32, [some (.ref 1), some (.int (xs 1)), some (.int 4), some (.int 1), some (.int b0)], [.int 1, .int (xs 1)], _, _, _)) rfl ?_
      refine pe_stat (al := [.int 1, .int (xs 1)]) (L0 := [some (.int (xs 1)), some (.int 1)]) (r1 := (some (.int b1), 129, 17845, h)) rfl rfl rfl rfl rfl rfl (Nat.le_of_ble_eq_true rfl) (Nat.le_of_ble_eq_true rfl) rfl rfl ?_ ?_
      · refine pm_ev_many 7 (s' := (10, [some (.int (xs 1)), some (.int 1)], [.int (((((xs 1)).toUInt32 >>> ((8 : Int32).toUInt32 &&& Int32.toUInt32 31)).toInt32) &&& 255)], _, _, _)) rfl ?_
        rw [hc1]
        exact pm_ev_ret rfl
      show pm_ev _ _ _ _ _ (35, [some (.ref 1), some (.int (xs 1)), some (.int 4), some (.int 1), some (.int b0)], [.int b1], _, _, _) _
      refine pm_ev_many 3 (s' := (41, [some (.ref 1), some (.int (xs 1)), some (.int 4), some (.int 1), some (.int b1)], [.int 32, .int b1], _, _, _)) rfl ?_
      refine pm_ev_many 1 (s' := (if b1 < 32 then 51 else 44, [some (.ref 1), some (.int (xs 1)), some (.int 4), some (.int 1), some (.int b1)], [], _, _, _)) rfl ?_
      rw [if_neg a1]
      refine pm_ev_many 2 (s' := (48, [some (.ref 1), some (.int (xs 1)), some (.int 4), some (.int 1), some (.int b1)], [.int 126, .int b1], _, _, _)) rfl ?_
      refine pm_ev_many 1 (s' := (if b1 ≤ 126 then 53 else 51, [some (.ref 1), some (.int (xs 1)), some (.int 4), some (.int 1), some (.int b1)], [], _, _, _)) rfl ?_
      rw [if_pos c1]
      refine pm_ev_many 7 (s' := (32, [some (.ref 1), some (.int (xs 1)), some (.int 4), some (.int 2), some (.int b1)], [.int 2, .int (xs 1)], _, _, _)) rfl ?_
      refine pe_stat (al := [.int 2, .int (xs 1)]) (L0 := [some (.int (xs 1)), some (.int 2)]) (r1 := (some (.int b2), 129, 17845, h)) rfl rfl rfl rfl rfl rfl (Nat.le_of_ble_eq_true rfl) (Nat.le_of_ble_eq_true rfl) rfl rfl ?_ ?_
      · refine pm_ev_many 7 (s' := (10, [some (.int (xs 1)), some (.int 2)], [.int (((((xs 1)).toUInt32 >>> ((16 : Int32).toUInt32 &&& Int32.toUInt32 31)).toInt32) &&& 255)], _, _, _)) rfl ?_
        rw [hc2]
        exact pm_ev_ret rfl
      show pm_ev _ _ _ _ _ (35, [some (.ref 1), some (.int (xs 1)), some (.int 4), some (.int 2), some (.int b1)], [.int b2], _, _, _) _
      refine pm_ev_many 3 (s' := (41, [some (.ref 1), some (.int (xs 1)), some (.int 4), some (.int 2), some (.int b2)], [.int 32, .int b2], _, _, _)) rfl ?_
      refine pm_ev_many 1 (s' := (if b2 < 32 then 51 else 44, [some (.ref 1), some (.int (xs 1)), some (.int 4), some (.int 2), some (.int b2)], [], _, _, _)) rfl ?_
      rw [if_neg a2]
      refine pm_ev_many 2 (s' := (48, [some (.ref 1), some (.int (xs 1)), some (.int 4), some (.int 2), some (.int b2)], [.int 126, .int b2], _, _, _)) rfl ?_
      refine pm_ev_many 1 (s' := (if b2 ≤ 126 then 53 else 51, [some (.ref 1), some (.int (xs 1)), some (.int 4), some (.int 2), some (.int b2)], [], _, _, _)) rfl ?_
      rw [if_pos c2]
      refine pm_ev_many 7 (s' := (32, [some (.ref 1), some (.int (xs 1)), some (.int 4), some (.int 3), some (.int b2)], [.int 3, .int (xs 1)], _, _, _)) rfl ?_
      refine pe_stat (al := [.int 3, .int (xs 1)]) (L0 := [some (.int (xs 1)), some (.int 3)]) (r1 := (some (.int b3), 129, 17845, h)) rfl rfl rfl rfl rfl rfl (Nat.le_of_ble_eq_true rfl) (Nat.le_of_ble_eq_true rfl) rfl rfl ?_ ?_
      · refine pm_ev_many 7 (s' := (10, [some (.int (xs 1)), some (.int 3)], [.int (((((xs 1)).toUInt32 >>> ((24 : Int32).toUInt32 &&& Int32.toUInt32 31)).toInt32) &&& 255)], _, _, _)) rfl ?_
        rw [hc3]
        exact pm_ev_ret rfl
      show pm_ev _ _ _ _ _ (35, [some (.ref 1), some (.int (xs 1)), some (.int 4), some (.int 3), some (.int b2)], [.int b3], _, _, _) _
      refine pm_ev_many 3 (s' := (41, [some (.ref 1), some (.int (xs 1)), some (.int 4), some (.int 3), some (.int b3)], [.int 32, .int b3], _, _, _)) rfl ?_
      refine pm_ev_many 1 (s' := (if b3 < 32 then 51 else 44, [some (.ref 1), some (.int (xs 1)), some (.int 4), some (.int 3), some (.int b3)], [], _, _, _)) rfl ?_
      rw [if_pos a3]
      refine pm_ev_many 1 (s' := (52, [some (.ref 1), some (.int (xs 1)), some (.int 4), some (.int 3), some (.int b3)], [.int 0], _, _, _)) rfl ?_
      exact pm_ev_ret rfl
    show pm_ev _ _ _ _ _ (9, [some (.ref 0), some (.int (xs 1)), some (.int 4)], [.int 0], _, _, _) _
    exact pm_ev_ret rfl
  show pm_ev _ _ _ _ _ (102, [some (.retAddr 0), some (.ref 0), some (.ref 83), some (.int 0)], [.int 0], _, _, _) _
  refine pm_ev_many 11 (s' := (113, [some (.retAddr 0), some (.ref 0), some (.ref 83), some (.int 0)], [.int (xs 2), .int (xs 1), .ref 83, .int 0], _, _, _)) rfl ?_
  rw [hn]
  refine pe_virt (al := [.int 4, .int (xs 1)]) (a := 83) (L0 := [some (.ref 83), some (.int (xs 1)), some (.int 4), none, none]) (r1 := (some (.int 0), 129, 17845, h)) rfl rfl rfl rfl rfl f83 (by decide) rfl (Nat.le_of_ble_eq_true rfl) (Nat.le_of_ble_eq_true rfl) rfl rfl ?_ ?_
  · refine pm_ev_many 3 (s' := (3, [some (.ref 83), some (.int (xs 1)), some (.int 4), none, none], [.int 4, .int 1, .int 4], _, _, _)) rfl ?_
    refine pe_stat (al := [.int 4, .int 1, .int 4]) (L0 := [some (.int 4), some (.int 1), some (.int 4)]) (r1 := (some (.int 1), 129, 17845, h)) rfl rfl rfl rfl rfl rfl (Nat.le_of_ble_eq_true rfl) (Nat.le_of_ble_eq_true rfl) rfl rfl ?_ ?_
    · refine pm_ev_many 8 (s' := (15, [some (.int 4), some (.int 1), some (.int 4)], [.int 1], _, _, _)) rfl ?_
      exact pm_ev_ret rfl
    show pm_ev _ _ _ _ _ (6, [some (.ref 83), some (.int (xs 1)), some (.int 4), none, none], [.int 1], _, _, _) _
    refine pm_ev_many 2 (s' := (10, [some (.ref 83), some (.int (xs 1)), some (.int 4), none, none], [.ref 83], _, _, _)) rfl ?_
    refine pe_get rfl rfl rfl f83 (by decide) rfl ?_
    refine pm_ev_many 21 (s' := (50, [some (.ref 83), some (.int (xs 1)), some (.int 4), some (.int 1), some (.int 0)], [.int (((xs 1) >>> (0 &&& 31)) &&& 255)], _, _, _)) rfl ?_
    rw [hm0]
    refine pm_ev_many 2 (s' := (54, [some (.ref 83), some (.int (xs 1)), some (.int 4), some (.int 1), some (.int 0)], [.int 126, .int 32, .int b0], _, _, _)) rfl ?_
    refine pe_stat (al := [.int 126, .int 32, .int b0]) (L0 := [some (.int b0), some (.int 32), some (.int 126)]) (r1 := (some (.int 1), 129, 17845, h)) rfl rfl rfl rfl rfl rfl (Nat.le_of_ble_eq_true rfl) (Nat.le_of_ble_eq_true rfl) rfl rfl ?_ ?_
    · refine pm_ev_many 2 (s' := (2, [some (.int b0), some (.int 32), some (.int 126)], [.int 32, .int b0], _, _, _)) rfl ?_
      refine pm_ev_many 1 (s' := (if b0 < 32 then 14 else 5, [some (.int b0), some (.int 32), some (.int 126)], [], _, _, _)) rfl ?_
      rw [if_neg a0]
      refine pm_ev_many 2 (s' := (7, [some (.int b0), some (.int 32), some (.int 126)], [.int 126, .int b0], _, _, _)) rfl ?_
      refine pm_ev_many 1 (s' := (if 126 < b0 then 14 else 10, [some (.int b0), some (.int 32), some (.int 126)], [], _, _, _)) rfl ?_
      rw [if_neg e0]
      refine pm_ev_many 2 (s' := (15, [some (.int b0), some (.int 32), some (.int 126)], [.int 1], _, _, _)) rfl ?_
      exact pm_ev_ret rfl
    show pm_ev _ _ _ _ _ (57, [some (.ref 83), some (.int (xs 1)), some (.int 4), some (.int 1), some (.int 0)], [.int 1], _, _, _) _
    refine pm_ev_many 15 (s' := (50, [some (.ref 83), some (.int (xs 1)), some (.int 4), some (.int 1), some (.int 1)], [.int (((xs 1) >>> (8 &&& 31)) &&& 255)], _, _, _)) rfl ?_
    rw [hm1]
    refine pm_ev_many 2 (s' := (54, [some (.ref 83), some (.int (xs 1)), some (.int 4), some (.int 1), some (.int 1)], [.int 126, .int 32, .int b1], _, _, _)) rfl ?_
    refine pe_stat (al := [.int 126, .int 32, .int b1]) (L0 := [some (.int b1), some (.int 32), some (.int 126)]) (r1 := (some (.int 1), 129, 17845, h)) rfl rfl rfl rfl rfl rfl (Nat.le_of_ble_eq_true rfl) (Nat.le_of_ble_eq_true rfl) rfl rfl ?_ ?_
    · refine pm_ev_many 2 (s' := (2, [some (.int b1), some (.int 32), some (.int 126)], [.int 32, .int b1], _, _, _)) rfl ?_
      refine pm_ev_many 1 (s' := (if b1 < 32 then 14 else 5, [some (.int b1), some (.int 32), some (.int 126)], [], _, _, _)) rfl ?_
      rw [if_neg a1]
      refine pm_ev_many 2 (s' := (7, [some (.int b1), some (.int 32), some (.int 126)], [.int 126, .int b1], _, _, _)) rfl ?_
      refine pm_ev_many 1 (s' := (if 126 < b1 then 14 else 10, [some (.int b1), some (.int 32), some (.int 126)], [], _, _, _)) rfl ?_
      rw [if_neg e1]
      refine pm_ev_many 2 (s' := (15, [some (.int b1), some (.int 32), some (.int 126)], [.int 1], _, _, _)) rfl ?_
      exact pm_ev_ret rfl
    show pm_ev _ _ _ _ _ (57, [some (.ref 83), some (.int (xs 1)), some (.int 4), some (.int 1), some (.int 1)], [.int 1], _, _, _) _
    refine pm_ev_many 15 (s' := (50, [some (.ref 83), some (.int (xs 1)), some (.int 4), some (.int 1), some (.int 2)], [.int (((xs 1) >>> (16 &&& 31)) &&& 255)], _, _, _)) rfl ?_
    rw [hm2]
    refine pm_ev_many 2 (s' := (54, [some (.ref 83), some (.int (xs 1)), some (.int 4), some (.int 1), some (.int 2)], [.int 126, .int 32, .int b2], _, _, _)) rfl ?_
    refine pe_stat (al := [.int 126, .int 32, .int b2]) (L0 := [some (.int b2), some (.int 32), some (.int 126)]) (r1 := (some (.int 1), 129, 17845, h)) rfl rfl rfl rfl rfl rfl (Nat.le_of_ble_eq_true rfl) (Nat.le_of_ble_eq_true rfl) rfl rfl ?_ ?_
    · refine pm_ev_many 2 (s' := (2, [some (.int b2), some (.int 32), some (.int 126)], [.int 32, .int b2], _, _, _)) rfl ?_
      refine pm_ev_many 1 (s' := (if b2 < 32 then 14 else 5, [some (.int b2), some (.int 32), some (.int 126)], [], _, _, _)) rfl ?_
      rw [if_neg a2]
      refine pm_ev_many 2 (s' := (7, [some (.int b2), some (.int 32), some (.int 126)], [.int 126, .int b2], _, _, _)) rfl ?_
      refine pm_ev_many 1 (s' := (if 126 < b2 then 14 else 10, [some (.int b2), some (.int 32), some (.int 126)], [], _, _, _)) rfl ?_
      rw [if_neg e2]
      refine pm_ev_many 2 (s' := (15, [some (.int b2), some (.int 32), some (.int 126)], [.int 1], _, _, _)) rfl ?_
      exact pm_ev_ret rfl
    show pm_ev _ _ _ _ _ (57, [some (.ref 83), some (.int (xs 1)), some (.int 4), some (.int 1), some (.int 2)], [.int 1], _, _, _) _
    refine pm_ev_many 15 (s' := (50, [some (.ref 83), some (.int (xs 1)), some (.int 4), some (.int 1), some (.int 3)], [.int (((xs 1) >>> (24 &&& 31)) &&& 255)], _, _, _)) rfl ?_
    rw [hm3]
    refine pm_ev_many 2 (s' := (54, [some (.ref 83), some (.int (xs 1)), some (.int 4), some (.int 1), some (.int 3)], [.int 126, .int 32, .int b3], _, _, _)) rfl ?_
    refine pe_stat (al := [.int 126, .int 32, .int b3]) (L0 := [some (.int b3), some (.int 32), some (.int 126)]) (r1 := (some (.int 0), 129, 17845, h)) rfl rfl rfl rfl rfl rfl (Nat.le_of_ble_eq_true rfl) (Nat.le_of_ble_eq_true rfl) rfl rfl ?_ ?_
    · refine pm_ev_many 2 (s' := (2, [some (.int b3), some (.int 32), some (.int 126)], [.int 32, .int b3], _, _, _)) rfl ?_
      refine pm_ev_many 1 (s' := (if b3 < 32 then 14 else 5, [some (.int b3), some (.int 32), some (.int 126)], [], _, _, _)) rfl ?_
      rw [if_pos a3]
      refine pm_ev_many 1 (s' := (15, [some (.int b3), some (.int 32), some (.int 126)], [.int 0], _, _, _)) rfl ?_
      exact pm_ev_ret rfl
    show pm_ev _ _ _ _ _ (57, [some (.ref 83), some (.int (xs 1)), some (.int 4), some (.int 1), some (.int 3)], [.int 0], _, _, _) _
    refine pm_ev_many 15 (s' := (115, [some (.ref 83), some (.int (xs 1)), some (.int 4), some (.int 0), some (.int 3)], [.int 0], _, _, _)) rfl ?_
    exact pm_ev_ret rfl
  show pm_ev _ _ _ _ _ (116, [some (.retAddr 0), some (.ref 0), some (.ref 83), some (.int 0)], [.int 0, .int 0], _, _, _) _
  refine pm_ev_many 10 (s' := (295, [some (.retAddr 0), some (.ref 0), some (.ref 83), some (.int 3)], [.int 1], _, _, _)) rfl ?_
  exact pm_ev_ret rfl
set_option maxRecDepth 100000 in
set_option maxHeartbeats 4000000 in
theorem p1_0_4_3hi (d : Nat) (xs : Nat → Int32) (h : Nat → va_E) (hi : pm_init h) (hn : xs 2 = 4) (b0 : Int32) (hc0 : ((((xs 1)).toUInt32 >>> ((0 : Int32).toUInt32 &&& Int32.toUInt32 31)).toInt32) &&& 255 = b0) (hm0 : ((xs 1) >>> (0 &&& 31)) &&& 255 = b0) (a0 : ¬ b0 < 32) (c0 : b0 ≤ 126) (e0 : ¬ 126 < b0) (b1 : Int32) (hc1 : ((((xs 1)).toUInt32 >>> ((8 : Int32).toUInt32 &&& Int32.toUInt32 31)).toInt32) &&& 255 = b1) (hm1 : ((xs 1) >>> (8 &&& 31)) &&& 255 = b1) (a1 : ¬ b1 < 32) (c1 : b1 ≤ 126) (e1 : ¬ 126 < b1) (b2 : Int32) (hc2 : ((((xs 1)).toUInt32 >>> ((16 : Int32).toUInt32 &&& Int32.toUInt32 31)).toInt32) &&& 255 = b2) (hm2 : ((xs 1) >>> (16 &&& 31)) &&& 255 = b2) (a2 : ¬ b2 < 32) (c2 : b2 ≤ 126) (e2 : ¬ 126 < b2) (b3 : Int32) (hc3 : ((((xs 1)).toUInt32 >>> ((24 : Int32).toUInt32 &&& Int32.toUInt32 31)).toInt32) &&& 255 = b3) (hm3 : ((xs 1) >>> (24 &&& 31)) &&& 255 = b3) (a3 : ¬ b3 < 32) (c3 : ¬ b3 ≤ 126) (e3 : 126 < b3) : ∃ h' : Nat → va_E, pm_ev pmT (some (3, xs)) (d + 10) 214 true (32, [some (.retAddr 0), some (.ref 0), some (.ref 83), some (.int 0)], [.int 0], 129, 17845, h) (some (.int 1), 129, 17845, h') := by
  obtain ⟨f0, f1, f2, f3, f4, f5, f6, f7, f8, f9, f10, f11, f12, f13, f14, f15, f16, f17, f18, f19, f20, f21, f22, f23, f24, f25, f26, f27, f28, f29, f30, f31, f32, f33, f34, f35, f36, f37, f38, f39, f40, f41, f42, f43, f44, f45, f46, f47, f48, f49, f50, f51, f52, f53, f54, f55, f56, f57, f58, f59, f60, f61, f62, f63, f64, f65, f66, f67, f68, f69, f70, f71, f72, f73, f74, f75, f76, f77, f78, f79, f80, f81, f82, f83, f84, f85, f86, f87, f88, f89, f90, f91, f92, f93, f94, f95, f96, f97, f98, f99, f100, f101, f102, f103, f104, f105, f106, f107, f108, f109, f110, f111, f112, f113, f114, f115, f116, f117, f118, f119, f120, f121, f122, f123, f124, f125, f126, f127, f128⟩ := hi
  refine ⟨h, ?_⟩
  refine pm_ev_many 12 (s' := (99, [some (.retAddr 0), some (.ref 0), some (.ref 83), some (.int 0)], [.int (xs 2), .int (xs 1), .ref 0], _, _, _)) rfl ?_
  rw [hn]
  refine pe_virt (al := [.int 4, .int (xs 1)]) (a := 0) (L0 := [some (.ref 0), some (.int (xs 1)), some (.int 4)]) (r1 := (some (.int 0), 129, 17845, h)) rfl rfl rfl rfl rfl f0 (by decide) rfl (Nat.le_of_ble_eq_true rfl) (Nat.le_of_ble_eq_true rfl) rfl rfl ?_ ?_
  · refine pm_ev_many 1 (s' := (1, [some (.ref 0), some (.int (xs 1)), some (.int 4)], [.ref 0], _, _, _)) rfl ?_
    refine pe_get rfl rfl rfl f0 (by decide) rfl ?_
    refine pm_ev_many 2 (s' := (6, [some (.ref 0), some (.int (xs 1)), some (.int 4)], [.int 4, .int (xs 1), .ref 1], _, _, _)) rfl ?_
    refine pe_virt (al := [.int 4, .int (xs 1)]) (a := 1) (L0 := [some (.ref 1), some (.int (xs 1)), some (.int 4), none, none]) (r1 := (some (.int 0), 129, 17845, h)) rfl rfl rfl rfl rfl f1 (by decide) rfl (Nat.le_of_ble_eq_true rfl) (Nat.le_of_ble_eq_true rfl) rfl rfl ?_ ?_
    · refine pm_ev_many 7 (s' := (11, [some (.ref 1), some (.int (xs 1)), some (.int 4), none, none], [.ref 1], _, _, _)) rfl ?_
      refine pe_get rfl rfl rfl f1 (by decide) rfl ?_
      refine pm_ev_many 11 (s' := (32, [some (.ref 1), some (.int (xs 1)), some (.int 4), some (.int 0), none], [.int 0, .int (xs 1)], _, _, _)) rfl ?_
      refine pe_stat (al := [.int 0, .int (xs 1)]) (L0 := [some (.int (xs 1)), some (.int 0)]) (r1 := (some (.int b0), 129, 17845, h)) rfl rfl rfl rfl rfl rfl (Nat.le_of_ble_eq_true rfl) (Nat.le_of_ble_eq_true rfl) rfl rfl ?_ ?_
      · refine pm_ev_many 7 (s' := (10, [some (.int (xs 1)), some (.int 0)], [.int (((((xs 1)).toUInt32 >>> ((0 : Int32).toUInt32 &&& Int32.toUInt32 31)).toInt32) &&& 255)], _, _, _)) rfl ?_
        rw [hc0]
        exact pm_ev_ret rfl
      show pm_ev _ _ _ _ _ (35, [some (.ref 1), some (.int (xs 1)), some (.int 4), some (.int 0), none], [.int b0], _, _, _) _
      refine pm_ev_many 3 (s' := (41, [some (.ref 1), some (.int (xs 1)), some (.int 4), some (.int 0), some (.int b0)], [.int 32, .int b0], _, _, _)) rfl ?_
      refine pm_ev_many 1 (s' := (if b0 < 32 then 51 else 44, [some (.ref 1), some (.int (xs 1)), some (.int 4), some (.int 0), some (.int b0)], [], _, _, _)) rfl ?_
      rw [if_neg a0]
      refine pm_ev_many 2 (s' := (48, [some (.ref 1), some (.int (xs 1)), some (.int 4), some (.int 0), some (.int b0)], [.int 126, .int b0], _, _, _)) rfl ?_
      refine pm_ev_many 1 (s' := (if b0 ≤ 126 then 53 else 51, [some (.ref 1), some (.int (xs 1)), some (.int 4), some (.int 0), some (.int b0)], [], _, _, _)) rfl ?_
      rw [if_pos c0]
      refine pm_ev_many 7 (s' := (32, [some (.ref 1), some (.int (xs 1)), some (.int 4), some (.int 1), some (.int b0)], [.int 1, .int (xs 1)], _, _, _)) rfl ?_
      refine pe_stat (al := [.int 1, .int (xs 1)]) (L0 := [some (.int (xs 1)), some (.int 1)]) (r1 := (some (.int b1), 129, 17845, h)) rfl rfl rfl rfl rfl rfl (Nat.le_of_ble_eq_true rfl) (Nat.le_of_ble_eq_true rfl) rfl rfl ?_ ?_
      · refine pm_ev_many 7 (s' := (10, [some (.int (xs 1)), some (.int 1)], [.int (((((xs 1)).toUInt32 >>> ((8 : Int32).toUInt32 &&& Int32.toUInt32 31)).toInt32) &&& 255)], _, _, _)) rfl ?_
        rw [hc1]
        exact pm_ev_ret rfl
      show pm_ev _ _ _ _ _ (35, [some (.ref 1), some (.int (xs 1)), some (.int 4), some (.int 1), some (.int b0)], [.int b1], _, _, _) _
      refine pm_ev_many 3 (s' := (41, [some (.ref 1), some (.int (xs 1)), some (.int 4), some (.int 1), some (.int b1)], [.int 32, .int b1], _, _, _)) rfl ?_
      refine pm_ev_many 1 (s' := (if b1 < 32 then 51 else 44, [some (.ref 1), some (.int (xs 1)), some (.int 4), some (.int 1), some (.int b1)], [], _, _, _)) rfl ?_
      rw [if_neg a1]
      refine pm_ev_many 2 (s' := (48, [some (.ref 1), some (.int (xs 1)), some (.int 4), some (.int 1), some (.int b1)], [.int 126, .int b1], _, _, _)) rfl ?_
      refine pm_ev_many 1 (s' := (if b1 ≤ 126 then 53 else 51, [some (.ref 1), some (.int (xs 1)), some (.int 4), some (.int 1), some (.int b1)], [], _, _, _)) rfl ?_
      rw [if_pos c1]
      refine pm_ev_many 7 (s' := (32, [some (.ref 1), some (.int (xs 1)), some (.int 4), some (.int 2), some (.int b1)], [.int 2, .int (xs 1)], _, _, _)) rfl ?_
      refine pe_stat (al := [.int 2, .int (xs 1)]) (L0 := [some (.int (xs 1)), some (.int 2)]) (r1 := (some (.int b2), 129, 17845, h)) rfl rfl rfl rfl rfl rfl (Nat.le_of_ble_eq_true rfl) (Nat.le_of_ble_eq_true rfl) rfl rfl ?_ ?_
      · refine pm_ev_many 7 (s' := (10, [some (.int (xs 1)), some (.int 2)], [.int (((((xs 1)).toUInt32 >>> ((16 : Int32).toUInt32 &&& Int32.toUInt32 31)).toInt32) &&& 255)], _, _, _)) rfl ?_
        rw [hc2]
        exact pm_ev_ret rfl
      show pm_ev _ _ _ _ _ (35, [some (.ref 1), some (.int (xs 1)), some (.int 4), some (.int 2), some (.int b1)], [.int b2], _, _, _) _
      refine pm_ev_many 3 (s' := (41, [some (.ref 1), some (.int (xs 1)), some (.int 4), some (.int 2), some (.int b2)], [.int 32, .int b2], _, _, _)) rfl ?_
      refine pm_ev_many 1 (s' := (if b2 < 32 then 51 else 44, [some (.ref 1), some (.int (xs 1)), some (.int 4), some (.int 2), some (.int b2)], [], _, _, _)) rfl ?_
      rw [if_neg a2]
      refine pm_ev_many 2 (s' := (48, [some (.ref 1), some (.int (xs 1)), some (.int 4), some (.int 2), some (.int b2)], [.int 126, .int b2], _, _, _)) rfl ?_
      refine pm_ev_many 1 (s' := (if b2 ≤ 126 then 53 else 51, [some (.ref 1), some (.int (xs 1)), some (.int 4), some (.int 2), some (.int b2)], [], _, _, _)) rfl ?_
      rw [if_pos c2]
      refine pm_ev_many 7 (s' := (32, [some (.ref 1), some (.int (xs 1)), some (.int 4), some (.int 3), some (.int b2)], [.int 3, .int (xs 1)], _, _, _)) rfl ?_
      refine pe_stat (al := [.int 3, .int (xs 1)]) (L0 := [some (.int (xs 1)), some (.int 3)]) (r1 := (some (.int b3), 129, 17845, h)) rfl rfl rfl rfl rfl rfl (Nat.le_of_ble_eq_true rfl) (Nat.le_of_ble_eq_true rfl) rfl rfl ?_ ?_
      · refine pm_ev_many 7 (s' := (10, [some (.int (xs 1)), some (.int 3)], [.int (((((xs 1)).toUInt32 >>> ((24 : Int32).toUInt32 &&& Int32.toUInt32 31)).toInt32) &&& 255)], _, _, _)) rfl ?_
        rw [hc3]
        exact pm_ev_ret rfl
      show pm_ev _ _ _ _ _ (35, [some (.ref 1), some (.int (xs 1)), some (.int 4), some (.int 3), some (.int b2)], [.int b3], _, _, _) _
      refine pm_ev_many 3 (s' := (41, [some (.ref 1), some (.int (xs 1)), some (.int 4), some (.int 3), some (.int b3)], [.int 32, .int b3], _, _, _)) rfl ?_
      refine pm_ev_many 1 (s' := (if b3 < 32 then 51 else 44, [some (.ref 1), some (.int (xs 1)), some (.int 4), some (.int 3), some (.int b3)], [], _, _, _)) rfl ?_
      rw [if_neg a3]
      refine pm_ev_many 2 (s' := (48, [some (.ref 1), some (.int (xs 1)), some (.int 4), some (.int 3), some (.int b3)], [.int 126, .int b3], _, _, _)) rfl ?_
      refine pm_ev_many 1 (s' := (if b3 ≤ 126 then 53 else 51, [some (.ref 1), some (.int (xs 1)), some (.int 4), some (.int 3), some (.int b3)], [], _, _, _)) rfl ?_
      rw [if_neg c3]
      refine pm_ev_many 1 (s' := (52, [some (.ref 1), some (.int (xs 1)), some (.int 4), some (.int 3), some (.int b3)], [.int 0], _, _, _)) rfl ?_
      exact pm_ev_ret rfl
    show pm_ev _ _ _ _ _ (9, [some (.ref 0), some (.int (xs 1)), some (.int 4)], [.int 0], _, _, _) _
    exact pm_ev_ret rfl
  show pm_ev _ _ _ _ _ (102, [some (.retAddr 0), some (.ref 0), some (.ref 83), some (.int 0)], [.int 0], _, _, _) _
  refine pm_ev_many 11 (s' := (113, [some (.retAddr 0), some (.ref 0), some (.ref 83), some (.int 0)], [.int (xs 2), .int (xs 1), .ref 83, .int 0], _, _, _)) rfl ?_
  rw [hn]
  refine pe_virt (al := [.int 4, .int (xs 1)]) (a := 83) (L0 := [some (.ref 83), some (.int (xs 1)), some (.int 4), none, none]) (r1 := (some (.int 0), 129, 17845, h)) rfl rfl rfl rfl rfl f83 (by decide) rfl (Nat.le_of_ble_eq_true rfl) (Nat.le_of_ble_eq_true rfl) rfl rfl ?_ ?_
  · refine pm_ev_many 3 (s' := (3, [some (.ref 83), some (.int (xs 1)), some (.int 4), none, none], [.int 4, .int 1, .int 4], _, _, _)) rfl ?_
    refine pe_stat (al := [.int 4, .int 1, .int 4]) (L0 := [some (.int 4), some (.int 1), some (.int 4)]) (r1 := (some (.int 1), 129, 17845, h)) rfl rfl rfl rfl rfl rfl (Nat.le_of_ble_eq_true rfl) (Nat.le_of_ble_eq_true rfl) rfl rfl ?_ ?_
    · refine pm_ev_many 8 (s' := (15, [some (.int 4), some (.int 1), some (.int 4)], [.int 1], _, _, _)) rfl ?_
      exact pm_ev_ret rfl
    show pm_ev _ _ _ _ _ (6, [some (.ref 83), some (.int (xs 1)), some (.int 4), none, none], [.int 1], _, _, _) _
    refine pm_ev_many 2 (s' := (10, [some (.ref 83), some (.int (xs 1)), some (.int 4), none, none], [.ref 83], _, _, _)) rfl ?_
    refine pe_get rfl rfl rfl f83 (by decide) rfl ?_
    refine pm_ev_many 21 (s' := (50, [some (.ref 83), some (.int (xs 1)), some (.int 4), some (.int 1), some (.int 0)], [.int (((xs 1) >>> (0 &&& 31)) &&& 255)], _, _, _)) rfl ?_
    rw [hm0]
    refine pm_ev_many 2 (s' := (54, [some (.ref 83), some (.int (xs 1)), some (.int 4), some (.int 1), some (.int 0)], [.int 126, .int 32, .int b0], _, _, _)) rfl ?_
    refine pe_stat (al := [.int 126, .int 32, .int b0]) (L0 := [some (.int b0), some (.int 32), some (.int 126)]) (r1 := (some (.int 1), 129, 17845, h)) rfl rfl rfl rfl rfl rfl (Nat.le_of_ble_eq_true rfl) (Nat.le_of_ble_eq_true rfl) rfl rfl ?_ ?_
    · refine pm_ev_many 2 (s' := (2, [some (.int b0), some (.int 32), some (.int 126)], [.int 32, .int b0], _, _, _)) rfl ?_
      refine pm_ev_many 1 (s' := (if b0 < 32 then 14 else 5, [some (.int b0), some (.int 32), some (.int 126)], [], _, _, _)) rfl ?_
      rw [if_neg a0]
      refine pm_ev_many 2 (s' := (7, [some (.int b0), some (.int 32), some (.int 126)], [.int 126, .int b0], _, _, _)) rfl ?_
      refine pm_ev_many 1 (s' := (if 126 < b0 then 14 else 10, [some (.int b0), some (.int 32), some (.int 126)], [], _, _, _)) rfl ?_
      rw [if_neg e0]
      refine pm_ev_many 2 (s' := (15, [some (.int b0), some (.int 32), some (.int 126)], [.int 1], _, _, _)) rfl ?_
      exact pm_ev_ret rfl
    show pm_ev _ _ _ _ _ (57, [some (.ref 83), some (.int (xs 1)), some (.int 4), some (.int 1), some (.int 0)], [.int 1], _, _, _) _
    refine pm_ev_many 15 (s' := (50, [some (.ref 83), some (.int (xs 1)), some (.int 4), some (.int 1), some (.int 1)], [.int (((xs 1) >>> (8 &&& 31)) &&& 255)], _, _, _)) rfl ?_
    rw [hm1]
    refine pm_ev_many 2 (s' := (54, [some (.ref 83), some (.int (xs 1)), some (.int 4), some (.int 1), some (.int 1)], [.int 126, .int 32, .int b1], _, _, _)) rfl ?_
    refine pe_stat (al := [.int 126, .int 32, .int b1]) (L0 := [some (.int b1), some (.int 32), some (.int 126)]) (r1 := (some (.int 1), 129, 17845, h)) rfl rfl rfl rfl rfl rfl (Nat.le_of_ble_eq_true rfl) (Nat.le_of_ble_eq_true rfl) rfl rfl ?_ ?_
    · refine pm_ev_many 2 (s' := (2, [some (.int b1), some (.int 32), some (.int 126)], [.int 32, .int b1], _, _, _)) rfl ?_
      refine pm_ev_many 1 (s' := (if b1 < 32 then 14 else 5, [some (.int b1), some (.int 32), some (.int 126)], [], _, _, _)) rfl ?_
      rw [if_neg a1]
      refine pm_ev_many 2 (s' := (7, [some (.int b1), some (.int 32), some (.int 126)], [.int 126, .int b1], _, _, _)) rfl ?_
      refine pm_ev_many 1 (s' := (if 126 < b1 then 14 else 10, [some (.int b1), some (.int 32), some (.int 126)], [], _, _, _)) rfl ?_
      rw [if_neg e1]
      refine pm_ev_many 2 (s' := (15, [some (.int b1), some (.int 32), some (.int 126)], [.int 1], _, _, _)) rfl ?_
      exact pm_ev_ret rfl
    show pm_ev _ _ _ _ _ (57, [some (.ref 83), some (.int (xs 1)), some (.int 4), some (.int 1), some (.int 1)], [.int 1], _, _, _) _
    refine pm_ev_many 15 (s' := (50, [some (.ref 83), some (.int (xs 1)), some (.int 4), some (.int 1), some (.int 2)], [.int (((xs 1) >>> (16 &&& 31)) &&& 255)], _, _, _)) rfl ?_
    rw [hm2]
    refine pm_ev_many 2 (s' := (54, [some (.ref 83), some (.int (xs 1)), some (.int 4), some (.int 1), some (.int 2)], [.int 126, .int 32, .int b2], _, _, _)) rfl ?_
    refine pe_stat (al := [.int 126, .int 32, .int b2]) (L0 := [some (.int b2), some (.int 32), some (.int 126)]) (r1 := (some (.int 1), 129, 17845, h)) rfl rfl rfl rfl rfl rfl (Nat.le_of_ble_eq_true rfl) (Nat.le_of_ble_eq_true rfl) rfl rfl ?_ ?_
    · refine pm_ev_many 2 (s' := (2, [some (.int b2), some (.int 32), some (.int 126)], [.int 32, .int b2], _, _, _)) rfl ?_
      refine pm_ev_many 1 (s' := (if b2 < 32 then 14 else 5, [some (.int b2), some (.int 32), some (.int 126)], [], _, _, _)) rfl ?_
      rw [if_neg a2]
      refine pm_ev_many 2 (s' := (7, [some (.int b2), some (.int 32), some (.int 126)], [.int 126, .int b2], _, _, _)) rfl ?_
      refine pm_ev_many 1 (s' := (if 126 < b2 then 14 else 10, [some (.int b2), some (.int 32), some (.int 126)], [], _, _, _)) rfl ?_
      rw [if_neg e2]
      refine pm_ev_many 2 (s' := (15, [some (.int b2), some (.int 32), some (.int 126)], [.int 1], _, _, _)) rfl ?_
      exact pm_ev_ret rfl
    show pm_ev _ _ _ _ _ (57, [some (.ref 83), some (.int (xs 1)), some (.int 4), some (.int 1), some (.int 2)], [.int 1], _, _, _) _
    refine pm_ev_many 15 (s' := (50, [some (.ref 83), some (.int (xs 1)), some (.int 4), some (.int 1), some (.int 3)], [.int (((xs 1) >>> (24 &&& 31)) &&& 255)], _, _, _)) rfl ?_
    rw [hm3]
    refine pm_ev_many 2 (s' := (54, [some (.ref 83), some (.int (xs 1)), some (.int 4), some (.int 1), some (.int 3)], [.int 126, .int 32, .int b3], _, _, _)) rfl ?_
    refine pe_stat (al := [.int 126, .int 32, .int b3]) (L0 := [some (.int b3), some (.int 32), some (.int 126)]) (r1 := (some (.int 0), 129, 17845, h)) rfl rfl rfl rfl rfl rfl (Nat.le_of_ble_eq_true rfl) (Nat.le_of_ble_eq_true rfl) rfl rfl ?_ ?_
    · refine pm_ev_many 2 (s' := (2, [some (.int b3), some (.int 32), some (.int 126)], [.int 32, .int b3], _, _, _)) rfl ?_
      refine pm_ev_many 1 (s' := (if b3 < 32 then 14 else 5, [some (.int b3), some (.int 32), some (.int 126)], [], _, _, _)) rfl ?_
      rw [if_neg a3]
      refine pm_ev_many 2 (s' := (7, [some (.int b3), some (.int 32), some (.int 126)], [.int 126, .int b3], _, _, _)) rfl ?_
      refine pm_ev_many 1 (s' := (if 126 < b3 then 14 else 10, [some (.int b3), some (.int 32), some (.int 126)], [], _, _, _)) rfl ?_
      rw [if_pos e3]
      refine pm_ev_many 1 (s' := (15, [some (.int b3), some (.int 32), some (.int 126)], [.int 0], _, _, _)) rfl ?_
      exact pm_ev_ret rfl
    show pm_ev _ _ _ _ _ (57, [some (.ref 83), some (.int (xs 1)), some (.int 4), some (.int 1), some (.int 3)], [.int 0], _, _, _) _
    refine pm_ev_many 15 (s' := (115, [some (.ref 83), some (.int (xs 1)), some (.int 4), some (.int 0), some (.int 3)], [.int 0], _, _, _)) rfl ?_
    exact pm_ev_ret rfl
  show pm_ev _ _ _ _ _ (116, [some (.retAddr 0), some (.ref 0), some (.ref 83), some (.int 0)], [.int 0, .int 0], _, _, _) _
  refine pm_ev_many 10 (s' := (295, [some (.retAddr 0), some (.ref 0), some (.ref 83), some (.int 3)], [.int 1], _, _, _)) rfl ?_
  exact pm_ev_ret rfl
set_option maxRecDepth 100000 in
set_option maxHeartbeats 4000000 in
theorem p1_0_4_4ok (d : Nat) (xs : Nat → Int32) (h : Nat → va_E) (hi : pm_init h) (hn : xs 2 = 4) (b0 : Int32) (hc0 : ((((xs 1)).toUInt32 >>> ((0 : Int32).toUInt32 &&& Int32.toUInt32 31)).toInt32) &&& 255 = b0) (hm0 : ((xs 1) >>> (0 &&& 31)) &&& 255 = b0) (a0 : ¬ b0 < 32) (c0 : b0 ≤ 126) (e0 : ¬ 126 < b0) (b1 : Int32) (hc1 : ((((xs 1)).toUInt32 >>> ((8 : Int32).toUInt32 &&& Int32.toUInt32 31)).toInt32) &&& 255 = b1) (hm1 : ((xs 1) >>> (8 &&& 31)) &&& 255 = b1) (a1 : ¬ b1 < 32) (c1 : b1 ≤ 126) (e1 : ¬ 126 < b1) (b2 : Int32) (hc2 : ((((xs 1)).toUInt32 >>> ((16 : Int32).toUInt32 &&& Int32.toUInt32 31)).toInt32) &&& 255 = b2) (hm2 : ((xs 1) >>> (16 &&& 31)) &&& 255 = b2) (a2 : ¬ b2 < 32) (c2 : b2 ≤ 126) (e2 : ¬ 126 < b2) (b3 : Int32) (hc3 : ((((xs 1)).toUInt32 >>> ((24 : Int32).toUInt32 &&& Int32.toUInt32 31)).toInt32) &&& 255 = b3) (hm3 : ((xs 1) >>> (24 &&& 31)) &&& 255 = b3) (a3 : ¬ b3 < 32) (c3 : b3 ≤ 126) (e3 : ¬ 126 < b3) : ∃ h' : Nat → va_E, pm_ev pmT (some (3, xs)) (d + 10) 214 true (32, [some (.retAddr 0), some (.ref 0), some (.ref 83), some (.int 0)], [.int 0], 129, 17845, h) (some (.int 1), 129, 17845, h') := by
  obtain ⟨f0, f1, f2, f3, f4, f5, f6, f7, f8, f9, f10, f11, f12, f13, f14, f15, f16, f17, f18, f19, f20, f21, f22, f23, f24, f25, f26, f27, f28, f29, f30, f31, f32, f33, f34, f35, f36, f37, f38, f39, f40, f41, f42, f43, f44, f45, f46, f47, f48, f49, f50, f51, f52, f53, f54, f55, f56, f57, f58, f59, f60, f61, f62, f63, f64, f65, f66, f67, f68, f69, f70, f71, f72, f73, f74, f75, f76, f77, f78, f79, f80, f81, f82, f83, f84, f85, f86, f87, f88, f89, f90, f91, f92, f93, f94, f95, f96, f97, f98, f99, f100, f101, f102, f103, f104, f105, f106, f107, f108, f109, f110, f111, f112, f113, f114, f115, f116, f117, f118, f119, f120, f121, f122, f123, f124, f125, f126, f127, f128⟩ := hi
  refine ⟨va_up (va_up (va_up (va_up (va_up (va_up (va_up (va_up (va_up (va_up (va_up (va_up (va_up (va_up (va_up (va_up h 2 (.inl (0, 120, .inl (upd (fun _ => 0) (0 : Int32).toNatClampNeg b3)))) 1 (.inr (10, [.ref 2, .int 1, .int 0, .int 0]))) 2 (.inl (0, 120, .inl (upd (upd (fun _ => 0) (0 : Int32).toNatClampNeg b3) (1 : Int32).toNatClampNeg b2)))) 1 (.inr (10, [.ref 2, .int 2, .int 0, .int 0]))) 2 (.inl (0, 120, .inl (upd (upd (upd (fun _ => 0) (0 : Int32).toNatClampNeg b3) (1 : Int32).toNatClampNeg b2) (2 : Int32).toNatClampNeg b1)))) 1 (.inr (10, [.ref 2, .int 3, .int 0, .int 0]))) 2 (.inl (0, 120, .inl (upd (upd (upd (upd (fun _ => 0) (0 : Int32).toNatClampNeg b3) (1 : Int32).toNatClampNeg b2) (2 : Int32).toNatClampNeg b1) (3 : Int32).toNatClampNeg b0)))) 1 (.inr (10, [.ref 2, .int 4, .int 0, .int 0]))) 84 (.inl (0, 120, .inl (upd (fun _ => 0) (0 : Int32).toNatClampNeg b3)))) 83 (.inr (12, [.ref 84, .int 1, .ref 85, .int 0, .int 0, .int 0, .int 0, .int 0, .int 0, .int 0, .ref 86, .ref 87, .ref 88, .ref 89, .ref 90, .ref 91, .ref 92, .ref 93, .ref 94, .ref 95, .ref 96, .ref 97, .ref 98, .ref 99, .ref 100, .ref 101, .ref 102, .int 0, .ref 103, .ref 104, .int 0, .int 0, .int 0, .int 0, .int 0, .ref 105, .ref 106, .int 0, .int 0, .ref 107, .int 0, .ref 108, .ref 109, .ref 110, .ref 111, .ref 112, .ref 113, .ref 114, .ref 115, .ref 116, .ref 117, .ref 118, .int 0, .ref 119, .ref 120, .ref 121, .int 0, .ref 122, .ref 123, .ref 124, .ref 125, .ref 126, .int 0, .ref 127, .ref 128]))) 84 (.inl (0, 120, .inl (upd (upd (fun _ => 0) (0 : Int32).toNatClampNeg b3) (1 : Int32).toNatClampNeg b2)))) 83 (.inr (12, [.ref 84, .int 2, .ref 85, .int 0, .int 0, .int 0, .int 0, .int 0, .int 0, .int 0, .ref 86, .ref 87, .ref 88, .ref 89, .ref 90, .ref 91, .ref 92, .ref 93, .ref 94, .ref 95, .ref 96, .ref 97, .ref 98, .ref 99, .ref 100, .ref 101, .ref 102, .int 0, .ref 103, .ref 104, .int 0, .int 0, .int 0, .int 0, .int 0, .ref 105, .ref 106, .int 0, .int 0, .ref 107, .int 0, .ref 108, .ref 109, .ref 110, .ref 111, .ref 112, .ref 113, .ref 114, .ref 115, .ref 116, .ref 117, .ref 118, .int 0, .ref 119, .ref 120, .ref 121, .int 0, .ref 122, .ref 123, .ref 124, .ref 125, .ref 126, .int 0, .ref 127, .ref 128]))) 84 (.inl (0, 120, .inl (upd (upd (upd (fun _ => 0) (0 : Int32).toNatClampNeg b3) (1 : Int32).toNatClampNeg b2) (2 : Int32).toNatClampNeg b1)))) 83 (.inr (12, [.ref 84, .int 3, .ref 85, .int 0, .int 0, .int 0, .int 0, .int 0, .int 0, .int 0, .ref 86, .ref 87, .ref 88, .ref 89, .ref 90, .ref 91, .ref 92, .ref 93, .ref 94, .ref 95, .ref 96, .ref 97, .ref 98, .ref 99, .ref 100, .ref 101, .ref 102, .int 0, .ref 103, .ref 104, .int 0, .int 0, .int 0, .int 0, .int 0, .ref 105, .ref 106, .int 0, .int 0, .ref 107, .int 0, .ref 108, .ref 109, .ref 110, .ref 111, .ref 112, .ref 113, .ref 114, .ref 115, .ref 116, .ref 117, .ref 118, .int 0, .ref 119, .ref 120, .ref 121, .int 0, .ref 122, .ref 123, .ref 124, .ref 125, .ref 126, .int 0, .ref 127, .ref 128]))) 84 (.inl (0, 120, .inl (upd (upd (upd (upd (fun _ => 0) (0 : Int32).toNatClampNeg b3) (1 : Int32).toNatClampNeg b2) (2 : Int32).toNatClampNeg b1) (3 : Int32).toNatClampNeg b0)))) 83 (.inr (12, [.ref 84, .int 4, .ref 85, .int 0, .int 0, .int 0, .int 0, .int 0, .int 0, .int 0, .ref 86, .ref 87, .ref 88, .ref 89, .ref 90, .ref 91, .ref 92, .ref 93, .ref 94, .ref 95, .ref 96, .ref 97, .ref 98, .ref 99, .ref 100, .ref 101, .ref 102, .int 0, .ref 103, .ref 104, .int 0, .int 0, .int 0, .int 0, .int 0, .ref 105, .ref 106, .int 0, .int 0, .ref 107, .int 0, .ref 108, .ref 109, .ref 110, .ref 111, .ref 112, .ref 113, .ref 114, .ref 115, .ref 116, .ref 117, .ref 118, .int 0, .ref 119, .ref 120, .ref 121, .int 0, .ref 122, .ref 123, .ref 124, .ref 125, .ref 126, .int 0, .ref 127, .ref 128])), ?_⟩
  refine pm_ev_many 12 (s' := (99, [some (.retAddr 0), some (.ref 0), some (.ref 83), some (.int 0)], [.int (xs 2), .int (xs 1), .ref 0], _, _, _)) rfl ?_
  rw [hn]
  refine pe_virt (al := [.int 4, .int (xs 1)]) (a := 0) (L0 := [some (.ref 0), some (.int (xs 1)), some (.int 4)]) (r1 := (some (.int 1), 129, 17845, va_up (va_up (va_up (va_up (va_up (va_up (va_up (va_up h 2 (.inl (0, 120, .inl (upd (fun _ => 0) (0 : Int32).toNatClampNeg b3)))) 1 (.inr (10, [.ref 2, .int 1, .int 0, .int 0]))) 2 (.inl (0, 120, .inl (upd (upd (fun _ => 0) (0 : Int32).toNatClampNeg b3) (1 : Int32).toNatClampNeg b2)))) 1 (.inr (10, [.ref 2, .int 2, .int 0, .int 0]))) 2 (.inl (0, 120, .inl (upd (upd (upd (fun _ => 0) (0 : Int32).toNatClampNeg b3) (1 : Int32).toNatClampNeg b2) (2 : Int32).toNatClampNeg b1)))) 1 (.inr (10, [.ref 2, .int 3, .int 0, .int 0]))) 2 (.inl (0, 120, .inl (upd (upd (upd (upd (fun _ => 0) (0 : Int32).toNatClampNeg b3) (1 : Int32).toNatClampNeg b2) (2 : Int32).toNatClampNeg b1) (3 : Int32).toNatClampNeg b0)))) 1 (.inr (10, [.ref 2, .int 4, .int 0, .int 0])))) rfl rfl rfl rfl rfl f0 (by decide) rfl (Nat.le_of_ble_eq_true rfl) (Nat.le_of_ble_eq_true rfl) rfl rfl ?_ ?_
  · refine pm_ev_many 1 (s' := (1, [some (.ref 0), some (.int (xs 1)), some (.int 4)], [.ref 0], _, _, _)) rfl ?_
    refine pe_get rfl rfl rfl f0 (by decide) rfl ?_
    refine pm_ev_many 2 (s' := (6, [some (.ref 0), some (.int (xs 1)), some (.int 4)], [.int 4, .int (xs 1), .ref 1], _, _, _)) rfl ?_
    refine pe_virt (al := [.int 4, .int (xs 1)]) (a := 1) (L0 := [some (.ref 1), some (.int (xs 1)), some (.int 4), none, none]) (r1 := (some (.int 1), 129, 17845, va_up (va_up (va_up (va_up (va_up (va_up (va_up (va_up h 2 (.inl (0, 120, .inl (upd (fun _ => 0) (0 : Int32).toNatClampNeg b3)))) 1 (.inr (10, [.ref 2, .int 1, .int 0, .int 0]))) 2 (.inl (0, 120, .inl (upd (upd (fun _ => 0) (0 : Int32).toNatClampNeg b3) (1 : Int32).toNatClampNeg b2)))) 1 (.inr (10, [.ref 2, .int 2, .int 0, .int 0]))) 2 (.inl (0, 120, .inl (upd (upd (upd (fun _ => 0) (0 : Int32).toNatClampNeg b3) (1 : Int32).toNatClampNeg b2) (2 : Int32).toNatClampNeg b1)))) 1 (.inr (10, [.ref 2, .int 3, .int 0, .int 0]))) 2 (.inl (0, 120, .inl (upd (upd (upd (upd (fun _ => 0) (0 : Int32).toNatClampNeg b3) (1 : Int32).toNatClampNeg b2) (2 : Int32).toNatClampNeg b1) (3 : Int32).toNatClampNeg b0)))) 1 (.inr (10, [.ref 2, .int 4, .int 0, .int 0])))) rfl rfl rfl rfl rfl f1 (by decide) rfl (Nat.le_of_ble_eq_true rfl) (Nat.le_of_ble_eq_true rfl) rfl rfl ?_ ?_
    · refine pm_ev_many 7 (s' := (11, [some (.ref 1), some (.int (xs 1)), some (.int 4), none, none], [.ref 1], _, _, _)) rfl ?_
      refine pe_get rfl rfl rfl f1 (by decide) rfl ?_
      refine pm_ev_many 11 (s' := (32, [some (.ref 1), some (.int (xs 1)), some (.int 4), some (.int 0), none], [.int 0, .int (xs 1)], _, _, _)) rfl ?_
      refine pe_stat (al := [.int 0, .int (xs 1)]) (L0 := [some (.int (xs 1)), some (.int 0)]) (r1 := (some (.int b0), 129, 17845, h)) rfl rfl rfl rfl rfl rfl (Nat.le_of_ble_eq_true rfl) (Nat.le_of_ble_eq_true rfl) rfl rfl ?_ ?_
      · refine pm_ev_many 7 (s' := (10, [some (.int (xs 1)), some (.int 0)], [.int (((((xs 1)).toUInt32 >>> ((0 : Int32).toUInt32 &&& Int32.toUInt32 31)).toInt32) &&& 255)], _, _, _)) rfl ?_
        rw [hc0]
        exact pm_ev_ret rfl
      show pm_ev _ _ _ _ _ (35, [some (.ref 1), some (.int (xs 1)), some (.int 4), some (.int 0), none], [.int b0], _, _, _) _
      refine pm_ev_many 3 (s' := (41, [some (.ref 1), some (.int (xs 1)), some (.int 4), some (.int 0), some (.int b0)], [.int 32, .int b0], _, _, _)) rfl ?_
      refine pm_ev_many 1 (s' := (if b0 < 32 then 51 else 44, [some (.ref 1), some (.int (xs 1)), some (.int 4), some (.int 0), some (.int b0)], [], _, _, _)) rfl ?_
      rw [if_neg a0]
      refine pm_ev_many 2 (s' := (48, [some (.ref 1), some (.int (xs 1)), some (.int 4), some (.int 0), some (.int b0)], [.int 126, .int b0], _, _, _)) rfl ?_
      refine pm_ev_many 1 (s' := (if b0 ≤ 126 then 53 else 51, [some (.ref 1), some (.int (xs 1)), some (.int 4), some (.int 0), some (.int b0)], [], _, _, _)) rfl ?_
      rw [if_pos c0]
      refine pm_ev_many 7 (s' := (32, [some (.ref 1), some (.int (xs 1)), some (.int 4), some (.int 1), some (.int b0)], [.int 1, .int (xs 1)], _, _, _)) rfl ?_
      refine pe_stat (al := [.int 1, .int (xs 1)]) (L0 := [some (.int (xs 1)), some (.int 1)]) (r1 := (some (.int b1), 129, 17845, h)) rfl rfl rfl rfl rfl rfl (Nat.le_of_ble_eq_true rfl) (Nat.le_of_ble_eq_true rfl) rfl rfl ?_ ?_
      · refine pm_ev_many 7 (s' := (10, [some (.int (xs 1)), some (.int 1)], [.int (((((xs 1)).toUInt32 >>> ((8 : Int32).toUInt32 &&& Int32.toUInt32 31)).toInt32) &&& 255)], _, _, _)) rfl ?_
        rw [hc1]
        exact pm_ev_ret rfl
      show pm_ev _ _ _ _ _ (35, [some (.ref 1), some (.int (xs 1)), some (.int 4), some (.int 1), some (.int b0)], [.int b1], _, _, _) _
      refine pm_ev_many 3 (s' := (41, [some (.ref 1), some (.int (xs 1)), some (.int 4), some (.int 1), some (.int b1)], [.int 32, .int b1], _, _, _)) rfl ?_
      refine pm_ev_many 1 (s' := (if b1 < 32 then 51 else 44, [some (.ref 1), some (.int (xs 1)), some (.int 4), some (.int 1), some (.int b1)], [], _, _, _)) rfl ?_
      rw [if_neg a1]
      refine pm_ev_many 2 (s' := (48, [some (.ref 1), some (.int (xs 1)), some (.int 4), some (.int 1), some (.int b1)], [.int 126, .int b1], _, _, _)) rfl ?_
      refine pm_ev_many 1 (s' := (if b1 ≤ 126 then 53 else 51, [some (.ref 1), some (.int (xs 1)), some (.int 4), some (.int 1), some (.int b1)], [], _, _, _)) rfl ?_
      rw [if_pos c1]
      refine pm_ev_many 7 (s' := (32, [some (.ref 1), some (.int (xs 1)), some (.int 4), some (.int 2), some (.int b1)], [.int 2, .int (xs 1)], _, _, _)) rfl ?_
      refine pe_stat (al := [.int 2, .int (xs 1)]) (L0 := [some (.int (xs 1)), some (.int 2)]) (r1 := (some (.int b2), 129, 17845, h)) rfl rfl rfl rfl rfl rfl (Nat.le_of_ble_eq_true rfl) (Nat.le_of_ble_eq_true rfl) rfl rfl ?_ ?_
      · refine pm_ev_many 7 (s' := (10, [some (.int (xs 1)), some (.int 2)], [.int (((((xs 1)).toUInt32 >>> ((16 : Int32).toUInt32 &&& Int32.toUInt32 31)).toInt32) &&& 255)], _, _, _)) rfl ?_
        rw [hc2]
        exact pm_ev_ret rfl
      show pm_ev _ _ _ _ _ (35, [some (.ref 1), some (.int (xs 1)), some (.int 4), some (.int 2), some (.int b1)], [.int b2], _, _, _) _
      refine pm_ev_many 3 (s' := (41, [some (.ref 1), some (.int (xs 1)), some (.int 4), some (.int 2), some (.int b2)], [.int 32, .int b2], _, _, _)) rfl ?_
      refine pm_ev_many 1 (s' := (if b2 < 32 then 51 else 44, [some (.ref 1), some (.int (xs 1)), some (.int 4), some (.int 2), some (.int b2)], [], _, _, _)) rfl ?_
      rw [if_neg a2]
      refine pm_ev_many 2 (s' := (48, [some (.ref 1), some (.int (xs 1)), some (.int 4), some (.int 2), some (.int b2)], [.int 126, .int b2], _, _, _)) rfl ?_
      refine pm_ev_many 1 (s' := (if b2 ≤ 126 then 53 else 51, [some (.ref 1), some (.int (xs 1)), some (.int 4), some (.int 2), some (.int b2)], [], _, _, _)) rfl ?_
      rw [if_pos c2]
      refine pm_ev_many 7 (s' := (32, [some (.ref 1), some (.int (xs 1)), some (.int 4), some (.int 3), some (.int b2)], [.int 3, .int (xs 1)], _, _, _)) rfl ?_
      refine pe_stat (al := [.int 3, .int (xs 1)]) (L0 := [some (.int (xs 1)), some (.int 3)]) (r1 := (some (.int b3), 129, 17845, h)) rfl rfl rfl rfl rfl rfl (Nat.le_of_ble_eq_true rfl) (Nat.le_of_ble_eq_true rfl) rfl rfl ?_ ?_
      · refine pm_ev_many 7 (s' := (10, [some (.int (xs 1)), some (.int 3)], [.int (((((xs 1)).toUInt32 >>> ((24 : Int32).toUInt32 &&& Int32.toUInt32 31)).toInt32) &&& 255)], _, _, _)) rfl ?_
        rw [hc3]
        exact pm_ev_ret rfl
      show pm_ev _ _ _ _ _ (35, [some (.ref 1), some (.int (xs 1)), some (.int 4), some (.int 3), some (.int b2)], [.int b3], _, _, _) _
      refine pm_ev_many 3 (s' := (41, [some (.ref 1), some (.int (xs 1)), some (.int 4), some (.int 3), some (.int b3)], [.int 32, .int b3], _, _, _)) rfl ?_
      refine pm_ev_many 1 (s' := (if b3 < 32 then 51 else 44, [some (.ref 1), some (.int (xs 1)), some (.int 4), some (.int 3), some (.int b3)], [], _, _, _)) rfl ?_
      rw [if_neg a3]
      refine pm_ev_many 2 (s' := (48, [some (.ref 1), some (.int (xs 1)), some (.int 4), some (.int 3), some (.int b3)], [.int 126, .int b3], _, _, _)) rfl ?_
      refine pm_ev_many 1 (s' := (if b3 ≤ 126 then 53 else 51, [some (.ref 1), some (.int (xs 1)), some (.int 4), some (.int 3), some (.int b3)], [], _, _, _)) rfl ?_
      rw [if_pos c3]
      refine pm_ev_many 12 (s' := (68, [some (.ref 1), some (.int (xs 1)), some (.int 4), some (.int 3), some (.int b3)], [.ref 1], _, _, _)) rfl ?_
      refine pe_get rfl rfl rfl f1 (by decide) rfl ?_
      refine pm_ev_many 1 (s' := (72, [some (.ref 1), some (.int (xs 1)), some (.int 4), some (.int 3), some (.int b3)], [.ref 1, .ref 2], _, _, _)) rfl ?_
      refine pe_get rfl rfl rfl f1 (by decide) rfl ?_
      refine pm_ev_many 2 (s' := (77, [some (.ref 1), some (.int (xs 1)), some (.int 4), some (.int 3), some (.int b3)], [.int 3, .int (xs 1), .int 0, .ref 2], _, _, _)) rfl ?_
      refine pe_stat (al := [.int 3, .int (xs 1)]) (L0 := [some (.int (xs 1)), some (.int 3)]) (r1 := (some (.int b3), 129, 17845, h)) rfl rfl rfl rfl rfl rfl (Nat.le_of_ble_eq_true rfl) (Nat.le_of_ble_eq_true rfl) rfl rfl ?_ ?_
      · refine pm_ev_many 7 (s' := (10, [some (.int (xs 1)), some (.int 3)], [.int (((((xs 1)).toUInt32 >>> ((24 : Int32).toUInt32 &&& Int32.toUInt32 31)).toInt32) &&& 255)], _, _, _)) rfl ?_
        rw [hc3]
        exact pm_ev_ret rfl
      show pm_ev _ _ _ _ _ (80, [some (.ref 1), some (.int (xs 1)), some (.int 4), some (.int 3), some (.int b3)], [.int b3, .int 0, .ref 2], _, _, _) _
      refine pe_iast rfl rfl f2 (by decide) (by decide) ?_
      refine pm_ev_many 2 (s' := (83, [some (.ref 1), some (.int (xs 1)), some (.int 4), some (.int 3), some (.int b3)], [.ref 1, .ref 1], _, _, _)) rfl ?_
      refine pe_get rfl rfl rfl ((va_up_ne _ _ (by decide)).trans f1) (by decide) rfl ?_
      refine pm_ev_many 2 (s' := (88, [some (.ref 1), some (.int (xs 1)), some (.int 4), some (.int 3), some (.int b3)], [.int 1, .ref 1], _, _, _)) rfl ?_
      refine pe_put rfl rfl rfl ((va_up_ne _ _ (by decide)).trans f1) (by decide) (Nat.le_of_ble_eq_true rfl) rfl ?_
      show pm_ev _ _ _ _ _ (91, [some (.ref 1), some (.int (xs 1)), some (.int 4), some (.int 3), some (.int b3)], [], _, _, va_up _ 1 (.inr (10, [.ref 2, .int 1, .int 0, .int 0]))) _
      refine pm_ev_many 5 (s' := (68, [some (.ref 1), some (.int (xs 1)), some (.int 4), some (.int 2), some (.int b3)], [.ref 1], _, _, _)) rfl ?_
      refine pe_get rfl rfl rfl (va_up_self _ _ _) (by decide) rfl ?_
      refine pm_ev_many 1 (s' := (72, [some (.ref 1), some (.int (xs 1)), some (.int 4), some (.int 2), some (.int b3)], [.ref 1, .ref 2], _, _, _)) rfl ?_
      refine pe_get rfl rfl rfl (va_up_self _ _ _) (by decide) rfl ?_
      refine pm_ev_many 2 (s' := (77, [some (.ref 1), some (.int (xs 1)), some (.int 4), some (.int 2), some (.int b3)], [.int 2, .int (xs 1), .int 1, .ref 2], _, _, _)) rfl ?_
      refine pe_stat (al := [.int 2, .int (xs 1)]) (L0 := [some (.int (xs 1)), some (.int 2)]) (r1 := (some (.int b2), 129, 17845, va_up (va_up h 2 (.inl (0, 120, .inl (upd (fun _ => 0) (0 : Int32).toNatClampNeg b3)))) 1 (.inr (10, [.ref 2, .int 1, .int 0, .int 0])))) rfl rfl rfl rfl rfl rfl (Nat.le_of_ble_eq_true rfl) (Nat.le_of_ble_eq_true rfl) rfl rfl ?_ ?_
      · refine pm_ev_many 7 (s' := (10, [some (.int (xs 1)), some (.int 2)], [.int (((((xs 1)).toUInt32 >>> ((16 : Int32).toUInt32 &&& Int32.toUInt32 31)).toInt32) &&& 255)], _, _, _)) rfl ?_
        rw [hc2]
        exact pm_ev_ret rfl
      show pm_ev _ _ _ _ _ (80, [some (.ref 1), some (.int (xs 1)), some (.int 4), some (.int 2), some (.int b3)], [.int b2, .int 1, .ref 2], _, _, _) _
      refine pe_iast rfl rfl ((va_up_ne _ _ (by decide)).trans (va_up_self _ _ _)) (by decide) (by decide) ?_
      refine pm_ev_many 2 (s' := (83, [some (.ref 1), some (.int (xs 1)), some (.int 4), some (.int 2), some (.int b3)], [.ref 1, .ref 1], _, _, _)) rfl ?_
      refine pe_get rfl rfl rfl ((va_up_ne _ _ (by decide)).trans (va_up_self _ _ _)) (by decide) rfl ?_
      refine pm_ev_many 2 (s' := (88, [some (.ref 1), some (.int (xs 1)), some (.int 4), some (.int 2), some (.int b3)], [.int 2, .ref 1], _, _, _)) rfl ?_
      refine pe_put rfl rfl rfl ((va_up_ne _ _ (by decide)).trans (va_up_self _ _ _)) (by decide) (Nat.le_of_ble_eq_true rfl) rfl ?_
      show pm_ev _ _ _ _ _ (91, [some (.ref 1), some (.int (xs 1)), some (.int 4), some (.int 2), some (.int b3)], [], _, _, va_up _ 1 (.inr (10, [.ref 2, .int 2, .int 0, .int 0]))) _
      refine pm_ev_many 5 (s' := (68, [some (.ref 1), some (.int (xs 1)), some (.int 4), some (.int 1), some (.int b3)], [.ref 1], _, _, _)) rfl ?_
      refine pe_get rfl rfl rfl (va_up_self _ _ _) (by decide) rfl ?_
      refine pm_ev_many 1 (s' := (72, [some (.ref 1), some (.int (xs 1)), some (.int 4), some (.int 1), some (.int b3)], [.ref 1, .ref 2], _, _, _)) rfl ?_
      refine pe_get rfl rfl rfl (va_up_self _ _ _) (by decide) rfl ?_
      refine pm_ev_many 2 (s' := (77, [some (.ref 1), some (.int (xs 1)), some (.int 4), some (.int 1), some (.int b3)], [.int 1, .int (xs 1), .int 2, .ref 2], _, _, _)) rfl ?_
      refine pe_stat (al := [.int 1, .int (xs 1)]) (L0 := [some (.int (xs 1)), some (.int 1)]) (r1 := (some (.int b1), 129, 17845, va_up (va_up (va_up (va_up h 2 (.inl (0, 120, .inl (upd (fun _ => 0) (0 : Int32).toNatClampNeg b3)))) 1 (.inr (10, [.ref 2, .int 1, .int 0, .int 0]))) 2 (.inl (0, 120, .inl (upd (upd (fun _ => 0) (0 : Int32).toNatClampNeg b3) (1 : Int32).toNatClampNeg b2)))) 1 (.inr (10, [.ref 2, .int 2, .int 0, .int 0])))) rfl rfl rfl rfl rfl rfl (Nat.le_of_ble_eq_true rfl) (Nat.le_of_ble_eq_true rfl) rfl rfl ?_ ?_
      · refine pm_ev_many 7 (s' := (10, [some (.int (xs 1)), some (.int 1)], [.int (((((xs 1)).toUInt32 >>> ((8 : Int32).toUInt32 &&& Int32.toUInt32 31)).toInt32) &&& 255)], _, _, _)) rfl ?_
        rw [hc1]
        exact pm_ev_ret rfl
      show pm_ev _ _ _ _ _ (80, [some (.ref 1), some (.int (xs 1)), some (.int 4), some (.int 1), some (.int b3)], [.int b1, .int 2, .ref 2], _, _, _) _
      refine pe_iast rfl rfl ((va_up_ne _ _ (by decide)).trans (va_up_self _ _ _)) (by decide) (by decide) ?_
      refine pm_ev_many 2 (s' := (83, [some (.ref 1), some (.int (xs 1)), some (.int 4), some (.int 1), some (.int b3)], [.ref 1, .ref 1], _, _, _)) rfl ?_
      refine pe_get rfl rfl rfl ((va_up_ne _ _ (by decide)).trans (va_up_self _ _ _)) (by decide) rfl ?_
      refine pm_ev_many 2 (s' := (88, [some (.ref 1), some (.int (xs 1)), some (.int 4), some (.int 1), some (.int b3)], [.int 3, .ref 1], _, _, _)) rfl ?_
      refine pe_put rfl rfl rfl ((va_up_ne _ _ (by decide)).trans (va_up_self _ _ _)) (by decide) (Nat.le_of_ble_eq_true rfl) rfl ?_
      show pm_ev _ _ _ _ _ (91, [some (.ref 1), some (.int (xs 1)), some (.int 4), some (.int 1), some (.int b3)], [], _, _, va_up _ 1 (.inr (10, [.ref 2, .int 3, .int 0, .int 0]))) _
      refine pm_ev_many 5 (s' := (68, [some (.ref 1), some (.int (xs 1)), some (.int 4), some (.int 0), some (.int b3)], [.ref 1], _, _, _)) rfl ?_
      refine pe_get rfl rfl rfl (va_up_self _ _ _) (by decide) rfl ?_
      refine pm_ev_many 1 (s' := (72, [some (.ref 1), some (.int (xs 1)), some (.int 4), some (.int 0), some (.int b3)], [.ref 1, .ref 2], _, _, _)) rfl ?_
      refine pe_get rfl rfl rfl (va_up_self _ _ _) (by decide) rfl ?_
      refine pm_ev_many 2 (s' := (77, [some (.ref 1), some (.int (xs 1)), some (.int 4), some (.int 0), some (.int b3)], [.int 0, .int (xs 1), .int 3, .ref 2], _, _, _)) rfl ?_
      refine pe_stat (al := [.int 0, .int (xs 1)]) (L0 := [some (.int (xs 1)), some (.int 0)]) (r1 := (some (.int b0), 129, 17845, va_up (va_up (va_up (va_up (va_up (va_up h 2 (.inl (0, 120, .inl (upd (fun _ => 0) (0 : Int32).toNatClampNeg b3)))) 1 (.inr (10, [.ref 2, .int 1, .int 0, .int 0]))) 2 (.inl (0, 120, .inl (upd (upd (fun _ => 0) (0 : Int32).toNatClampNeg b3) (1 : Int32).toNatClampNeg b2)))) 1 (.inr (10, [.ref 2, .int 2, .int 0, .int 0]))) 2 (.inl (0, 120, .inl (upd (upd (upd (fun _ => 0) (0 : Int32).toNatClampNeg b3) (1 : Int32).toNatClampNeg b2) (2 : Int32).toNatClampNeg b1)))) 1 (.inr (10, [.ref 2, .int 3, .int 0, .int 0])))) rfl rfl rfl rfl rfl rfl (Nat.le_of_ble_eq_true rfl) (Nat.le_of_ble_eq_true rfl) rfl rfl ?_ ?_
      · refine pm_ev_many 7 (s' := (10, [some (.int (xs 1)), some (.int 0)], [.int (((((xs 1)).toUInt32 >>> ((0 : Int32).toUInt32 &&& Int32.toUInt32 31)).toInt32) &&& 255)], _, _, _)) rfl ?_
        rw [hc0]
        exact pm_ev_ret rfl
      show pm_ev _ _ _ _ _ (80, [some (.ref 1), some (.int (xs 1)), some (.int 4), some (.int 0), some (.int b3)], [.int b0, .int 3, .ref 2], _, _, _) _
      refine pe_iast rfl rfl ((va_up_ne _ _ (by decide)).trans (va_up_self _ _ _)) (by decide) (by decide) ?_
      refine pm_ev_many 2 (s' := (83, [some (.ref 1), some (.int (xs 1)), some (.int 4), some (.int 0), some (.int b3)], [.ref 1, .ref 1], _, _, _)) rfl ?_
      refine pe_get rfl rfl rfl ((va_up_ne _ _ (by decide)).trans (va_up_self _ _ _)) (by decide) rfl ?_
      refine pm_ev_many 2 (s' := (88, [some (.ref 1), some (.int (xs 1)), some (.int 4), some (.int 0), some (.int b3)], [.int 4, .ref 1], _, _, _)) rfl ?_
      refine pe_put rfl rfl rfl ((va_up_ne _ _ (by decide)).trans (va_up_self _ _ _)) (by decide) (Nat.le_of_ble_eq_true rfl) rfl ?_
      show pm_ev _ _ _ _ _ (91, [some (.ref 1), some (.int (xs 1)), some (.int 4), some (.int 0), some (.int b3)], [], _, _, va_up _ 1 (.inr (10, [.ref 2, .int 4, .int 0, .int 0]))) _
      refine pm_ev_many 5 (s' := (98, [some (.ref 1), some (.int (xs 1)), some (.int 4), some (.int (-1)), some (.int b3)], [.int 1], _, _, _)) rfl ?_
      exact pm_ev_ret rfl
    show pm_ev _ _ _ _ _ (9, [some (.ref 0), some (.int (xs 1)), some (.int 4)], [.int 1], _, _, _) _
    exact pm_ev_ret rfl
  show pm_ev _ _ _ _ _ (102, [some (.retAddr 0), some (.ref 0), some (.ref 83), some (.int 0)], [.int 1], _, _, _) _
  refine pm_ev_many 11 (s' := (113, [some (.retAddr 0), some (.ref 0), some (.ref 83), some (.int 0)], [.int (xs 2), .int (xs 1), .ref 83, .int 1], _, _, _)) rfl ?_
  rw [hn]
  refine pe_virt (al := [.int 4, .int (xs 1)]) (a := 83) (L0 := [some (.ref 83), some (.int (xs 1)), some (.int 4), none, none]) (r1 := (some (.int 1), 129, 17845, va_up (va_up (va_up (va_up (va_up (va_up (va_up (va_up (va_up (va_up (va_up (va_up (va_up (va_up (va_up (va_up h 2 (.inl (0, 120, .inl (upd (fun _ => 0) (0 : Int32).toNatClampNeg b3)))) 1 (.inr (10, [.ref 2, .int 1, .int 0, .int 0]))) 2 (.inl (0, 120, .inl (upd (upd (fun _ => 0) (0 : Int32).toNatClampNeg b3) (1 : Int32).toNatClampNeg b2)))) 1 (.inr (10, [.ref 2, .int 2, .int 0, .int 0]))) 2 (.inl (0, 120, .inl (upd (upd (upd (fun _ => 0) (0 : Int32).toNatClampNeg b3) (1 : Int32).toNatClampNeg b2) (2 : Int32).toNatClampNeg b1)))) 1 (.inr (10, [.ref 2, .int 3, .int 0, .int 0]))) 2 (.inl (0, 120, .inl (upd (upd (upd (upd (fun _ => 0) (0 : Int32).toNatClampNeg b3) (1 : Int32).toNatClampNeg b2) (2 : Int32).toNatClampNeg b1) (3 : Int32).toNatClampNeg b0)))) 1 (.inr (10, [.ref 2, .int 4, .int 0, .int 0]))) 84 (.inl (0, 120, .inl (upd (fun _ => 0) (0 : Int32).toNatClampNeg b3)))) 83 (.inr (12, [.ref 84, .int 1, .ref 85, .int 0, .int 0, .int 0, .int 0, .int 0, .int 0, .int 0, .ref 86, .ref 87, .ref 88, .ref 89, .ref 90, .ref 91, .ref 92, .ref 93, .ref 94, .ref 95, .ref 96, .ref 97, .ref 98, .ref 99, .ref 100, .ref 101, .ref 102, .int 0, .ref 103, .ref 104, .int 0, .int 0, .int 0, .int 0, .int 0, .ref 105, .ref 106, .int 0, .int 0, .ref 107, .int 0, .ref 108, .ref 109, .ref 110, .ref 111, .ref 112, .ref 113, .ref 114, .ref 115, .ref 116, .ref 117, .ref 118, .int 0, .ref 119, .ref 120, .ref 121, .int 0, .ref 122, .ref 123, .ref 124, .ref 125, .ref 126, .int 0, .ref 127, .ref 128]))) 84 (.inl (0, 120, .inl (upd (upd (fun _ => 0) (0 : Int32).toNatClampNeg b3) (1 : Int32).toNatClampNeg b2)))) 83 (.inr (12, [.ref 84, .int 2, .ref 85, .int 0, .int 0, .int 0, .int 0, .int 0, .int 0, .int 0, .ref 86, .ref 87, .ref 88, .ref 89, .ref 90, .ref 91, .ref 92, .ref 93, .ref 94, .ref 95, .ref 96, .ref 97, .ref 98, .ref 99, .ref 100, .ref 101, .ref 102, .int 0, .ref 103, .ref 104, .int 0, .int 0, .int 0, .int 0, .int 0, .ref 105, .ref 106, .int 0, .int 0, .ref 107, .int 0, .ref 108, .ref 109, .ref 110, .ref 111, .ref 112, .ref 113, .ref 114, .ref 115, .ref 116, .ref 117, .ref 118, .int 0, .ref 119, .ref 120, .ref 121, .int 0, .ref 122, .ref 123, .ref 124, .ref 125, .ref 126, .int 0, .ref 127, .ref 128]))) 84 (.inl (0, 120, .inl (upd (upd (upd (fun _ => 0) (0 : Int32).toNatClampNeg b3) (1 : Int32).toNatClampNeg b2) (2 : Int32).toNatClampNeg b1)))) 83 (.inr (12, [.ref 84, .int 3, .ref 85, .int 0, .int 0, .int 0, .int 0, .int 0, .int 0, .int 0, .ref 86, .ref 87, .ref 88, .ref 89, .ref 90, .ref 91, .ref 92, .ref 93, .ref 94, .ref 95, .ref 96, .ref 97, .ref 98, .ref 99, .ref 100, .ref 101, .ref 102, .int 0, .ref 103, .ref 104, .int 0, .int 0, .int 0, .int 0, .int 0, .ref 105, .ref 106, .int 0, .int 0, .ref 107, .int 0, .ref 108, .ref 109, .ref 110, .ref 111, .ref 112, .ref 113, .ref 114, .ref 115, .ref 116, .ref 117, .ref 118, .int 0, .ref 119, .ref 120, .ref 121, .int 0, .ref 122, .ref 123, .ref 124, .ref 125, .ref 126, .int 0, .ref 127, .ref 128]))) 84 (.inl (0, 120, .inl (upd (upd (upd (upd (fun _ => 0) (0 : Int32).toNatClampNeg b3) (1 : Int32).toNatClampNeg b2) (2 : Int32).toNatClampNeg b1) (3 : Int32).toNatClampNeg b0)))) 83 (.inr (12, [.ref 84, .int 4, .ref 85, .int 0, .int 0, .int 0, .int 0, .int 0, .int 0, .int 0, .ref 86, .ref 87, .ref 88, .ref 89, .ref 90, .ref 91, .ref 92, .ref 93, .ref 94, .ref 95, .ref 96, .ref 97, .ref 98, .ref 99, .ref 100, .ref 101, .ref 102, .int 0, .ref 103, .ref 104, .int 0, .int 0, .int 0, .int 0, .int 0, .ref 105, .ref 106, .int 0, .int 0, .ref 107, .int 0, .ref 108, .ref 109, .ref 110, .ref 111, .ref 112, .ref 113, .ref 114, .ref 115, .ref 116, .ref 117, .ref 118, .int 0, .ref 119, .ref 120, .ref 121, .int 0, .ref 122, .ref 123, .ref 124, .ref 125, .ref 126, .int 0, .ref 127, .ref 128])))) rfl rfl rfl rfl rfl ((va_up_ne _ _ (by decide)).trans ((va_up_ne _ _ (by decide)).trans ((va_up_ne _ _ (by decide)).trans ((va_up_ne _ _ (by decide)).trans ((va_up_ne _ _ (by decide)).trans ((va_up_ne _ _ (by decide)).trans ((va_up_ne _ _ (by decide)).trans ((va_up_ne _ _ (by decide)).trans f83)))))))) (by decide) rfl (Nat.le_of_ble_eq_true rfl) (Nat.le_of_ble_eq_true rfl) rfl rfl ?_ ?_
  · refine pm_ev_many 3 (s' := (3, [some (.ref 83), some (.int (xs 1)), some (.int 4), none, none], [.int 4, .int 1, .int 4], _, _, _)) rfl ?_
    refine pe_stat (al := [.int 4, .int 1, .int 4]) (L0 := [some (.int 4), some (.int 1), some (.int 4)]) (r1 := (some (.int 1), 129, 17845, va_up (va_up (va_up (va_up (va_up (va_up (va_up (va_up h 2 (.inl (0, 120, .inl (upd (fun _ => 0) (0 : Int32).toNatClampNeg b3)))) 1 (.inr (10, [.ref 2, .int 1, .int 0, .int 0]))) 2 (.inl (0, 120, .inl (upd (upd (fun _ => 0) (0 : Int32).toNatClampNeg b3) (1 : Int32).toNatClampNeg b2)))) 1 (.inr (10, [.ref 2, .int 2, .int 0, .int 0]))) 2 (.inl (0, 120, .inl (upd (upd (upd (fun _ => 0) (0 : Int32).toNatClampNeg b3) (1 : Int32).toNatClampNeg b2) (2 : Int32).toNatClampNeg b1)))) 1 (.inr (10, [.ref 2, .int 3, .int 0, .int 0]))) 2 (.inl (0, 120, .inl (upd (upd (upd (upd (fun _ => 0) (0 : Int32).toNatClampNeg b3) (1 : Int32).toNatClampNeg b2) (2 : Int32).toNatClampNeg b1) (3 : Int32).toNatClampNeg b0)))) 1 (.inr (10, [.ref 2, .int 4, .int 0, .int 0])))) rfl rfl rfl rfl rfl rfl (Nat.le_of_ble_eq_true rfl) (Nat.le_of_ble_eq_true rfl) rfl rfl ?_ ?_
    · refine pm_ev_many 8 (s' := (15, [some (.int 4), some (.int 1), some (.int 4)], [.int 1], _, _, _)) rfl ?_
      exact pm_ev_ret rfl
    show pm_ev _ _ _ _ _ (6, [some (.ref 83), some (.int (xs 1)), some (.int 4), none, none], [.int 1], _, _, _) _
    refine pm_ev_many 2 (s' := (10, [some (.ref 83), some (.int (xs 1)), some (.int 4), none, none], [.ref 83], _, _, _)) rfl ?_
    refine pe_get rfl rfl rfl ((va_up_ne _ _ (by decide)).trans ((va_up_ne _ _ (by decide)).trans ((va_up_ne _ _ (by decide)).trans ((va_up_ne _ _ (by decide)).trans ((va_up_ne _ _ (by decide)).trans ((va_up_ne _ _ (by decide)).trans ((va_up_ne _ _ (by decide)).trans ((va_up_ne _ _ (by decide)).trans f83)))))))) (by decide) rfl ?_
    refine pm_ev_many 21 (s' := (50, [some (.ref 83), some (.int (xs 1)), some (.int 4), some (.int 1), some (.int 0)], [.int (((xs 1) >>> (0 &&& 31)) &&& 255)], _, _, _)) rfl ?_
    rw [hm0]
    refine pm_ev_many 2 (s' := (54, [some (.ref 83), some (.int (xs 1)), some (.int 4), some (.int 1), some (.int 0)], [.int 126, .int 32, .int b0], _, _, _)) rfl ?_
    refine pe_stat (al := [.int 126, .int 32, .int b0]) (L0 := [some (.int b0), some (.int 32), some (.int 126)]) (r1 := (some (.int 1), 129, 17845, va_up (va_up (va_up (va_up (va_up (va_up (va_up (va_up h 2 (.inl (0, 120, .inl (upd (fun _ => 0) (0 : Int32).toNatClampNeg b3)))) 1 (.inr (10, [.ref 2, .int 1, .int 0, .int 0]))) 2 (.inl (0, 120, .inl (upd (upd (fun _ => 0) (0 : Int32).toNatClampNeg b3) (1 : Int32).toNatClampNeg b2)))) 1 (.inr (10, [.ref 2, .int 2, .int 0, .int 0]))) 2 (.inl (0, 120, .inl (upd (upd (upd (fun _ => 0) (0 : Int32).toNatClampNeg b3) (1 : Int32).toNatClampNeg b2) (2 : Int32).toNatClampNeg b1)))) 1 (.inr (10, [.ref 2, .int 3, .int 0, .int 0]))) 2 (.inl (0, 120, .inl (upd (upd (upd (upd (fun _ => 0) (0 : Int32).toNatClampNeg b3) (1 : Int32).toNatClampNeg b2) (2 : Int32).toNatClampNeg b1) (3 : Int32).toNatClampNeg b0)))) 1 (.inr (10, [.ref 2, .int 4, .int 0, .int 0])))) rfl rfl rfl rfl rfl rfl (Nat.le_of_ble_eq_true rfl) (Nat.le_of_ble_eq_true rfl) rfl rfl ?_ ?_
    · refine pm_ev_many 2 (s' := (2, [some (.int b0), some (.int 32), some (.int 126)], [.int 32, .int b0], _, _, _)) rfl ?_
      refine pm_ev_many 1 (s' := (if b0 < 32 then 14 else 5, [some (.int b0), some (.int 32), some (.int 126)], [], _, _, _)) rfl ?_
      rw [if_neg a0]
      refine pm_ev_many 2 (s' := (7, [some (.int b0), some (.int 32), some (.int 126)], [.int 126, .int b0], _, _, _)) rfl ?_
      refine pm_ev_many 1 (s' := (if 126 < b0 then 14 else 10, [some (.int b0), some (.int 32), some (.int 126)], [], _, _, _)) rfl ?_
      rw [if_neg e0]
      refine pm_ev_many 2 (s' := (15, [some (.int b0), some (.int 32), some (.int 126)], [.int 1], _, _, _)) rfl ?_
      exact pm_ev_ret rfl
    show pm_ev _ _ _ _ _ (57, [some (.ref 83), some (.int (xs 1)), some (.int 4), some (.int 1), some (.int 0)], [.int 1], _, _, _) _
    refine pm_ev_many 15 (s' := (50, [some (.ref 83), some (.int (xs 1)), some (.int 4), some (.int 1), some (.int 1)], [.int (((xs 1) >>> (8 &&& 31)) &&& 255)], _, _, _)) rfl ?_
    rw [hm1]
    refine pm_ev_many 2 (s' := (54, [some (.ref 83), some (.int (xs 1)), some (.int 4), some (.int 1), some (.int 1)], [.int 126, .int 32, .int b1], _, _, _)) rfl ?_
    refine pe_stat (al := [.int 126, .int 32, .int b1]) (L0 := [some (.int b1), some (.int 32), some (.int 126)]) (r1 := (some (.int 1), 129, 17845, va_up (va_up (va_up (va_up (va_up (va_up (va_up (va_up h 2 (.inl (0, 120, .inl (upd (fun _ => 0) (0 : Int32).toNatClampNeg b3)))) 1 (.inr (10, [.ref 2, .int 1, .int 0, .int 0]))) 2 (.inl (0, 120, .inl (upd (upd (fun _ => 0) (0 : Int32).toNatClampNeg b3) (1 : Int32).toNatClampNeg b2)))) 1 (.inr (10, [.ref 2, .int 2, .int 0, .int 0]))) 2 (.inl (0, 120, .inl (upd (upd (upd (fun _ => 0) (0 : Int32).toNatClampNeg b3) (1 : Int32).toNatClampNeg b2) (2 : Int32).toNatClampNeg b1)))) 1 (.inr (10, [.ref 2, .int 3, .int 0, .int 0]))) 2 (.inl (0, 120, .inl (upd (upd (upd (upd (fun _ => 0) (0 : Int32).toNatClampNeg b3) (1 : Int32).toNatClampNeg b2) (2 : Int32).toNatClampNeg b1) (3 : Int32).toNatClampNeg b0)))) 1 (.inr (10, [.ref 2, .int 4, .int 0, .int 0])))) rfl rfl rfl rfl rfl rfl (Nat.le_of_ble_eq_true rfl) (Nat.le_of_ble_eq_true rfl) rfl rfl ?_ ?_
    · refine pm_ev_many 2 (s' := (2, [some (.int b1), some (.int 32), some (.int 126)], [.int 32, .int b1], _, _, _)) rfl ?_
      refine pm_ev_many 1 (s' := (if b1 < 32 then 14 else 5, [some (.int b1), some (.int 32), some (.int 126)], [], _, _, _)) rfl ?_
      rw [if_neg a1]
      refine pm_ev_many 2 (s' := (7, [some (.int b1), some (.int 32), some (.int 126)], [.int 126, .int b1], _, _, _)) rfl ?_
      refine pm_ev_many 1 (s' := (if 126 < b1 then 14 else 10, [some (.int b1), some (.int 32), some (.int 126)], [], _, _, _)) rfl ?_
      rw [if_neg e1]
      refine pm_ev_many 2 (s' := (15, [some (.int b1), some (.int 32), some (.int 126)], [.int 1], _, _, _)) rfl ?_
      exact pm_ev_ret rfl
    show pm_ev _ _ _ _ _ (57, [some (.ref 83), some (.int (xs 1)), some (.int 4), some (.int 1), some (.int 1)], [.int 1], _, _, _) _
    refine pm_ev_many 15 (s' := (50, [some (.ref 83), some (.int (xs 1)), some (.int 4), some (.int 1), some (.int 2)], [.int (((xs 1) >>> (16 &&& 31)) &&& 255)], _, _, _)) rfl ?_
    rw [hm2]
    refine pm_ev_many 2 (s' := (54, [some (.ref 83), some (.int (xs 1)), some (.int 4), some (.int 1), some (.int 2)], [.int 126, .int 32, .int b2], _, _, _)) rfl ?_
    refine pe_stat (al := [.int 126, .int 32, .int b2]) (L0 := [some (.int b2), some (.int 32), some (.int 126)]) (r1 := (some (.int 1), 129, 17845, va_up (va_up (va_up (va_up (va_up (va_up (va_up (va_up h 2 (.inl (0, 120, .inl (upd (fun _ => 0) (0 : Int32).toNatClampNeg b3)))) 1 (.inr (10, [.ref 2, .int 1, .int 0, .int 0]))) 2 (.inl (0, 120, .inl (upd (upd (fun _ => 0) (0 : Int32).toNatClampNeg b3) (1 : Int32).toNatClampNeg b2)))) 1 (.inr (10, [.ref 2, .int 2, .int 0, .int 0]))) 2 (.inl (0, 120, .inl (upd (upd (upd (fun _ => 0) (0 : Int32).toNatClampNeg b3) (1 : Int32).toNatClampNeg b2) (2 : Int32).toNatClampNeg b1)))) 1 (.inr (10, [.ref 2, .int 3, .int 0, .int 0]))) 2 (.inl (0, 120, .inl (upd (upd (upd (upd (fun _ => 0) (0 : Int32).toNatClampNeg b3) (1 : Int32).toNatClampNeg b2) (2 : Int32).toNatClampNeg b1) (3 : Int32).toNatClampNeg b0)))) 1 (.inr (10, [.ref 2, .int 4, .int 0, .int 0])))) rfl rfl rfl rfl rfl rfl (Nat.le_of_ble_eq_true rfl) (Nat.le_of_ble_eq_true rfl) rfl rfl ?_ ?_
    · refine pm_ev_many 2 (s' := (2, [some (.int b2), some (.int 32), some (.int 126)], [.int 32, .int b2], _, _, _)) rfl ?_
      refine pm_ev_many 1 (s' := (if b2 < 32 then 14 else 5, [some (.int b2), some (.int 32), some (.int 126)], [], _, _, _)) rfl ?_
      rw [if_neg a2]
      refine pm_ev_many 2 (s' := (7, [some (.int b2), some (.int 32), some (.int 126)], [.int 126, .int b2], _, _, _)) rfl ?_
      refine pm_ev_many 1 (s' := (if 126 < b2 then 14 else 10, [some (.int b2), some (.int 32), some (.int 126)], [], _, _, _)) rfl ?_
      rw [if_neg e2]
      refine pm_ev_many 2 (s' := (15, [some (.int b2), some (.int 32), some (.int 126)], [.int 1], _, _, _)) rfl ?_
      exact pm_ev_ret rfl
    show pm_ev _ _ _ _ _ (57, [some (.ref 83), some (.int (xs 1)), some (.int 4), some (.int 1), some (.int 2)], [.int 1], _, _, _) _
    refine pm_ev_many 15 (s' := (50, [some (.ref 83), some (.int (xs 1)), some (.int 4), some (.int 1), some (.int 3)], [.int (((xs 1) >>> (24 &&& 31)) &&& 255)], _, _, _)) rfl ?_
    rw [hm3]
    refine pm_ev_many 2 (s' := (54, [some (.ref 83), some (.int (xs 1)), some (.int 4), some (.int 1), some (.int 3)], [.int 126, .int 32, .int b3], _, _, _)) rfl ?_
    refine pe_stat (al := [.int 126, .int 32, .int b3]) (L0 := [some (.int b3), some (.int 32), some (.int 126)]) (r1 := (some (.int 1), 129, 17845, va_up (va_up (va_up (va_up (va_up (va_up (va_up (va_up h 2 (.inl (0, 120, .inl (upd (fun _ => 0) (0 : Int32).toNatClampNeg b3)))) 1 (.inr (10, [.ref 2, .int 1, .int 0, .int 0]))) 2 (.inl (0, 120, .inl (upd (upd (fun _ => 0) (0 : Int32).toNatClampNeg b3) (1 : Int32).toNatClampNeg b2)))) 1 (.inr (10, [.ref 2, .int 2, .int 0, .int 0]))) 2 (.inl (0, 120, .inl (upd (upd (upd (fun _ => 0) (0 : Int32).toNatClampNeg b3) (1 : Int32).toNatClampNeg b2) (2 : Int32).toNatClampNeg b1)))) 1 (.inr (10, [.ref 2, .int 3, .int 0, .int 0]))) 2 (.inl (0, 120, .inl (upd (upd (upd (upd (fun _ => 0) (0 : Int32).toNatClampNeg b3) (1 : Int32).toNatClampNeg b2) (2 : Int32).toNatClampNeg b1) (3 : Int32).toNatClampNeg b0)))) 1 (.inr (10, [.ref 2, .int 4, .int 0, .int 0])))) rfl rfl rfl rfl rfl rfl (Nat.le_of_ble_eq_true rfl) (Nat.le_of_ble_eq_true rfl) rfl rfl ?_ ?_
    · refine pm_ev_many 2 (s' := (2, [some (.int b3), some (.int 32), some (.int 126)], [.int 32, .int b3], _, _, _)) rfl ?_
      refine pm_ev_many 1 (s' := (if b3 < 32 then 14 else 5, [some (.int b3), some (.int 32), some (.int 126)], [], _, _, _)) rfl ?_
      rw [if_neg a3]
      refine pm_ev_many 2 (s' := (7, [some (.int b3), some (.int 32), some (.int 126)], [.int 126, .int b3], _, _, _)) rfl ?_
      refine pm_ev_many 1 (s' := (if 126 < b3 then 14 else 10, [some (.int b3), some (.int 32), some (.int 126)], [], _, _, _)) rfl ?_
      rw [if_neg e3]
      refine pm_ev_many 2 (s' := (15, [some (.int b3), some (.int 32), some (.int 126)], [.int 1], _, _, _)) rfl ?_
      exact pm_ev_ret rfl
    show pm_ev _ _ _ _ _ (57, [some (.ref 83), some (.int (xs 1)), some (.int 4), some (.int 1), some (.int 3)], [.int 1], _, _, _) _
    refine pm_ev_many 15 (s' := (79, [some (.ref 83), some (.int (xs 1)), some (.int 4), some (.int 1), some (.int 3)], [.ref 83], _, _, _)) rfl ?_
    refine pe_get rfl rfl rfl ((va_up_ne _ _ (by decide)).trans ((va_up_ne _ _ (by decide)).trans ((va_up_ne _ _ (by decide)).trans ((va_up_ne _ _ (by decide)).trans ((va_up_ne _ _ (by decide)).trans ((va_up_ne _ _ (by decide)).trans ((va_up_ne _ _ (by decide)).trans ((va_up_ne _ _ (by decide)).trans f83)))))))) (by decide) rfl ?_
    refine pm_ev_many 1 (s' := (83, [some (.ref 83), some (.int (xs 1)), some (.int 4), some (.int 1), some (.int 3)], [.ref 83, .ref 84], _, _, _)) rfl ?_
    refine pe_get rfl rfl rfl ((va_up_ne _ _ (by decide)).trans ((va_up_ne _ _ (by decide)).trans ((va_up_ne _ _ (by decide)).trans ((va_up_ne _ _ (by decide)).trans ((va_up_ne _ _ (by decide)).trans ((va_up_ne _ _ (by decide)).trans ((va_up_ne _ _ (by decide)).trans ((va_up_ne _ _ (by decide)).trans f83)))))))) (by decide) rfl ?_
    refine pm_ev_many 7 (s' := (97, [some (.ref 83), some (.int (xs 1)), some (.int 4), some (.int 1), some (.int 3)], [.int (((xs 1) >>> (24 &&& 31)) &&& 255), .int 0, .ref 84], _, _, _)) rfl ?_
    rw [hm3]
    refine pe_iast rfl rfl ((va_up_ne _ _ (by decide)).trans ((va_up_ne _ _ (by decide)).trans ((va_up_ne _ _ (by decide)).trans ((va_up_ne _ _ (by decide)).trans ((va_up_ne _ _ (by decide)).trans ((va_up_ne _ _ (by decide)).trans ((va_up_ne _ _ (by decide)).trans ((va_up_ne _ _ (by decide)).trans f84)))))))) (by decide) (by decide) ?_
    refine pm_ev_many 2 (s' := (100, [some (.ref 83), some (.int (xs 1)), some (.int 4), some (.int 1), some (.int 3)], [.ref 83, .ref 83], _, _, _)) rfl ?_
    refine pe_get rfl rfl rfl ((va_up_ne _ _ (by decide)).trans ((va_up_ne _ _ (by decide)).trans ((va_up_ne _ _ (by decide)).trans ((va_up_ne _ _ (by decide)).trans ((va_up_ne _ _ (by decide)).trans ((va_up_ne _ _ (by decide)).trans ((va_up_ne _ _ (by decide)).trans ((va_up_ne _ _ (by decide)).trans ((va_up_ne _ _ (by decide)).trans f83))))))))) (by decide) rfl ?_
    refine pm_ev_many 2 (s' := (105, [some (.ref 83), some (.int (xs 1)), some (.int 4), some (.int 1), some (.int 3)], [.int 1, .ref 83], _, _, _)) rfl ?_
    refine pe_put rfl rfl rfl ((va_up_ne _ _ (by decide)).trans ((va_up_ne _ _ (by decide)).trans ((va_up_ne _ _ (by decide)).trans ((va_up_ne _ _ (by decide)).trans ((va_up_ne _ _ (by decide)).trans ((va_up_ne _ _ (by decide)).trans ((va_up_ne _ _ (by decide)).trans ((va_up_ne _ _ (by decide)).trans ((va_up_ne _ _ (by decide)).trans f83))))))))) (by decide) (Nat.le_of_ble_eq_true rfl) rfl ?_
    show pm_ev _ _ _ _ _ (108, [some (.ref 83), some (.int (xs 1)), some (.int 4), some (.int 1), some (.int 3)], [], _, _, va_up _ 83 (.inr (12, [.ref 84, .int 1, .ref 85, .int 0, .int 0, .int 0, .int 0, .int 0, .int 0, .int 0, .ref 86, .ref 87, .ref 88, .ref 89, .ref 90, .ref 91, .ref 92, .ref 93, .ref 94, .ref 95, .ref 96, .ref 97, .ref 98, .ref 99, .ref 100, .ref 101, .ref 102, .int 0, .ref 103, .ref 104, .int 0, .int 0, .int 0, .int 0, .int 0, .ref 105, .ref 106, .int 0, .int 0, .ref 107, .int 0, .ref 108, .ref 109, .ref 110, .ref 111, .ref 112, .ref 113, .ref 114, .ref 115, .ref 116, .ref 117, .ref 118, .int 0, .ref 119, .ref 120, .ref 121, .int 0, .ref 122, .ref 123, .ref 124, .ref 125, .ref 126, .int 0, .ref 127, .ref 128]))) _
    refine pm_ev_many 7 (s' := (79, [some (.ref 83), some (.int (xs 1)), some (.int 4), some (.int 1), some (.int 2)], [.ref 83], _, _, _)) rfl ?_
    refine pe_get rfl rfl rfl (va_up_self _ _ _) (by decide) rfl ?_
    refine pm_ev_many 1 (s' := (83, [some (.ref 83), some (.int (xs 1)), some (.int 4), some (.int 1), some (.int 2)], [.ref 83, .ref 84], _, _, _)) rfl ?_
    refine pe_get rfl rfl rfl (va_up_self _ _ _) (by decide) rfl ?_
    refine pm_ev_many 7 (s' := (97, [some (.ref 83), some (.int (xs 1)), some (.int 4), some (.int 1), some (.int 2)], [.int (((xs 1) >>> (16 &&& 31)) &&& 255), .int 1, .ref 84], _, _, _)) rfl ?_
    rw [hm2]
    refine pe_iast rfl rfl ((va_up_ne _ _ (by decide)).trans (va_up_self _ _ _)) (by decide) (by decide) ?_
    refine pm_ev_many 2 (s' := (100, [some (.ref 83), some (.int (xs 1)), some (.int 4), some (.int 1), some (.int 2)], [.ref 83, .ref 83], _, _, _)) rfl ?_
    refine pe_get rfl rfl rfl ((va_up_ne _ _ (by decide)).trans (va_up_self _ _ _)) (by decide) rfl ?_
    refine pm_ev_many 2 (s' := (105, [some (.ref 83), some (.int (xs 1)), some (.int 4), some (.int 1), some (.int 2)], [.int 2, .ref 83], _, _, _)) rfl ?_
    refine pe_put rfl rfl rfl ((va_up_ne _ _ (by decide)).trans (va_up_self _ _ _)) (by decide) (Nat.le_of_ble_eq_true rfl) rfl ?_
    show pm_ev _ _ _ _ _ (108, [some (.ref 83), some (.int (xs 1)), some (.int 4), some (.int 1), some (.int 2)], [], _, _, va_up _ 83 (.inr (12, [.ref 84, .int 2, .ref 85, .int 0, .int 0, .int 0, .int 0, .int 0, .int 0, .int 0, .ref 86, .ref 87, .ref 88, .ref 89, .ref 90, .ref 91, .ref 92, .ref 93, .ref 94, .ref 95, .ref 96, .ref 97, .ref 98, .ref 99, .ref 100, .ref 101, .ref 102, .int 0, .ref 103, .ref 104, .int 0, .int 0, .int 0, .int 0, .int 0, .ref 105, .ref 106, .int 0, .int 0, .ref 107, .int 0, .ref 108, .ref 109, .ref 110, .ref 111, .ref 112, .ref 113, .ref 114, .ref 115, .ref 116, .ref 117, .ref 118, .int 0, .ref 119, .ref 120, .ref 121, .int 0, .ref 122, .ref 123, .ref 124, .ref 125, .ref 126, .int 0, .ref 127, .ref 128]))) _
    refine pm_ev_many 7 (s' := (79, [some (.ref 83), some (.int (xs 1)), some (.int 4), some (.int 1), some (.int 1)], [.ref 83], _, _, _)) rfl ?_
    refine pe_get rfl rfl rfl (va_up_self _ _ _) (by decide) rfl ?_
    refine pm_ev_many 1 (s' := (83, [some (.ref 83), some (.int (xs 1)), some (.int 4), some (.int 1), some (.int 1)], [.ref 83, .ref 84], _, _, _)) rfl ?_
    refine pe_get rfl rfl rfl (va_up_self _ _ _) (by decide) rfl ?_
    refine pm_ev_many 7 (s' := (97, [some (.ref 83), some (.int (xs 1)), some (.int 4), some (.int 1), some (.int 1)], [.int (((xs 1) >>> (8 &&& 31)) &&& 255), .int 2, .ref 84], _, _, _)) rfl ?_
    rw [hm1]
    refine pe_iast rfl rfl ((va_up_ne _ _ (by decide)).trans (va_up_self _ _ _)) (by decide) (by decide) ?_
    refine pm_ev_many 2 (s' := (100, [some (.ref 83), some (.int (xs 1)), some (.int 4), some (.int 1), some (.int 1)], [.ref 83, .ref 83], _, _, _)) rfl ?_
    refine pe_get rfl rfl rfl ((va_up_ne _ _ (by decide)).trans (va_up_self _ _ _)) (by decide) rfl ?_
    refine pm_ev_many 2 (s' := (105, [some (.ref 83), some (.int (xs 1)), some (.int 4), some (.int 1), some (.int 1)], [.int 3, .ref 83], _, _, _)) rfl ?_
    refine pe_put rfl rfl rfl ((va_up_ne _ _ (by decide)).trans (va_up_self _ _ _)) (by decide) (Nat.le_of_ble_eq_true rfl) rfl ?_
    show pm_ev _ _ _ _ _ (108, [some (.ref 83), some (.int (xs 1)), some (.int 4), some (.int 1), some (.int 1)], [], _, _, va_up _ 83 (.inr (12, [.ref 84, .int 3, .ref 85, .int 0, .int 0, .int 0, .int 0, .int 0, .int 0, .int 0, .ref 86, .ref 87, .ref 88, .ref 89, .ref 90, .ref 91, .ref 92, .ref 93, .ref 94, .ref 95, .ref 96, .ref 97, .ref 98, .ref 99, .ref 100, .ref 101, .ref 102, .int 0, .ref 103, .ref 104, .int 0, .int 0, .int 0, .int 0, .int 0, .ref 105, .ref 106, .int 0, .int 0, .ref 107, .int 0, .ref 108, .ref 109, .ref 110, .ref 111, .ref 112, .ref 113, .ref 114, .ref 115, .ref 116, .ref 117, .ref 118, .int 0, .ref 119, .ref 120, .ref 121, .int 0, .ref 122, .ref 123, .ref 124, .ref 125, .ref 126, .int 0, .ref 127, .ref 128]))) _
    refine pm_ev_many 7 (s' := (79, [some (.ref 83), some (.int (xs 1)), some (.int 4), some (.int 1), some (.int 0)], [.ref 83], _, _, _)) rfl ?_
    refine pe_get rfl rfl rfl (va_up_self _ _ _) (by decide) rfl ?_
    refine pm_ev_many 1 (s' := (83, [some (.ref 83), some (.int (xs 1)), some (.int 4), some (.int 1), some (.int 0)], [.ref 83, .ref 84], _, _, _)) rfl ?_
    refine pe_get rfl rfl rfl (va_up_self _ _ _) (by decide) rfl ?_
    refine pm_ev_many 7 (s' := (97, [some (.ref 83), some (.int (xs 1)), some (.int 4), some (.int 1), some (.int 0)], [.int (((xs 1) >>> (0 &&& 31)) &&& 255), .int 3, .ref 84], _, _, _)) rfl ?_
    rw [hm0]
    refine pe_iast rfl rfl ((va_up_ne _ _ (by decide)).trans (va_up_self _ _ _)) (by decide) (by decide) ?_
    refine pm_ev_many 2 (s' := (100, [some (.ref 83), some (.int (xs 1)), some (.int 4), some (.int 1), some (.int 0)], [.ref 83, .ref 83], _, _, _)) rfl ?_
    refine pe_get rfl rfl rfl ((va_up_ne _ _ (by decide)).trans (va_up_self _ _ _)) (by decide) rfl ?_
    refine pm_ev_many 2 (s' := (105, [some (.ref 83), some (.int (xs 1)), some (.int 4), some (.int 1), some (.int 0)], [.int 4, .ref 83], _, _, _)) rfl ?_
    refine pe_put rfl rfl rfl ((va_up_ne _ _ (by decide)).trans (va_up_self _ _ _)) (by decide) (Nat.le_of_ble_eq_true rfl) rfl ?_
    show pm_ev _ _ _ _ _ (108, [some (.ref 83), some (.int (xs 1)), some (.int 4), some (.int 1), some (.int 0)], [], _, _, va_up _ 83 (.inr (12, [.ref 84, .int 4, .ref 85, .int 0, .int 0, .int 0, .int 0, .int 0, .int 0, .int 0, .ref 86, .ref 87, .ref 88, .ref 89, .ref 90, .ref 91, .ref 92, .ref 93, .ref 94, .ref 95, .ref 96, .ref 97, .ref 98, .ref 99, .ref 100, .ref 101, .ref 102, .int 0, .ref 103, .ref 104, .int 0, .int 0, .int 0, .int 0, .int 0, .ref 105, .ref 106, .int 0, .int 0, .ref 107, .int 0, .ref 108, .ref 109, .ref 110, .ref 111, .ref 112, .ref 113, .ref 114, .ref 115, .ref 116, .ref 117, .ref 118, .int 0, .ref 119, .ref 120, .ref 121, .int 0, .ref 122, .ref 123, .ref 124, .ref 125, .ref 126, .int 0, .ref 127, .ref 128]))) _
    refine pm_ev_many 5 (s' := (115, [some (.ref 83), some (.int (xs 1)), some (.int 4), some (.int 1), some (.int (-1))], [.int 1], _, _, _)) rfl ?_
    exact pm_ev_ret rfl
  show pm_ev _ _ _ _ _ (116, [some (.retAddr 0), some (.ref 0), some (.ref 83), some (.int 0)], [.int 1, .int 1], _, _, _) _
  refine pm_ev_many 10 (s' := (295, [some (.retAddr 0), some (.ref 0), some (.ref 83), some (.int 3)], [.int 1], _, _, _)) rfl ?_
  exact pm_ev_ret rfl
