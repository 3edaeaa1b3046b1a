/-! The law's loop; written by program. -/
theorem pe_sald {T : pm_T} {d y : Nat} {r : pm_Rs} {nm : MethodName} {bs : ByteArray} {mL : Nat} {rt : Option FieldType} {o : Nat} {ini : Bool} {ft : Nat → Option (Instr × Nat × Int32)} {pc tgt N S n : Nat} {cv : Int32} {L : List (Option Value)} {rest : List Value} {h : Nat → va_E} {j : Int32} {f : Nat → Int32}
    (hM : T.1 y = some (nm, bs, mL, rt, o, ini, ft)) (hf : ft pc = some (.iaload, tgt, cv)) (hj : ¬ (j < 0 ∨ n ≤ j.toNatClampNeg))
    (kk : pm_ev T (some (n, f)) d y true (pc + 1, L, .int (f j.toNatClampNeg) :: rest, N, S, h) r) : pm_ev T (some (n, f)) d y true (pc, L, .int j :: .retAddr 0 :: rest, N, S, h) r := by
  refine pe_step hM hf rfl rfl ?_ kk
  unfold pm_sim
  dsimp only
  exact if_neg hj
theorem nI_3 (i k : Nat) : nI i + nI k = nI (i + k) := nI_add i k
set_option maxRecDepth 100000 in
set_option maxHeartbeats 4000000 in
theorem law_c0 (L : Nat) (xs : Nat → Int32) (e i : Nat) (he : 60 ≤ e) (hi : i + 3 ≤ L) (hL : L ≤ 1536) (M M1 M2 : Mem) (R : Int32) (n1 n2 : Nat) (h1 : F1 n1 (xs (i + 1)) (xs (i + 2)) M = some (R, M1)) (h2 : F20 n2 (xs (i + 1)) (xs (i + 2)) M1 = some (R, M2)) {r : pm_Rs}
    (kk : pm_ev pmT (some (L, xs)) e 214 true (18, [some (.retAddr 0), some (.ref 0), some (.ref 83), some (.int (nI (i + 3)))], [], 129, 17845, hp M2) r) : pm_ev pmT (some (L, xs)) e 214 true (88, [some (.retAddr 0), some (.ref 0), some (.ref 83), some (.int (nI i))], [], 129, 17845, hp M) r := by
  obtain ⟨e1, rfl⟩ : ∃ e1, e = e1 + 1 := ⟨e - 1, by omega⟩
  refine pe_blk mm_214 1 (s' := (89, [some (.retAddr 0), some (.ref 0), some (.ref 83), some (.int (nI i))], [.ref 0], _, _, _)) rfl ?_
  refine pe_blk mm_214 4 (s' := (93, [some (.retAddr 0), some (.ref 0), some (.ref 83), some (.int (nI i))], [.int (nI i + nI 1), .retAddr 0, .ref 0], _, _, _)) rfl ?_
  rw [nI_3 i 1]
  refine pe_sald mm_214 rfl (nI_in (by omega) (by omega)) ?_
  rw [nI_clamp (by omega)]
  show pm_ev _ _ _ _ _ (94, [some (.retAddr 0), some (.ref 0), some (.ref 83), some (.int (nI i))], [.int (xs (i + 1)), .ref 0], _, _, _) _
  refine pe_blk mm_214 4 (s' := (98, [some (.retAddr 0), some (.ref 0), some (.ref 83), some (.int (nI i))], [.int (nI i + nI 2), .retAddr 0, .int (xs (i + 1)), .ref 0], _, _, _)) rfl ?_
  rw [nI_3 i 2]
  refine pe_sald mm_214 rfl (nI_in (by omega) (by omega)) ?_
  rw [nI_clamp (by omega)]
  show pm_ev _ _ _ _ _ (99, [some (.retAddr 0), some (.ref 0), some (.ref 83), some (.int (nI i))], [.int (xs (i + 2)), .int (xs (i + 1)), .ref 0], _, _, _) _
  refine pe_virt (al := [.int (xs (i + 2)), .int (xs (i + 1))]) (a := 0) (L0 := [some (.ref 0), some (.int (xs (i + 1))), some (.int (xs (i + 2)))]) (r1 := (some (.int R), 129, 17845, hp M1)) mm_214 rfl rfl rfl mm_1 rfl (by decide) (by decide) rfl (Nat.le_of_ble_eq_true rfl) (Nat.le_of_ble_eq_true rfl) rfl rfl (F1_ev (some (L, xs)) _ (xs (i + 1)) (xs (i + 2)) _ e1 (by omega) _ _ h1) ?_
  show pm_ev _ _ _ _ _ (102, [some (.retAddr 0), some (.ref 0), some (.ref 83), some (.int (nI i))], [.int R], _, _, _) _
  refine pe_blk mm_214 1 (s' := (103, [some (.retAddr 0), some (.ref 0), some (.ref 83), some (.int (nI i))], [.ref 83, .int R], _, _, _)) rfl ?_
  refine pe_blk mm_214 4 (s' := (107, [some (.retAddr 0), some (.ref 0), some (.ref 83), some (.int (nI i))], [.int (nI i + nI 1), .retAddr 0, .ref 83, .int R], _, _, _)) rfl ?_
  rw [nI_3 i 1]
  refine pe_sald mm_214 rfl (nI_in (by omega) (by omega)) ?_
  rw [nI_clamp (by omega)]
  show pm_ev _ _ _ _ _ (108, [some (.retAddr 0), some (.ref 0), some (.ref 83), some (.int (nI i))], [.int (xs (i + 1)), .ref 83, .int R], _, _, _) _
  refine pe_blk mm_214 4 (s' := (112, [some (.retAddr 0), some (.ref 0), some (.ref 83), some (.int (nI i))], [.int (nI i + nI 2), .retAddr 0, .int (xs (i + 1)), .ref 83, .int R], _, _, _)) rfl ?_
  rw [nI_3 i 2]
  refine pe_sald mm_214 rfl (nI_in (by omega) (by omega)) ?_
  rw [nI_clamp (by omega)]
  show pm_ev _ _ _ _ _ (113, [some (.retAddr 0), some (.ref 0), some (.ref 83), some (.int (nI i))], [.int (xs (i + 2)), .int (xs (i + 1)), .ref 83, .int R], _, _, _) _
  refine pe_virt (al := [.int (xs (i + 2)), .int (xs (i + 1))]) (a := 83) (L0 := [some (.ref 83), some (.int (xs (i + 1))), some (.int (xs (i + 2))), none, none]) (r1 := (some (.int R), 129, 17845, hp M2)) mm_214 rfl rfl rfl mm_20 rfl (by decide) (by decide) rfl (Nat.le_of_ble_eq_true rfl) (Nat.le_of_ble_eq_true rfl) rfl rfl (F20_ev (some (L, xs)) _ (xs (i + 1)) (xs (i + 2)) _ e1 (by omega) _ _ h2) ?_
  show pm_ev _ _ _ _ _ (116, [some (.retAddr 0), some (.ref 0), some (.ref 83), some (.int (nI i))], [.int R, .int R], _, _, _) _
  refine pe_blk mm_214 1 (s' := (if R = R then 288 else 119, [some (.retAddr 0), some (.ref 0), some (.ref 83), some (.int (nI i))], [], _, _, _)) rfl ?_
  rw [if_pos rfl]
  refine pe_blk mm_214 2 (s' := (18, [some (.retAddr 0), some (.ref 0), some (.ref 83), some (.int (nI i + nI 3))], [], _, _, _)) rfl ?_
  rw [nI_3 i 3]
  exact kk
set_option maxRecDepth 100000 in
set_option maxHeartbeats 4000000 in
theorem law_c1 (L : Nat) (xs : Nat → Int32) (e i : Nat) (he : 60 ≤ e) (hi : i + 3 ≤ L) (hL : L ≤ 1536) (M M1 M2 : Mem) (R : Int32) (n1 n2 : Nat) (h1 : F2 n1  M = some (R, M1)) (h2 : F58 n2  M1 = some (R, M2)) {r : pm_Rs}
    (kk : pm_ev pmT (some (L, xs)) e 214 true (18, [some (.retAddr 0), some (.ref 0), some (.ref 83), some (.int (nI (i + 3)))], [], 129, 17845, hp M2) r) : pm_ev pmT (some (L, xs)) e 214 true (121, [some (.retAddr 0), some (.ref 0), some (.ref 83), some (.int (nI i))], [], 129, 17845, hp M) r := by
  obtain ⟨e1, rfl⟩ : ∃ e1, e = e1 + 1 := ⟨e - 1, by omega⟩
  refine pe_blk mm_214 1 (s' := (122, [some (.retAddr 0), some (.ref 0), some (.ref 83), some (.int (nI i))], [.ref 0], _, _, _)) rfl ?_
  refine pe_virt (al := []) (a := 0) (L0 := [some (.ref 0), none, none, none]) (r1 := (some (.int R), 129, 17845, hp M1)) mm_214 rfl rfl rfl mm_2 rfl (by decide) (by decide) rfl (Nat.le_of_ble_eq_true rfl) (Nat.le_of_ble_eq_true rfl) rfl rfl (F2_ev (some (L, xs)) _  _ e1 (by omega) _ _ h1) ?_
  show pm_ev _ _ _ _ _ (125, [some (.retAddr 0), some (.ref 0), some (.ref 83), some (.int (nI i))], [.int R], _, _, _) _
  refine pe_blk mm_214 1 (s' := (126, [some (.retAddr 0), some (.ref 0), some (.ref 83), some (.int (nI i))], [.ref 83, .int R], _, _, _)) rfl ?_
  refine pe_virt (al := []) (a := 83) (L0 := [some (.ref 83), none, none, none]) (r1 := (some (.int R), 129, 17845, hp M2)) mm_214 rfl rfl rfl mm_58 rfl (by decide) (by decide) rfl (Nat.le_of_ble_eq_true rfl) (Nat.le_of_ble_eq_true rfl) rfl rfl (F58_ev (some (L, xs)) _  _ e1 (by omega) _ _ h2) ?_
  show pm_ev _ _ _ _ _ (129, [some (.retAddr 0), some (.ref 0), some (.ref 83), some (.int (nI i))], [.int R, .int R], _, _, _) _
  refine pe_blk mm_214 1 (s' := (if R = R then 288 else 132, [some (.retAddr 0), some (.ref 0), some (.ref 83), some (.int (nI i))], [], _, _, _)) rfl ?_
  rw [if_pos rfl]
  refine pe_blk mm_214 2 (s' := (18, [some (.retAddr 0), some (.ref 0), some (.ref 83), some (.int (nI i + nI 3))], [], _, _, _)) rfl ?_
  rw [nI_3 i 3]
  exact kk
set_option maxRecDepth 100000 in
set_option maxHeartbeats 4000000 in
theorem law_c2 (L : Nat) (xs : Nat → Int32) (e i : Nat) (he : 60 ≤ e) (hi : i + 3 ≤ L) (hL : L ≤ 1536) (M M1 M2 : Mem) (R : Int32) (n1 n2 : Nat) (h1 : F3 n1  M = some (R, M1)) (h2 : F82 n2  M1 = some (R, M2)) {r : pm_Rs}
    (kk : pm_ev pmT (some (L, xs)) e 214 true (18, [some (.retAddr 0), some (.ref 0), some (.ref 83), some (.int (nI (i + 3)))], [], 129, 17845, hp M2) r) : pm_ev pmT (some (L, xs)) e 214 true (134, [some (.retAddr 0), some (.ref 0), some (.ref 83), some (.int (nI i))], [], 129, 17845, hp M) r := by
  obtain ⟨e1, rfl⟩ : ∃ e1, e = e1 + 1 := ⟨e - 1, by omega⟩
  refine pe_blk mm_214 1 (s' := (135, [some (.retAddr 0), some (.ref 0), some (.ref 83), some (.int (nI i))], [.ref 0], _, _, _)) rfl ?_
  refine pe_virt (al := []) (a := 0) (L0 := [some (.ref 0), none]) (r1 := (some (.int R), 129, 17845, hp M1)) mm_214 rfl rfl rfl mm_3 rfl (by decide) (by decide) rfl (Nat.le_of_ble_eq_true rfl) (Nat.le_of_ble_eq_true rfl) rfl rfl (F3_ev (some (L, xs)) _  _ e1 (by omega) _ _ h1) ?_
  show pm_ev _ _ _ _ _ (138, [some (.retAddr 0), some (.ref 0), some (.ref 83), some (.int (nI i))], [.int R], _, _, _) _
  refine pe_blk mm_214 1 (s' := (139, [some (.retAddr 0), some (.ref 0), some (.ref 83), some (.int (nI i))], [.ref 83, .int R], _, _, _)) rfl ?_
  refine pe_virt (al := []) (a := 83) (L0 := [some (.ref 83), none, none]) (r1 := (some (.int R), 129, 17845, hp M2)) mm_214 rfl rfl rfl mm_82 rfl (by decide) (by decide) rfl (Nat.le_of_ble_eq_true rfl) (Nat.le_of_ble_eq_true rfl) rfl rfl (F82_ev (some (L, xs)) _  _ e1 (by omega) _ _ h2) ?_
  show pm_ev _ _ _ _ _ (142, [some (.retAddr 0), some (.ref 0), some (.ref 83), some (.int (nI i))], [.int R, .int R], _, _, _) _
  refine pe_blk mm_214 1 (s' := (if R = R then 288 else 145, [some (.retAddr 0), some (.ref 0), some (.ref 83), some (.int (nI i))], [], _, _, _)) rfl ?_
  rw [if_pos rfl]
  refine pe_blk mm_214 2 (s' := (18, [some (.retAddr 0), some (.ref 0), some (.ref 83), some (.int (nI i + nI 3))], [], _, _, _)) rfl ?_
  rw [nI_3 i 3]
  exact kk
set_option maxRecDepth 100000 in
set_option maxHeartbeats 4000000 in
theorem law_c3 (L : Nat) (xs : Nat → Int32) (e i : Nat) (he : 60 ≤ e) (hi : i + 3 ≤ L) (hL : L ≤ 1536) (M M1 M2 : Mem) (R : Int32) (n1 n2 : Nat) (h1 : F4 n1  M = some (R, M1)) (h2 : F59 n2  M1 = some (R, M2)) {r : pm_Rs}
    (kk : pm_ev pmT (some (L, xs)) e 214 true (18, [some (.retAddr 0), some (.ref 0), some (.ref 83), some (.int (nI (i + 3)))], [], 129, 17845, hp M2) r) : pm_ev pmT (some (L, xs)) e 214 true (147, [some (.retAddr 0), some (.ref 0), some (.ref 83), some (.int (nI i))], [], 129, 17845, hp M) r := by
  obtain ⟨e1, rfl⟩ : ∃ e1, e = e1 + 1 := ⟨e - 1, by omega⟩
  refine pe_blk mm_214 1 (s' := (148, [some (.retAddr 0), some (.ref 0), some (.ref 83), some (.int (nI i))], [.ref 0], _, _, _)) rfl ?_
  refine pe_virt (al := []) (a := 0) (L0 := [some (.ref 0)]) (r1 := (some (.int R), 129, 17845, hp M1)) mm_214 rfl rfl rfl mm_4 rfl (by decide) (by decide) rfl (Nat.le_of_ble_eq_true rfl) (Nat.le_of_ble_eq_true rfl) rfl rfl (F4_ev (some (L, xs)) _  _ e1 (by omega) _ _ h1) ?_
  show pm_ev _ _ _ _ _ (151, [some (.retAddr 0), some (.ref 0), some (.ref 83), some (.int (nI i))], [.int R], _, _, _) _
  refine pe_blk mm_214 1 (s' := (152, [some (.retAddr 0), some (.ref 0), some (.ref 83), some (.int (nI i))], [.ref 83, .int R], _, _, _)) rfl ?_
  refine pe_virt (al := []) (a := 83) (L0 := [some (.ref 83)]) (r1 := (some (.int R), 129, 17845, hp M2)) mm_214 rfl rfl rfl mm_59 rfl (by decide) (by decide) rfl (Nat.le_of_ble_eq_true rfl) (Nat.le_of_ble_eq_true rfl) rfl rfl (F59_ev (some (L, xs)) _  _ e1 (by omega) _ _ h2) ?_
  show pm_ev _ _ _ _ _ (155, [some (.retAddr 0), some (.ref 0), some (.ref 83), some (.int (nI i))], [.int R, .int R], _, _, _) _
  refine pe_blk mm_214 1 (s' := (if R = R then 288 else 158, [some (.retAddr 0), some (.ref 0), some (.ref 83), some (.int (nI i))], [], _, _, _)) rfl ?_
  rw [if_pos rfl]
  refine pe_blk mm_214 2 (s' := (18, [some (.retAddr 0), some (.ref 0), some (.ref 83), some (.int (nI i + nI 3))], [], _, _, _)) rfl ?_
  rw [nI_3 i 3]
  exact kk
set_option maxRecDepth 100000 in
set_option maxHeartbeats 4000000 in
theorem law_c4 (L : Nat) (xs : Nat → Int32) (e i : Nat) (he : 60 ≤ e) (hi : i + 3 ≤ L) (hL : L ≤ 1536) (M M1 M2 : Mem) (R : Int32) (n1 n2 : Nat) (h1 : F5 n1 (xs (i + 1)) M = some (R, M1)) (h2 : F60 n2 (xs (i + 1)) M1 = some (R, M2)) {r : pm_Rs}
    (kk : pm_ev pmT (some (L, xs)) e 214 true (18, [some (.retAddr 0), some (.ref 0), some (.ref 83), some (.int (nI (i + 3)))], [], 129, 17845, hp M2) r) : pm_ev pmT (some (L, xs)) e 214 true (160, [some (.retAddr 0), some (.ref 0), some (.ref 83), some (.int (nI i))], [], 129, 17845, hp M) r := by
  obtain ⟨e1, rfl⟩ : ∃ e1, e = e1 + 1 := ⟨e - 1, by omega⟩
  refine pe_blk mm_214 1 (s' := (161, [some (.retAddr 0), some (.ref 0), some (.ref 83), some (.int (nI i))], [.ref 0], _, _, _)) rfl ?_
  refine pe_blk mm_214 4 (s' := (165, [some (.retAddr 0), some (.ref 0), some (.ref 83), some (.int (nI i))], [.int (nI i + nI 1), .retAddr 0, .ref 0], _, _, _)) rfl ?_
  rw [nI_3 i 1]
  refine pe_sald mm_214 rfl (nI_in (by omega) (by omega)) ?_
  rw [nI_clamp (by omega)]
  show pm_ev _ _ _ _ _ (166, [some (.retAddr 0), some (.ref 0), some (.ref 83), some (.int (nI i))], [.int (xs (i + 1)), .ref 0], _, _, _) _
  refine pe_virt (al := [.int (xs (i + 1))]) (a := 0) (L0 := [some (.ref 0), some (.int (xs (i + 1)))]) (r1 := (some (.int R), 129, 17845, hp M1)) mm_214 rfl rfl rfl mm_5 rfl (by decide) (by decide) rfl (Nat.le_of_ble_eq_true rfl) (Nat.le_of_ble_eq_true rfl) rfl rfl (F5_ev (some (L, xs)) _ (xs (i + 1)) _ e1 (by omega) _ _ h1) ?_
  show pm_ev _ _ _ _ _ (169, [some (.retAddr 0), some (.ref 0), some (.ref 83), some (.int (nI i))], [.int R], _, _, _) _
  refine pe_blk mm_214 1 (s' := (170, [some (.retAddr 0), some (.ref 0), some (.ref 83), some (.int (nI i))], [.ref 83, .int R], _, _, _)) rfl ?_
  refine pe_blk mm_214 4 (s' := (174, [some (.retAddr 0), some (.ref 0), some (.ref 83), some (.int (nI i))], [.int (nI i + nI 1), .retAddr 0, .ref 83, .int R], _, _, _)) rfl ?_
  rw [nI_3 i 1]
  refine pe_sald mm_214 rfl (nI_in (by omega) (by omega)) ?_
  rw [nI_clamp (by omega)]
  show pm_ev _ _ _ _ _ (175, [some (.retAddr 0), some (.ref 0), some (.ref 83), some (.int (nI i))], [.int (xs (i + 1)), .ref 83, .int R], _, _, _) _
  refine pe_virt (al := [.int (xs (i + 1))]) (a := 83) (L0 := [some (.ref 83), some (.int (xs (i + 1)))]) (r1 := (some (.int R), 129, 17845, hp M2)) mm_214 rfl rfl rfl mm_60 rfl (by decide) (by decide) rfl (Nat.le_of_ble_eq_true rfl) (Nat.le_of_ble_eq_true rfl) rfl rfl (F60_ev (some (L, xs)) _ (xs (i + 1)) _ e1 (by omega) _ _ h2) ?_
  show pm_ev _ _ _ _ _ (178, [some (.retAddr 0), some (.ref 0), some (.ref 83), some (.int (nI i))], [.int R, .int R], _, _, _) _
  refine pe_blk mm_214 1 (s' := (if R = R then 288 else 181, [some (.retAddr 0), some (.ref 0), some (.ref 83), some (.int (nI i))], [], _, _, _)) rfl ?_
  rw [if_pos rfl]
  refine pe_blk mm_214 2 (s' := (18, [some (.retAddr 0), some (.ref 0), some (.ref 83), some (.int (nI i + nI 3))], [], _, _, _)) rfl ?_
  rw [nI_3 i 3]
  exact kk
set_option maxRecDepth 100000 in
set_option maxHeartbeats 4000000 in
theorem law_c5 (L : Nat) (xs : Nat → Int32) (e i : Nat) (he : 60 ≤ e) (hi : i + 3 ≤ L) (hL : L ≤ 1536) (M M1 M2 : Mem) (R : Int32) (n1 n2 : Nat) (h1 : F6 n1 (xs (i + 1)) M = some (R, M1)) (h2 : F83 n2 (xs (i + 1)) M1 = some (R, M2)) {r : pm_Rs}
    (kk : pm_ev pmT (some (L, xs)) e 214 true (18, [some (.retAddr 0), some (.ref 0), some (.ref 83), some (.int (nI (i + 3)))], [], 129, 17845, hp M2) r) : pm_ev pmT (some (L, xs)) e 214 true (183, [some (.retAddr 0), some (.ref 0), some (.ref 83), some (.int (nI i))], [], 129, 17845, hp M) r := by
  obtain ⟨e1, rfl⟩ : ∃ e1, e = e1 + 1 := ⟨e - 1, by omega⟩
  refine pe_blk mm_214 1 (s' := (184, [some (.retAddr 0), some (.ref 0), some (.ref 83), some (.int (nI i))], [.ref 0], _, _, _)) rfl ?_
  refine pe_blk mm_214 4 (s' := (188, [some (.retAddr 0), some (.ref 0), some (.ref 83), some (.int (nI i))], [.int (nI i + nI 1), .retAddr 0, .ref 0], _, _, _)) rfl ?_
  rw [nI_3 i 1]
  refine pe_sald mm_214 rfl (nI_in (by omega) (by omega)) ?_
  rw [nI_clamp (by omega)]
  show pm_ev _ _ _ _ _ (189, [some (.retAddr 0), some (.ref 0), some (.ref 83), some (.int (nI i))], [.int (xs (i + 1)), .ref 0], _, _, _) _
  refine pe_virt (al := [.int (xs (i + 1))]) (a := 0) (L0 := [some (.ref 0), some (.int (xs (i + 1)))]) (r1 := (some (.int R), 129, 17845, hp M1)) mm_214 rfl rfl rfl mm_6 rfl (by decide) (by decide) rfl (Nat.le_of_ble_eq_true rfl) (Nat.le_of_ble_eq_true rfl) rfl rfl (F6_ev (some (L, xs)) _ (xs (i + 1)) _ e1 (by omega) _ _ h1) ?_
  show pm_ev _ _ _ _ _ (192, [some (.retAddr 0), some (.ref 0), some (.ref 83), some (.int (nI i))], [.int R], _, _, _) _
  refine pe_blk mm_214 1 (s' := (193, [some (.retAddr 0), some (.ref 0), some (.ref 83), some (.int (nI i))], [.ref 83, .int R], _, _, _)) rfl ?_
  refine pe_blk mm_214 4 (s' := (197, [some (.retAddr 0), some (.ref 0), some (.ref 83), some (.int (nI i))], [.int (nI i + nI 1), .retAddr 0, .ref 83, .int R], _, _, _)) rfl ?_
  rw [nI_3 i 1]
  refine pe_sald mm_214 rfl (nI_in (by omega) (by omega)) ?_
  rw [nI_clamp (by omega)]
  show pm_ev _ _ _ _ _ (198, [some (.retAddr 0), some (.ref 0), some (.ref 83), some (.int (nI i))], [.int (xs (i + 1)), .ref 83, .int R], _, _, _) _
  refine pe_virt (al := [.int (xs (i + 1))]) (a := 83) (L0 := [some (.ref 83), some (.int (xs (i + 1)))]) (r1 := (some (.int R), 129, 17845, hp M2)) mm_214 rfl rfl rfl mm_83 rfl (by decide) (by decide) rfl (Nat.le_of_ble_eq_true rfl) (Nat.le_of_ble_eq_true rfl) rfl rfl (F83_ev (some (L, xs)) _ (xs (i + 1)) _ e1 (by omega) _ _ h2) ?_
  show pm_ev _ _ _ _ _ (201, [some (.retAddr 0), some (.ref 0), some (.ref 83), some (.int (nI i))], [.int R, .int R], _, _, _) _
  refine pe_blk mm_214 1 (s' := (if R = R then 288 else 204, [some (.retAddr 0), some (.ref 0), some (.ref 83), some (.int (nI i))], [], _, _, _)) rfl ?_
  rw [if_pos rfl]
  refine pe_blk mm_214 2 (s' := (18, [some (.retAddr 0), some (.ref 0), some (.ref 83), some (.int (nI i + nI 3))], [], _, _, _)) rfl ?_
  rw [nI_3 i 3]
  exact kk
set_option maxRecDepth 100000 in
set_option maxHeartbeats 4000000 in
theorem law_c6 (L : Nat) (xs : Nat → Int32) (e i : Nat) (he : 60 ≤ e) (hi : i + 3 ≤ L) (hL : L ≤ 1536) (M M1 M2 : Mem) (R : Int32) (n1 n2 : Nat) (h1 : F7 n1 (xs (i + 1)) M = some (R, M1)) (h2 : F84 n2 (xs (i + 1)) M1 = some (R, M2)) {r : pm_Rs}
    (kk : pm_ev pmT (some (L, xs)) e 214 true (18, [some (.retAddr 0), some (.ref 0), some (.ref 83), some (.int (nI (i + 3)))], [], 129, 17845, hp M2) r) : pm_ev pmT (some (L, xs)) e 214 true (206, [some (.retAddr 0), some (.ref 0), some (.ref 83), some (.int (nI i))], [], 129, 17845, hp M) r := by
  obtain ⟨e1, rfl⟩ : ∃ e1, e = e1 + 1 := ⟨e - 1, by omega⟩
  refine pe_blk mm_214 1 (s' := (207, [some (.retAddr 0), some (.ref 0), some (.ref 83), some (.int (nI i))], [.ref 0], _, _, _)) rfl ?_
  refine pe_blk mm_214 4 (s' := (211, [some (.retAddr 0), some (.ref 0), some (.ref 83), some (.int (nI i))], [.int (nI i + nI 1), .retAddr 0, .ref 0], _, _, _)) rfl ?_
  rw [nI_3 i 1]
  refine pe_sald mm_214 rfl (nI_in (by omega) (by omega)) ?_
  rw [nI_clamp (by omega)]
  show pm_ev _ _ _ _ _ (212, [some (.retAddr 0), some (.ref 0), some (.ref 83), some (.int (nI i))], [.int (xs (i + 1)), .ref 0], _, _, _) _
  refine pe_virt (al := [.int (xs (i + 1))]) (a := 0) (L0 := [some (.ref 0), some (.int (xs (i + 1)))]) (r1 := (some (.int R), 129, 17845, hp M1)) mm_214 rfl rfl rfl mm_7 rfl (by decide) (by decide) rfl (Nat.le_of_ble_eq_true rfl) (Nat.le_of_ble_eq_true rfl) rfl rfl (F7_ev (some (L, xs)) _ (xs (i + 1)) _ e1 (by omega) _ _ h1) ?_
  show pm_ev _ _ _ _ _ (215, [some (.retAddr 0), some (.ref 0), some (.ref 83), some (.int (nI i))], [.int R], _, _, _) _
  refine pe_blk mm_214 1 (s' := (216, [some (.retAddr 0), some (.ref 0), some (.ref 83), some (.int (nI i))], [.ref 83, .int R], _, _, _)) rfl ?_
  refine pe_blk mm_214 4 (s' := (220, [some (.retAddr 0), some (.ref 0), some (.ref 83), some (.int (nI i))], [.int (nI i + nI 1), .retAddr 0, .ref 83, .int R], _, _, _)) rfl ?_
  rw [nI_3 i 1]
  refine pe_sald mm_214 rfl (nI_in (by omega) (by omega)) ?_
  rw [nI_clamp (by omega)]
  show pm_ev _ _ _ _ _ (221, [some (.retAddr 0), some (.ref 0), some (.ref 83), some (.int (nI i))], [.int (xs (i + 1)), .ref 83, .int R], _, _, _) _
  refine pe_virt (al := [.int (xs (i + 1))]) (a := 83) (L0 := [some (.ref 83), some (.int (xs (i + 1)))]) (r1 := (some (.int R), 129, 17845, hp M2)) mm_214 rfl rfl rfl mm_84 rfl (by decide) (by decide) rfl (Nat.le_of_ble_eq_true rfl) (Nat.le_of_ble_eq_true rfl) rfl rfl (F84_ev (some (L, xs)) _ (xs (i + 1)) _ e1 (by omega) _ _ h2) ?_
  show pm_ev _ _ _ _ _ (224, [some (.retAddr 0), some (.ref 0), some (.ref 83), some (.int (nI i))], [.int R, .int R], _, _, _) _
  refine pe_blk mm_214 1 (s' := (if R = R then 288 else 227, [some (.retAddr 0), some (.ref 0), some (.ref 83), some (.int (nI i))], [], _, _, _)) rfl ?_
  rw [if_pos rfl]
  refine pe_blk mm_214 2 (s' := (18, [some (.retAddr 0), some (.ref 0), some (.ref 83), some (.int (nI i + nI 3))], [], _, _, _)) rfl ?_
  rw [nI_3 i 3]
  exact kk
set_option maxRecDepth 100000 in
set_option maxHeartbeats 4000000 in
theorem law_c7 (L : Nat) (xs : Nat → Int32) (e i : Nat) (he : 60 ≤ e) (hi : i + 3 ≤ L) (hL : L ≤ 1536) (M M1 M2 : Mem) (R : Int32) (n1 n2 : Nat) (h1 : F8 n1 (xs (i + 1)) M = some (R, M1)) (h2 : F86 n2 (xs (i + 1)) M1 = some (R, M2)) {r : pm_Rs}
    (kk : pm_ev pmT (some (L, xs)) e 214 true (18, [some (.retAddr 0), some (.ref 0), some (.ref 83), some (.int (nI (i + 3)))], [], 129, 17845, hp M2) r) : pm_ev pmT (some (L, xs)) e 214 true (229, [some (.retAddr 0), some (.ref 0), some (.ref 83), some (.int (nI i))], [], 129, 17845, hp M) r := by
  obtain ⟨e1, rfl⟩ : ∃ e1, e = e1 + 1 := ⟨e - 1, by omega⟩
  refine pe_blk mm_214 1 (s' := (230, [some (.retAddr 0), some (.ref 0), some (.ref 83), some (.int (nI i))], [.ref 0], _, _, _)) rfl ?_
  refine pe_blk mm_214 4 (s' := (234, [some (.retAddr 0), some (.ref 0), some (.ref 83), some (.int (nI i))], [.int (nI i + nI 1), .retAddr 0, .ref 0], _, _, _)) rfl ?_
  rw [nI_3 i 1]
  refine pe_sald mm_214 rfl (nI_in (by omega) (by omega)) ?_
  rw [nI_clamp (by omega)]
  show pm_ev _ _ _ _ _ (235, [some (.retAddr 0), some (.ref 0), some (.ref 83), some (.int (nI i))], [.int (xs (i + 1)), .ref 0], _, _, _) _
  refine pe_virt (al := [.int (xs (i + 1))]) (a := 0) (L0 := [some (.ref 0), some (.int (xs (i + 1)))]) (r1 := (some (.int R), 129, 17845, hp M1)) mm_214 rfl rfl rfl mm_8 rfl (by decide) (by decide) rfl (Nat.le_of_ble_eq_true rfl) (Nat.le_of_ble_eq_true rfl) rfl rfl (F8_ev (some (L, xs)) _ (xs (i + 1)) _ e1 (by omega) _ _ h1) ?_
  show pm_ev _ _ _ _ _ (238, [some (.retAddr 0), some (.ref 0), some (.ref 83), some (.int (nI i))], [.int R], _, _, _) _
  refine pe_blk mm_214 1 (s' := (239, [some (.retAddr 0), some (.ref 0), some (.ref 83), some (.int (nI i))], [.ref 83, .int R], _, _, _)) rfl ?_
  refine pe_blk mm_214 4 (s' := (243, [some (.retAddr 0), some (.ref 0), some (.ref 83), some (.int (nI i))], [.int (nI i + nI 1), .retAddr 0, .ref 83, .int R], _, _, _)) rfl ?_
  rw [nI_3 i 1]
  refine pe_sald mm_214 rfl (nI_in (by omega) (by omega)) ?_
  rw [nI_clamp (by omega)]
  show pm_ev _ _ _ _ _ (244, [some (.retAddr 0), some (.ref 0), some (.ref 83), some (.int (nI i))], [.int (xs (i + 1)), .ref 83, .int R], _, _, _) _
  refine pe_virt (al := [.int (xs (i + 1))]) (a := 83) (L0 := [some (.ref 83), some (.int (xs (i + 1))), none, none, none, none]) (r1 := (some (.int R), 129, 17845, hp M2)) mm_214 rfl rfl rfl mm_86 rfl (by decide) (by decide) rfl (Nat.le_of_ble_eq_true rfl) (Nat.le_of_ble_eq_true rfl) rfl rfl (F86_ev (some (L, xs)) _ (xs (i + 1)) _ e1 (by omega) _ _ h2) ?_
  show pm_ev _ _ _ _ _ (247, [some (.retAddr 0), some (.ref 0), some (.ref 83), some (.int (nI i))], [.int R, .int R], _, _, _) _
  refine pe_blk mm_214 1 (s' := (if R = R then 288 else 250, [some (.retAddr 0), some (.ref 0), some (.ref 83), some (.int (nI i))], [], _, _, _)) rfl ?_
  rw [if_pos rfl]
  refine pe_blk mm_214 2 (s' := (18, [some (.retAddr 0), some (.ref 0), some (.ref 83), some (.int (nI i + nI 3))], [], _, _, _)) rfl ?_
  rw [nI_3 i 3]
  exact kk
set_option maxRecDepth 100000 in
set_option maxHeartbeats 4000000 in
theorem law_c8 (L : Nat) (xs : Nat → Int32) (e i : Nat) (he : 60 ≤ e) (hi : i + 3 ≤ L) (hL : L ≤ 1536) (M M1 M2 : Mem) (R : Int32) (n1 n2 : Nat) (h1 : F9 n1  M = some (R, M1)) (h2 : F87 n2  M1 = some (R, M2)) {r : pm_Rs}
    (kk : pm_ev pmT (some (L, xs)) e 214 true (18, [some (.retAddr 0), some (.ref 0), some (.ref 83), some (.int (nI (i + 3)))], [], 129, 17845, hp M2) r) : pm_ev pmT (some (L, xs)) e 214 true (252, [some (.retAddr 0), some (.ref 0), some (.ref 83), some (.int (nI i))], [], 129, 17845, hp M) r := by
  obtain ⟨e1, rfl⟩ : ∃ e1, e = e1 + 1 := ⟨e - 1, by omega⟩
  refine pe_blk mm_214 1 (s' := (253, [some (.retAddr 0), some (.ref 0), some (.ref 83), some (.int (nI i))], [.ref 0], _, _, _)) rfl ?_
  refine pe_virt (al := []) (a := 0) (L0 := [some (.ref 0)]) (r1 := (some (.int R), 129, 17845, hp M1)) mm_214 rfl rfl rfl mm_9 rfl (by decide) (by decide) rfl (Nat.le_of_ble_eq_true rfl) (Nat.le_of_ble_eq_true rfl) rfl rfl (F9_ev (some (L, xs)) _  _ e1 (by omega) _ _ h1) ?_
  show pm_ev _ _ _ _ _ (256, [some (.retAddr 0), some (.ref 0), some (.ref 83), some (.int (nI i))], [.int R], _, _, _) _
  refine pe_blk mm_214 1 (s' := (257, [some (.retAddr 0), some (.ref 0), some (.ref 83), some (.int (nI i))], [.ref 83, .int R], _, _, _)) rfl ?_
  refine pe_virt (al := []) (a := 83) (L0 := [some (.ref 83)]) (r1 := (some (.int R), 129, 17845, hp M2)) mm_214 rfl rfl rfl mm_87 rfl (by decide) (by decide) rfl (Nat.le_of_ble_eq_true rfl) (Nat.le_of_ble_eq_true rfl) rfl rfl (F87_ev (some (L, xs)) _  _ e1 (by omega) _ _ h2) ?_
  show pm_ev _ _ _ _ _ (260, [some (.retAddr 0), some (.ref 0), some (.ref 83), some (.int (nI i))], [.int R, .int R], _, _, _) _
  refine pe_blk mm_214 1 (s' := (if R = R then 288 else 263, [some (.retAddr 0), some (.ref 0), some (.ref 83), some (.int (nI i))], [], _, _, _)) rfl ?_
  rw [if_pos rfl]
  refine pe_blk mm_214 2 (s' := (18, [some (.retAddr 0), some (.ref 0), some (.ref 83), some (.int (nI i + nI 3))], [], _, _, _)) rfl ?_
  rw [nI_3 i 3]
  exact kk
set_option maxRecDepth 100000 in
set_option maxHeartbeats 4000000 in
theorem law_c9 (L : Nat) (xs : Nat → Int32) (e i : Nat) (he : 60 ≤ e) (hi : i + 3 ≤ L) (hL : L ≤ 1536) (M M1 M2 : Mem) (R : Int32) (n1 n2 : Nat) (h1 : F10 n1 (xs (i + 1)) M = some (R, M1)) (h2 : F88 n2 (xs (i + 1)) M1 = some (R, M2)) {r : pm_Rs}
    (kk : pm_ev pmT (some (L, xs)) e 214 true (18, [some (.retAddr 0), some (.ref 0), some (.ref 83), some (.int (nI (i + 3)))], [], 129, 17845, hp M2) r) : pm_ev pmT (some (L, xs)) e 214 true (265, [some (.retAddr 0), some (.ref 0), some (.ref 83), some (.int (nI i))], [], 129, 17845, hp M) r := by
  obtain ⟨e1, rfl⟩ : ∃ e1, e = e1 + 1 := ⟨e - 1, by omega⟩
  refine pe_blk mm_214 1 (s' := (266, [some (.retAddr 0), some (.ref 0), some (.ref 83), some (.int (nI i))], [.ref 0], _, _, _)) rfl ?_
  refine pe_blk mm_214 4 (s' := (270, [some (.retAddr 0), some (.ref 0), some (.ref 83), some (.int (nI i))], [.int (nI i + nI 1), .retAddr 0, .ref 0], _, _, _)) rfl ?_
  rw [nI_3 i 1]
  refine pe_sald mm_214 rfl (nI_in (by omega) (by omega)) ?_
  rw [nI_clamp (by omega)]
  show pm_ev _ _ _ _ _ (271, [some (.retAddr 0), some (.ref 0), some (.ref 83), some (.int (nI i))], [.int (xs (i + 1)), .ref 0], _, _, _) _
  refine pe_virt (al := [.int (xs (i + 1))]) (a := 0) (L0 := [some (.ref 0), some (.int (xs (i + 1)))]) (r1 := (some (.int R), 129, 17845, hp M1)) mm_214 rfl rfl rfl mm_10 rfl (by decide) (by decide) rfl (Nat.le_of_ble_eq_true rfl) (Nat.le_of_ble_eq_true rfl) rfl rfl (F10_ev (some (L, xs)) _ (xs (i + 1)) _ e1 (by omega) _ _ h1) ?_
  show pm_ev _ _ _ _ _ (274, [some (.retAddr 0), some (.ref 0), some (.ref 83), some (.int (nI i))], [.int R], _, _, _) _
  refine pe_blk mm_214 1 (s' := (275, [some (.retAddr 0), some (.ref 0), some (.ref 83), some (.int (nI i))], [.ref 83, .int R], _, _, _)) rfl ?_
  refine pe_blk mm_214 4 (s' := (279, [some (.retAddr 0), some (.ref 0), some (.ref 83), some (.int (nI i))], [.int (nI i + nI 1), .retAddr 0, .ref 83, .int R], _, _, _)) rfl ?_
  rw [nI_3 i 1]
  refine pe_sald mm_214 rfl (nI_in (by omega) (by omega)) ?_
  rw [nI_clamp (by omega)]
  show pm_ev _ _ _ _ _ (280, [some (.retAddr 0), some (.ref 0), some (.ref 83), some (.int (nI i))], [.int (xs (i + 1)), .ref 83, .int R], _, _, _) _
  refine pe_virt (al := [.int (xs (i + 1))]) (a := 83) (L0 := [some (.ref 83), some (.int (xs (i + 1)))]) (r1 := (some (.int R), 129, 17845, hp M2)) mm_214 rfl rfl rfl mm_88 rfl (by decide) (by decide) rfl (Nat.le_of_ble_eq_true rfl) (Nat.le_of_ble_eq_true rfl) rfl rfl (F88_ev (some (L, xs)) _ (xs (i + 1)) _ e1 (by omega) _ _ h2) ?_
  show pm_ev _ _ _ _ _ (283, [some (.retAddr 0), some (.ref 0), some (.ref 83), some (.int (nI i))], [.int R, .int R], _, _, _) _
  refine pe_blk mm_214 1 (s' := (if R = R then 288 else 286, [some (.retAddr 0), some (.ref 0), some (.ref 83), some (.int (nI i))], [], _, _, _)) rfl ?_
  rw [if_pos rfl]
  refine pe_blk mm_214 2 (s' := (18, [some (.retAddr 0), some (.ref 0), some (.ref 83), some (.int (nI i + nI 3))], [], _, _, _)) rfl ?_
  rw [nI_3 i 3]
  exact kk
/-- both sides answer alike -/
def lw_two (X Y : Nat → ZM → Option (Int × ZM)) (m m' : ZM) : Prop := ∃ n1 n2 r m1, X n1 m = some (r, m1) ∧ Y n2 m1 = some (r, m')
/-- what a call of the law owes: op is the call's number -/
def lw_call (op a b : Int) (m m' : ZM) : Prop :=
  if op = 0 then lw_two (fun n => zF1 n a b) (fun n => zF20 n a b) m m' else
  if op = 1 then lw_two (fun n => zF2 n) (fun n => zF58 n) m m' else
  if op = 2 then lw_two (fun n => zF3 n) (fun n => zF82 n) m m' else
  if op = 3 then lw_two (fun n => zF4 n) (fun n => zF59 n) m m' else
  if op = 4 then lw_two (fun n => zF5 n a) (fun n => zF60 n a) m m' else
  if op = 5 then lw_two (fun n => zF6 n a) (fun n => zF83 n a) m m' else
  if op = 6 then lw_two (fun n => zF7 n a) (fun n => zF84 n a) m m' else
  if op = 7 then lw_two (fun n => zF8 n a) (fun n => zF86 n a) m m' else
  if op = 8 then lw_two (fun n => zF9 n) (fun n => zF87 n) m m' else
  if op = 9 then lw_two (fun n => zF10 n a) (fun n => zF88 n a) m m' else
  m' = m
set_option maxRecDepth 100000 in
set_option maxHeartbeats 4000000 in
theorem law_go (L : Nat) (xs : Nat → Int32) (hL : L ≤ 1536) (I : ZM → Prop) (hI : ∀ m, I m → ∀ op a b : Int, rg a → rg b → ∃ m', I m' ∧ lw_call op a b m m') (e : Nat) (he : 60 ≤ e) : ∀ (k i : Nat) (M : Mem) (m : ZM), L ≤ i + 3 * k → i ≤ L + 3 → rm M m → I m →
    ∃ M' : Mem, pm_ev pmT (some (L, xs)) e 214 true (18, [some (.retAddr 0), some (.ref 0), some (.ref 83), some (.int (nI i))], [], 129, 17845, hp M) (some (.int 1), 129, 17845, hp M') := by
  have hout : ∀ (i : Nat) (M : Mem), i ≤ L + 3 → ¬ i + 3 ≤ L → ∃ M' : Mem, pm_ev pmT (some (L, xs)) e 214 true (18, [some (.retAddr 0), some (.ref 0), some (.ref 83), some (.int (nI i))], [], 129, 17845, hp M) (some (.int 1), 129, 17845, hp M') := by
    intro i M h1 h2
    refine ⟨M, ?_⟩
    refine pe_blk mm_214 5 (s' := (23, [some (.retAddr 0), some (.ref 0), some (.ref 83), some (.int (nI i))], [.int (nI L - 3), .int (nI i)], _, _, _)) rfl ?_
    refine pe_blk mm_214 1 (s' := (if nI L - 3 < nI i then 294 else 26, [some (.retAddr 0), some (.ref 0), some (.ref 83), some (.int (nI i))], [], _, _, _)) rfl ?_
    rw [if_pos (by
      have a1 : rp (nI L) (L : Int) := nI_toInt (by omega)
      have a2 : rp (nI i) (i : Int) := nI_toInt (by omega)
      have a3 : rp (nI L - 3) ((L : Int) - 3) := rp_sub (rp_iz a1) (rp_iz (show rp 3 3 from rfl)) (by omega)
      exact (rp_lt a3 a2).mpr (by omega))]
    refine pe_blk mm_214 1 (s' := (295, [some (.retAddr 0), some (.ref 0), some (.ref 83), some (.int (nI i))], [.int 1], _, _, _)) rfl ?_
    exact pe_ret mm_214 rfl rfl
  intro k
  induction k with
  | zero => intro i M m h1 h2 g hm; exact hout i M h2 (by omega)
  | succ k ih =>
    intro i M m h1 h2 g hm
    by_cases hi : i + 3 ≤ L
    · obtain ⟨m', hm', hc⟩ := hI m hm ((xs i) &&& 15 : Int32).toInt (xs (i + 1)).toInt (xs (i + 2)).toInt ⟨Int32.le_toInt _, Int32.toInt_lt _⟩ ⟨Int32.le_toInt _, Int32.toInt_lt _⟩
      have hgo : ∀ M2 : Mem, rm M2 m' → ∃ M' : Mem, pm_ev pmT (some (L, xs)) e 214 true (18, [some (.retAddr 0), some (.ref 0), some (.ref 83), some (.int (nI (i + 3)))], [], 129, 17845, hp M2) (some (.int 1), 129, 17845, hp M') := fun M2 g2 => ih (i + 3) M2 m' (by omega) (by omega) g2 hm'
      have hpre : ∀ {r : pm_Rs}, pm_ev pmT (some (L, xs)) e 214 true (32, [some (.retAddr 0), some (.ref 0), some (.ref 83), some (.int (nI i))], [.int (xs i &&& 15)], 129, 17845, hp M) r → pm_ev pmT (some (L, xs)) e 214 true (18, [some (.retAddr 0), some (.ref 0), some (.ref 83), some (.int (nI i))], [], 129, 17845, hp M) r := by
        intro r kk
        refine pe_blk mm_214 5 (s' := (23, [some (.retAddr 0), some (.ref 0), some (.ref 83), some (.int (nI i))], [.int (nI L - 3), .int (nI i)], _, _, _)) rfl ?_
        refine pe_blk mm_214 1 (s' := (if nI L - 3 < nI i then 294 else 26, [some (.retAddr 0), some (.ref 0), some (.ref 83), some (.int (nI i))], [], _, _, _)) rfl ?_
        rw [if_neg (by
          have a1 : rp (nI L) (L : Int) := nI_toInt (by omega)
          have a2 : rp (nI i) (i : Int) := nI_toInt (by omega)
          have a3 : rp (nI L - 3) ((L : Int) - 3) := rp_sub (rp_iz a1) (rp_iz (show rp 3 3 from rfl)) (by omega)
          exact fun z => absurd ((rp_lt a3 a2).mp z) (by omega))]
        refine pe_blk mm_214 2 (s' := (28, [some (.retAddr 0), some (.ref 0), some (.ref 83), some (.int (nI i))], [.int (nI i), .retAddr 0], _, _, _)) rfl ?_
        refine pe_sald mm_214 rfl (nI_in (by omega) (by omega)) ?_
        rw [nI_clamp (by omega)]
        exact pe_blk mm_214 2 (s' := (32, [some (.retAddr 0), some (.ref 0), some (.ref 83), some (.int (nI i))], [.int (xs i &&& 15)], _, _, _)) rfl kk
      generalize xs i &&& 15 = x at hc hpre
      unfold lw_call at hc
      by_cases q0 : x.toInt = 0
      · rw [if_pos q0] at hc
        obtain ⟨n1, n2, r, m1, z1, z2⟩ := hc
        obtain ⟨R1, M1, f1, p1, g1⟩ := zF1_r n1 (show rp (xs (i + 1)) _ from rfl) (show rp (xs (i + 2)) _ from rfl) g z1
        obtain ⟨R2, M2, f2, p2, g2⟩ := zF20_r n2 (show rp (xs (i + 1)) _ from rfl) (show rp (xs (i + 2)) _ from rfl) g1 z2
        have hR : R2 = R1 := Int32.toInt_inj.mp (p2.trans p1.symm)
        subst hR
        obtain ⟨M', hk⟩ := hgo M2 g2
        refine ⟨M', hpre ?_⟩
        have hx : x = 0 := Int32.toInt_inj.mp q0
        subst hx
        refine pe_blk mm_214 1 (s' := (88, [some (.retAddr 0), some (.ref 0), some (.ref 83), some (.int (nI i))], [], _, _, _)) rfl ?_
        exact law_c0 L xs e i he hi hL M M1 M2 R2 n1 n2 f1 f2 hk
      rw [if_neg q0] at hc
      by_cases q1 : x.toInt = 1
      · rw [if_pos q1] at hc
        obtain ⟨n1, n2, r, m1, z1, z2⟩ := hc
        obtain ⟨R1, M1, f1, p1, g1⟩ := zF2_r n1  g z1
        obtain ⟨R2, M2, f2, p2, g2⟩ := zF58_r n2  g1 z2
        have hR : R2 = R1 := Int32.toInt_inj.mp (p2.trans p1.symm)
        subst hR
        obtain ⟨M', hk⟩ := hgo M2 g2
        refine ⟨M', hpre ?_⟩
        have hx : x = 1 := Int32.toInt_inj.mp q1
        subst hx
        refine pe_blk mm_214 1 (s' := (121, [some (.retAddr 0), some (.ref 0), some (.ref 83), some (.int (nI i))], [], _, _, _)) rfl ?_
        exact law_c1 L xs e i he hi hL M M1 M2 R2 n1 n2 f1 f2 hk
      rw [if_neg q1] at hc
      by_cases q2 : x.toInt = 2
      · rw [if_pos q2] at hc
        obtain ⟨n1, n2, r, m1, z1, z2⟩ := hc
        obtain ⟨R1, M1, f1, p1, g1⟩ := zF3_r n1  g z1
        obtain ⟨R2, M2, f2, p2, g2⟩ := zF82_r n2  g1 z2
        have hR : R2 = R1 := Int32.toInt_inj.mp (p2.trans p1.symm)
        subst hR
        obtain ⟨M', hk⟩ := hgo M2 g2
        refine ⟨M', hpre ?_⟩
        have hx : x = 2 := Int32.toInt_inj.mp q2
        subst hx
        refine pe_blk mm_214 1 (s' := (134, [some (.retAddr 0), some (.ref 0), some (.ref 83), some (.int (nI i))], [], _, _, _)) rfl ?_
        exact law_c2 L xs e i he hi hL M M1 M2 R2 n1 n2 f1 f2 hk
      rw [if_neg q2] at hc
      by_cases q3 : x.toInt = 3
      · rw [if_pos q3] at hc
        obtain ⟨n1, n2, r, m1, z1, z2⟩ := hc
        obtain ⟨R1, M1, f1, p1, g1⟩ := zF4_r n1  g z1
        obtain ⟨R2, M2, f2, p2, g2⟩ := zF59_r n2  g1 z2
        have hR : R2 = R1 := Int32.toInt_inj.mp (p2.trans p1.symm)
        subst hR
        obtain ⟨M', hk⟩ := hgo M2 g2
        refine ⟨M', hpre ?_⟩
        have hx : x = 3 := Int32.toInt_inj.mp q3
        subst hx
        refine pe_blk mm_214 1 (s' := (147, [some (.retAddr 0), some (.ref 0), some (.ref 83), some (.int (nI i))], [], _, _, _)) rfl ?_
        exact law_c3 L xs e i he hi hL M M1 M2 R2 n1 n2 f1 f2 hk
      rw [if_neg q3] at hc
      by_cases q4 : x.toInt = 4
      · rw [if_pos q4] at hc
        obtain ⟨n1, n2, r, m1, z1, z2⟩ := hc
        obtain ⟨R1, M1, f1, p1, g1⟩ := zF5_r n1 (show rp (xs (i + 1)) _ from rfl) g z1
        obtain ⟨R2, M2, f2, p2, g2⟩ := zF60_r n2 (show rp (xs (i + 1)) _ from rfl) g1 z2
        have hR : R2 = R1 := Int32.toInt_inj.mp (p2.trans p1.symm)
        subst hR
        obtain ⟨M', hk⟩ := hgo M2 g2
        refine ⟨M', hpre ?_⟩
        have hx : x = 4 := Int32.toInt_inj.mp q4
        subst hx
        refine pe_blk mm_214 1 (s' := (160, [some (.retAddr 0), some (.ref 0), some (.ref 83), some (.int (nI i))], [], _, _, _)) rfl ?_
        exact law_c4 L xs e i he hi hL M M1 M2 R2 n1 n2 f1 f2 hk
      rw [if_neg q4] at hc
      by_cases q5 : x.toInt = 5
      · rw [if_pos q5] at hc
        obtain ⟨n1, n2, r, m1, z1, z2⟩ := hc
        obtain ⟨R1, M1, f1, p1, g1⟩ := zF6_r n1 (show rp (xs (i + 1)) _ from rfl) g z1
        obtain ⟨R2, M2, f2, p2, g2⟩ := zF83_r n2 (show rp (xs (i + 1)) _ from rfl) g1 z2
        have hR : R2 = R1 := Int32.toInt_inj.mp (p2.trans p1.symm)
        subst hR
        obtain ⟨M', hk⟩ := hgo M2 g2
        refine ⟨M', hpre ?_⟩
        have hx : x = 5 := Int32.toInt_inj.mp q5
        subst hx
        refine pe_blk mm_214 1 (s' := (183, [some (.retAddr 0), some (.ref 0), some (.ref 83), some (.int (nI i))], [], _, _, _)) rfl ?_
        exact law_c5 L xs e i he hi hL M M1 M2 R2 n1 n2 f1 f2 hk
      rw [if_neg q5] at hc
      by_cases q6 : x.toInt = 6
      · rw [if_pos q6] at hc
        obtain ⟨n1, n2, r, m1, z1, z2⟩ := hc
        obtain ⟨R1, M1, f1, p1, g1⟩ := zF7_r n1 (show rp (xs (i + 1)) _ from rfl) g z1
        obtain ⟨R2, M2, f2, p2, g2⟩ := zF84_r n2 (show rp (xs (i + 1)) _ from rfl) g1 z2
        have hR : R2 = R1 := Int32.toInt_inj.mp (p2.trans p1.symm)
        subst hR
        obtain ⟨M', hk⟩ := hgo M2 g2
        refine ⟨M', hpre ?_⟩
        have hx : x = 6 := Int32.toInt_inj.mp q6
        subst hx
        refine pe_blk mm_214 1 (s' := (206, [some (.retAddr 0), some (.ref 0), some (.ref 83), some (.int (nI i))], [], _, _, _)) rfl ?_
        exact law_c6 L xs e i he hi hL M M1 M2 R2 n1 n2 f1 f2 hk
      rw [if_neg q6] at hc
      by_cases q7 : x.toInt = 7
      · rw [if_pos q7] at hc
        obtain ⟨n1, n2, r, m1, z1, z2⟩ := hc
        obtain ⟨R1, M1, f1, p1, g1⟩ := zF8_r n1 (show rp (xs (i + 1)) _ from rfl) g z1
        obtain ⟨R2, M2, f2, p2, g2⟩ := zF86_r n2 (show rp (xs (i + 1)) _ from rfl) g1 z2
        have hR : R2 = R1 := Int32.toInt_inj.mp (p2.trans p1.symm)
        subst hR
        obtain ⟨M', hk⟩ := hgo M2 g2
        refine ⟨M', hpre ?_⟩
        have hx : x = 7 := Int32.toInt_inj.mp q7
        subst hx
        refine pe_blk mm_214 1 (s' := (229, [some (.retAddr 0), some (.ref 0), some (.ref 83), some (.int (nI i))], [], _, _, _)) rfl ?_
        exact law_c7 L xs e i he hi hL M M1 M2 R2 n1 n2 f1 f2 hk
      rw [if_neg q7] at hc
      by_cases q8 : x.toInt = 8
      · rw [if_pos q8] at hc
        obtain ⟨n1, n2, r, m1, z1, z2⟩ := hc
        obtain ⟨R1, M1, f1, p1, g1⟩ := zF9_r n1  g z1
        obtain ⟨R2, M2, f2, p2, g2⟩ := zF87_r n2  g1 z2
        have hR : R2 = R1 := Int32.toInt_inj.mp (p2.trans p1.symm)
        subst hR
        obtain ⟨M', hk⟩ := hgo M2 g2
        refine ⟨M', hpre ?_⟩
        have hx : x = 8 := Int32.toInt_inj.mp q8
        subst hx
        refine pe_blk mm_214 1 (s' := (252, [some (.retAddr 0), some (.ref 0), some (.ref 83), some (.int (nI i))], [], _, _, _)) rfl ?_
        exact law_c8 L xs e i he hi hL M M1 M2 R2 n1 n2 f1 f2 hk
      rw [if_neg q8] at hc
      by_cases q9 : x.toInt = 9
      · rw [if_pos q9] at hc
        obtain ⟨n1, n2, r, m1, z1, z2⟩ := hc
        obtain ⟨R1, M1, f1, p1, g1⟩ := zF10_r n1 (show rp (xs (i + 1)) _ from rfl) g z1
        obtain ⟨R2, M2, f2, p2, g2⟩ := zF88_r n2 (show rp (xs (i + 1)) _ from rfl) g1 z2
        have hR : R2 = R1 := Int32.toInt_inj.mp (p2.trans p1.symm)
        subst hR
        obtain ⟨M', hk⟩ := hgo M2 g2
        refine ⟨M', hpre ?_⟩
        have hx : x = 9 := Int32.toInt_inj.mp q9
        subst hx
        refine pe_blk mm_214 1 (s' := (265, [some (.retAddr 0), some (.ref 0), some (.ref 83), some (.int (nI i))], [], _, _, _)) rfl ?_
        exact law_c9 L xs e i he hi hL M M1 M2 R2 n1 n2 f1 f2 hk
      rw [if_neg q9] at hc
      subst hc
      obtain ⟨M', hk⟩ := hgo M g
      refine ⟨M', hpre ?_⟩
      refine pe_tout mm_214 rfl (by omega) (by decide) ?_
      show pm_ev _ _ _ _ _ (288, [some (.retAddr 0), some (.ref 0), some (.ref 83), some (.int (nI i))], [], _, _, _) _
      refine pe_blk mm_214 2 (s' := (18, [some (.retAddr 0), some (.ref 0), some (.ref 83), some (.int (nI i + nI 3))], [], _, _, _)) rfl ?_
      rw [nI_3 i 3]
      exact hk
    · exact hout i M h2 hi
