/-! The one text literal: String.indexOf on it. -/
theorem pe_virtS {T : pm_T} {sc : Option (Nat × (Nat → Int32))} {d y : Nat} {top : Bool} {r r1 : pm_Rs} {nm nm' : MethodName} {bs bs' : ByteArray} {mL mL' : Nat} {rt rt' : Option FieldType} {o : Nat} {ini ini' : Bool} {ft ft' : Nat → Option (Instr × Nat × Int32)} {pc tgt idx z na md N S : Nat} {cv : Int32} {L L0 : List (Option Value)} {al rest : List Value} {h : Nat → va_E}
    (hM : T.1 y = some (nm, bs, mL, rt, o, ini, ft)) (hf : ft pc = some (.invokevirtual idx, tgt, cv)) (hcp : T.2.1 o idx = some (2, z, na, md)) (hmd : md % 3 = 0) (hz : T.1 z = some (nm', bs', mL', rt', 100, ini', ft'))
    (hl : al.length = na) (hrm : pm_rm rest ≤ 8) (hm : na + 1 ≤ mL') (hcat : al.all (fun v => v.category == 1) = true) (hL0 : some (.retAddr 1) :: (al.reverse.map some ++ List.replicate (mL' - (na + 1)) none) = L0)
    (e1 : pm_ev T sc d z false (0, L0, [], N, S, h) r1) (kk : pm_ev T sc (d + 1) y top (pc + 3, L, r1.1.toList ++ rest, r1.2) r) : pm_ev T sc (d + 1) y top (pc, L, al ++ .retAddr 1 :: rest, N, S, h) r := by
  refine pe_callA (al := al ++ [.retAddr 1]) (rest := rest) (k := na + 1) (L0 := L0) hM hf rfl rfl hcp hmd hz (by unfold pm_nargs; rw [if_neg (by omega)]) (by simp [hl]) (by simp) hrm hm (by rw [List.all_append, hcat]; rfl) ?_ ?_ e1 kk
  · unfold pm_recv
    rw [if_neg (by omega), List.reverse_append]
    show (decide (md % 3 = 0) && (100 == 100)) = true
    simp [hmd]
  · rw [← hL0, List.reverse_append]
    rfl
/-- the place of a byte in the literal -/
def ixc (y : Int32) : Nat → Nat → Int32
  | 0, _ => -1
  | k + 1, i => if pmT.2.2.2.2.getD i 0 = y then nI i else ixc y k (i + 1)
def ixv (x : Int32) : Int32 := if x < 0 then -1 else if 255 < x then -1 else ixc x.toInt8.toInt32 16 0
theorem ix_loop (sc : Option (Nat × (Nat → Int32))) (e : Nat) (y c u : Int32) (H : Nat → va_E) : ∀ (k i : Nat), i + k = 16 → pm_ev pmT sc e 222 false (7, [some (.retAddr 2), some (.int c), some (.int u), some (.int (nI 16)), some (.int y), some (.int (nI i))], [], 129, 17845, H) (some (.int (ixc y k i)), 129, 17845, H) := by
  intro k
  induction k with
  | zero =>
    intro i h
    have hi : i = 16 := by omega
    subst hi
    refine pe_blk mm_222 2 (s' := (10, [some (.retAddr 2), some (.int c), some (.int u), some (.int (nI 16)), some (.int y), some (.int (nI 16))], [.int (nI 16), .int (nI 16)], _, _, _)) rfl ?_
    refine pe_blk mm_222 1 (s' := (if nI 16 ≤ nI 16 then 31 else 13, [some (.retAddr 2), some (.int c), some (.int u), some (.int (nI 16)), some (.int y), some (.int (nI 16))], [], _, _, _)) rfl ?_
    rw [if_pos (nI_le (Nat.le_refl _) (by decide))]
    refine pe_blk mm_222 1 (s' := (32, [some (.retAddr 2), some (.int c), some (.int u), some (.int (nI 16)), some (.int y), some (.int (nI 16))], [.int (-1)], _, _, _)) rfl ?_
    exact pe_ret mm_222 rfl rfl
  | succ k ih =>
    intro i h
    refine pe_blk mm_222 2 (s' := (10, [some (.retAddr 2), some (.int c), some (.int u), some (.int (nI 16)), some (.int y), some (.int (nI i))], [.int (nI 16), .int (nI i)], _, _, _)) rfl ?_
    refine pe_blk mm_222 1 (s' := (if nI 16 ≤ nI i then 31 else 13, [some (.retAddr 2), some (.int c), some (.int u), some (.int (nI 16)), some (.int y), some (.int (nI i))], [], _, _, _)) rfl ?_
    rw [if_neg (nI_ge (by omega) (by decide))]
    refine pe_blk mm_222 2 (s' := (16, [some (.retAddr 2), some (.int c), some (.int u), some (.int (nI 16)), some (.int y), some (.int (nI i))], [.int (nI i), .retAddr 2], _, _, _)) rfl ?_
    have hb : ¬ (nI i < 0 ∨ 16 ≤ (nI i).toNatClampNeg) := nI_in (by omega) (by decide)
    refine pe_step mm_222 (i := .baload) rfl rfl rfl ?_ (s' := (17, [some (.retAddr 2), some (.int c), some (.int u), some (.int (nI 16)), some (.int y), some (.int (nI i))], [.int (pmT.2.2.2.2.getD i 0)], 129, 17845, H)) ?_
    · show (if nI i < 0 ∨ pmT.2.2.2.2.length ≤ (nI i).toNatClampNeg then none else some (17, [some (Value.retAddr 2), some (Value.int c), some (Value.int u), some (Value.int (nI 16)), some (Value.int y), some (Value.int (nI i))], [Value.int (pmT.2.2.2.2.getD (nI i).toNatClampNeg 0)], 129, 17845, H)) = _
      rw [if_neg (show ¬ (nI i < 0 ∨ pmT.2.2.2.2.length ≤ (nI i).toNatClampNeg) from hb), nI_clamp (by omega)]
    refine pe_blk mm_222 1 (s' := (19, [some (.retAddr 2), some (.int c), some (.int u), some (.int (nI 16)), some (.int y), some (.int (nI i))], [.int y, .int (pmT.2.2.2.2.getD i 0)], _, _, _)) rfl ?_
    rw [ixc]
    by_cases q : pmT.2.2.2.2.getD i 0 = y
    · refine pe_blk mm_222 1 (s' := (if pmT.2.2.2.2.getD i 0 = y then 22 else 25, [some (.retAddr 2), some (.int c), some (.int u), some (.int (nI 16)), some (.int y), some (.int (nI i))], [], _, _, _)) rfl ?_
      rw [if_pos q, if_pos q]
      refine pe_blk mm_222 1 (s' := (24, [some (.retAddr 2), some (.int c), some (.int u), some (.int (nI 16)), some (.int y), some (.int (nI i))], [.int (nI i)], _, _, _)) rfl ?_
      exact pe_ret mm_222 rfl rfl
    · refine pe_blk mm_222 1 (s' := (if pmT.2.2.2.2.getD i 0 = y then 22 else 25, [some (.retAddr 2), some (.int c), some (.int u), some (.int (nI 16)), some (.int y), some (.int (nI i))], [], _, _, _)) rfl ?_
      rw [if_neg q, if_neg q]
      refine pe_blk mm_222 2 (s' := (7, [some (.retAddr 2), some (.int c), some (.int u), some (.int (nI 16)), some (.int y), some (.int (nI i + 1))], [], _, _, _)) rfl ?_
      rw [nI_1]
      exact ih (i + 1) (by omega)
theorem ix222 (sc : Option (Nat × (Nat → Int32))) (e : Nat) (c : Int32) (H : Nat → va_E) : pm_ev pmT sc e 222 false (0, [some (.retAddr 2), some (.int c), some (.int 0), some (.int 16), none, none], [], 129, 17845, H) (some (.int (ixc c.toInt8.toInt32 16 0)), 129, 17845, H) := by
  refine pe_blk mm_222 5 (s' := (7, [some (.retAddr 2), some (.int c), some (.int 0), some (.int (nI 16)), some (.int c.toInt8.toInt32), some (.int (nI 0))], [], _, _, _)) rfl ?_
  exact ix_loop sc e _ _ _ H 16 0 rfl
theorem ix221 (sc : Option (Nat × (Nat → Int32))) (e : Nat) (c : Int32) (H : Nat → va_E) : pm_ev pmT sc e 221 false (0, [some (.int c)], [], 129, 17845, H) (some (.int (if c < 0 then 0 else if 255 < c then 0 else 1)), 129, 17845, H) := by
  refine pe_blk mm_221 1 (s' := (1, [some (.int c)], [.int c], _, _, _)) rfl ?_
  by_cases q : c < 0
  · refine pe_blk mm_221 1 (s' := (if c < 0 then 15 else 4, [some (.int c)], [], _, _, _)) rfl ?_
    rw [if_pos q, if_pos q]
    refine pe_blk mm_221 1 (s' := (16, [some (.int c)], [.int 0], _, _, _)) rfl ?_
    exact pe_ret mm_221 rfl rfl
  · refine pe_blk mm_221 1 (s' := (if c < 0 then 15 else 4, [some (.int c)], [], _, _, _)) rfl ?_
    rw [if_neg q, if_neg q]
    refine pe_blk mm_221 2 (s' := (8, [some (.int c)], [.int 255, .int c], _, _, _)) rfl ?_
    by_cases q2 : 255 < c
    · refine pe_blk mm_221 1 (s' := (if 255 < c then 15 else 11, [some (.int c)], [], _, _, _)) rfl ?_
      rw [if_pos q2, if_pos q2]
      refine pe_blk mm_221 1 (s' := (16, [some (.int c)], [.int 0], _, _, _)) rfl ?_
      exact pe_ret mm_221 rfl rfl
    · refine pe_blk mm_221 1 (s' := (if 255 < c then 15 else 11, [some (.int c)], [], _, _, _)) rfl ?_
      rw [if_neg q2, if_neg q2]
      refine pe_blk mm_221 2 (s' := (16, [some (.int c)], [.int 1], _, _, _)) rfl ?_
      exact pe_ret mm_221 rfl rfl
theorem ix220 (sc : Option (Nat × (Nat → Int32))) (e : Nat) (he : 2 ≤ e) (c : Int32) (H : Nat → va_E) : pm_ev pmT sc e 220 false (0, [some (.retAddr 2), some (.int c), some (.int 0), some (.int 16)], [], 129, 17845, H) (some (.int (ixv c)), 129, 17845, H) := by
  obtain ⟨e1, rfl⟩ : ∃ e1, e = e1 + 1 := ⟨e - 1, by omega⟩
  refine pe_blk mm_220 1 (s' := (1, [some (.retAddr 2), some (.int c), some (.int 0), some (.int 16)], [.int c], _, _, _)) rfl ?_
  refine pe_stat (al := [.int c]) (L0 := [some (.int c)]) (r1 := (some (.int (if c < 0 then 0 else if 255 < c then 0 else 1)), 129, 17845, H)) mm_220 rfl rfl rfl mm_221 rfl (Nat.le_of_ble_eq_true rfl) (Nat.le_of_ble_eq_true rfl) rfl rfl (ix221 sc e1 c H) ?_
  show pm_ev _ _ _ _ _ (4, [some (.retAddr 2), some (.int c), some (.int 0), some (.int 16)], [.int (if c < 0 then 0 else if 255 < c then 0 else 1)], _, _, _) _
  unfold ixv
  by_cases q : c < 0
  · rw [if_pos q, if_pos q]
    refine pe_blk mm_220 2 (s' := (8, [some (.retAddr 2), some (.int c), some (.int 0), some (.int 16)], [.int (-1)], _, _, _)) rfl ?_
    exact pe_ret mm_220 rfl rfl
  · rw [if_neg q, if_neg q]
    by_cases q2 : 255 < c
    · rw [if_pos q2, if_pos q2]
      refine pe_blk mm_220 2 (s' := (8, [some (.retAddr 2), some (.int c), some (.int 0), some (.int 16)], [.int (-1)], _, _, _)) rfl ?_
      exact pe_ret mm_220 rfl rfl
    · rw [if_neg q2, if_neg q2]
      refine pe_blk mm_220 3 (s' := (11, [some (.retAddr 2), some (.int c), some (.int 0), some (.int 16)], [.int 0, .int 0], _, _, _)) rfl ?_
      refine pe_max mm_220 rfl rfl (by omega) (Nat.le_of_ble_eq_true rfl) ?_
      refine pe_blk mm_220 4 (s' := (18, [some (.retAddr 2), some (.int c), some (.int 0), some (.int 16)], [.int 16, .int 16], _, _, _)) rfl ?_
      refine pe_min mm_220 rfl rfl (by omega) (Nat.le_of_ble_eq_true rfl) ?_
      refine pe_blk mm_220 4 (s' := (29, [some (.retAddr 2), some (.int c), some (.int 0), some (.int 16)], [], _, _, _)) rfl ?_
      refine pe_blk mm_220 4 (s' := (33, [some (.retAddr 2), some (.int c), some (.int 0), some (.int 16)], [.int 16, .int 0, .int c, .retAddr 2], _, _, _)) rfl ?_
      refine pe_stat (al := [.int 16, .int 0, .int c, .retAddr 2]) (L0 := [some (.retAddr 2), some (.int c), some (.int 0), some (.int 16), none, none]) (r1 := (some (.int (ixc c.toInt8.toInt32 16 0)), 129, 17845, H)) mm_220 rfl rfl rfl mm_222 rfl (Nat.le_of_ble_eq_true rfl) (Nat.le_of_ble_eq_true rfl) rfl rfl (ix222 sc e1 c H) ?_
      exact pe_ret mm_220 rfl rfl
theorem ix219 (sc : Option (Nat × (Nat → Int32))) (e : Nat) (H : Nat → va_E) : pm_ev pmT sc e 219 false (0, [some (.retAddr 1)], [], 129, 17845, H) (some (.int 0), 129, 17845, H) := by
  refine pe_blk mm_219 5 (s' := (14, [some (.retAddr 1)], [.int 0], _, _, _)) rfl ?_
  exact pe_ret mm_219 rfl rfl
theorem ix218 (sc : Option (Nat × (Nat → Int32))) (e : Nat) (he : 1 ≤ e) (H : Nat → va_E) : pm_ev pmT sc e 218 false (0, [some (.retAddr 1)], [], 129, 17845, H) (some (.int 16), 129, 17845, H) := by
  obtain ⟨e1, rfl⟩ : ∃ e1, e = e1 + 1 := ⟨e - 1, by omega⟩
  refine pe_blk mm_218 4 (s' := (6, [some (.retAddr 1)], [.retAddr 1, .int 16], _, _, _)) rfl ?_
  refine pe_virtS (al := []) (L0 := [some (.retAddr 1)]) (r1 := (some (.int 0), 129, 17845, H)) mm_218 rfl rfl rfl mm_219 rfl (Nat.le_of_ble_eq_true rfl) (Nat.le_of_ble_eq_true rfl) rfl rfl (ix219 sc e1 H) ?_
  refine pe_blk mm_218 1 (s' := (10, [some (.retAddr 1)], [.int 16], _, _, _)) rfl ?_
  exact pe_ret mm_218 rfl rfl
theorem ix217 (sc : Option (Nat × (Nat → Int32))) (e : Nat) (H : Nat → va_E) : pm_ev pmT sc e 217 false (0, [some (.retAddr 1)], [], 129, 17845, H) (some (.int 1), 129, 17845, H) := by
  refine pe_blk mm_217 7 (s' := (18, [some (.retAddr 1)], [.int 1], _, _, _)) rfl ?_
  exact pe_ret mm_217 rfl rfl
theorem ix216 (sc : Option (Nat × (Nat → Int32))) (e : Nat) (he : 3 ≤ e) (c : Int32) (H : Nat → va_E) : pm_ev pmT sc e 216 false (0, [some (.retAddr 1), some (.int c), some (.int 0)], [], 129, 17845, H) (some (.int (ixv c)), 129, 17845, H) := by
  obtain ⟨e1, rfl⟩ : ∃ e1, e = e1 + 1 := ⟨e - 1, by omega⟩
  refine pe_blk mm_216 1 (s' := (1, [some (.retAddr 1), some (.int c), some (.int 0)], [.retAddr 1], _, _, _)) rfl ?_
  refine pe_virtS (al := []) (L0 := [some (.retAddr 1)]) (r1 := (some (.int 1), 129, 17845, H)) mm_216 rfl rfl rfl mm_217 rfl (Nat.le_of_ble_eq_true rfl) (Nat.le_of_ble_eq_true rfl) rfl rfl (ix217 sc e1 H) ?_
  refine pe_blk mm_216 6 (s' := (14, [some (.retAddr 1), some (.int c), some (.int 0)], [.retAddr 1, .int 0, .int c, .retAddr 2], _, _, _)) rfl ?_
  refine pe_virtS (al := []) (L0 := [some (.retAddr 1)]) (r1 := (some (.int 16), 129, 17845, H)) mm_216 rfl rfl rfl mm_218 rfl (Nat.le_of_ble_eq_true rfl) (Nat.le_of_ble_eq_true rfl) rfl rfl (ix218 sc e1 (by omega) H) ?_
  show pm_ev _ _ _ _ _ (17, [some (.retAddr 1), some (.int c), some (.int 0)], [.int 16, .int 0, .int c, .retAddr 2], _, _, _) _
  refine pe_stat (al := [.int 16, .int 0, .int c, .retAddr 2]) (L0 := [some (.retAddr 2), some (.int c), some (.int 0), some (.int 16)]) (r1 := (some (.int (ixv c)), 129, 17845, H)) mm_216 rfl rfl rfl mm_220 rfl (Nat.le_of_ble_eq_true rfl) (Nat.le_of_ble_eq_true rfl) rfl rfl (ix220 sc e1 (by omega) c H) ?_
  refine pe_blk mm_216 1 (s' := (36, [some (.retAddr 1), some (.int c), some (.int 0)], [.int (ixv c)], _, _, _)) rfl ?_
  exact pe_ret mm_216 rfl rfl
theorem ix_ev (sc : Option (Nat × (Nat → Int32))) (e : Nat) (he : 4 ≤ e) (c : Int32) (H : Nat → va_E) : pm_ev pmT sc e 215 false (0, [some (.retAddr 1), some (.int c)], [], 129, 17845, H) (some (.int (ixv c)), 129, 17845, H) := by
  obtain ⟨e1, rfl⟩ : ∃ e1, e = e1 + 1 := ⟨e - 1, by omega⟩
  refine pe_blk mm_215 3 (s' := (3, [some (.retAddr 1), some (.int c)], [.int 0, .int c, .retAddr 1], _, _, _)) rfl ?_
  refine pe_virtS (al := [.int 0, .int c]) (L0 := [some (.retAddr 1), some (.int c), some (.int 0)]) (r1 := (some (.int (ixv c)), 129, 17845, H)) mm_215 rfl rfl rfl mm_216 rfl (Nat.le_of_ble_eq_true rfl) (Nat.le_of_ble_eq_true rfl) rfl rfl (ix216 sc e1 (by omega) c H) ?_
  exact pe_ret mm_215 rfl rfl
