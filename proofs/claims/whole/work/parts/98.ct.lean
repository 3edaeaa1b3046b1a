/-! The reader's flag stays a flag. -/
def q34 (m : ZM) : Prop := m.1 3 4 = 0 ∨ m.1 3 4 = 1
theorem q34_kp {M M' : ZM} {l : List (Nat × Nat)} (hk : kp (wl l) M M') (hl : wl l 3 4 = false) (h : q34 M) : q34 M' := by
  unfold q34
  rw [(hk.1 3 4 hl).1]
  exact h
theorem q34_i {m : ZM} (h : q34 m) (k : Nat) (x : Int) (hk : k ≠ 4) : q34 (z_i m 3 k x) := by
  unfold q34
  rw [z_nk _ _ _ _ _ _ (by omega)]
  exact h
theorem q34_s (m : ZM) (x : Int) (hx : x = 0 ∨ x = 1) : q34 (z_i m 3 4 x) := by
  unfold q34
  rw [z_eq]
  exact hx
theorem hiD {p : Nat} (hp : isD p) (l : List (Nat × Nat)) (hl : ∀ q ∈ l, p ≤ q.1) : wl l 3 4 = false := by
  have := isD_ge hp
  unfold wl
  rw [List.any_eq_false]
  intro q hq
  have := hl q hq
  simp
  omega
theorem id_i {α : Type} {o : Option (α × ZM)} {x v : α} {m M : ZM} (hx : o = some (x, m)) (e : o = some (v, M)) (h : q34 m) : q34 M := by
  rw [hx] at e
  cases e
  exact h
section
variable {n : Nat} {m M : ZM} {a c v : Int} {r : Unit} {p : Nat}
theorem o11i (e : zF11 n a m = some (v, M)) (h : q34 m) : q34 M := id_i (zF11_eq n a m) e h
theorem o13i (e : zF13 n a m = some (v, M)) (h : q34 m) : q34 M := id_i (zF13_eq n a m) e h
theorem o14i (e : zF14 n a m = some (v, M)) (h : q34 m) : q34 M := id_i (zF14_eq n a m) e h
theorem o15i (e : zF15 n a m = some (v, M)) (h : q34 m) : q34 M := id_i (zF15_eq n a m) e h
theorem o16i (e : zF16 n a m = some (v, M)) (h : q34 m) : q34 M := id_i (zF16_eq n a m) e h
theorem o108i (e : zF108 n p m = some (v, M)) (h : q34 m) : q34 M := id_i (zF108_eq n p m) e h
theorem o161i (e : zF161 n 4 m = some (v, M)) (h : q34 m) : q34 M := by rw [zF161_kp n 4 m v M e]; exact h
theorem o117i (e : zF117 n p a m = some (v, M)) (h : q34 m) : q34 M := by rw [zF117_kp n p a m v M e]; exact h
theorem o121i (e : zF121 n p a m = some (v, M)) (h : q34 m) : q34 M := by rw [zF121_kp n p a m v M e]; exact h
theorem o122i (e : zF122 n p a m = some (v, M)) (h : q34 m) : q34 M := by rw [zF122_kp n p a m v M e]; exact h
theorem o162i (e : zF162 n 4 a c m = some (v, M)) (h : q34 m) : q34 M := q34_kp (zF162_kp n 4 a c m v M e) rfl h
theorem o163i (e : zF163 n 4 a m = some (v, M)) (h : q34 m) : q34 M := q34_kp (zF163_kp n 4 a m v M e) rfl h
theorem o103i (e : zF103 n p a m = some (r, M)) (hp : isD p) (h : q34 m) : q34 M := q34_kp (zF103_kp n p a m r M e) (hiD hp (w103 p) (by simp [w103])) h
theorem o102i (e : zF102 n p a c m = some (r, M)) (hp : isD p) (h : q34 m) : q34 M := q34_kp (zF102_kp n p a c m r M e) (hiD hp (w102 p) (by simp [w102])) h
theorem o104i (e : zF104 n p a c m = some (r, M)) (hp : isD p) (h : q34 m) : q34 M := q34_kp (zF104_kp n p a c m r M e) (hiD hp (w104 p) (by simp [w104])) h
theorem o105i (e : zF105 n p a c m = some (r, M)) (hp : isD p) (h : q34 m) : q34 M := q34_kp (zF105_kp n p a c m r M e) (hiD hp (w105 p) (by simp [w105])) h
theorem o106i (e : zF106 n p a c m = some (r, M)) (hp : isD p) (h : q34 m) : q34 M := q34_kp (zF106_kp n p a c m r M e) (hiD hp (w106 p) (by simp [w106])) h
theorem o129i (e : zF129 n a c m = some (v, M)) (h : q34 m) : q34 M := by
  unfold zF129 zlet at e
  split at e
  · cases e; exact q34_i h 2 c (by decide)
  · cases e
theorem o134i (e : zF134 n a m = some (v, M)) (h : q34 m) : q34 M := by
  unfold zF134 zJ134_54 zJ134_55 zJ134_22 at e
  try dsimp only at e
  repeat' split at e
  all_goals first | cases e | skip
  all_goals repeat (first | exact h | refine o129i (by assumption) ?_ | refine o11i (by assumption) ?_ | refine o13i (by assumption) ?_ | refine o14i (by assumption) ?_ | refine o15i (by assumption) ?_ | refine o16i (by assumption) ?_ | refine o108i (by assumption) ?_ | refine o161i (by assumption) ?_ | refine o117i (by assumption) ?_ | refine o121i (by assumption) ?_ | refine o122i (by assumption) ?_ | refine o162i (by assumption) ?_ | refine o163i (by assumption) ?_ | refine o103i (by assumption) (by assumption) ?_ | refine o102i (by assumption) (by assumption) ?_ | refine o104i (by assumption) (by assumption) ?_ | refine o105i (by assumption) (by assumption) ?_ | refine o106i (by assumption) (by assumption) ?_ | exact q34_s _ _ (by decide) | refine q34_i ?_ _ _ (by decide))
theorem o133a (x : Int) (e : zJ133_97 n x m = some (v, M)) (h : q34 m) : q34 M := by
  unfold zJ133_97 zJ133_116 zlet at e
  try dsimp only at e
  repeat' split at e
  all_goals first | cases e | skip
  all_goals repeat (first | exact h | refine o129i (by assumption) ?_ | refine o11i (by assumption) ?_ | refine o13i (by assumption) ?_ | refine o14i (by assumption) ?_ | refine o15i (by assumption) ?_ | refine o16i (by assumption) ?_ | refine o108i (by assumption) ?_ | refine o161i (by assumption) ?_ | refine o117i (by assumption) ?_ | refine o121i (by assumption) ?_ | refine o122i (by assumption) ?_ | refine o162i (by assumption) ?_ | refine o163i (by assumption) ?_ | refine o103i (by assumption) (by assumption) ?_ | refine o102i (by assumption) (by assumption) ?_ | refine o104i (by assumption) (by assumption) ?_ | refine o105i (by assumption) (by assumption) ?_ | refine o106i (by assumption) (by assumption) ?_ | exact q34_s _ _ (by decide) | refine q34_i ?_ _ _ (by decide) | refine o134i (by assumption) ?_)
theorem o133b (x : Int) (e : zJ133_75 n x m = some (v, M)) (h : q34 m) : q34 M := by
  unfold zJ133_75 zlet at e
  try dsimp only at e
  repeat' split at e
  all_goals first | cases e | skip
  all_goals refine o133a _ e ?_
  all_goals repeat (first | exact h | refine o129i (by assumption) ?_ | refine o11i (by assumption) ?_ | refine o13i (by assumption) ?_ | refine o14i (by assumption) ?_ | refine o15i (by assumption) ?_ | refine o16i (by assumption) ?_ | refine o108i (by assumption) ?_ | refine o161i (by assumption) ?_ | refine o117i (by assumption) ?_ | refine o121i (by assumption) ?_ | refine o122i (by assumption) ?_ | refine o162i (by assumption) ?_ | refine o163i (by assumption) ?_ | refine o103i (by assumption) (by assumption) ?_ | refine o102i (by assumption) (by assumption) ?_ | refine o104i (by assumption) (by assumption) ?_ | refine o105i (by assumption) (by assumption) ?_ | refine o106i (by assumption) (by assumption) ?_ | exact q34_s _ _ (by decide) | refine q34_i ?_ _ _ (by decide) | refine o134i (by assumption) ?_)
theorem o133c (x y : Int) (e : zJ133_51 n x y m = some (v, M)) (h : q34 m) : q34 M := by
  unfold zJ133_51 zJ133_66 at e
  repeat' split at e
  all_goals first | cases e | skip
  all_goals first | refine o133a _ e ?_ | refine o133b _ e ?_ | skip
  all_goals repeat (first | exact h | refine o129i (by assumption) ?_ | refine o11i (by assumption) ?_ | refine o13i (by assumption) ?_ | refine o14i (by assumption) ?_ | refine o15i (by assumption) ?_ | refine o16i (by assumption) ?_ | refine o108i (by assumption) ?_ | refine o161i (by assumption) ?_ | refine o117i (by assumption) ?_ | refine o121i (by assumption) ?_ | refine o122i (by assumption) ?_ | refine o162i (by assumption) ?_ | refine o163i (by assumption) ?_ | refine o103i (by assumption) (by assumption) ?_ | refine o102i (by assumption) (by assumption) ?_ | refine o104i (by assumption) (by assumption) ?_ | refine o105i (by assumption) (by assumption) ?_ | refine o106i (by assumption) (by assumption) ?_ | exact q34_s _ _ (by decide) | refine q34_i ?_ _ _ (by decide) | refine o134i (by assumption) ?_)
theorem o133i (e : zF133 n a m = some (v, M)) (h : q34 m) : q34 M := by
  unfold zF133 zJ133_22 zJ133_66 at e
  repeat' split at e
  all_goals first | cases e | skip
  all_goals first | refine o133c _ _ e ?_ | skip
  all_goals repeat (first | exact h | refine o129i (by assumption) ?_ | refine o11i (by assumption) ?_ | refine o13i (by assumption) ?_ | refine o14i (by assumption) ?_ | refine o15i (by assumption) ?_ | refine o16i (by assumption) ?_ | refine o108i (by assumption) ?_ | refine o161i (by assumption) ?_ | refine o117i (by assumption) ?_ | refine o121i (by assumption) ?_ | refine o122i (by assumption) ?_ | refine o162i (by assumption) ?_ | refine o163i (by assumption) ?_ | refine o103i (by assumption) (by assumption) ?_ | refine o102i (by assumption) (by assumption) ?_ | refine o104i (by assumption) (by assumption) ?_ | refine o105i (by assumption) (by assumption) ?_ | refine o106i (by assumption) (by assumption) ?_ | exact q34_s _ _ (by decide) | refine q34_i ?_ _ _ (by decide) | refine o134i (by assumption) ?_)
theorem o132i (e : zF132 n a m = some (v, M)) (h : q34 m) : q34 M := by
  unfold zF132 zJ132_28 zJ132_71 zJ132_52 zJ132_94 zJ132_100 zlet at e
  try dsimp only at e
  repeat' split at e
  all_goals first | cases e | skip
  all_goals repeat (first | exact h | refine o129i (by assumption) ?_ | refine o11i (by assumption) ?_ | refine o13i (by assumption) ?_ | refine o14i (by assumption) ?_ | refine o15i (by assumption) ?_ | refine o16i (by assumption) ?_ | refine o108i (by assumption) ?_ | refine o161i (by assumption) ?_ | refine o117i (by assumption) ?_ | refine o121i (by assumption) ?_ | refine o122i (by assumption) ?_ | refine o162i (by assumption) ?_ | refine o163i (by assumption) ?_ | refine o103i (by assumption) (by assumption) ?_ | refine o102i (by assumption) (by assumption) ?_ | refine o104i (by assumption) (by assumption) ?_ | refine o105i (by assumption) (by assumption) ?_ | refine o106i (by assumption) (by assumption) ?_ | exact q34_s _ _ (by decide) | refine q34_i ?_ _ _ (by decide) | refine o134i (by assumption) ?_ | refine o133i (by assumption) ?_)
theorem o131i (e : zF131 n a m = some (v, M)) (h : q34 m) : q34 M := by
  unfold zF131 zJ131_48 zJ131_40 zJ131_53 at e
  try dsimp only at e
  repeat' split at e
  all_goals first | cases e | skip
  all_goals repeat (first | exact h | refine o129i (by assumption) ?_ | refine o11i (by assumption) ?_ | refine o13i (by assumption) ?_ | refine o14i (by assumption) ?_ | refine o15i (by assumption) ?_ | refine o16i (by assumption) ?_ | refine o108i (by assumption) ?_ | refine o161i (by assumption) ?_ | refine o117i (by assumption) ?_ | refine o121i (by assumption) ?_ | refine o122i (by assumption) ?_ | refine o162i (by assumption) ?_ | refine o163i (by assumption) ?_ | refine o103i (by assumption) (by assumption) ?_ | refine o102i (by assumption) (by assumption) ?_ | refine o104i (by assumption) (by assumption) ?_ | refine o105i (by assumption) (by assumption) ?_ | refine o106i (by assumption) (by assumption) ?_ | exact q34_s _ _ (by decide) | refine q34_i ?_ _ _ (by decide) | refine o134i (by assumption) ?_ | refine o133i (by assumption) ?_ | refine o132i (by assumption) ?_)
theorem o130i (e : zF130 n a m = some (v, M)) (h : q34 m) : q34 M := by
  unfold zF130 zJ130_21 zJ130_47 zJ130_48 zlet at e
  try dsimp only at e
  repeat' split at e
  all_goals first | cases e | skip
  all_goals repeat (first | exact h | refine o129i (by assumption) ?_ | refine o11i (by assumption) ?_ | refine o13i (by assumption) ?_ | refine o14i (by assumption) ?_ | refine o15i (by assumption) ?_ | refine o16i (by assumption) ?_ | refine o108i (by assumption) ?_ | refine o161i (by assumption) ?_ | refine o117i (by assumption) ?_ | refine o121i (by assumption) ?_ | refine o122i (by assumption) ?_ | refine o162i (by assumption) ?_ | refine o163i (by assumption) ?_ | refine o103i (by assumption) (by assumption) ?_ | refine o102i (by assumption) (by assumption) ?_ | refine o104i (by assumption) (by assumption) ?_ | refine o105i (by assumption) (by assumption) ?_ | refine o106i (by assumption) (by assumption) ?_ | exact q34_s _ _ (by decide) | refine q34_i ?_ _ _ (by decide) | refine o134i (by assumption) ?_ | refine o133i (by assumption) ?_ | refine o132i (by assumption) ?_ | refine o131i (by assumption) ?_)
theorem o128_76 (e : zJ128_76 n a m = some (v, M)) (h : q34 m) : q34 M := by
  unfold zJ128_76  at e
  try unfold zlet at e
  try dsimp only at e
  repeat' split at e
  all_goals first | cases e | skip
  all_goals repeat (first | exact h | refine o129i (by assumption) ?_ | refine o11i (by assumption) ?_ | refine o13i (by assumption) ?_ | refine o14i (by assumption) ?_ | refine o15i (by assumption) ?_ | refine o16i (by assumption) ?_ | refine o108i (by assumption) ?_ | refine o161i (by assumption) ?_ | refine o117i (by assumption) ?_ | refine o121i (by assumption) ?_ | refine o122i (by assumption) ?_ | refine o162i (by assumption) ?_ | refine o163i (by assumption) ?_ | refine o103i (by assumption) (by assumption) ?_ | refine o102i (by assumption) (by assumption) ?_ | refine o104i (by assumption) (by assumption) ?_ | refine o105i (by assumption) (by assumption) ?_ | refine o106i (by assumption) (by assumption) ?_ | exact q34_s _ _ (by decide) | refine q34_i ?_ _ _ (by decide) | refine o134i (by assumption) ?_ | refine o133i (by assumption) ?_ | refine o132i (by assumption) ?_ | refine o131i (by assumption) ?_ | refine o130i (by assumption) ?_)
theorem o128_86 (e : zJ128_86 n a m = some (v, M)) (h : q34 m) : q34 M := by
  unfold zJ128_86  at e
  try unfold zlet at e
  try dsimp only at e
  repeat' split at e
  all_goals first | cases e | skip
  all_goals repeat (first | exact h | refine o129i (by assumption) ?_ | refine o11i (by assumption) ?_ | refine o13i (by assumption) ?_ | refine o14i (by assumption) ?_ | refine o15i (by assumption) ?_ | refine o16i (by assumption) ?_ | refine o108i (by assumption) ?_ | refine o161i (by assumption) ?_ | refine o117i (by assumption) ?_ | refine o121i (by assumption) ?_ | refine o122i (by assumption) ?_ | refine o162i (by assumption) ?_ | refine o163i (by assumption) ?_ | refine o103i (by assumption) (by assumption) ?_ | refine o102i (by assumption) (by assumption) ?_ | refine o104i (by assumption) (by assumption) ?_ | refine o105i (by assumption) (by assumption) ?_ | refine o106i (by assumption) (by assumption) ?_ | exact q34_s _ _ (by decide) | refine q34_i ?_ _ _ (by decide) | refine o134i (by assumption) ?_ | refine o133i (by assumption) ?_ | refine o132i (by assumption) ?_ | refine o131i (by assumption) ?_ | refine o130i (by assumption) ?_)
theorem o128_92 (e : zJ128_92 n a m = some (v, M)) (h : q34 m) : q34 M := by
  unfold zJ128_92 zJ128_123 zJ128_124 at e
  try unfold zlet at e
  try dsimp only at e
  repeat' split at e
  all_goals first | cases e | skip
  all_goals repeat (first | exact h | refine o129i (by assumption) ?_ | refine o11i (by assumption) ?_ | refine o13i (by assumption) ?_ | refine o14i (by assumption) ?_ | refine o15i (by assumption) ?_ | refine o16i (by assumption) ?_ | refine o108i (by assumption) ?_ | refine o161i (by assumption) ?_ | refine o117i (by assumption) ?_ | refine o121i (by assumption) ?_ | refine o122i (by assumption) ?_ | refine o162i (by assumption) ?_ | refine o163i (by assumption) ?_ | refine o103i (by assumption) (by assumption) ?_ | refine o102i (by assumption) (by assumption) ?_ | refine o104i (by assumption) (by assumption) ?_ | refine o105i (by assumption) (by assumption) ?_ | refine o106i (by assumption) (by assumption) ?_ | exact q34_s _ _ (by decide) | refine q34_i ?_ _ _ (by decide) | refine o134i (by assumption) ?_ | refine o133i (by assumption) ?_ | refine o132i (by assumption) ?_ | refine o131i (by assumption) ?_ | refine o130i (by assumption) ?_)
theorem o128_129 (e : zJ128_129 n a m = some (v, M)) (h : q34 m) : q34 M := by
  unfold zJ128_129 zJ128_151 zJ128_152 at e
  try unfold zlet at e
  try dsimp only at e
  repeat' split at e
  all_goals first | cases e | skip
  all_goals repeat (first | exact h | refine o129i (by assumption) ?_ | refine o11i (by assumption) ?_ | refine o13i (by assumption) ?_ | refine o14i (by assumption) ?_ | refine o15i (by assumption) ?_ | refine o16i (by assumption) ?_ | refine o108i (by assumption) ?_ | refine o161i (by assumption) ?_ | refine o117i (by assumption) ?_ | refine o121i (by assumption) ?_ | refine o122i (by assumption) ?_ | refine o162i (by assumption) ?_ | refine o163i (by assumption) ?_ | refine o103i (by assumption) (by assumption) ?_ | refine o102i (by assumption) (by assumption) ?_ | refine o104i (by assumption) (by assumption) ?_ | refine o105i (by assumption) (by assumption) ?_ | refine o106i (by assumption) (by assumption) ?_ | exact q34_s _ _ (by decide) | refine q34_i ?_ _ _ (by decide) | refine o134i (by assumption) ?_ | refine o133i (by assumption) ?_ | refine o132i (by assumption) ?_ | refine o131i (by assumption) ?_ | refine o130i (by assumption) ?_)
theorem o128_235 (e : zJ128_235 n a m = some (v, M)) (h : q34 m) : q34 M := by
  unfold zJ128_235  at e
  try unfold zlet at e
  try dsimp only at e
  repeat' split at e
  all_goals first | cases e | skip
  all_goals repeat (first | exact h | refine o129i (by assumption) ?_ | refine o11i (by assumption) ?_ | refine o13i (by assumption) ?_ | refine o14i (by assumption) ?_ | refine o15i (by assumption) ?_ | refine o16i (by assumption) ?_ | refine o108i (by assumption) ?_ | refine o161i (by assumption) ?_ | refine o117i (by assumption) ?_ | refine o121i (by assumption) ?_ | refine o122i (by assumption) ?_ | refine o162i (by assumption) ?_ | refine o163i (by assumption) ?_ | refine o103i (by assumption) (by assumption) ?_ | refine o102i (by assumption) (by assumption) ?_ | refine o104i (by assumption) (by assumption) ?_ | refine o105i (by assumption) (by assumption) ?_ | refine o106i (by assumption) (by assumption) ?_ | exact q34_s _ _ (by decide) | refine q34_i ?_ _ _ (by decide) | refine o134i (by assumption) ?_ | refine o133i (by assumption) ?_ | refine o132i (by assumption) ?_ | refine o131i (by assumption) ?_ | refine o130i (by assumption) ?_)
theorem o128_157 (e : zJ128_157 n a m = some (v, M)) (h : q34 m) : q34 M := by
  unfold zJ128_157  at e
  try unfold zlet at e
  try dsimp only at e
  repeat' split at e
  all_goals first | cases e | skip
  all_goals repeat (first | exact h | refine o129i (by assumption) ?_ | refine o11i (by assumption) ?_ | refine o13i (by assumption) ?_ | refine o14i (by assumption) ?_ | refine o15i (by assumption) ?_ | refine o16i (by assumption) ?_ | refine o108i (by assumption) ?_ | refine o161i (by assumption) ?_ | refine o117i (by assumption) ?_ | refine o121i (by assumption) ?_ | refine o122i (by assumption) ?_ | refine o162i (by assumption) ?_ | refine o163i (by assumption) ?_ | refine o103i (by assumption) (by assumption) ?_ | refine o102i (by assumption) (by assumption) ?_ | refine o104i (by assumption) (by assumption) ?_ | refine o105i (by assumption) (by assumption) ?_ | refine o106i (by assumption) (by assumption) ?_ | exact q34_s _ _ (by decide) | refine q34_i ?_ _ _ (by decide) | refine o134i (by assumption) ?_ | refine o133i (by assumption) ?_ | refine o132i (by assumption) ?_ | refine o131i (by assumption) ?_ | refine o130i (by assumption) ?_)
theorem o128_163 (e : zJ128_163 n a m = some (v, M)) (h : q34 m) : q34 M := by
  unfold zJ128_163 zJ128_175 at e
  try unfold zlet at e
  try dsimp only at e
  repeat' split at e
  all_goals first | cases e | skip
  all_goals repeat (first | exact h | refine o129i (by assumption) ?_ | refine o11i (by assumption) ?_ | refine o13i (by assumption) ?_ | refine o14i (by assumption) ?_ | refine o15i (by assumption) ?_ | refine o16i (by assumption) ?_ | refine o108i (by assumption) ?_ | refine o161i (by assumption) ?_ | refine o117i (by assumption) ?_ | refine o121i (by assumption) ?_ | refine o122i (by assumption) ?_ | refine o162i (by assumption) ?_ | refine o163i (by assumption) ?_ | refine o103i (by assumption) (by assumption) ?_ | refine o102i (by assumption) (by assumption) ?_ | refine o104i (by assumption) (by assumption) ?_ | refine o105i (by assumption) (by assumption) ?_ | refine o106i (by assumption) (by assumption) ?_ | exact q34_s _ _ (by decide) | refine q34_i ?_ _ _ (by decide) | refine o134i (by assumption) ?_ | refine o133i (by assumption) ?_ | refine o132i (by assumption) ?_ | refine o131i (by assumption) ?_ | refine o130i (by assumption) ?_)
theorem o128_181 (e : zJ128_181 n a m = some (v, M)) (h : q34 m) : q34 M := by
  unfold zJ128_181  at e
  try unfold zlet at e
  try dsimp only at e
  repeat' split at e
  all_goals first | cases e | skip
  all_goals repeat (first | exact h | refine o129i (by assumption) ?_ | refine o11i (by assumption) ?_ | refine o13i (by assumption) ?_ | refine o14i (by assumption) ?_ | refine o15i (by assumption) ?_ | refine o16i (by assumption) ?_ | refine o108i (by assumption) ?_ | refine o161i (by assumption) ?_ | refine o117i (by assumption) ?_ | refine o121i (by assumption) ?_ | refine o122i (by assumption) ?_ | refine o162i (by assumption) ?_ | refine o163i (by assumption) ?_ | refine o103i (by assumption) (by assumption) ?_ | refine o102i (by assumption) (by assumption) ?_ | refine o104i (by assumption) (by assumption) ?_ | refine o105i (by assumption) (by assumption) ?_ | refine o106i (by assumption) (by assumption) ?_ | exact q34_s _ _ (by decide) | refine q34_i ?_ _ _ (by decide) | refine o134i (by assumption) ?_ | refine o133i (by assumption) ?_ | refine o132i (by assumption) ?_ | refine o131i (by assumption) ?_ | refine o130i (by assumption) ?_)
theorem o128_191 (e : zJ128_191 n a m = some (v, M)) (h : q34 m) : q34 M := by
  unfold zJ128_191  at e
  try unfold zlet at e
  try dsimp only at e
  repeat' split at e
  all_goals first | cases e | skip
  all_goals repeat (first | exact h | refine o129i (by assumption) ?_ | refine o11i (by assumption) ?_ | refine o13i (by assumption) ?_ | refine o14i (by assumption) ?_ | refine o15i (by assumption) ?_ | refine o16i (by assumption) ?_ | refine o108i (by assumption) ?_ | refine o161i (by assumption) ?_ | refine o117i (by assumption) ?_ | refine o121i (by assumption) ?_ | refine o122i (by assumption) ?_ | refine o162i (by assumption) ?_ | refine o163i (by assumption) ?_ | refine o103i (by assumption) (by assumption) ?_ | refine o102i (by assumption) (by assumption) ?_ | refine o104i (by assumption) (by assumption) ?_ | refine o105i (by assumption) (by assumption) ?_ | refine o106i (by assumption) (by assumption) ?_ | exact q34_s _ _ (by decide) | refine q34_i ?_ _ _ (by decide) | refine o134i (by assumption) ?_ | refine o133i (by assumption) ?_ | refine o132i (by assumption) ?_ | refine o131i (by assumption) ?_ | refine o130i (by assumption) ?_)
theorem o128_197 (e : zJ128_197 n a m = some (v, M)) (h : q34 m) : q34 M := by
  unfold zJ128_197 zJ128_212 zJ128_225 zJ128_230 at e
  try unfold zlet at e
  try dsimp only at e
  repeat' split at e
  all_goals first | cases e | skip
  all_goals repeat (first | exact h | refine o129i (by assumption) ?_ | refine o11i (by assumption) ?_ | refine o13i (by assumption) ?_ | refine o14i (by assumption) ?_ | refine o15i (by assumption) ?_ | refine o16i (by assumption) ?_ | refine o108i (by assumption) ?_ | refine o161i (by assumption) ?_ | refine o117i (by assumption) ?_ | refine o121i (by assumption) ?_ | refine o122i (by assumption) ?_ | refine o162i (by assumption) ?_ | refine o163i (by assumption) ?_ | refine o103i (by assumption) (by assumption) ?_ | refine o102i (by assumption) (by assumption) ?_ | refine o104i (by assumption) (by assumption) ?_ | refine o105i (by assumption) (by assumption) ?_ | refine o106i (by assumption) (by assumption) ?_ | exact q34_s _ _ (by decide) | refine q34_i ?_ _ _ (by decide) | refine o134i (by assumption) ?_ | refine o133i (by assumption) ?_ | refine o132i (by assumption) ?_ | refine o131i (by assumption) ?_ | refine o130i (by assumption) ?_)
theorem o128_17 (e : zJ128_17 n a m = some (v, M)) (h : q34 m) : q34 M := by
  unfold zJ128_17 at e
  repeat' split at e
  all_goals first | exact o128_76 e h | exact o128_86 e h | exact o128_92 e h | exact o128_129 e h | exact o128_235 e h | exact o128_157 e h | exact o128_163 e h | exact o128_181 e h | exact o128_191 e h | exact o128_197 e h | cases e
  all_goals exact o131i (by assumption) h
theorem o128i (e : zF128 n a c m = some (v, M)) (h : q34 m) : q34 M := by
  unfold zF128 zlet at e
  try dsimp only at e
  split at e
  · split at e
    · split at e
      · exact o128_17 e (o102i (by assumption) (by assumption) (q34_i h _ _ (by decide)))
      · cases e
    · cases e
  · cases e
theorem o127l : ∀ (f : Nat) (x : Int) (m : ZM), zL127_31 n p f x m = some (v, M) → q34 m → q34 M := by
  intro f
  induction f with
  | zero => intro x m e; cases e
  | succ f ih =>
    intro x m e h
    rw [zL127_31] at e
    unfold zJ127_57 zJ127_67 zJ127_78 zJ127_94 at e
    have h201 : ∀ (m m' : ZM) (r : Int), zF201 n m = some (r, m') → q34 m → q34 m' := fun m m' r e h => q34_kp (zF201_kp n m r m' e) rfl h
    have h199 : ∀ (m m' : ZM) (r : Int), zF199 n m = some (r, m') → q34 m → q34 m' := fun m m' r e h => by cases e; exact h
    have h200 : ∀ (m m' : ZM) (r : Int), zF200 n m = some (r, m') → q34 m → q34 m' := fun m m' r e h => by cases e; exact h
    repeat' split at e
    all_goals first | cases e | skip
    all_goals first | exact ih _ _ e (o128i (by assumption) (h201 _ _ _ (by assumption) h)) | exact h | exact h201 _ _ _ (by assumption) h | exact h199 _ _ _ (by assumption) h | exact h199 _ _ _ (by assumption) (h201 _ _ _ (by assumption) h) | exact h200 _ _ _ (by assumption) (h201 _ _ _ (by assumption) h) | exact h200 _ _ _ (by assumption) (o128i (by assumption) (h201 _ _ _ (by assumption) h))
end
