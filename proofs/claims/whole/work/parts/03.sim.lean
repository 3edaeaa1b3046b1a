/-! One step of the pure machine is a step of the machine. -/
theorem pm_rl_i {ar : List Nat} {b : Nat → Nat} {x : Int32} {t str : List Value} (h : pm_rl ar b (.int x :: t) str) : ∃ u, str = .int x :: u ∧ pm_rl ar b t u := by
  obtain ⟨w, u, h1, h2, h3⟩ := h; exact ⟨u, by rw [h1, show w = .int x from h2], h3⟩
theorem pm_rl_j {ar : List Nat} {b : Nat → Nat} {x : Int64} {t str : List Value} (h : pm_rl ar b (.long x :: t) str) : ∃ u, str = .long x :: u ∧ pm_rl ar b t u := by
  obtain ⟨w, u, h1, h2, h3⟩ := h; exact ⟨u, by rw [h1, show w = .long x from h2], h3⟩
theorem pm_rl_n {ar : List Nat} {b : Nat → Nat} {t str : List Value} (h : pm_rl ar b (.null :: t) str) : ∃ u, str = .null :: u ∧ pm_rl ar b t u := by
  obtain ⟨w, u, h1, h2, h3⟩ := h; exact ⟨u, by rw [h1, show w = .null from h2], h3⟩
theorem pm_rl_s {ar : List Nat} {b : Nat → Nat} {x : Nat} {t str : List Value} (h : pm_rl ar b (.retAddr x :: t) str) : ∃ u, str = .ref (b x) :: u ∧ pm_rl ar b t u := by
  obtain ⟨w, u, h1, h2, h3⟩ := h; exact ⟨u, by rw [h1, show w = .ref (b x) from h2], h3⟩
theorem pm_rl_r {ar : List Nat} {b : Nat → Nat} {a : Nat} {t str : List Value} (h : pm_rl ar b (.ref a :: t) str) : ∃ q u, str = .ref q :: u ∧ ar[a]? = some q ∧ pm_rl ar b t u := by
  obtain ⟨w, u, h1, ⟨q, h2, h4⟩, h3⟩ := h; exact ⟨q, u, by rw [h1, h4], h2, h3⟩
theorem pm_rl_v {ar : List Nat} {b : Nat → Nat} {v : Value} {t str : List Value} (h : pm_rl ar b (v :: t) str) : ∃ w u, str = w :: u ∧ pm_rv ar b v w ∧ pm_rl ar b t u := h
theorem pm_li {ar : List Nat} {b : Nat → Nat} {x : Int32} {t u : List Value} (h : pm_rl ar b t u) : pm_rl ar b (.int x :: t) (.int x :: u) := ⟨_, _, rfl, rfl, h⟩
theorem pm_lj {ar : List Nat} {b : Nat → Nat} {x : Int64} {t u : List Value} (h : pm_rl ar b t u) : pm_rl ar b (.long x :: t) (.long x :: u) := ⟨_, _, rfl, rfl, h⟩
theorem pm_ln {ar : List Nat} {b : Nat → Nat} {t u : List Value} (h : pm_rl ar b t u) : pm_rl ar b (.null :: t) (.null :: u) := ⟨_, _, rfl, rfl, h⟩
theorem pm_lv {ar : List Nat} {b : Nat → Nat} {v w : Value} {t u : List Value} (hv : pm_rv ar b v w) (h : pm_rl ar b t u) : pm_rl ar b (v :: t) (w :: u) := ⟨_, _, rfl, hv, h⟩
theorem pm_lr {ar : List Nat} {b : Nat → Nat} {a q : Nat} {t u : List Value} (hq : ar[a]? = some q) (h : pm_rl ar b t u) : pm_rl ar b (.ref a :: t) (.ref q :: u) := ⟨_, _, rfl, ⟨q, hq, rfl⟩, h⟩
theorem pm_rl_d {ar : List Nat} {b : Nat → Nat} {l : List Value} (h : ∀ v ∈ l, v = .int 0 ∨ v = .null) : pm_rl ar b l l := by
  induction l with
  | nil => exact rfl
  | cons v t ih =>
    refine ⟨v, t, rfl, ?_, ih fun w hw => h w (List.mem_cons_of_mem _ hw)⟩
    rcases h v List.mem_cons_self with rfl | rfl <;> exact rfl
theorem pm_hd {bs : ByteArray} {pc : Nat} {i : Instr} {len k : Nat} (hdg : decode bs pc = .ok (i, len)) (hl : pm_len i = 0 ∨ len = pm_len i) (hk : pm_len i = k) (h0 : k ≠ 0) : decode bs pc = .ok (i, k) := by
  rcases hl with z | z
  · exact absurd (hk.symm.trans z) h0
  · rw [hdg, z, hk]
theorem pm_last {ar : List Nat} {q N : Nat} (h : ar.length = N) : (ar ++ [q])[N]? = some q := by
  rw [List.getElem?_append_right (by omega), h, Nat.sub_self]; rfl
theorem pm_rf {ar : List Nat} {b : Nat → Nat} {x y : Option Nat} (h : pm_ro ar x y) : pm_rv ar b (va_rf x) (va_rf y) := by
  cases x with
  | none => rw [show y = none from h]; exact rfl
  | some a => obtain ⟨q, h1, rfl⟩ := h; exact ⟨q, h1, rfl⟩
theorem pm_fitsV_spec {c : Nat} {ini same : Bool} {v : Value} (h : pm_fitsV c ini same v = true) :
    (c = 0 ∧ ∃ x, v = .int x) ∨ (c = 1 ∧ ∃ x, v = .int x ∧ (x = 0 ∨ x = 1)) ∨ (c = 2 ∧ ∃ a, v = .ref a) ∨ (c = 3 ∧ (∃ a, v = .ref a) ∧ ini = true ∧ same = true) := by
  unfold pm_fitsV at h
  split at h
  · exact Or.inl ⟨rfl, _, rfl⟩
  · exact Or.inr (Or.inl ⟨rfl, _, rfl, of_decide_eq_true h⟩)
  · exact Or.inr (Or.inr (Or.inl ⟨rfl, _, rfl⟩))
  · simp only [Bool.and_eq_true] at h
    exact Or.inr (Or.inr (Or.inr ⟨rfl, ⟨_, rfl⟩, h.1, h.2⟩))
  · cases h
def pm_Cx (cl : List vw_C) (GW NW : List Cond) (dn : String) (D : va_G) (tc : Nat → ClassId) (p : Program) (s : State) (m : MethodId) (args : Array Value) (meth : Method) (c : Code) (nm : MethodName) (bs : ByteArray) (mL : Nat) (rt : Option FieldType) (ini : Bool) : Prop :=
  p.tables.exec = Jvm.exec ∧ c.code = bs ∧ c.maxLocals = mL ∧ meth.sig.returnType = rt ∧ meth.locks = false ∧ (ini = true → meth.name = "<init>") ∧ s.vm.findClass nm.cls = some m.cls ∧ (∀ w ∈ GW, w.before args s = true) ∧ (∀ w ∈ NW, va_Nw w s) ∧ va_AO dn s ∧ va_K D cl (pm_ty tc dn) s
def pm_Rl (cl : List vw_C) (D : va_G) (tc : Nat → ClassId) (b : Nat → Nat) (A : Nat → Prop) (H0 : Heap) (ar : List Nat) (ws : va_W) (N : Nat) (h : Nat → va_E) (L : List (Option Value)) (ls : Array Slot) (mL : Nat) (st str : List Value) (H : Heap) (locs : List Loc) : Prop :=
  pm_rw tc ar b N h ws ∧ va_P D cl ws H ∧ va_D A ws ∧ va_S A H0 H locs ∧ pm_rL ar b L ls mL ∧ pm_rl ar b st str
section PMSIM
variable {p : Program} {l : Launch} {e : Env} {R : Room} {s : State} {m : MethodId} {args : Array Value} {below : List Frame} {meth : Method} {c : Code} {Q : State → Prop}
set_option maxHeartbeats 8000000 in
set_option maxRecDepth 20000 in
theorem pm_sim_ok {T : pm_T} {cl : List vw_C} {GW NW : List Cond} {dn tx : String} {D : va_G} {tc : Nat → ClassId} (ok : pm_OK T cl GW NW dn tx)
    {y : Nat} {nm : MethodName} {bs : ByteArray} {mL : Nat} {rt : Option FieldType} {o : Nat} {ini : Bool} {ft : Nat → Option (Instr × Nat × Int32)} (hM : T.1 y = some (nm, bs, mL, rt, o, ini, ft))
    {d : Nat} {sc : Option (Nat × (Nat → Int32))} {i : Instr} {tgt : Nat} {cv : Int32} {pc : Nat} (hd : pm_dec bs pc i tgt cv) (cx : pm_Cx cl GW NW dn D tc p s m args meth c nm bs mL rt ini)
    {b : Nat → Nat} {A : Nat → Prop} {H0 : Heap} {ar : List Nat} {ws : va_W} {N S : Nat} {h0 : Nat → va_E} {L : List (Option Value)} {ls : Array Slot} {st str : List Value} {H : Heap} {locs : List Loc} {cells slots : Nat}
    (hH0 : H0 = s.heap) (ex : pm_Ex T tx b A s s.heap) (hsc : ∀ n f, sc = some (n, f) → va_X (b 0) n f s H0 ∧ b 0 < H0.size ∧ ¬ A (b 0)) (rl : pm_Rl cl D tc b A H0 ar ws N h0 L ls mL st str H locs) (hA : ∀ q, H0.size ≤ q → A q)
    {pc' N' S' : Nat} {L' : List (Option Value)} {st' : List Value} {h' : Nat → va_E} (h : pm_sim T o ini mL d sc i tgt cv (pc, L, st, N, S, h0) = some (pc', L', st', N', S', h'))
    (hfr : d ≤ R.frames) (hlo : 60 * d ≤ R.locals) (hc : cells + N' ≤ R.cells + N) (hs : slots + S' ≤ R.slots + S)
    (kk : ∀ (bs2 : List Nat) (ws' : va_W) (H' : Heap) (locs' : List Loc) (ls' : Array Slot) (str' : List Value) (cells' slots' : Nat), cells' + N = cells + N' → slots' + S = slots + S' →
      pm_Rl cl D tc b A H0 (ar ++ bs2) ws' N' h' L' ls' mL st' str' H' locs' → W p l e R s m args below meth c H' locs' cells' slots' Q (F0 m pc' ls' str')) :
    W p l e R s m args below meth c H locs cells slots Q (F0 m pc ls str) := by
  obtain ⟨oM, oF, oC, oN, oI, oB, oA, oL, oG, oW, oS⟩ := ok
  obtain ⟨exR, exS, exZ⟩ := ex
  subst hH0
  obtain ⟨hx, hb, hml, hr, hlk, hin, hown, hts, hnw, hao, hK⟩ := cx
  obtain ⟨hw, hP, hD, hS, hL, hst⟩ := rl
  obtain ⟨len, hdg, hlen, hdx⟩ := hd
  have kk0 : ∀ (ws' : va_W) (H' : Heap) (locs' : List Loc) (ls' : Array Slot) (str' : List Value), N' = N → S' = S → pm_Rl cl D tc b A s.heap ar ws' N' h' L' ls' mL st' str' H' locs' → W p l e R s m args below meth c H' locs' cells slots Q (F0 m pc' ls' str') :=
    fun ws' H' locs' ls' str' e1 e2 hr => kk [] ws' H' locs' ls' str' cells slots (by omega) (by omega) (by rw [List.append_nil]; exact hr)
  have hlz : ls.size = mL := hL.1
  cases i
  case aconst_null =>
    have hdg : decode bs pc = .ok (.aconst_null, 1) := pm_hd hdg hlen rfl (by decide)
    dsimp only [pm_sim] at h
    cases h
    exact lv_null hx hb hdg (kk0 ws H locs ls _ rfl rfl ⟨hw, hP, hD, hS, hL, pm_ln hst⟩)
  case iconst n =>
    have hdg : decode bs pc = .ok (.iconst n, 1) := pm_hd hdg hlen rfl (by decide)
    dsimp only [pm_sim] at h
    cases h
    exact lv_iconst hx hb hdg hdx (kk0 ws H locs ls _ rfl rfl ⟨hw, hP, hD, hS, hL, pm_li hst⟩)
  case bipush n =>
    have hdg : decode bs pc = .ok (.bipush n, 2) := pm_hd hdg hlen rfl (by decide)
    dsimp only [pm_sim] at h
    cases h
    exact lv_bipush hx hb hdg hdx (kk0 ws H locs ls _ rfl rfl ⟨hw, hP, hD, hS, hL, pm_li hst⟩)
  case sipush n =>
    have hdg : decode bs pc = .ok (.sipush n, 3) := pm_hd hdg hlen rfl (by decide)
    dsimp only [pm_sim] at h
    cases h
    exact lv_sipush hx hb hdg hdx (kk0 ws H locs ls _ rfl rfl ⟨hw, hP, hD, hS, hL, pm_li hst⟩)
  case lconst n =>
    have hdg : decode bs pc = .ok (.lconst n, 1) := pm_hd hdg hlen rfl (by decide)
    dsimp only [pm_sim] at h
    cases h
    exact lv_lconst hx hb hdg rfl (kk0 ws H locs ls _ rfl rfl ⟨hw, hP, hD, hS, hL, pm_lj hst⟩)
  case iload_n k =>
    have hdg : decode bs pc = .ok (.iload_n k, 1) := pm_hd hdg hlen rfl (by decide)
    dsimp only [pm_sim] at h
    split at h
    · rename_i hq
      cases h
      obtain ⟨-, w, h1, h2⟩ := hL.2.2 _ _ hq
      have h2 : w = .int _ := h2
      subst h2
      exact lv_iload_n hx hb hdg rfl h1 (kk0 ws H locs ls _ rfl rfl ⟨hw, hP, hD, hS, hL, pm_li hst⟩)
    · cases h
  case iload k =>
    have hdg : decode bs pc = .ok (.iload k, 2) := pm_hd hdg hlen rfl (by decide)
    dsimp only [pm_sim] at h
    split at h
    · rename_i hq
      cases h
      obtain ⟨-, w, h1, h2⟩ := hL.2.2 _ _ hq
      have h2 : w = .int _ := h2
      subst h2
      exact lv_iload hx hb hdg h1 (kk0 ws H locs ls _ rfl rfl ⟨hw, hP, hD, hS, hL, pm_li hst⟩)
    · cases h
  case aload_n k =>
    have hdg : decode bs pc = .ok (.aload_n k, 1) := pm_hd hdg hlen rfl (by decide)
    dsimp only [pm_sim] at h
    split at h
    · rename_i hq
      cases h
      obtain ⟨-, w, h1, q, h2, h3⟩ := hL.2.2 _ _ hq
      subst h3
      exact lv_aload_n hx hb hdg rfl h1 (kk0 ws H locs ls _ rfl rfl ⟨hw, hP, hD, hS, hL, pm_lr h2 hst⟩)
    · rename_i hq
      cases h
      obtain ⟨-, w, h1, h2⟩ := hL.2.2 _ _ hq
      have h2 : w = .null := h2
      subst h2
      exact lv_aload_nN hx hb hdg rfl h1 (kk0 ws H locs ls _ rfl rfl ⟨hw, hP, hD, hS, hL, pm_ln hst⟩)
    · rename_i hq
      cases h
      obtain ⟨-, w, h1, h2⟩ := hL.2.2 _ _ hq
      have h2 : w = .ref (b _) := h2
      subst h2
      exact lv_aload_n hx hb hdg rfl h1 (kk0 ws H locs ls _ rfl rfl ⟨hw, hP, hD, hS, hL, ⟨_, _, rfl, rfl, hst⟩⟩)
    · cases h
  case aload k =>
    have hdg : decode bs pc = .ok (.aload k, 2) := pm_hd hdg hlen rfl (by decide)
    dsimp only [pm_sim] at h
    split at h
    · rename_i hq
      cases h
      obtain ⟨-, w, h1, q, h2, h3⟩ := hL.2.2 _ _ hq
      subst h3
      exact lv_aload hx hb hdg h1 (kk0 ws H locs ls _ rfl rfl ⟨hw, hP, hD, hS, hL, pm_lr h2 hst⟩)
    · rename_i hq
      cases h
      obtain ⟨-, w, h1, h2⟩ := hL.2.2 _ _ hq
      have h2 : w = .null := h2
      subst h2
      exact lv_aloadN hx hb hdg h1 (kk0 ws H locs ls _ rfl rfl ⟨hw, hP, hD, hS, hL, pm_ln hst⟩)
    · rename_i hq
      cases h
      obtain ⟨-, w, h1, h2⟩ := hL.2.2 _ _ hq
      have h2 : w = .ref (b _) := h2
      subst h2
      exact lv_aload hx hb hdg h1 (kk0 ws H locs ls _ rfl rfl ⟨hw, hP, hD, hS, hL, ⟨_, _, rfl, rfl, hst⟩⟩)
    · cases h
  case istore_n k =>
    have hdg : decode bs pc = .ok (.istore_n k, 1) := pm_hd hdg hlen rfl (by decide)
    dsimp only [pm_sim] at h
    split at h
    · split at h
      · rename_i hkm
        cases h
        obtain ⟨u, rfl, hs1⟩ := pm_rl_i hst
        obtain ⟨lv, h1, h2⟩ := pm_store (i := k) hL (v := .int _) (w := .int _) rfl rfl
        exact lv_istore_n hx hb hdg rfl h1 hkm rfl (fun ls' hl' => kk0 ws H locs ls' _ rfl rfl ⟨hw, hP, hD, hS, h2 ls' hl', hs1⟩)
      · cases h
    · cases h
  case istore k =>
    have hdg : decode bs pc = .ok (.istore k, 2) := pm_hd hdg hlen rfl (by decide)
    dsimp only [pm_sim] at h
    split at h
    · split at h
      · rename_i hkm
        cases h
        obtain ⟨u, rfl, hs1⟩ := pm_rl_i hst
        obtain ⟨lv, h1, h2⟩ := pm_store (i := k) hL (v := .int _) (w := .int _) rfl rfl
        exact lv_istore hx hb hdg h1 hkm rfl (fun ls' hl' => kk0 ws H locs ls' _ rfl rfl ⟨hw, hP, hD, hS, h2 ls' hl', hs1⟩)
      · cases h
    · cases h
  case astore_n k =>
    have hdg : decode bs pc = .ok (.astore_n k, 1) := pm_hd hdg hlen rfl (by decide)
    dsimp only [pm_sim] at h
    split at h
    · split at h
      · rename_i hkm
        cases h
        obtain ⟨q, u, rfl, hq, hs1⟩ := pm_rl_r hst
        obtain ⟨lv, h1, h2⟩ := pm_store (i := k) hL (v := .ref _) (w := .ref q) rfl ⟨q, hq, rfl⟩
        exact lv_astore_n hx hb hdg rfl h1 hkm rfl (fun ls' hl' => kk0 ws H locs ls' _ rfl rfl ⟨hw, hP, hD, hS, h2 ls' hl', hs1⟩)
      · cases h
    · split at h
      · rename_i hkm
        cases h
        obtain ⟨u, rfl, hs1⟩ := pm_rl_n hst
        obtain ⟨lv, h1, h2⟩ := pm_store (i := k) hL (v := .null) (w := .null) rfl rfl
        exact lv_astore_nN hx hb hdg rfl h1 hkm rfl (fun ls' hl' => kk0 ws H locs ls' _ rfl rfl ⟨hw, hP, hD, hS, h2 ls' hl', hs1⟩)
      · cases h
    · cases h
  case astore k =>
    have hdg : decode bs pc = .ok (.astore k, 2) := pm_hd hdg hlen rfl (by decide)
    dsimp only [pm_sim] at h
    split at h
    · split at h
      · rename_i hkm
        cases h
        obtain ⟨q, u, rfl, hq, hs1⟩ := pm_rl_r hst
        obtain ⟨lv, h1, h2⟩ := pm_store (i := k) hL (v := .ref _) (w := .ref q) rfl ⟨q, hq, rfl⟩
        exact lv_astore hx hb hdg h1 hkm rfl (fun ls' hl' => kk0 ws H locs ls' _ rfl rfl ⟨hw, hP, hD, hS, h2 ls' hl', hs1⟩)
      · cases h
    · split at h
      · rename_i hkm
        cases h
        obtain ⟨u, rfl, hs1⟩ := pm_rl_n hst
        obtain ⟨lv, h1, h2⟩ := pm_store (i := k) hL (v := .null) (w := .null) rfl rfl
        exact lv_astoreN hx hb hdg h1 hkm rfl (fun ls' hl' => kk0 ws H locs ls' _ rfl rfl ⟨hw, hP, hD, hS, h2 ls' hl', hs1⟩)
      · cases h
    · cases h
  case iinc k n =>
    have hdg : decode bs pc = .ok (.iinc k n, 3) := pm_hd hdg hlen rfl (by decide)
    dsimp only [pm_sim] at h
    split at h
    · rename_i x hq
      split at h
      · rename_i hkm
        cases h
        have hdx : Int32.ofInt n = cv := hdx
        obtain ⟨-, w, h1, h2⟩ := hL.2.2 _ _ hq
        have h2 : w = .int x := h2
        subst h2
        obtain ⟨lv, g1, g2⟩ := pm_store (i := k) hL (v := .int (x + cv)) (w := .int (x + cv)) rfl rfl
        have g1' : lv_has ls mL ((k, .int x) :: lv) := ⟨g1.1, g1.2.1, fun q hq' => by
          rcases List.mem_cons.mp hq' with rfl | hq'
          · exact h1
          · exact g1.2.2 q hq'⟩
        exact lv_iinc hx hb hdg g1' (k := 0) rfl (by rw [hdx]) hkm (by simp) (fun ls' hl' => kk0 ws H locs ls' _ rfl rfl ⟨hw, hP, hD, hS, g2 ls' hl', hst⟩)
      · cases h
    · cases h
  case iadd =>
    have hdg : decode bs pc = .ok (.iadd, 1) := pm_hd hdg hlen rfl (by decide)
    dsimp only [pm_sim] at h
    split at h
    · cases h
      obtain ⟨u, rfl, hs1⟩ := pm_rl_i hst
      obtain ⟨u, rfl, hs2⟩ := pm_rl_i hs1
      exact lv_iadd hx hb hdg (kk0 ws H locs ls _ rfl rfl ⟨hw, hP, hD, hS, hL, pm_li hs2⟩)
    · cases h
  case isub =>
    have hdg : decode bs pc = .ok (.isub, 1) := pm_hd hdg hlen rfl (by decide)
    dsimp only [pm_sim] at h
    split at h
    · cases h
      obtain ⟨u, rfl, hs1⟩ := pm_rl_i hst
      obtain ⟨u, rfl, hs2⟩ := pm_rl_i hs1
      exact lv_isub hx hb hdg (kk0 ws H locs ls _ rfl rfl ⟨hw, hP, hD, hS, hL, pm_li hs2⟩)
    · cases h
  case imul =>
    have hdg : decode bs pc = .ok (.imul, 1) := pm_hd hdg hlen rfl (by decide)
    dsimp only [pm_sim] at h
    split at h
    · cases h
      obtain ⟨u, rfl, hs1⟩ := pm_rl_i hst
      obtain ⟨u, rfl, hs2⟩ := pm_rl_i hs1
      exact lv_imul hx hb hdg (kk0 ws H locs ls _ rfl rfl ⟨hw, hP, hD, hS, hL, pm_li hs2⟩)
    · cases h
  case iand =>
    have hdg : decode bs pc = .ok (.iand, 1) := pm_hd hdg hlen rfl (by decide)
    dsimp only [pm_sim] at h
    split at h
    · cases h
      obtain ⟨u, rfl, hs1⟩ := pm_rl_i hst
      obtain ⟨u, rfl, hs2⟩ := pm_rl_i hs1
      exact lv_iand hx hb hdg (kk0 ws H locs ls _ rfl rfl ⟨hw, hP, hD, hS, hL, pm_li hs2⟩)
    · cases h
  case ishl =>
    have hdg : decode bs pc = .ok (.ishl, 1) := pm_hd hdg hlen rfl (by decide)
    dsimp only [pm_sim] at h
    split at h
    · cases h
      obtain ⟨u, rfl, hs1⟩ := pm_rl_i hst
      obtain ⟨u, rfl, hs2⟩ := pm_rl_i hs1
      exact lv_ishl hx hb hdg (kk0 ws H locs ls _ rfl rfl ⟨hw, hP, hD, hS, hL, pm_li hs2⟩)
    · cases h
  case ishr =>
    have hdg : decode bs pc = .ok (.ishr, 1) := pm_hd hdg hlen rfl (by decide)
    dsimp only [pm_sim] at h
    split at h
    · cases h
      obtain ⟨u, rfl, hs1⟩ := pm_rl_i hst
      obtain ⟨u, rfl, hs2⟩ := pm_rl_i hs1
      exact lv_ishr hx hb hdg (kk0 ws H locs ls _ rfl rfl ⟨hw, hP, hD, hS, hL, pm_li hs2⟩)
    · cases h
  case idiv =>
    have hdg : decode bs pc = .ok (.idiv, 1) := pm_hd hdg hlen rfl (by decide)
    dsimp only [pm_sim] at h
    split at h
    · split at h
      · cases h
      · rename_i hne
        cases h
        obtain ⟨u, rfl, hs1⟩ := pm_rl_i hst
        obtain ⟨u, rfl, hs2⟩ := pm_rl_i hs1
        exact lv_idiv hx hb hdg hne (kk0 ws H locs ls _ rfl rfl ⟨hw, hP, hD, hS, hL, pm_li hs2⟩)
    · cases h
  case irem =>
    have hdg : decode bs pc = .ok (.irem, 1) := pm_hd hdg hlen rfl (by decide)
    dsimp only [pm_sim] at h
    split at h
    · split at h
      · cases h
      · rename_i hne
        cases h
        obtain ⟨u, rfl, hs1⟩ := pm_rl_i hst
        obtain ⟨u, rfl, hs2⟩ := pm_rl_i hs1
        exact lv_irem hx hb hdg hne (kk0 ws H locs ls _ rfl rfl ⟨hw, hP, hD, hS, hL, pm_li hs2⟩)
    · cases h
  case ineg =>
    have hdg : decode bs pc = .ok (.ineg, 1) := pm_hd hdg hlen rfl (by decide)
    dsimp only [pm_sim] at h
    split at h
    · cases h
      obtain ⟨u, rfl, hs1⟩ := pm_rl_i hst
      exact lv_ineg hx hb hdg (kk0 ws H locs ls _ rfl rfl ⟨hw, hP, hD, hS, hL, pm_li hs1⟩)
    · cases h
  case iushr =>
    have hdg : decode bs pc = .ok (.iushr, 1) := pm_hd hdg hlen rfl (by decide)
    dsimp only [pm_sim] at h
    split at h
    · cases h
      obtain ⟨u, rfl, hs1⟩ := pm_rl_i hst
      obtain ⟨u, rfl, hs2⟩ := pm_rl_i hs1
      exact lv_iushr hx hb hdg rfl (kk0 ws H locs ls _ rfl rfl ⟨hw, hP, hD, hS, hL, pm_li hs2⟩)
    · cases h
  case i2l =>
    have hdg : decode bs pc = .ok (.i2l, 1) := pm_hd hdg hlen rfl (by decide)
    dsimp only [pm_sim] at h
    split at h
    · cases h
      obtain ⟨u, rfl, hs1⟩ := pm_rl_i hst
      exact lv_i2l hx hb hdg rfl (kk0 ws H locs ls _ rfl rfl ⟨hw, hP, hD, hS, hL, pm_lj hs1⟩)
    · cases h
  case l2i =>
    have hdg : decode bs pc = .ok (.l2i, 1) := pm_hd hdg hlen rfl (by decide)
    dsimp only [pm_sim] at h
    split at h
    · cases h
      obtain ⟨u, rfl, hs1⟩ := pm_rl_j hst
      exact lv_l2i hx hb hdg rfl (kk0 ws H locs ls _ rfl rfl ⟨hw, hP, hD, hS, hL, pm_li hs1⟩)
    · cases h
  case i2c =>
    have hdg : decode bs pc = .ok (.i2c, 1) := pm_hd hdg hlen rfl (by decide)
    dsimp only [pm_sim] at h
    split at h
    · cases h
      obtain ⟨u, rfl, hs1⟩ := pm_rl_i hst
      exact lv_i2c hx hb hdg rfl (kk0 ws H locs ls _ rfl rfl ⟨hw, hP, hD, hS, hL, pm_li hs1⟩)
    · cases h
  case land =>
    have hdg : decode bs pc = .ok (.land, 1) := pm_hd hdg hlen rfl (by decide)
    dsimp only [pm_sim] at h
    split at h
    · cases h
      obtain ⟨u, rfl, hs1⟩ := pm_rl_j hst
      obtain ⟨u, rfl, hs2⟩ := pm_rl_j hs1
      exact lv_land hx hb hdg (kk0 ws H locs ls _ rfl rfl ⟨hw, hP, hD, hS, hL, pm_lj hs2⟩)
    · cases h
  case lor =>
    have hdg : decode bs pc = .ok (.lor, 1) := pm_hd hdg hlen rfl (by decide)
    dsimp only [pm_sim] at h
    split at h
    · cases h
      obtain ⟨u, rfl, hs1⟩ := pm_rl_j hst
      obtain ⟨u, rfl, hs2⟩ := pm_rl_j hs1
      exact lv_lor hx hb hdg (kk0 ws H locs ls _ rfl rfl ⟨hw, hP, hD, hS, hL, pm_lj hs2⟩)
    · cases h
  case lshl =>
    have hdg : decode bs pc = .ok (.lshl, 1) := pm_hd hdg hlen rfl (by decide)
    dsimp only [pm_sim] at h
    split at h
    · cases h
      obtain ⟨u, rfl, hs1⟩ := pm_rl_i hst
      obtain ⟨u, rfl, hs2⟩ := pm_rl_j hs1
      exact lv_lshl hx hb hdg rfl (kk0 ws H locs ls _ rfl rfl ⟨hw, hP, hD, hS, hL, pm_lj hs2⟩)
    · cases h
  case lshr =>
    have hdg : decode bs pc = .ok (.lshr, 1) := pm_hd hdg hlen rfl (by decide)
    dsimp only [pm_sim] at h
    split at h
    · cases h
      obtain ⟨u, rfl, hs1⟩ := pm_rl_i hst
      obtain ⟨u, rfl, hs2⟩ := pm_rl_j hs1
      exact lv_lshr hx hb hdg rfl (kk0 ws H locs ls _ rfl rfl ⟨hw, hP, hD, hS, hL, pm_lj hs2⟩)
    · cases h
  case dup =>
    have hdg : decode bs pc = .ok (.dup, 1) := pm_hd hdg hlen rfl (by decide)
    dsimp only [pm_sim] at h
    split at h
    · split at h
      · rename_i hv1
        cases h
        obtain ⟨w, u, rfl, hvw, hs1⟩ := pm_rl_v hst
        exact lv_dup hx hb hdg ((pm_rv_cat hvw).trans hv1) (kk0 ws H locs ls _ rfl rfl ⟨hw, hP, hD, hS, hL, pm_lv hvw (pm_lv hvw hs1)⟩)
      · cases h
    · cases h
  case pop =>
    have hdg : decode bs pc = .ok (.pop, 1) := pm_hd hdg hlen rfl (by decide)
    dsimp only [pm_sim] at h
    split at h
    · split at h
      · rename_i hv1
        cases h
        obtain ⟨w, u, rfl, hvw, hs1⟩ := pm_rl_v hst
        exact lv_pop hx hb hdg ((pm_rv_cat hvw).trans hv1) (kk0 ws H locs ls _ rfl rfl ⟨hw, hP, hD, hS, hL, hs1⟩)
      · cases h
    · cases h
  case dup_x1 =>
    have hdg : decode bs pc = .ok (.dup_x1, 1) := pm_hd hdg hlen rfl (by decide)
    dsimp only [pm_sim] at h
    split at h
    · split at h
      · rename_i hv1
        cases h
        obtain ⟨w, u, rfl, hvw, hs1⟩ := pm_rl_v hst
        obtain ⟨w2, u2, rfl, hvw2, hs2⟩ := pm_rl_v hs1
        exact lv_dup_x1 hx hb hdg ((pm_rv_cat hvw).trans hv1.1) ((pm_rv_cat hvw2).trans hv1.2) (kk0 ws H locs ls _ rfl rfl ⟨hw, hP, hD, hS, hL, pm_lv hvw (pm_lv hvw2 (pm_lv hvw hs2))⟩)
      · cases h
    · cases h
  case dup2 =>
    have hdg : decode bs pc = .ok (.dup2, 1) := pm_hd hdg hlen rfl (by decide)
    dsimp only [pm_sim] at h
    split at h
    · split at h
      · rename_i hv1
        cases h
        obtain ⟨w, u, rfl, hvw, hs1⟩ := pm_rl_v hst
        obtain ⟨w2, u2, rfl, hvw2, hs2⟩ := pm_rl_v hs1
        exact lv_dup2_11 hx hb hdg ((pm_rv_cat hvw).trans hv1.1) ((pm_rv_cat hvw2).trans hv1.2) (kk0 ws H locs ls _ rfl rfl ⟨hw, hP, hD, hS, hL, pm_lv hvw (pm_lv hvw2 (pm_lv hvw (pm_lv hvw2 hs2)))⟩)
      · cases h
    · cases h
  case ifCond cnd off =>
    cases cnd
    · have hdg : decode bs pc = .ok (.ifCond .eq off, 3) := pm_hd hdg hlen rfl (by decide)
      dsimp only [pm_sim] at h
      split at h
      · cases h
        obtain ⟨u, rfl, hs1⟩ := pm_rl_i hst
        exact lv_if_eq hx hb hdg hdx (fun hcc => by have z := kk0 ws H locs ls _ rfl rfl ⟨hw, hP, hD, hS, hL, hs1⟩; rw [if_pos hcc] at z; exact z) (fun hcc => by have z := kk0 ws H locs ls _ rfl rfl ⟨hw, hP, hD, hS, hL, hs1⟩; rw [if_neg hcc] at z; exact z)
      · cases h
    · have hdg : decode bs pc = .ok (.ifCond .ne off, 3) := pm_hd hdg hlen rfl (by decide)
      dsimp only [pm_sim] at h
      split at h
      · cases h
        obtain ⟨u, rfl, hs1⟩ := pm_rl_i hst
        exact lv_if_ne hx hb hdg hdx (fun hcc => by have z := kk0 ws H locs ls _ rfl rfl ⟨hw, hP, hD, hS, hL, hs1⟩; rw [if_neg hcc] at z; exact z) (fun hcc => by have z := kk0 ws H locs ls _ rfl rfl ⟨hw, hP, hD, hS, hL, hs1⟩; rw [if_pos hcc] at z; exact z)
      · cases h
    · have hdg : decode bs pc = .ok (.ifCond .lt off, 3) := pm_hd hdg hlen rfl (by decide)
      dsimp only [pm_sim] at h
      split at h
      · cases h
        obtain ⟨u, rfl, hs1⟩ := pm_rl_i hst
        exact lv_if_lt hx hb hdg hdx (fun hcc => by have z := kk0 ws H locs ls _ rfl rfl ⟨hw, hP, hD, hS, hL, hs1⟩; rw [if_pos hcc] at z; exact z) (fun hcc => by have z := kk0 ws H locs ls _ rfl rfl ⟨hw, hP, hD, hS, hL, hs1⟩; rw [if_neg hcc] at z; exact z)
      · cases h
    · have hdg : decode bs pc = .ok (.ifCond .ge off, 3) := pm_hd hdg hlen rfl (by decide)
      dsimp only [pm_sim] at h
      split at h
      · cases h
        obtain ⟨u, rfl, hs1⟩ := pm_rl_i hst
        exact lv_if_ge hx hb hdg hdx (fun hcc => by have z := kk0 ws H locs ls _ rfl rfl ⟨hw, hP, hD, hS, hL, hs1⟩; rw [if_pos hcc] at z; exact z) (fun hcc => by have z := kk0 ws H locs ls _ rfl rfl ⟨hw, hP, hD, hS, hL, hs1⟩; rw [if_neg hcc] at z; exact z)
      · cases h
    · have hdg : decode bs pc = .ok (.ifCond .gt off, 3) := pm_hd hdg hlen rfl (by decide)
      dsimp only [pm_sim] at h
      split at h
      · cases h
        obtain ⟨u, rfl, hs1⟩ := pm_rl_i hst
        exact lv_if_gt hx hb hdg hdx (fun hcc => by have z := kk0 ws H locs ls _ rfl rfl ⟨hw, hP, hD, hS, hL, hs1⟩; rw [if_pos hcc] at z; exact z) (fun hcc => by have z := kk0 ws H locs ls _ rfl rfl ⟨hw, hP, hD, hS, hL, hs1⟩; rw [if_neg hcc] at z; exact z)
      · cases h
    · have hdg : decode bs pc = .ok (.ifCond .le off, 3) := pm_hd hdg hlen rfl (by decide)
      dsimp only [pm_sim] at h
      split at h
      · cases h
        obtain ⟨u, rfl, hs1⟩ := pm_rl_i hst
        exact lv_if_le hx hb hdg hdx (fun hcc => by have z := kk0 ws H locs ls _ rfl rfl ⟨hw, hP, hD, hS, hL, hs1⟩; rw [if_pos hcc] at z; exact z) (fun hcc => by have z := kk0 ws H locs ls _ rfl rfl ⟨hw, hP, hD, hS, hL, hs1⟩; rw [if_neg hcc] at z; exact z)
      · cases h
  case if_icmp cnd off =>
    cases cnd
    · have hdg : decode bs pc = .ok (.if_icmp .eq off, 3) := pm_hd hdg hlen rfl (by decide)
      dsimp only [pm_sim] at h
      split at h
      · cases h
        obtain ⟨u, rfl, hs1⟩ := pm_rl_i hst
        obtain ⟨u, rfl, hs2⟩ := pm_rl_i hs1
        exact lv_icmp_eq hx hb hdg hdx (fun hcc => by have z := kk0 ws H locs ls _ rfl rfl ⟨hw, hP, hD, hS, hL, hs2⟩; rw [if_pos hcc] at z; exact z) (fun hcc => by have z := kk0 ws H locs ls _ rfl rfl ⟨hw, hP, hD, hS, hL, hs2⟩; rw [if_neg hcc] at z; exact z)
      · cases h
    · have hdg : decode bs pc = .ok (.if_icmp .ne off, 3) := pm_hd hdg hlen rfl (by decide)
      dsimp only [pm_sim] at h
      split at h
      · cases h
        obtain ⟨u, rfl, hs1⟩ := pm_rl_i hst
        obtain ⟨u, rfl, hs2⟩ := pm_rl_i hs1
        exact lv_icmp_ne hx hb hdg hdx (fun hcc => by have z := kk0 ws H locs ls _ rfl rfl ⟨hw, hP, hD, hS, hL, hs2⟩; rw [if_neg hcc] at z; exact z) (fun hcc => by have z := kk0 ws H locs ls _ rfl rfl ⟨hw, hP, hD, hS, hL, hs2⟩; rw [if_pos hcc] at z; exact z)
      · cases h
    · have hdg : decode bs pc = .ok (.if_icmp .lt off, 3) := pm_hd hdg hlen rfl (by decide)
      dsimp only [pm_sim] at h
      split at h
      · cases h
        obtain ⟨u, rfl, hs1⟩ := pm_rl_i hst
        obtain ⟨u, rfl, hs2⟩ := pm_rl_i hs1
        exact lv_icmp_lt hx hb hdg hdx (fun hcc => by have z := kk0 ws H locs ls _ rfl rfl ⟨hw, hP, hD, hS, hL, hs2⟩; rw [if_pos hcc] at z; exact z) (fun hcc => by have z := kk0 ws H locs ls _ rfl rfl ⟨hw, hP, hD, hS, hL, hs2⟩; rw [if_neg hcc] at z; exact z)
      · cases h
    · have hdg : decode bs pc = .ok (.if_icmp .ge off, 3) := pm_hd hdg hlen rfl (by decide)
      dsimp only [pm_sim] at h
      split at h
      · cases h
        obtain ⟨u, rfl, hs1⟩ := pm_rl_i hst
        obtain ⟨u, rfl, hs2⟩ := pm_rl_i hs1
        exact lv_icmp_ge hx hb hdg hdx (fun hcc => by have z := kk0 ws H locs ls _ rfl rfl ⟨hw, hP, hD, hS, hL, hs2⟩; rw [if_pos hcc] at z; exact z) (fun hcc => by have z := kk0 ws H locs ls _ rfl rfl ⟨hw, hP, hD, hS, hL, hs2⟩; rw [if_neg hcc] at z; exact z)
      · cases h
    · have hdg : decode bs pc = .ok (.if_icmp .gt off, 3) := pm_hd hdg hlen rfl (by decide)
      dsimp only [pm_sim] at h
      split at h
      · cases h
        obtain ⟨u, rfl, hs1⟩ := pm_rl_i hst
        obtain ⟨u, rfl, hs2⟩ := pm_rl_i hs1
        exact lv_icmp_gt hx hb hdg hdx (fun hcc => by have z := kk0 ws H locs ls _ rfl rfl ⟨hw, hP, hD, hS, hL, hs2⟩; rw [if_pos hcc] at z; exact z) (fun hcc => by have z := kk0 ws H locs ls _ rfl rfl ⟨hw, hP, hD, hS, hL, hs2⟩; rw [if_neg hcc] at z; exact z)
      · cases h
    · have hdg : decode bs pc = .ok (.if_icmp .le off, 3) := pm_hd hdg hlen rfl (by decide)
      dsimp only [pm_sim] at h
      split at h
      · cases h
        obtain ⟨u, rfl, hs1⟩ := pm_rl_i hst
        obtain ⟨u, rfl, hs2⟩ := pm_rl_i hs1
        exact lv_icmp_le hx hb hdg hdx (fun hcc => by have z := kk0 ws H locs ls _ rfl rfl ⟨hw, hP, hD, hS, hL, hs2⟩; rw [if_pos hcc] at z; exact z) (fun hcc => by have z := kk0 ws H locs ls _ rfl rfl ⟨hw, hP, hD, hS, hL, hs2⟩; rw [if_neg hcc] at z; exact z)
      · cases h
  case goto off =>
    have hdg : decode bs pc = .ok (.goto off, 3) := pm_hd hdg hlen rfl (by decide)
    dsimp only [pm_sim] at h
    cases h
    exact lv_goto hx hb hdg hdx (kk0 ws H locs ls _ rfl rfl ⟨hw, hP, hD, hS, hL, hst⟩)
  case ifnull off =>
    have hdg : decode bs pc = .ok (.ifnull off, 3) := pm_hd hdg hlen rfl (by decide)
    dsimp only [pm_sim] at h
    split at h
    · cases h
      obtain ⟨q, u, rfl, hq, hs1⟩ := pm_rl_r hst
      exact lv_ifnull hx hb hdg (kk0 ws H locs ls _ rfl rfl ⟨hw, hP, hD, hS, hL, hs1⟩)
    · cases h
      obtain ⟨u, rfl, hs1⟩ := pm_rl_n hst
      exact lv_ifnullN hx hb hdg hdx (kk0 ws H locs ls _ rfl rfl ⟨hw, hP, hD, hS, hL, hs1⟩)
    · cases h
  case ifnonnull off =>
    have hdg : decode bs pc = .ok (.ifnonnull off, 3) := pm_hd hdg hlen rfl (by decide)
    dsimp only [pm_sim] at h
    split at h
    · cases h
      obtain ⟨q, u, rfl, hq, hs1⟩ := pm_rl_r hst
      exact lv_ifnonnull hx hb hdg hdx (kk0 ws H locs ls _ rfl rfl ⟨hw, hP, hD, hS, hL, hs1⟩)
    · cases h
      obtain ⟨u, rfl, hs1⟩ := pm_rl_n hst
      exact lv_ifnonnullN hx hb hdg (kk0 ws H locs ls _ rfl rfl ⟨hw, hP, hD, hS, hL, hs1⟩)
    · cases h
  case getfield idx =>
    have hdg : decode bs pc = .ok (.getfield idx, 3) := pm_hd hdg hlen rfl (by decide)
    dsimp only [pm_sim] at h
    split at h
    · split at h
      · rename_i hcp
        split at h
        · rename_i ha
          split at h
          · rename_i hcell
            split at h
            · rename_i hci
              subst hci
              split at h
              · rename_i hfk
                cases h
                obtain ⟨q, u, rfl, hq, hs1⟩ := pm_rl_r hst
                obtain ⟨q', e', hwa, hqa, hre⟩ := pm_at hw ha
                rw [hq] at hqa
                cases hqa
                rw [hcell] at hre
                obtain ⟨fs', rfl, hfs⟩ := hre
                obtain ⟨w, hfk', hvw⟩ := pm_rl_get hfs hfk
                obtain ⟨C, Tf, NN, hcl, hkN, hC, -, hlink⟩ := oF y nm bs mL rt o ini ft _ _ _ _ hM hcp
                rcases hlink with hlink | ⟨-, host, hlink⟩
                · exact va_get hx hb hts ((oC _ _ _ _ hcl).1) hown hK hP _ hwa hcl _ hkN (hts _ hlink) (fun x hz => by rw [hC] at hz; exact hz) hfk' hdg (kk0 ws H locs ls _ rfl rfl ⟨hw, hP, hD, hS, hL, pm_lv hvw hs1⟩)
                · exact va_getN hx hb hts ((oC _ _ _ _ hcl).1) hown hK hP _ hwa hcl _ hkN (va_Nw.use rfl (hnw _ hlink)) (fun x hz => by rw [hC] at hz; exact hz) hfk' hdg (kk0 ws H locs ls _ rfl rfl ⟨hw, hP, hD, hS, hL, pm_lv hvw hs1⟩)
              · cases h
            · cases h
          · cases h
        · cases h
      · cases h
    · split at h
      · rename_i hcp
        cases h
        obtain ⟨u, rfl, hs1⟩ := pm_rl_s hst
        exact vk_getf hx hb (exS.1 0 (by decide)).2.1 hS hown (hts _ (((oS y nm bs mL rt o ini ft _ _ _ _ hM).2.2 hcp).1 rfl)) (fun x hz => hz) hdg (kk0 ws H locs ls _ rfl rfl ⟨hw, hP, hD, hS, hL, pm_li hs1⟩)
      · rename_i hcp
        cases h
        obtain ⟨u, rfl, hs1⟩ := pm_rl_s hst
        exact vk_getf hx hb (exS.1 0 (by decide)).2.2.1 hS hown (hts _ (((oS y nm bs mL rt o ini ft _ _ _ _ hM).2.2 hcp).2 rfl)) (fun x hz => hz) hdg (kk0 ws H locs ls _ rfl rfl ⟨hw, hP, hD, hS, hL, ⟨_, _, rfl, rfl, hs1⟩⟩)
      · cases h
    · cases h
  case ldc idx =>
    have hdg : decode bs pc = .ok (.ldc idx, 2) := pm_hd hdg hlen rfl (by decide)
    dsimp only [pm_sim] at h
    split at h
    · rename_i hcp
      cases h
      obtain ⟨hn1, hn2⟩ := (oS y nm bs mL rt o ini ft _ _ _ _ hM).1 hcp
      subst hn2
      exact va_ldcS hx hb hown (by rw [hn1]; exact exR) hdg (kk0 ws H locs ls _ rfl rfl ⟨hw, hP, hD, hS, hL, ⟨_, _, rfl, rfl, hst⟩⟩)
    · cases h
  case getstatic idx =>
    have hdg : decode bs pc = .ok (.getstatic idx, 3) := pm_hd hdg hlen rfl (by decide)
    dsimp only [pm_sim] at h
    split at h
    · rename_i hcp
      cases h
      exact va_gets hx hb exZ hS hown (hts _ ((oS y nm bs mL rt o ini ft _ _ _ _ hM).2.1 hcp)) (fun x hz => hz) hdg (kk0 ws H locs ls _ rfl rfl ⟨hw, hP, hD, hS, hL, pm_li hst⟩)
    · cases h
  case i2b =>
    have hdg : decode bs pc = .ok (.i2b, 1) := pm_hd hdg hlen rfl (by decide)
    dsimp only [pm_sim] at h
    split at h
    · cases h
      obtain ⟨u, rfl, hs1⟩ := pm_rl_i hst
      exact lv_i2b hx hb hdg rfl (kk0 ws H locs ls _ rfl rfl ⟨hw, hP, hD, hS, hL, pm_li hs1⟩)
    · cases h
  case baload =>
    have hdg : decode bs pc = .ok (.baload, 1) := pm_hd hdg hlen rfl (by decide)
    dsimp only [pm_sim] at h
    split at h
    · split at h
      · cases h
      · rename_i hn
        cases h
        obtain ⟨u, rfl, hs1⟩ := pm_rl_i hst
        obtain ⟨u, rfl, hs2⟩ := pm_rl_s hs1
        exact va_tb hx hb (exS.1 0 (by decide)).2.2.2 hS hn rfl hdg (kk0 ws H locs ls _ rfl rfl ⟨hw, hP, hD, hS, hL, pm_li hs2⟩)
    · cases h
  case putfield idx =>
    have hdg : decode bs pc = .ok (.putfield idx, 3) := pm_hd hdg hlen rfl (by decide)
    dsimp only [pm_sim] at h
    split at h
    · split at h
      · rename_i v a rest _ ci k ne hcp
        split at h
        · rename_i ha
          split at h
          · rename_i cj fs hcell
            split at h
            · rename_i hci
              obtain ⟨hcj, hkl, hfit⟩ := hci
              subst hcj
              cases h
              obtain ⟨w, u, rfl, hvw, hs1⟩ := pm_rl_v hst
              obtain ⟨q, u, rfl, hq, hs2⟩ := pm_rl_r hs1
              obtain ⟨q', e', hwa, hqa, hre⟩ := pm_at hw ha
              rw [hq] at hqa
              cases hqa
              rw [hcell] at hre
              obtain ⟨fs', rfl, hfs⟩ := hre
              obtain ⟨C, Tf, NN, hcl, hkN, hC, hCo, hlink⟩ := oF y nm bs mL rt o ini ft _ _ _ _ hM hcp
              obtain ⟨hu, hdis, -, -, ty, hty, -, hcd⟩ := oC _ _ _ _ hcl
              obtain ⟨c0, c1, c2, c3⟩ := hcd k hkN
              have hk' : k < fs'.length := by rw [pm_rl_len hfs]; exact hkl
              have fin : ∀ (H1 : Heap) (locs1 : List Loc), va_P D cl (ws.set a (q, .inr (cj, fs'.set k w))) H1 → va_D A (ws.set a (q, .inr (cj, fs'.set k w))) → va_S A s.heap H1 locs1 → W p l e R s m args below meth c H1 locs1 cells slots Q (F0 m (pc + 3) ls u) :=
                fun H1 locs1 f1 f2 f3 => kk0 _ H1 locs1 ls u rfl rfl ⟨pm_rw_set hw hwa ⟨_, rfl, pm_rl_set hvw hfs⟩, f1, f2, f3, hL, hs2⟩
              have put : narrow (ty k) w = w → fits (ty k) w = true → (Tf k).2.2.2 = false → W p l e R s m args below meth c H locs cells slots Q (F0 m pc ls (w :: .ref q :: u)) := by
                intro n1 n2 n3
                rcases hlink with hlink | ⟨-, host, hlink⟩
                · exact va_put hx hb hts hu ty hty hdis hown hK hP hD hS a hwa hcl k hkN (hts _ hlink) (fun x hz => by rw [hC] at hz; exact hz) n3 (hty k hkN) n1 n2 hk' hdg fin
                · exact va_putN hx hb hts hu ty hty hdis hown hK hP hD hS a hwa hcl k hkN (va_Nw.use rfl (hnw _ hlink)) (fun x hz => by rw [hC] at hz; exact hz) n3 (hty k hkN) n1 n2 hk' hdg fin
              rcases pm_fitsV_spec hfit with ⟨e0, x, rfl⟩ | ⟨e0, x, rfl, hx01⟩ | ⟨e0, x, rfl⟩ | ⟨e0, ⟨x, rfl⟩, hi1, hi2⟩
              · obtain ⟨t1, t2⟩ := c0 e0
                have hvw : w = .int x := hvw
                subst hvw
                exact put (by rw [t1]; rfl) (by rw [t1]; rfl) t2
              · obtain ⟨t1, t2⟩ := c1 e0
                have hvw : w = .int x := hvw
                subst hvw
                refine put ?_ ?_ t2
                · rw [t1]; rcases hx01 with rfl | rfl <;> rfl
                · rw [t1]; rcases hx01 with rfl | rfl <;> rfl
              · obtain ⟨t1, t2⟩ := c2 e0
                obtain ⟨q9, -, rfl⟩ := hvw
                refine put ?_ ?_ t2
                · rcases t1 with ⟨n, t1⟩ | ⟨n, t1⟩ <;> rw [t1] <;> rfl
                · rcases t1 with ⟨n, t1⟩ | ⟨n, t1⟩ <;> rw [t1] <;> rfl
              · obtain ⟨t1, t2⟩ := c3 e0
                obtain ⟨q9, -, rfl⟩ := hvw
                have hio : cj = o := by simpa using hi2
                rcases hlink with hlink | ⟨hno, -⟩
                · refine va_putF hx hb hts hu ty hty hdis hown hK hP hD hS a hwa hcl k hkN (hts _ hlink) (fun x hz => by rw [hC] at hz; exact hz) t2 (hin hi1) (by rw [hC]; exact hCo hio) (hty k hkN) ?_ ?_ hk' hdg fin
                  · rcases t1 with ⟨n, t1⟩ | ⟨n, t1⟩ <;> rw [t1] <;> rfl
                  · rcases t1 with ⟨n, t1⟩ | ⟨n, t1⟩ <;> rw [t1] <;> rfl
                · exact absurd hio hno
            · cases h
          · cases h
        · cases h
      · cases h
    · cases h
  case new idx =>
    have hdg : decode bs pc = .ok (.new idx, 3) := pm_hd hdg hlen rfl (by decide)
    dsimp only [pm_sim] at h
    split at h
    · rename_i ci x k hcp
      cases h
      obtain ⟨C, Tf, NN, hcl, h1, h2, h3⟩ := oN y nm bs mL rt o ini ft _ _ _ _ hM hcp
      obtain ⟨hu, hdis, hdf, hdl, ty, hty, htd, hcd⟩ := oC _ _ _ _ hcl
      refine va_new hx hb hts hu ty hty hown (hts _ h1) (hts _ h2) (hts _ h3) hK hP hD hS hA hcl htd (by omega) (by omega) hdg (fun q H1 f1 f2 f3 => ?_)
      exact kk [q] _ H1 locs ls (.ref q :: str) (cells + 1) (slots + NN) (by omega) (by omega) ⟨pm_rw_push hw ⟨_, rfl, pm_rl_d hdf⟩, f1, f2, f3, pm_rL_m hL, pm_lr (pm_last hw.2.1) (pm_rl_m hst)⟩
    · cases h
  case newarray at0 =>
    cases at0
    case int =>
      have hdg : decode bs pc = .ok (.newarray .int, 2) := pm_hd hdg hlen rfl (by decide)
      dsimp only [pm_sim] at h
      split at h
      · split at h
        · cases h
        · rename_i n rest hn
          cases h
          obtain ⟨u, rfl, hs1⟩ := pm_rl_i hst
          have hn0 : ¬ n < 0 := fun z => hn (Or.inl z)
          have hn1 : n.toNatClampNeg ≤ 100000 := Nat.not_lt.mp fun z => hn (Or.inr z)
          refine va_newa (atype := .int) (ty := .int) (a0 := (n.toNatClampNeg, .inl (fun _ => 0))) hx hb (hts _ oG.2.1) rfl hK hP hD hS hA (fun cA => rfl) hn0 rfl (by have z : componentBytes FieldType.int = 4 := rfl; rw [z]; omega) (by omega) (by omega) hdg (fun q cA H1 fK f1 f2 f3 => ?_)
          have hcA : cA = tc 0 := by
            have z1 : s.vm.findClass ("[" ++ FieldType.int.toString) = some cA := (fK.2 3 (cA, .int) rfl).2
            have z2 : s.vm.findClass ("[" ++ FieldType.int.toString) = some (tc 0) := (hK.2 0 (tc 0, .int) rfl).2
            exact Option.some.inj (z1.symm.trans z2)
          subst hcA
          exact kk [q] _ H1 locs ls (.ref q :: u) (cells + 1) (slots + n.toNatClampNeg) (by omega) (by omega) ⟨pm_rw_push hw rfl, f1, f2, f3, pm_rL_m hL, pm_lr (pm_last hw.2.1) (pm_rl_m hs1)⟩
      · cases h
    case long =>
      have hdg : decode bs pc = .ok (.newarray .long, 2) := pm_hd hdg hlen rfl (by decide)
      dsimp only [pm_sim] at h
      split at h
      · split at h
        · cases h
        · rename_i n rest hn
          cases h
          obtain ⟨u, rfl, hs1⟩ := pm_rl_i hst
          have hn0 : ¬ n < 0 := fun z => hn (Or.inl z)
          have hn1 : n.toNatClampNeg ≤ 100000 := Nat.not_lt.mp fun z => hn (Or.inr z)
          refine va_newa (atype := .long) (ty := .long) (a0 := (n.toNatClampNeg, .inr (.inl (fun _ => 0)))) hx hb (hts _ oG.2.2) rfl hK hP hD hS hA (fun cA => rfl) hn0 rfl (by have z : componentBytes FieldType.long = 8 := rfl; rw [z]; omega) (by omega) (by omega) hdg (fun q cA H1 fK f1 f2 f3 => ?_)
          have hcA : cA = tc 1 := by
            have z1 : s.vm.findClass ("[" ++ FieldType.long.toString) = some cA := (fK.2 3 (cA, .long) rfl).2
            have z2 : s.vm.findClass ("[" ++ FieldType.long.toString) = some (tc 1) := (hK.2 1 (tc 1, .long) rfl).2
            exact Option.some.inj (z1.symm.trans z2)
          subst hcA
          exact kk [q] _ H1 locs ls (.ref q :: u) (cells + 1) (slots + n.toNatClampNeg) (by omega) (by omega) ⟨pm_rw_push hw rfl, f1, f2, f3, pm_rL_m hL, pm_lr (pm_last hw.2.1) (pm_rl_m hs1)⟩
      · cases h
    all_goals (simp [pm_sim] at h)
  case anewarray idx =>
    have hdg : decode bs pc = .ok (.anewarray idx, 3) := pm_hd hdg hlen rfl (by decide)
    dsimp only [pm_sim] at h
    split at h
    · split at h
      · rename_i n rest _ ci _ _ hcp
        split at h
        · cases h
        · rename_i hn
          cases h
          obtain ⟨u, rfl, hs1⟩ := pm_rl_i hst
          have hn0 : ¬ n < 0 := fun z => hn (Or.inl z)
          have hn1 : n.toNatClampNeg ≤ 100000 := Nat.not_lt.mp fun z => hn (Or.inr (Or.inl z))
          have hn2 : ci = T.2.2.1 1000 0 := Classical.byContradiction fun z => hn (Or.inr (Or.inr z))
          obtain ⟨C, Tf, NN, hcl, hlk1, -, -⟩ := oN y nm bs mL rt o ini ft _ _ _ _ hM hcp
          obtain ⟨Tf2, NN2, hcl2⟩ := oA
          have hCd : C = dn := by
            rw [hn2, hcl2] at hcl
            cases hcl
            rfl
          rw [hCd] at hlk1
          refine va_newq hx hb hown (hts _ hlk1) hao hK hP hD hS hA hn0 rfl (by omega) (by omega) (by omega) hdg (fun q cA H1 fK f1 f2 f3 => ?_)
          have hcA : cA = tc 2 := by
            obtain ⟨_, _, _, _, _, z1⟩ := (fK.2 3 (cA, .object dn) rfl).2
            obtain ⟨_, _, _, _, _, z2⟩ := (hK.2 2 (tc 2, .object dn) rfl).2
            exact Option.some.inj (z1.symm.trans z2)
          subst hcA
          exact kk [q] _ H1 locs ls (.ref q :: u) (cells + 1) (slots + n.toNatClampNeg) (by omega) (by omega) ⟨pm_rw_push hw ⟨_, rfl, fun _ => rfl⟩, f1, f2, f3, pm_rL_m hL, pm_lr (pm_last hw.2.1) (pm_rl_m hs1)⟩
      · cases h
    · cases h
  case iaload =>
    have hdg : decode bs pc = .ok (.iaload, 1) := pm_hd hdg hlen rfl (by decide)
    dsimp only [pm_sim] at h
    split at h
    · split at h
      · rename_i ha
        split at h
        · rename_i hcell
          split at h
          · cases h
          · rename_i hn
            cases h
            obtain ⟨u, rfl, hs1⟩ := pm_rl_i hst
            obtain ⟨q, u, rfl, hq, hs2⟩ := pm_rl_r hs1
            obtain ⟨q', e', hwa, hqa, hre⟩ := pm_at hw ha
            rw [hq] at hqa
            cases hqa
            rw [hcell] at hre
            have hre : e' = .inl (tc 0, _, .inl _) := hre
            subst hre
            exact va_iald hx hb hK hP _ 0 hwa rfl hn hdg (kk0 ws H locs ls _ rfl rfl ⟨hw, hP, hD, hS, hL, pm_li hs2⟩)
        · cases h
      · cases h
    · split at h
      · split at h
        · cases h
        · rename_i hn
          cases h
          obtain ⟨u, rfl, hs1⟩ := pm_rl_i hst
          obtain ⟨u, rfl, hs2⟩ := pm_rl_s hs1
          obtain ⟨x1, x2, x3⟩ := hsc _ _ rfl
          exact va_sld hx hb x1 x2 x3 hS hn hdg (kk0 ws H locs ls _ rfl rfl ⟨hw, hP, hD, hS, hL, pm_li hs2⟩)
      · cases h
    · cases h
  case laload =>
    have hdg : decode bs pc = .ok (.laload, 1) := pm_hd hdg hlen rfl (by decide)
    dsimp only [pm_sim] at h
    split at h
    · split at h
      · rename_i ha
        split at h
        · rename_i hcell
          split at h
          · cases h
          · rename_i hn
            cases h
            obtain ⟨u, rfl, hs1⟩ := pm_rl_i hst
            obtain ⟨q, u, rfl, hq, hs2⟩ := pm_rl_r hs1
            obtain ⟨q', e', hwa, hqa, hre⟩ := pm_at hw ha
            rw [hq] at hqa
            cases hqa
            rw [hcell] at hre
            have hre : e' = .inl (tc 1, _, .inr (.inl _)) := hre
            subst hre
            exact va_lald hx hb hK hP _ 1 hwa rfl hn hdg (kk0 ws H locs ls _ rfl rfl ⟨hw, hP, hD, hS, hL, pm_lj hs2⟩)
        · cases h
      · cases h
    · cases h
  case aaload =>
    have hdg : decode bs pc = .ok (.aaload, 1) := pm_hd hdg hlen rfl (by decide)
    dsimp only [pm_sim] at h
    split at h
    · split at h
      · rename_i ha
        split at h
        · rename_i hcell
          split at h
          · cases h
          · rename_i hn
            cases h
            obtain ⟨u, rfl, hs1⟩ := pm_rl_i hst
            obtain ⟨q, u, rfl, hq, hs2⟩ := pm_rl_r hs1
            obtain ⟨q', e', hwa, hqa, hre⟩ := pm_at hw ha
            rw [hq] at hqa
            cases hqa
            rw [hcell] at hre
            obtain ⟨f', rfl, hff⟩ := hre
            exact va_aldq hx hb hK hP _ 2 hwa rfl hn hdg (kk0 ws H locs ls _ rfl rfl ⟨hw, hP, hD, hS, hL, pm_lv (pm_rf (hff _)) hs2⟩)
        · cases h
      · cases h
    · cases h
  case iastore =>
    have hdg : decode bs pc = .ok (.iastore, 1) := pm_hd hdg hlen rfl (by decide)
    dsimp only [pm_sim] at h
    split at h
    · split at h
      · rename_i ha
        split at h
        · rename_i hcell
          split at h
          · cases h
          · rename_i hn
            cases h
            obtain ⟨u, rfl, hs1⟩ := pm_rl_i hst
            obtain ⟨u, rfl, hs2⟩ := pm_rl_i hs1
            obtain ⟨q, u, rfl, hq, hs3⟩ := pm_rl_r hs2
            obtain ⟨q', e', hwa, hqa, hre⟩ := pm_at hw ha
            rw [hq] at hqa
            cases hqa
            rw [hcell] at hre
            have hre : e' = .inl (tc 0, _, .inl _) := hre
            subst hre
            exact va_iast hx hb hK hP hD hS _ 0 hwa rfl hn hdg (fun H1 locs1 f1 f2 f3 => kk0 _ H1 locs1 ls u rfl rfl ⟨pm_rw_set hw hwa rfl, f1, f2, f3, hL, hs3⟩)
        · cases h
      · cases h
    · cases h
  case lastore =>
    have hdg : decode bs pc = .ok (.lastore, 1) := pm_hd hdg hlen rfl (by decide)
    dsimp only [pm_sim] at h
    split at h
    · split at h
      · rename_i ha
        split at h
        · rename_i hcell
          split at h
          · cases h
          · rename_i hn
            cases h
            obtain ⟨u, rfl, hs1⟩ := pm_rl_j hst
            obtain ⟨u, rfl, hs2⟩ := pm_rl_i hs1
            obtain ⟨q, u, rfl, hq, hs3⟩ := pm_rl_r hs2
            obtain ⟨q', e', hwa, hqa, hre⟩ := pm_at hw ha
            rw [hq] at hqa
            cases hqa
            rw [hcell] at hre
            have hre : e' = .inl (tc 1, _, .inr (.inl _)) := hre
            subst hre
            exact va_last hx hb hK hP hD hS _ 1 hwa rfl hn hdg (fun H1 locs1 f1 f2 f3 => kk0 _ H1 locs1 ls u rfl rfl ⟨pm_rw_set hw hwa rfl, f1, f2, f3, hL, hs3⟩)
        · cases h
      · cases h
    · cases h
  case aastore =>
    have hdg : decode bs pc = .ok (.aastore, 1) := pm_hd hdg hlen rfl (by decide)
    dsimp only [pm_sim] at h
    split at h
    · split at h
      · rename_i ha
        split at h
        · rename_i hcell hcx
          split at h
          · rename_i hcc
            split at h
            · cases h
            · rename_i hn
              cases h
              obtain ⟨qx, u, rfl, hqx, hs1⟩ := pm_rl_r hst
              obtain ⟨u, rfl, hs2⟩ := pm_rl_i hs1
              obtain ⟨q, u, rfl, hq, hs3⟩ := pm_rl_r hs2
              obtain ⟨q', e', hwa, hqa, hre⟩ := pm_at hw ha.1
              obtain ⟨q2, e2, hwb, hqb, hre2⟩ := pm_at hw ha.2
              rw [hq] at hqa
              cases hqa
              rw [hqx] at hqb
              cases hqb
              rw [hcell] at hre
              rw [hcx] at hre2
              obtain ⟨f', rfl, hff⟩ := hre
              obtain ⟨fs', rfl, hfs⟩ := hre2
              obtain ⟨Tf, NN, hcl⟩ := oA
              subst hcc
              refine va_astq hx hb hK hP hD hS _ 2 _ _ hwa rfl hwb hcl hn hdg (fun H1 locs1 f1 f2 f3 => kk0 _ H1 locs1 ls u rfl rfl ⟨pm_rw_set hw hwa ⟨_, rfl, fun j => ?_⟩, f1, f2, f3, hL, hs3⟩)
              unfold va_up
              split
              · exact ⟨_, hqx, rfl⟩
              · exact hff j
          · cases h
        · cases h
      · cases h
    · cases h
  case arraylength =>
    have hdg : decode bs pc = .ok (.arraylength, 1) := pm_hd hdg hlen rfl (by decide)
    dsimp only [pm_sim] at h
    split at h
    · split at h
      · rename_i ha
        split at h
        · rename_i t n g hcell
          split at h
          · rename_i ht3
            cases h
            obtain ⟨q, u, rfl, hq, hs1⟩ := pm_rl_r hst
            obtain ⟨q', e', hwa, hqa, hre⟩ := pm_at hw ha
            rw [hq] at hqa
            cases hqa
            rw [hcell] at hre
            have hx2 : ∃ g' : vp_A, g'.1 = n ∧ e' = .inl (tc t, g') := by
              rcases g with g | g | g | g | g
              · exact ⟨(n, .inl g), rfl, hre⟩
              · exact ⟨(n, .inr (.inl g)), rfl, hre⟩
              · exact hre.elim
              · exact hre.elim
              · obtain ⟨f', h1, -⟩ := hre
                exact ⟨_, rfl, h1⟩
            obtain ⟨g', hg1, rfl⟩ := hx2
            have ht4 : ∀ k : Nat, k < 3 → k = 0 ∨ k = 1 ∨ k = 2 := fun k hk => by omega
            rcases ht4 t ht3 with rfl | rfl | rfl
            · exact va_alen hx hb hK hP _ 0 hwa rfl (by rw [hg1]) hdg (kk0 ws H locs ls _ rfl rfl ⟨hw, hP, hD, hS, hL, pm_li hs1⟩)
            · exact va_alen hx hb hK hP _ 1 hwa rfl (by rw [hg1]) hdg (kk0 ws H locs ls _ rfl rfl ⟨hw, hP, hD, hS, hL, pm_li hs1⟩)
            · exact va_alen hx hb hK hP _ 2 hwa rfl (by rw [hg1]) hdg (kk0 ws H locs ls _ rfl rfl ⟨hw, hP, hD, hS, hL, pm_li hs1⟩)
          · cases h
        · cases h
      · cases h
    · split at h
      · cases h
        obtain ⟨u, rfl, hs1⟩ := pm_rl_s hst
        obtain ⟨x1, x2, x3⟩ := hsc _ _ rfl
        exact va_slen hx hb x1 x2 x3 hS hdg (kk0 ws H locs ls _ rfl rfl ⟨hw, hP, hD, hS, hL, pm_li hs1⟩)
      · cases h
    · cases h
      obtain ⟨u, rfl, hs1⟩ := pm_rl_s hst
      exact va_tlen hx hb (exS.1 0 (by decide)).2.2.2 hS rfl hdg (kk0 ws H locs ls _ rfl rfl ⟨hw, hP, hD, hS, hL, pm_li hs1⟩)
    · cases h
  case ldc2_w idx =>
    have hdg : decode bs pc = .ok (.ldc2_w idx, 3) := pm_hd hdg hlen rfl (by decide)
    dsimp only [pm_sim] at h
    split at h
    · rename_i hcp
      cases h
      exact lv_ldc2 hx hb hown (hts _ (oL y nm bs mL rt o ini ft _ _ _ _ hM hcp)) hdg (kk0 ws H locs ls _ rfl rfl ⟨hw, hP, hD, hS, hL, pm_lj hst⟩)
    · cases h
  case tableswitch dflt lo hi offs =>
    dsimp only [pm_sim] at h
    split at h
    · split at h
      · rename_i hout
        split at h
        · rename_i h0t
          cases h
          obtain ⟨u, rfl, hs1⟩ := pm_rl_i hst
          exact lv_tableOut hx hb hdg hout (by omega) (kk0 ws H locs ls _ rfl rfl ⟨hw, hP, hD, hS, hL, hs1⟩)
        · cases h
      · rename_i hout
        split at h
        · rename_i hoff
          split at h
          · rename_i h0t
            cases h
            obtain ⟨u, rfl, hs1⟩ := pm_rl_i hst
            exact lv_tableIn hx hb hdg (fun z => hout (Or.inl z)) (fun z => hout (Or.inr z)) hoff (by omega) (kk0 ws H locs ls _ rfl rfl ⟨hw, hP, hD, hS, hL, hs1⟩)
          · cases h
        · cases h
    · cases h
  case lookupswitch dflt ps =>
    dsimp only [pm_sim] at h
    split at h
    · split at h
      · rename_i hh
        cases h
        obtain ⟨u, rfl, hs1⟩ := pm_rl_i hst
        exact lv_lookup hx hb hdg hh.1 rfl (by omega) (kk0 ws H locs ls _ rfl rfl ⟨hw, hP, hD, hS, hL, hs1⟩)
      · cases h
    · cases h
  case invokespecial idx =>
    have hdg : decode bs pc = .ok (.invokespecial idx, 3) := pm_hd hdg hlen rfl (by decide)
    dsimp only [pm_sim] at h
    split at h
    · split at h
      · rename_i hcp
        split at h
        · rename_i hh
          cases h
          obtain ⟨q, u, rfl, hq, hs1⟩ := pm_rl_r hst
          obtain ⟨w1, w2, w3⟩ := (oB y nm bs mL rt o ini ft _ _ _ _ hM hcp).1 rfl
          have hrm := pm_rl_rm hs1
          refine W.objInit hx hb hown (hts _ w1) (hts _ w2) (hts _ w3) rfl (by rw [hml]; exact hlz) rfl hdg (by omega) (by show 2 * 0 + _ + 12 ≤ _; rw [hrm]; omega) ?_
          exact W.eq (g2 := F0 m (pc + 3) ls u) rfl (kk0 ws H locs ls _ rfl rfl ⟨hw, hP, hD, hS, hL, hs1⟩)
        · cases h
      · cases h
    · cases h
  case invokestatic idx =>
    have hdg : decode bs pc = .ok (.invokestatic idx, 3) := pm_hd hdg hlen rfl (by decide)
    dsimp only [pm_sim] at h
    split at h
    · split at h
      · rename_i hcp
        split at h
        · rename_i hh
          cases h
          obtain ⟨u, rfl, hs1⟩ := pm_rl_i hst
          obtain ⟨u, rfl, hs2⟩ := pm_rl_i hs1
          obtain ⟨w1, w2, w3, w4⟩ := (oB y nm bs mL rt o ini ft _ _ _ _ hM hcp).2.1 rfl
          have hrm := pm_rl_rm hs2
          exact va_mmax hx hb (by rw [hml, hlz]) hown (hts _ w1) (hts _ w2) (hts _ w3) (hts _ w4) (by omega) (by rw [hrm]; omega) (by omega) (by omega) hdg (kk0 ws H locs ls _ rfl rfl ⟨hw, hP, hD, hS, hL, pm_li hs2⟩)
        · cases h
      · rename_i hcp
        split at h
        · rename_i hh
          cases h
          obtain ⟨u, rfl, hs1⟩ := pm_rl_i hst
          obtain ⟨u, rfl, hs2⟩ := pm_rl_i hs1
          obtain ⟨w1, w2, w3, w4⟩ := (oB y nm bs mL rt o ini ft _ _ _ _ hM hcp).2.2 rfl
          have hrm := pm_rl_rm hs2
          exact va_mmin hx hb (by rw [hml, hlz]) hown (hts _ w1) (hts _ w2) (hts _ w3) (hts _ w4) (by omega) (by rw [hrm]; omega) (by omega) (by omega) hdg (kk0 ws H locs ls _ rfl rfl ⟨hw, hP, hD, hS, hL, pm_li hs2⟩)
        · cases h
      · cases h
    · cases h
  all_goals (simp [pm_sim] at h)
end PMSIM
