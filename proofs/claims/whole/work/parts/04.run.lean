/-! A run of the pure machine is a run of the machine. -/
theorem pm_go {p : Program} {l : Launch} {e : Env} {R : Room} {s : State} {m : MethodId} {args : Array Value} {below : List Frame} {meth : Method} {c : Code} {H : Heap} {locs : List Loc} {cells slots : Nat} {Q : State → Prop} {pc : Nat} {ls : Array Slot} {rest st0 : List Value} {mc ms : Nat} {free : Addr → Prop} {Qa : State → Outcome → State → Prop}
    (hr : va_Run p l e R s m args below meth c H locs cells slots mc ms (F0 m pc ls st0) rest Qa free)
    (kk : ∀ (v : Option Value) (st t : State) (L : List Loc), st.heap = H → (∀ q ∈ L, free q.base) → Qa st (.returned v) t → W p l e R s m args below meth c t.heap (locs ++ L) (cells + mc) (slots + ms) Q (F0 m (pc + 3) ls (v.toList ++ rest))) : W p l e R s m args below meth c H locs cells slots Q (F0 m pc ls st0) := by
  intro T hT X
  obtain ⟨v, st₀, t, T', L, h0, X', hL, e1, e2, hq, st⟩ := hr T hT X
  obtain ⟨t2, a1, b1⟩ := kk v st₀ t L h0 hL hq T' e1 X'
  exact ⟨t2, st t2 a1, b1⟩
/-- the pure heap only grows -/
theorem pm_sim_mono {T : pm_T} {o : Nat} {ini : Bool} {mL d : Nat} {sc : Option (Nat × (Nat → Int32))} {i : Instr} {tgt : Nat} {cv : Int32} {pc N S : Nat} {L : List (Option Value)} {st : List Value} {h0 : Nat → va_E} {pc' N' S' : Nat} {L' : List (Option Value)} {st' : List Value} {h' : Nat → va_E}
    (h : pm_sim T o ini mL d sc i tgt cv (pc, L, st, N, S, h0) = some (pc', L', st', N', S', h')) : N ≤ N' ∧ S ≤ S' := by
  unfold pm_sim at h
  dsimp only at h
  split at h
  all_goals try split at h
  all_goals try split at h
  all_goals try split at h
  all_goals try split at h
  all_goals try split at h
  all_goals try split at h
  all_goals first | (cases h; done) | (cases h; exact ⟨Nat.le_refl _, Nat.le_refl _⟩) | (cases h; exact ⟨Nat.le_succ _, Nat.le_add_right _ _⟩)
theorem pm_run_mono {T : pm_T} {sc : Option (Nat × (Nat → Int32))} : ∀ (n d y : Nat) (top : Bool) (pc : Nat) (L : List (Option Value)) (st : List Value) (N S : Nat) (h : Nat → va_E) (r : Option Value) (N' S' : Nat) (h' : Nat → va_E),
    pm_run T sc n d y top (pc, L, st, N, S, h) = some (r, N', S', h') → N ≤ N' ∧ S ≤ S' := by
  intro n
  induction n with
  | zero => intro d y top pc L st N S h r N' S' h' hr; cases hr
  | succ n ih =>
    intro d y top pc L st N S h r N' S' h' hr
    rw [pm_run] at hr
    cases hM : T.1 y with
    | none => rw [hM] at hr; cases hr
    | some M =>
      obtain ⟨nm, bs, mL, rt, o, ini, ft⟩ := M
      rw [hM] at hr
      dsimp only at hr
      cases hf : ft pc with
      | none => rw [hf] at hr; cases hr
      | some x =>
        obtain ⟨i, tgt, cv⟩ := x
        rw [hf] at hr
        dsimp only at hr
        cases hret : pm_ret rt i st with
        | some r0 => rw [hret] at hr; cases hr; exact ⟨Nat.le_refl _, Nat.le_refl _⟩
        | none =>
          rw [hret] at hr
          dsimp only at hr
          cases hcall : pm_call T o i with
          | some z =>
            obtain ⟨z, na, md, idx⟩ := z
            rw [hcall] at hr
            dsimp only at hr
            cases d with
            | zero => cases hz : T.1 z <;> rw [hz] at hr <;> cases hr
            | succ d' =>
              cases hz : T.1 z with
              | none => rw [hz] at hr; cases hr
              | some M' =>
                obtain ⟨nm', bs', mL', rt', o', ini', ft'⟩ := M'
                rw [hz] at hr
                dsimp only at hr
                split at hr
                · split at hr
                  · rename_i h1
                    have a1 := ih _ _ _ _ _ _ _ _ _ _ _ _ _ h1
                    have a2 := ih _ _ _ _ _ _ _ _ _ _ _ _ _ hr
                    exact ⟨Nat.le_trans a1.1 a2.1, Nat.le_trans a1.2 a2.2⟩
                  · cases hr
                · cases hr
          | none =>
            rw [hcall] at hr
            dsimp only at hr
            split at hr
            · rename_i s' h1
              obtain ⟨pc1, L1, st1, N1, S1, h1'⟩ := s'
              have a1 := pm_sim_mono h1
              have a2 := ih _ _ _ _ _ _ _ _ _ _ _ _ _ hr
              exact ⟨Nat.le_trans a1.1 a2.1, Nat.le_trans a1.2 a2.2⟩
            · cases hr
theorem pm_sl1 {vs : List Value} (h : ∀ v ∈ vs, v.category = 1) : lg_sl vs = vs.map Slot.val := by
  induction vs with
  | nil => rfl
  | cons v t ih =>
    have h1 := h v List.mem_cons_self
    have h2 := ih fun w hw => h w (List.mem_cons_of_mem _ hw)
    unfold lg_sl at h2 ⊢
    rw [List.flatMap_cons, h2, if_neg (by omega)]
    rfl
/-- the locals at a method's entry -/
theorem pm_entry {ar : List Nat} {b : Nat → Nat} {av avr : List Value} {mL : Nat} (h : pm_rl ar b av avr) (hc : ∀ v ∈ av, v.category = 1) (hl : av.length ≤ mL) :
    pm_rL ar b (av.map some ++ List.replicate (mL - av.length) none) ((lg_sl avr ++ List.replicate (mL - (lg_sl avr).length) Slot.unset).toArray) mL := by
  have hcr : ∀ v ∈ avr, v.category = 1 := by
    intro v hv
    obtain ⟨k, hk⟩ := List.getElem?_of_mem hv
    have hlt : k < av.length := by rw [← pm_rl_len h]; exact (List.getElem?_eq_some_iff.mp hk).1
    obtain ⟨w, h1, h2⟩ := pm_rl_get h (List.getElem?_eq_getElem hlt)
    rw [hk] at h1
    cases h1
    rw [pm_rv_cat h2]
    exact hc _ (List.getElem_mem hlt)
  have hsl := pm_sl1 hcr
  have hlen : (lg_sl avr).length = av.length := by rw [hsl, List.length_map, pm_rl_len h]
  have hv := lv_entry avr (n := mL) (by rw [hlen]; exact hl)
  refine ⟨hv.1, hv.2.1, fun i v hi => ?_⟩
  by_cases hia : i < av.length
  · rw [List.getElem?_append_left (by simpa using hia), List.getElem?_map] at hi
    cases hai : av[i]? with
    | none => rw [hai] at hi; cases hi
    | some x =>
      rw [hai] at hi
      cases hi
      obtain ⟨w, h1, h2⟩ := pm_rl_get h hai
      refine ⟨hc _ (List.mem_of_getElem? hai), w, ?_, h2⟩
      rw [hsl, List.getElem?_toArray, List.getElem?_append_left (by rw [List.length_map, pm_rl_len h]; exact hia), List.getElem?_map, h1]
      rfl
  · rw [List.getElem?_append_right (by simpa using Nat.le_of_not_lt hia)] at hi
    rw [List.getElem?_replicate] at hi
    split at hi <;> cases hi
/-- the callee's start, at a known heap -/
def pm_Pc (T : pm_T) (tx : String) (cl : List vw_C) (NW : List Cond) (dn : String) (D : va_G) (tc : Nat → ClassId) (b : Nat → Nat) (A : Nat → Prop) (avr : List Value) (H : Heap) : Array Value → State → Prop := fun v U =>
  v = avr.toArray ∧ U.heap = H ∧ va_K D cl (pm_ty tc dn) U ∧ (∀ w ∈ NW, va_Nw w U) ∧ va_AO dn U ∧ pm_Ex T tx b A U H
/-- its end -/
def pm_Qc (cl : List vw_C) (D : va_G) (tc : Nat → ClassId) (b : Nat → Nat) (ar : List Nat) (ws : va_W) (H : Heap) (r : Option Value) (N1 : Nat) (h1 : Nat → va_E) : Array Value → State → Outcome → State → Prop := fun _ st oc t =>
  ∃ (bs2 : List Nat) (ws' : va_W) (v : Option Value), oc = .returned v ∧ pm_rr (ar ++ bs2) b r v ∧ pm_rw tc (ar ++ bs2) b N1 h1 ws' ∧ va_P D cl ws' t.heap ∧ va_D (va_A ws H.size) ws' ∧ va_F (va_A ws H.size) st t
theorem pm_Ex.moved {T : pm_T} {tx : String} {b : Nat → Nat} {A : Nat → Prop} {u U : State} {H : Heap} (hvm : u.vm.Alike U.vm) (hR : vk_R "ArmExpander$TypedText" 43 tx (b 1) U) (h : pm_Ex T tx b A u H) : pm_Ex T tx b A U H := ⟨hR, h.2.1.moved hvm, h.2.2.moved hvm⟩
theorem pm_blind {T : pm_T} {tx : String} {cl : List vw_C} {NW : List Cond} {dn : String} {D : va_G} {tc : Nat → ClassId} {b : Nat → Nat} {A : Nat → Prop} {avr : List Value} {H : Heap} (oW : pm_OW NW) : FrameBlind (pm_Pc T tx cl NW dn D tc b A avr H) := by
  intro a U g mk ⟨h1, h2, h3, h4, h5, h6⟩
  exact ⟨h1, h2, va_K.moved (u := U) (U := U.calling g mk a) (Vm.Alike.refl U.vm) h3, fun w hw => va_Nw.same (oW w hw).1 (rfl : U.vm = (U.calling g mk a).vm) (h4 w hw), va_AO.moved (u := U) (U := U.calling g mk a) (Vm.Alike.refl U.vm) h5, pm_Ex.moved (u := U) (U := U.calling g mk a) (Vm.Alike.refl U.vm) (vk_R.same (u := U) rfl h6.1) h6⟩
theorem pm_rr_list {ar : List Nat} {b : Nat → Nat} {r v : Option Value} (h : pm_rr ar b r v) : pm_rl ar b r.toList v.toList := by
  cases r with
  | none => rw [show v = none from h]; exact rfl
  | some x => obtain ⟨w, rfl, h2⟩ := h; exact ⟨w, [], rfl, h2, rfl⟩
theorem pm_ret_ok {p : Program} {l : Launch} {e : Env} {R : Room} {s : State} {m : MethodId} {args : Array Value} {below : List Frame} {meth : Method} {c : Code} {H : Heap} {locs : List Loc} {A : Nat → Prop} {Qc : Array Value → State → Outcome → State → Prop} {mc ms pc : Nat} {b : Nat → Nat} {ar : List Nat} {bs : ByteArray} {rt : Option FieldType} {i : Instr} {st str : List Value} {ls : Array Slot} {r : Option Value}
    (hx : p.tables.exec = Jvm.exec) (hb : c.code = bs) (hr : meth.sig.returnType = rt) (hlk : meth.locks = false) (hret : pm_ret rt i st = some r) (hdg : decode bs pc = .ok (i, 1)) (hst : pm_rl ar b st str) (hf : ∀ q ∈ locs, A q.base)
    (fin : ∀ v : Option Value, pm_rr ar b r v → ∀ t : State, t.heap = H → s.WarmedH t.vm → Qc args s (.returned v) t) : W p l e R s m args below meth c H locs mc ms (MQ below Qc args s mc ms A) (F0 m pc ls str) := by
  unfold pm_ret at hret
  split at hret
  · split at hret
    · cases hret
      rw [show str = [] from hst]
      exact W.vret hx hb hr (fin none rfl) hf hdg hlk
    · cases hret
  · split at hret
    · cases hret
      obtain ⟨u, rfl, hs1⟩ := pm_rl_i hst
      rw [show u = [] from hs1]
      exact W.iret hx hb hr (fin _ ⟨_, rfl, rfl⟩) hf hdg hlk
    · split at hret
      · rename_i h01
        cases hret
        obtain ⟨u, rfl, hs1⟩ := pm_rl_i hst
        rw [show u = [] from hs1]
        refine W.zret hx hb hr ?_ (fin _ ⟨_, rfl, rfl⟩) hf hdg hlk
        rcases h01 with rfl | rfl <;> rfl
      · cases hret
    · split at hret
      · rename_i h01
        cases hret
        obtain ⟨u, rfl, hs1⟩ := pm_rl_i hst
        rw [show u = [] from hs1]
        refine W.zret hx hb hr ?_ (fin _ ⟨_, rfl, rfl⟩) hf hdg hlk
        subst h01
        rfl
      · cases hret
    · cases hret
  · split at hret
    · cases hret
      obtain ⟨q, u, rfl, hq, hs1⟩ := pm_rl_r hst
      rw [show u = [] from hs1]
      exact W.aret hx hb hr (Or.inl ⟨_, rfl⟩) (Or.inr ⟨_, rfl⟩) (fin _ ⟨_, rfl, ⟨q, hq, rfl⟩⟩) hf hdg hlk
    · cases hret
      obtain ⟨u, rfl, hs1⟩ := pm_rl_n hst
      rw [show u = [] from hs1]
      exact W.aret hx hb hr (Or.inl ⟨_, rfl⟩) (Or.inl rfl) (fin _ ⟨_, rfl, rfl⟩) hf hdg hlk
    · cases hret
  · cases hret
theorem pm_ret_len {rt : Option FieldType} {i : Instr} {st : List Value} {r : Option Value} (h : pm_ret rt i st = some r) : pm_len i = 1 := by
  unfold pm_ret at h
  split at h
  · rfl
  · rfl
  · rfl
  · cases h
set_option maxHeartbeats 8000000 in
set_option maxRecDepth 20000 in
theorem pm_sound {T : pm_T} {cl : List vw_C} {GW NW : List Cond} {dn tx : String} {D : va_G} {tc : Nat → ClassId} {l : Launch} (ok : pm_OK T cl GW NW dn tx) (sc : Option (Nat × (Nat → Int32))) : ∀ (n d y : Nat) (top : Bool) (pc : Nat) (L : List (Option Value)) (st : List Value) (N S : Nat) (h : Nat → va_E) (r : Option Value) (N' S' : Nat) (h' : Nat → va_E),
    pm_run T sc n d y top (pc, L, st, N, S, h) = some (r, N', S', h') →
    ∀ (nm : MethodName) (bs : ByteArray) (mL : Nat) (rt : Option FieldType) (o : Nat) (ini : Bool) (ft : Nat → Option (Instr × Nat × Int32)), T.1 y = some (nm, bs, mL, rt, o, ini, ft) →
    ∀ (p : Program) (e : Env) (R : Room) (s : State) (m : MethodId) (args : Array Value) (below : List Frame) (meth : Method) (c : Code), pm_Cx cl GW NW dn D tc p s m args meth c nm bs mL rt ini →
    ∀ (b : Nat → Nat) (A : Nat → Prop) (ar : List Nat) (ws : va_W) (ls : Array Slot) (str : List Value) (H : Heap) (locs : List Loc) (cells slots : Nat) (Q : State → Prop),
    pm_Ex T tx b A s s.heap → (top = true → ∀ n f, sc = some (n, f) → va_X (b 0) n f s s.heap ∧ b 0 < s.heap.size ∧ ¬ A (b 0)) → pm_Rl cl D tc b A s.heap ar ws N h L ls mL st str H locs → (∀ q, s.heap.size ≤ q → A q) →
    d ≤ R.frames → 60 * d ≤ R.locals → cells + N' ≤ R.cells + N → slots + S' ≤ R.slots + S →
    (∀ (bs2 : List Nat) (ws' : va_W) (H' : Heap) (locs' : List Loc) (ls' : Array Slot) (st' str' : List Value) (cells' slots' pc' : Nat) (i' : Instr), pm_rw tc (ar ++ bs2) b N' h' ws' → va_P D cl ws' H' → va_D A ws' → va_S A s.heap H' locs' → pm_rl (ar ++ bs2) b st' str' → pm_ret rt i' st' = some r → decode bs pc' = .ok (i', 1) → cells' + N = cells + N' → slots' + S = slots + S' →
      W p l e R s m args below meth c H' locs' cells' slots' Q (F0 m pc' ls' str')) →
    W p l e R s m args below meth c H locs cells slots Q (F0 m pc ls str) := by
  have ok' := ok
  obtain ⟨oM, oF, oC, oN, oI, oB, oA, oL, oG, oW, oS⟩ := ok'
  intro n
  induction n with
  | zero => intro d y top pc L st N S h r N' S' h' hr; cases hr
  | succ n ih =>
    intro d y top pc L st N S h r N' S' h' hrun nm bs mL rt o ini ft hM p e R s m args below meth c cx b A ar ws ls str H locs cells slots Q ex hsc rl hA hfr hlo hcb hsb hfin
    have hmono := pm_run_mono _ _ _ _ _ _ _ _ _ _ _ _ _ _ hrun
    rw [pm_run, hM] at hrun
    dsimp only at hrun
    cases hf : ft pc with
    | none => rw [hf] at hrun; cases hrun
    | some x =>
      obtain ⟨i, tgt, cv⟩ := x
      rw [hf] at hrun
      dsimp only at hrun
      obtain ⟨hplain, hy1, hy2, hini, hmL, hft⟩ := oM y nm bs mL rt o ini ft hM
      have hdec := hft pc i tgt cv hf
      cases hret : pm_ret rt i st with
      | some r0 =>
        rw [hret] at hrun
        cases hrun
        obtain ⟨hw, hP, hD, hS, hL, hst⟩ := rl
        obtain ⟨len, hdg, hlen, hdx⟩ := hdec
        exact hfin [] ws H locs ls st str cells slots pc i (by rw [List.append_nil]; exact hw) hP hD hS (by rw [List.append_nil]; exact hst) hret (pm_hd hdg hlen (pm_ret_len hret) (by decide)) rfl rfl
      | none =>
        rw [hret] at hrun
        dsimp only at hrun
        cases hcall : pm_call T o i with
        | none =>
          rw [hcall] at hrun
          dsimp only at hrun
          split at hrun
          · rename_i s' h1
            obtain ⟨pc1, L1, st1, N1, S1, h1'⟩ := s'
            have hm1 := pm_sim_mono h1
            have hm2 := pm_run_mono _ _ _ _ _ _ _ _ _ _ _ _ _ _ hrun
            refine pm_sim_ok ok hM hdec cx (b := b) (A := A) (H0 := s.heap) rfl ex ?_ rl hA h1 hfr hlo (by omega) (by omega) ?_
            · intro n1 f1 hs1
              cases top with
              | true => exact hsc rfl n1 f1 hs1
              | false => cases hs1
            · intro bs2 ws' H' locs' ls' str' cells' slots' e1 e2 rl'
              refine ih d y top pc1 L1 st1 N1 S1 h1' r N' S' h' hrun nm bs mL rt o ini ft hM p e R s m args below meth c cx b A (ar ++ bs2) ws' ls' str' H' locs' cells' slots' Q ex hsc rl' hA hfr hlo (by omega) (by omega) ?_
              intro bs3 ws3 H3 locs3 ls3 st3 str3 cells3 slots3 pc3 i3 g1 g2 g3 g4 g5 g6 g7 g8 g9
              exact hfin (bs2 ++ bs3) ws3 H3 locs3 ls3 st3 str3 cells3 slots3 pc3 i3 (by rw [← List.append_assoc]; exact g1) g2 g3 g4 (by rw [← List.append_assoc]; exact g5) g6 g7 (by omega) (by omega)
          · cases hrun
        | some z =>
          obtain ⟨z, na, md, idx⟩ := z
          rw [hcall] at hrun
          dsimp only at hrun
          cases d with
          | zero => cases hz : T.1 z <;> rw [hz] at hrun <;> cases hrun
          | succ d' =>
            cases hz : T.1 z with
            | none => rw [hz] at hrun; cases hrun
            | some M' =>
              obtain ⟨nm', bs', mL', rt', o', ini', ft'⟩ := M'
              rw [hz] at hrun
              dsimp only at hrun
              split at hrun
              case isFalse => cases hrun
              rename_i hcond
              obtain ⟨hk1, hrm, hk2, hcat, hrecv⟩ := hcond
              split at hrun
              case h_2 => cases hrun
              rename_i r1 N1 S1 h1 hrun1
              have hm1 := pm_run_mono _ _ _ _ _ _ _ _ _ _ _ _ _ _ hrun1
              have hm2 := pm_run_mono _ _ _ _ _ _ _ _ _ _ _ _ _ _ hrun
              generalize hkk : pm_nargs md na = k at hrun hrun1 hk1 hrm hk2 hcat hrecv
              obtain ⟨hx, hb, hml, hr, hlk, hin, hown, hts, hnw, hao, hK⟩ := id cx
              obtain ⟨hw, hP, hD, hS, hL, hst⟩ := rl
              obtain ⟨hplain', hy1', hy2', hini', hmL', hft'⟩ := oM z nm' bs' mL' rt' o' ini' ft' hz
              -- the arguments
              have hrest := pm_rl_drop k hst
              have hargs := pm_rl_rev (pm_rl_take k hst)
              have hstr : str = (str.take k).reverse.reverse ++ str.drop k := by rw [List.reverse_reverse, List.take_append_drop]
              have hstl : str.length = st.length := pm_rl_len hst
              have havl : (str.take k).reverse.length = k := by rw [List.length_reverse, List.length_take]; omega
              have havp : (st.take k).reverse.length = k := by rw [List.length_reverse, List.length_take]; omega
              have hrsum : ((str.drop k).map fun v => v.category).sum ≤ 8 := by rw [pm_rl_rm hrest]; exact hrm
              generalize havr : (str.take k).reverse = avr at hargs hstr havl
              have hac : ∀ v ∈ (st.take k).reverse, v.category = 1 := by
                intro v hv
                have := List.all_eq_true.mp hcat v (List.mem_reverse.mp hv)
                simpa using this
              -- what the callee may change
              have hsub : ∀ q, va_A ws H.size q → A q := by
                intro q hq
                rcases hq with ⟨k9, e9, h9⟩ | h9
                · exact hD.2 k9 _ h9
                · exact hA q (Nat.le_trans hS.1 h9)
              -- its contract
              have hMet : Met l nm' (Cond.code nm' bs' mL' rt' :: GW) ({ frames := d', cells := N1 - N, slots := S1 - S, locals := 60 * d' }) (pm_Pc T tx cl NW dn D tc b (va_A ws H.size) avr H) (pm_Qc cl D tc b ar ws H r1 N1 h1) (N1 - N) (S1 - S) (va_A ws H.size) := by
                refine Met.ofW (cc := bs') (maxL := mL') (ret := rt') hplain' rfl ?_
                intro p2 e2 s2 m2 args2 below2 meth2 c2 s₁ B hml2 hv
                obtain ⟨rfl, hH2, hK2, hN2, hao2, hex2⟩ := hv
                have hts2 := atoms_spec (ws := Cond.code nm' bs' mL' rt' :: GW) B.pre
                rw [lg_entry_eq]
                have cx2 : pm_Cx cl GW NW dn D tc p2 s2 m2 avr.toArray meth2 c2 nm' bs' mL' rt' ini' :=
                  ⟨B.exec, B.bytes, hml2, B.returns, B.notSynchronized, fun hi => by rw [← (hini' hi).1]; exact (name_of_methodNamed B.named B.method).1, findClass_of_methodNamed B.named, fun w hw => hts2 w (List.mem_cons_of_mem _ hw), hN2, hao2, hK2⟩
                have hent := pm_entry hargs hac (by rw [havp]; exact hk2)
                rw [havp] at hent
                subst hH2
                refine ih d' z false 0 _ [] N S h r1 N1 S1 h1 hrun1 nm' bs' mL' rt' o' ini' ft' hz p2 e2 _ s2 m2 _ below2 meth2 c2 cx2 b (va_A ws s2.heap.size) ar ws _ [] s2.heap [] 0 0 _ hex2 (fun z => by cases z) ⟨hw, hP, hD.self, va_S.rf, hent, rfl⟩ (fun q hq => Or.inr hq) (Nat.le_refl _) (Nat.le_refl _) (by show 0 + N1 ≤ (N1 - N) + N; omega) (by show 0 + S1 ≤ (S1 - S) + S; omega) ?_
                intro bs2 ws' H' locs' ls' st' str' cells' slots' pc' i' g1 g2 g3 g4 g5 g6 g7 g8 g9
                have e1 : cells' = N1 - N := by omega
                have e2 : slots' = S1 - S := by omega
                subst e1
                subst e2
                refine pm_ret_ok B.exec B.bytes B.returns B.notSynchronized g6 g7 g5 g4.2.2 ?_
                intro v hv t ht hW
                exact ⟨bs2, ws', v, rfl, hv, g1, by rw [ht]; exact g2, g3, g4.F ht⟩
              have hPre : ∀ U : State, U.heap = H → s.WarmedH U.vm → pm_Pc T tx cl NW dn D tc b (va_A ws H.size) avr H avr.toArray U := fun U hU hWm =>
                ⟨rfl, hU, va_K.moved hWm.alike hK, fun w hw9 => (oW w hw9).2 s U hWm (hnw w hw9), va_AO.moved hWm.alike hao, vk_R.warm hWm ex.1, ((ex.2.1.kept hS.2.1).moved hWm.alike).narrow hsub, ((ex.2.2.kept hS.2.1).moved hWm.alike).narrow hsub⟩
              have hroom : ({ frames := d', cells := N1 - N, slots := S1 - S, locals := 60 * d' } : Room).frames + 1 ≤ R.frames ∧ 8 + (mL' + 11) + ({ frames := d', cells := N1 - N, slots := S1 - S, locals := 60 * d' } : Room).locals ≤ R.locals := ⟨hfr, by show 8 + (mL' + 11) + 60 * d' ≤ R.locals; omega⟩
              have hbud : cells + (N1 - N) ≤ R.cells ∧ slots + (S1 - S) ≤ R.slots := ⟨by omega, by omega⟩
              have hlsz : ls.size = mL := hL.1
              -- behind the call
              have after : ∀ (v : Option Value) (st2 t : State) (L2 : List Loc), st2.heap = H → (∀ q ∈ L2, va_A ws H.size q.base) → pm_Qc cl D tc b ar ws H r1 N1 h1 avr.toArray st2 (.returned v) t → W p l e R s m args below meth c t.heap (locs ++ L2) (cells + (N1 - N)) (slots + (S1 - S)) Q (F0 m (pc + 3) ls (v.toList ++ str.drop k)) := by
                intro v st2 t L2 hst2 hL2 hq
                obtain ⟨bs2, ws', v', hv', g5, g1, g2, g3, g4⟩ := hq
                cases hv'
                rw [va_F, hst2] at g4
                refine ih (d' + 1) y top (pc + 3) L (r1.toList ++ st.drop k) N1 S1 h1 r N' S' h' hrun nm bs mL rt o ini ft hM p e R s m args below meth c cx b A (ar ++ bs2) ws' ls (v.toList ++ str.drop k) t.heap (locs ++ L2) (cells + (N1 - N)) (slots + (S1 - S)) Q ex hsc ⟨g1, g2, ⟨g3.1, fun k9 q9 h9 => hsub _ (g3.2 k9 q9 h9)⟩, ⟨Nat.le_trans hS.1 g4.1, fun q h1 h2 => (g4.2 q (Nat.lt_of_lt_of_le h1 hS.1) (fun z => h2 (hsub q z))).trans (hS.2.1 q h1 h2), fun q9 h9 => ?_⟩, pm_rL_m hL, pm_rl_app (pm_rl_m hrest) (pm_rr_list g5)⟩ hA hfr hlo (by omega) (by omega) ?_
                · rcases List.mem_append.mp h9 with h9 | h9
                  · exact hS.2.2 q9 h9
                  · exact hsub _ (hL2 q9 h9)
                · intro bs3 ws3 H3 locs3 ls3 st3 str3 cells3 slots3 pc3 i3 k1 k2 k3 k4 k5 k6 k7 k8 k9
                  exact hfin (bs2 ++ bs3) ws3 H3 locs3 ls3 st3 str3 cells3 slots3 pc3 i3 (by rw [← List.append_assoc]; exact k1) k2 k3 k4 (by rw [← List.append_assoc]; exact k5) k6 k7 (by omega) (by omega)
              -- the instruction
              obtain ⟨len, hdg, hlen, -⟩ := hdec
              unfold pm_call at hcall
              split at hcall
              case h_2 => cases hcall
              rename_i idx2 kd hinv
              split at hcall
              case h_2 => cases hcall
              rename_i z2 na2 md2 hcp
              split at hcall
              case isFalse => cases hcall
              rename_i hkd
              cases hcall
              obtain ⟨hnp, hmd6, hlk0, hlk3, hm0, hm1', hm2', hcode', hinit'⟩ := oI y nm bs mL rt o ini ft idx z na md nm' bs' mL' rt' o' ini' ft' hM hcp hz
              have hG : GoodIn GW (Cond.code nm' bs' mL' rt' :: GW) := by
                intro w hw9
                rcases List.mem_cons.mp hw9 with rfl | hw9
                · exact ⟨hcode', oG.1 _ hcode'⟩
                · exact ⟨hw9, oG.1 w hw9⟩
              have hfix : CallFix p m c bs mL s args GW nm.cls := ⟨hx, hb, hml, hown, hts⟩
              have hdd : nm'.cls ≠ "java/lang/invoke/MethodHandle" ∧ nm'.cls ≠ "java/lang/invoke/VarHandle" ∧ (parseMethodDescriptor nm'.desc).map (fun d => d.parameters.length) = some na := ⟨hy1', hy2', hnp⟩
              unfold pm_inv at hinv
              split at hinv
              · -- invokevirtual
                cases hinv
                have hdg : decode bs pc = .ok (.invokevirtual idx, 3) := pm_hd hdg hlen rfl (by decide)
                have hk : k = na + 1 := by rw [← hkk]; unfold pm_nargs; rw [if_neg (by omega)]
                obtain ⟨hi1, hsel, hStr, hObj⟩ := hm0 hkd
                have fin : ∀ (q : Nat) (As : List Value), avr = .ref q :: As → (∃ cell : Cell, H[q]? = some cell ∧ cell.vm.isStatics = false ∧ s.vm.findClass nm'.cls = some cell.cls) → W p l e R s m args below meth c H locs cells slots Q (F0 m pc ls str) := by
                  intro q As hav hrc
                  subst hav
                  have hAl : As.length = na := by simp at havl; omega
                  have hpre : PreV s H nm'.cls q (pm_Pc T tx cl NW dn D tc b (va_A ws H.size) (.ref q :: As) H) As := ⟨pm_blind oW, hrc, hPre⟩
                  have hstk : str = As.reverse ++ .ref q :: str.drop k := by
                    have := hstr
                    rw [List.reverse_cons, List.append_assoc] at this
                    exact this
                  have hgoal : va_Run p l e R s m args below meth c H locs cells slots (N1 - N) (S1 - S) (F0 m pc ls str) (str.drop k) (pm_Qc cl D tc b ar ws H r1 N1 h1 (Value.ref q :: As).toArray) (va_A ws H.size) := by
                    by_cases h3 : md < 3
                    · exact va_runV (As := As) (rest := str.drop k) hfix hMet ⟨callB_of na hts hG rfl rfl rfl (hts _ hinit') (hts _ (hlk0 h3)) hdd hroom, hts _ hi1, hts _ hsel⟩ hpre rfl hAl hlsz hstk (lv_room hrsum) hdg hbud
                    · obtain ⟨host, hnl⟩ := hlk3 (by omega)
                      exact va_runVN (As := As) (rest := str.drop k) hfix hMet ⟨va_cnB na hts hG rfl rfl rfl (hnw _ hnl) (hts _ hinit') hdd hroom, hts _ hi1, hts _ hsel⟩ hpre rfl hAl hlsz hstk (lv_room hrsum) hdg hbud
                  exact pm_go hgoal after
                unfold pm_recv at hrecv
                rw [if_neg (by omega)] at hrecv
                split at hrecv
                · rename_i a0 tl0 hav0
                  rw [if_neg (by omega)] at hrecv
                  simp only [Bool.and_eq_true, decide_eq_true_eq] at hrecv
                  obtain ⟨Tf, NN, hclo⟩ := hObj hrecv.1.2
                  rw [hav0] at hargs
                  obtain ⟨q, As, hav, hq, hAs⟩ := pm_rl_r hargs
                  obtain ⟨q', e', hwa, hqa, hre⟩ := pm_at hw hrecv.1.1
                  rw [hq] at hqa
                  cases hqa
                  have hcell : ∃ fs', e' = .inr (o', fs') := by
                    have hh := hrecv.2
                    split at hh
                    · rename_i cj fs hcj
                      rw [hcj] at hre
                      obtain ⟨fs', h1, -⟩ := hre
                      have : cj = o' := by simpa using hh
                      subst this
                      exact ⟨fs', h1⟩
                    · cases hh
                  obtain ⟨fs', rfl⟩ := hcell
                  exact fin q As hav (va_recv hK hP hclo hwa)
                · rename_i tl0 hav0
                  simp only [Bool.and_eq_true, decide_eq_true_eq, beq_iff_eq] at hrecv
                  rw [hav0] at hargs
                  obtain ⟨As, hav, hAs⟩ := pm_rl_s hargs
                  refine fin (b 1) As hav ?_
                  rw [hStr hrecv.2]
                  exact vk_recv ex.2.1 (i := 0) (by decide) hS
                · cases hrecv
              · -- invokespecial
                cases hinv
                have hdg : decode bs pc = .ok (.invokespecial idx, 3) := pm_hd hdg hlen rfl (by decide)
                have hk : k = na + 1 := by rw [← hkk]; unfold pm_nargs; rw [if_neg (by omega)]
                obtain ⟨hi1, hiz⟩ := hm1' hkd
                obtain ⟨hnmi, hrtn⟩ := hini' hiz
                subst hrtn
                unfold pm_recv at hrecv
                rw [if_neg (by omega)] at hrecv
                split at hrecv
                case h_2 =>
                  simp only [Bool.and_eq_true, decide_eq_true_eq] at hrecv
                  omega
                case h_3 => cases hrecv
                rename_i a0 tl0 hav0
                rw [hav0] at hargs
                obtain ⟨q, As, rfl, hq, hAs⟩ := pm_rl_r hargs
                have hAl : As.length = na := by simp at havl; omega
                have hpre : PreS s H (pm_Pc T tx cl NW dn D tc b (va_A ws H.size) (.ref q :: As) H) (.ref q :: As) := ⟨pm_blind oW, hPre⟩
                have hstk : str = As.reverse ++ .ref q :: str.drop k := by
                  have := hstr
                  rw [List.reverse_cons, List.append_assoc] at this
                  exact this
                have hgoal : va_Run p l e R s m args below meth c H locs cells slots (N1 - N) (S1 - S) (F0 m pc ls str) (str.drop k) (pm_Qc cl D tc b ar ws H r1 N1 h1 (Value.ref q :: As).toArray) (va_A ws H.size) := by
                  by_cases h3 : md < 3
                  · exact va_runI (As := As) (rest := str.drop k) hfix hMet ⟨callB_of na hts hG rfl rfl rfl (hts _ hinit') (hts _ (hlk0 h3)) hdd hroom, hnmi, hts _ hi1⟩ hpre rfl hAl hlsz hstk (lv_room hrsum) hdg hbud
                  · obtain ⟨host, hnl⟩ := hlk3 (by omega)
                    exact va_runIN (As := As) (rest := str.drop k) hfix hMet ⟨va_cnB na hts hG rfl rfl rfl (hnw _ hnl) (hts _ hinit') hdd hroom, hnmi, hts _ hi1⟩ hpre rfl hAl hlsz hstk (lv_room hrsum) hdg hbud
                exact pm_go hgoal after
              · -- invokestatic
                cases hinv
                have hdg : decode bs pc = .ok (.invokestatic idx, 3) := pm_hd hdg hlen rfl (by decide)
                have hk : k = na := by rw [← hkk]; unfold pm_nargs; rw [if_pos (by omega)]
                have hst1 := hm2' hkd
                have hAl : avr.length = na := by omega
                have hpre : PreS s H (pm_Pc T tx cl NW dn D tc b (va_A ws H.size) avr H) avr := ⟨pm_blind oW, hPre⟩
                have hgoal : va_Run p l e R s m args below meth c H locs cells slots (N1 - N) (S1 - S) (F0 m pc ls str) (str.drop k) (pm_Qc cl D tc b ar ws H r1 N1 h1 avr.toArray) (va_A ws H.size) := by
                  by_cases h3 : md < 3
                  · exact va_runS (As := avr) (rest := str.drop k) hfix hMet ⟨callB_of na hts hG rfl rfl rfl (hts _ hinit') (hts _ (hlk0 h3)) hdd hroom, hts _ hst1⟩ hpre rfl hAl hlsz hstr (lv_room hrsum) hdg hbud
                  · obtain ⟨host, hnl⟩ := hlk3 (by omega)
                    exact va_runSN (As := avr) (rest := str.drop k) hfix hMet ⟨va_cnB na hts hG rfl rfl rfl (hnw _ hnl) (hts _ hinit') hdd hroom, hts _ hst1, trivial⟩ hpre rfl hAl hlsz hstr (lv_room hrsum) hdg hbud
                exact pm_go hgoal after
              · cases hinv
