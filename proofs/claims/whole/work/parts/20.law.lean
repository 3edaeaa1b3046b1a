/-! THE CLAIM OUT OF ONE WALK OF THE LAW'S BODY. Your part is whole_start (and what it stands on); all else here is the same for every law, but numbers. -/
def R_law : String := "ArmExpanderLaw"
def lw_P (b : Addr) (xs : List Int32) (args : Array Value) (s : State) : Prop := args = #[.ref b] ∧ s.IntsAt b xs ∧ xs.length ≤ 1536 ∧ (Jvm.Cond.and given_1 narrow_1).before args s = true
def lw_Q (_ : Array Value) (s : State) (o : Outcome) (t : State) : Prop := o = .returned (some (.int 1)) ∧ Framed s o t [] 600000 7302250
def lw_Z (below : List Frame) (a : Array Value) (s : State) : State → Prop := fun t => ∃ o, t.status = .running ∧ Ended t below o ∧ lw_Q a s o t
/-- the law's own end, with 1 on the stack, nothing written that was there before, its room as the claim has it -/
theorem lw_ret {p : Program} {l : Launch} {e : Env} {s : State} {m : MethodId} {below : List Frame} {meth : Method} {c : Code} {b : Nat} (hx : p.tables.exec = Jvm.exec) (hb : c.code = code) (hr : meth.sig.returnType = ret) (hlocks : meth.locks = false) {pc : Nat} {H : Heap} {ls : Array Slot} (hdg : decode code pc = .ok (.ireturn, 1)) : W p l e room_1 s m #[Value.ref b] below meth c H [] 600000 7302250 (lw_Z below #[Value.ref b] s) (F0 m pc ls [.int 1]) := by
  intro T hT X
  obtain ⟨fs, hret, hrun, hended, hW, hframe⟩ := X.leave (v := some (.int 1)) (hlocks := hlocks) (fun h => by rw [hr] at h; cases h)
  have hmeth' : T.vm.method? m = some meth := X.method'
  refine ⟨T.setFrames fs, ?_, .returned (some (.int 1)), hrun, hended, rfl, ⟨_, rfl⟩, hW, hframe⟩
  jvm_step X.here [X.here.top, hx, hb, hdg, hmeth', hr, ret, narrow_b1]
  (try refine ⟨rfl, ?_⟩); (try refine ⟨rfl, ?_⟩)
  first | (intro acts; rw [hret _ acts rfl rfl rfl]) | rw [hret _ _ rfl rfl rfl]
  exact Steps.refl _
/-- what holds at the law's entry: the machine, the code, the tables' words (any of lw_tbl by 'hts w (by decide +kernel)'), the script of L ints xs at the cell b, what the Statement gives of the start (any of its parts by flat_of_before) -/
def lw_At (p : Program) (s : State) (m : MethodId) (meth : Method) (c : Code) (b L : Nat) (xs : Nat → Int32) : Prop :=
  p.tables.exec = Jvm.exec ∧ c.code = code ∧ meth.sig.returnType = ret ∧ c.maxLocals = 4 ∧ s.vm.findClass R_law = some m.cls ∧ (∀ w ∈ lw_tbl, w.before #[Value.ref b] s = true) ∧ va_X b L xs s s.heap ∧ b < s.heap.size ∧ meth.locks = false ∧ (Jvm.Cond.and given_1 narrow_1).before #[Value.ref b] s = true
/-- the pure machine's run of the law gives the law's walk -/
theorem pm_ret_1 {i : Instr} {st : List Value} (h : pm_ret (some .boolean) i st = some (some (.int 1))) : i = .ireturn ∧ st = [.int 1] := by
  cases i <;> first | (simp [pm_ret] at h; done) | skip
  case ireturn =>
    unfold pm_ret at h
    dsimp only at h
    split at h <;> first | (cases h; exact ⟨rfl, rfl⟩) | (split at h <;> first | (cases h; exact ⟨rfl, rfl⟩) | cases h) | cases h
theorem pm_okIn {ci : Nat} {C : String} {Tf : u_T} {N : Nat} (h : pm_cl[ci]? = some (C, Tf, N)) : Cond.instantiable C N ∈ pm_GW := by
  have hlt : ci < 13 := (List.getElem?_eq_some_iff.mp h).1
  rcases (show ci = 0 ∨ ci = 1 ∨ ci = 2 ∨ ci = 3 ∨ ci = 4 ∨ ci = 5 ∨ ci = 6 ∨ ci = 7 ∨ ci = 8 ∨ ci = 9 ∨ ci = 10 ∨ ci = 11 ∨ ci = 12 by omega) with rfl | rfl | rfl | rfl | rfl | rfl | rfl | rfl | rfl | rfl | rfl | rfl | rfl
  · cases h; exact gn_0
  · cases h; exact gn_1
  · cases h; exact gn_2
  · cases h; exact gn_3
  · cases h; exact gn_4
  · cases h; exact gn_5
  · cases h; exact gn_6
  · cases h; exact gn_7
  · cases h; exact gn_8
  · cases h; exact gn_9
  · cases h; exact gn_10
  · cases h; exact gn_11
  · cases h; exact gn_12
set_option maxRecDepth 20000 in
theorem pm_aoIn : Cond.arrayOver (FieldType.object "ArmExpander$Definition") ∈ tables_1 := tw_2 (List.mem_of_getElem? (i := 21) rfl)
set_option maxRecDepth 20000 in
theorem pm_lsIn : Cond.laysStatic "java/lang/String" "COMPACT_STRINGS" "Z" ∈ tables_1 := tw_2 (List.mem_of_getElem? (i := 130) rfl)
set_option maxRecDepth 20000 in
theorem pm_srIn : Cond.stringRef "ArmExpander$TypedText" 43 "+*,;=:!?>$()[]{}" ∈ tables_1 := tw_2 (List.mem_of_getElem? (i := 116) rfl)
set_option maxRecDepth 20000 in
theorem pm_byIn : ∀ j, j < 16 → Cond.eq (.elem (.field (.string "ArmExpander$TypedText" 43) "java/lang/String" "value" "[B") (.int (Int32.ofNat j))) (.int (([[43, 42, 44, 59, 61, 58, 33, 63, 62, 36, 40, 41, 91, 93, 123, 125]].getD 0 []).getD j 0)) ∈ flatC (Jvm.Cond.and given_1 narrow_1) := by decide +kernel
abbrev pm_law : Nat := 214
abbrev pm_h0 : Nat → va_E := fun _ => .inr (0, [])
set_option maxHeartbeats 4000000 in
set_option maxRecDepth 20000 in
theorem pm_start {p : Program} {e : Env} {s : State} {m : MethodId} {below : List Frame} {meth : Method} {c : Code} (l : Launch) {b L : Nat} {xs : Nat → Int32} (C0 : lw_At p s m meth c b L xs) {d N' S' : Nat} {h' : Nat → va_E} (hd : d ≤ 1400) (hN : N' ≤ 600000) (hS : S' ≤ 7302250)
    (hev : pm_ev pmT (some (L, xs)) d pm_law true (0, [some (.retAddr 0), none, none, none], [], 0, 0, pm_h0) (some (.int 1), N', S', h')) :
    W p l e room_1 s m #[Value.ref b] below meth c s.heap [] 0 0 (lw_Z below #[Value.ref b] s) (entryFrame m ([Value.ref b] : List Value).toArray 4) := by
  obtain ⟨hx, hb, hr, hml, hown, hts, hX, hbl, hlk, hgv⟩ := C0
  obtain ⟨n, hrun⟩ := hev
  have htG : ∀ w ∈ pm_GW, w.before #[Value.ref b] s = true := fun w hw => hts w (List.mem_filter.mp hw).1
  obtain ⟨c0, k0, p0, a0, a1, a2⟩ := Cond.arrayClass_spec (htG _ pm_okOG.2.1)
  obtain ⟨c1, k1, p1, b0, b1, b2⟩ := Cond.arrayClass_spec (htG _ pm_okOG.2.2)
  have hZ : va_Z "java/lang/String" "COMPACT_STRINGS" "Z" (.int 1) (fun q => s.heap.size ≤ q) s s.heap := va_Zof (hts (Cond.laysStatic "java/lang/String" "COMPACT_STRINGS" "Z") (List.mem_append_right _ pm_lsIn)) (htG _ gi_100) (va_eqi (flat_of_before _ hgv _ (by decide +kernel))) (fun a h z => absurd h (Nat.not_lt.mpr z))
  obtain ⟨adK, adV, hVS, hVE⟩ := vk_Sof (N := 1) (tm := fun _ => Term.string "ArmExpander$TypedText" 43) (len := [16]) (byt := [[43, 42, 44, 59, 61, 58, 33, 63, 62, 36, 40, 41, 91, 93, 123, 125]]) (A := fun q => s.heap.size ≤ q) (args := #[Value.ref b]) (s := s) (fun i hi => by rw [show i = 0 by omega]; decide) (fun i hi => flat_of_before _ hgv _ (by decide +kernel)) (fun i hi => flat_of_before _ hgv _ (by decide +kernel)) (fun i hi => flat_of_before _ hgv _ (by decide +kernel)) (fun i hi => by rw [show i = 0 by omega]; exact flat_of_before _ hgv _ (by decide +kernel)) (fun i hi j hj => by rw [show i = 0 by omega] at hj ⊢; exact flat_of_before _ hgv _ (pm_byIn j hj)) (fun i j hi hj hn => absurd (show i = j by omega) hn) (fun a h z => absurd h (Nat.not_lt.mpr z))
  have hex : pm_Ex pmT "+*,;=:!?>$()[]{}" (fun k => match k with | 0 => b | 1 => adK 0 | _ => adV 0) (fun q => s.heap.size ≤ q) s s.heap := ⟨vk_R.of (hts _ (List.mem_append_right _ pm_srIn)) (hVE 0 (by decide)), ⟨fun i hi => by rw [show i = 0 by omega]; exact hVS.1 0 (by decide), fun i j hi hj _ => by omega⟩, hZ⟩
  have hao : va_AO "ArmExpander$Definition" s := va_AO.of (hts _ (List.mem_append_right _ pm_aoIn))
  obtain ⟨p2, c2, k2, d0, -, d1, d2, d3⟩ := Cond.arrayOver_spec hao
  have hk : ∀ ci : Nat, ∃ x : ClassId × (Nat → Nat), ∀ q : vw_C, pm_cl[ci]? = some q → u_Kn s q.1 q.2.1 q.2.2 x.1 x.2 := by
    intro ci
    cases hq : pm_cl[ci]? with
    | none => exact ⟨(0, fun _ => 0), fun q h => by cases h⟩
    | some q =>
      obtain ⟨C, Tf, NN⟩ := q
      obtain ⟨cC, iS, h⟩ := u_known htG (pm_okOC ci C Tf NN hq).1 (htG _ (pm_okIn hq))
      exact ⟨(cC, iS), fun q h9 => by cases h9; exact h⟩
  have hK : va_K (fun ci => (Classical.choose (hk ci)).1, fun ci => (Classical.choose (hk ci)).2) pm_cl (pm_ty (fun t => match t with | 0 => c0 | 1 => c1 | _ => c2) "ArmExpander$Definition") s := by
    refine ⟨fun ci q hq => Classical.choose_spec (hk ci) q hq, fun k q hq => ?_⟩
    have hlt : k < 3 := (List.getElem?_eq_some_iff.mp hq).1
    rcases (show k = 0 ∨ k = 1 ∨ k = 2 by omega) with rfl | rfl | rfl
    · cases hq
      exact ⟨fun n z => ⟨fun k h => (by cases h), k0, a1, p0, a2⟩, a0⟩
    · cases hq
      exact ⟨fun n z => ⟨fun k h => (by cases h), k1, b1, p1, b2⟩, b0⟩
    · cases hq
      exact ⟨fun n z => ⟨fun k h => (by cases h), k2, d1, p2, d2⟩, ⟨k2, p2, d1, d2, d0, d3⟩⟩
  rw [lg_entry_eq]
  have hent := pm_entry (ar := []) (b := fun k => match k with | 0 => b | 1 => adK 0 | _ => adV 0) (av := [.retAddr 0]) (avr := [.ref b]) (mL := 4) ⟨_, _, rfl, rfl, rfl⟩ (fun v hv => by rw [List.mem_singleton.mp hv]; rfl) (by decide)
  refine pm_sound pm_ok (some (L, xs)) n d pm_law true 0 _ [] 0 0 pm_h0 _ N' S' h' hrun _ code maxLocals ret _ false _ rfl p e room_1 s m #[Value.ref b] below meth c ⟨hx, hb, hml, hr, hlk, (fun h => by cases h), hown, htG, fun w hw => va_Nw.of (pm_okOW w hw).1 (hts w (List.mem_filter.mp hw).1), hao, hK⟩ (fun k => match k with | 0 => b | 1 => adK 0 | _ => adV 0) (fun q => s.heap.size ≤ q) [] [] _ [] s.heap [] 0 0 _ hex ?_ ⟨⟨rfl, rfl, (fun i q h => by cases h)⟩, (fun k q h => by cases h), ⟨(fun i j p q h => by cases h), (fun k q h => by cases h)⟩, va_S.rf, hent, rfl⟩ (fun q h => h) (Nat.le_trans hd (by decide)) (Nat.le_trans (Nat.mul_le_mul_left 60 hd) (by decide)) (by show 0 + N' ≤ 600000 + 0; omega) (by show 0 + S' ≤ 7302250 + 0; omega) ?_
  · intro _ n f hs
    cases hs
    exact ⟨hX, hbl, fun z => absurd hbl (Nat.not_lt.mpr z)⟩
  · intro bs2 ws' H' locs' ls' st' str' cells' slots' pc' i' g1 g2 g3 g4 g5 g6 g7 g8 g9
    obtain ⟨rfl, rfl⟩ := pm_ret_1 g6
    obtain ⟨u, rfl, hs1⟩ := pm_rl_i g5
    rw [show u = [] from hs1]
    refine va_forget (fun q hq => g4.2.2 q hq) ?_
    exact W.widen (k := 600000) (n := 7302250) (by omega) (by omega) (lw_ret hx hb hr hlk g7)
