/-! The tables are right: every row of them stands in the Statement's tables; written by program. -/
def pm_isN : Cond → Bool
  | .methodLinkNest .. => true
  | _ => false
def pm_GW : List Cond := lw_tbl.filter goodWord
def pm_NW : List Cond := lw_tbl.filter pm_isN
theorem gw_of {w : Cond} (h : w ∈ tables_1) (hg : goodWord w = true) : w ∈ pm_GW := List.mem_filter.mpr ⟨List.mem_append_right _ h, hg⟩
theorem nw_of {w : Cond} (h : w ∈ tables_1) (hg : pm_isN w = true) : w ∈ pm_NW := List.mem_filter.mpr ⟨List.mem_append_right _ h, hg⟩
theorem gw_sel {q : MethodName × Nat} (h : q ∈ lw_privs) : Cond.selects q.1.cls q.1 q.1 ∈ pm_GW := List.mem_filter.mpr ⟨List.mem_append_left _ (List.mem_map.mpr ⟨q, h, rfl⟩), rfl⟩
theorem tw_1 {w : Cond} (h : w ∈ tables_1_1) : w ∈ tables_1 := by
  unfold tables_1
  exact List.mem_append_left _ h
theorem tw_2 {w : Cond} (h : w ∈ tables_1_2) : w ∈ tables_1 := by
  unfold tables_1
  exact List.mem_append_right _ (List.mem_append_left _ h)
theorem tw_3 {w : Cond} (h : w ∈ tables_1_3) : w ∈ tables_1 := by
  unfold tables_1
  exact List.mem_append_right _ (List.mem_append_right _ (List.mem_append_left _ h))
theorem tw_4 {w : Cond} (h : w ∈ tables_1_4) : w ∈ tables_1 := by
  unfold tables_1
  exact List.mem_append_right _ (List.mem_append_right _ (List.mem_append_right _ (List.mem_append_left _ h)))
theorem tw_5 {w : Cond} (h : w ∈ tables_1_5) : w ∈ tables_1 := by
  unfold tables_1
  exact List.mem_append_right _ (List.mem_append_right _ (List.mem_append_right _ (List.mem_append_right _ (List.mem_append_left _ h))))
theorem tw_6 {w : Cond} (h : w ∈ tables_1_6) : w ∈ tables_1 := by
  unfold tables_1
  exact List.mem_append_right _ (List.mem_append_right _ (List.mem_append_right _ (List.mem_append_right _ (List.mem_append_right _ (List.mem_append_left _ h)))))
theorem tw_7 {w : Cond} (h : w ∈ tables_1_7) : w ∈ tables_1 := by
  unfold tables_1
  exact List.mem_append_right _ (List.mem_append_right _ (List.mem_append_right _ (List.mem_append_right _ (List.mem_append_right _ (List.mem_append_right _ (h))))))
theorem tq_1 {q : MethodName × Nat} (h : q ∈ lw_privs_1) : q ∈ lw_privs := by
  unfold lw_privs
  exact List.mem_append_left _ h
theorem tq_2 {q : MethodName × Nat} (h : q ∈ lw_privs_2) : q ∈ lw_privs := by
  unfold lw_privs
  exact List.mem_append_right _ (List.mem_append_left _ h)
theorem tq_3 {q : MethodName × Nat} (h : q ∈ lw_privs_3) : q ∈ lw_privs := by
  unfold lw_privs
  exact List.mem_append_right _ (List.mem_append_right _ (List.mem_append_left _ h))
theorem tq_4 {q : MethodName × Nat} (h : q ∈ lw_privs_4) : q ∈ lw_privs := by
  unfold lw_privs
  exact List.mem_append_right _ (List.mem_append_right _ (List.mem_append_right _ (List.mem_append_left _ h)))
theorem tq_5 {q : MethodName × Nat} (h : q ∈ lw_privs_5) : q ∈ lw_privs := by
  unfold lw_privs
  exact List.mem_append_right _ (List.mem_append_right _ (List.mem_append_right _ (List.mem_append_right _ (List.mem_append_left _ h))))
theorem tq_6 {q : MethodName × Nat} (h : q ∈ lw_privs_6) : q ∈ lw_privs := by
  unfold lw_privs
  exact List.mem_append_right _ (List.mem_append_right _ (List.mem_append_right _ (List.mem_append_right _ (List.mem_append_right _ (h)))))
set_option maxRecDepth 20000 in
theorem gi_0 : Cond.initialized "ArmExpander" ∈ pm_GW := gw_of (tw_1 (List.mem_of_getElem? (i := 1) rfl)) rfl
set_option maxRecDepth 20000 in
theorem gi_1 : Cond.initialized "ArmExpander$Checker" ∈ pm_GW := gw_of (tw_1 (List.mem_of_getElem? (i := 5) rfl)) rfl
set_option maxRecDepth 20000 in
theorem gi_2 : Cond.initialized "ArmExpander$Definition" ∈ pm_GW := gw_of (tw_1 (List.mem_of_getElem? (i := 12) rfl)) rfl
set_option maxRecDepth 20000 in
theorem gi_3 : Cond.initialized "ArmExpander$DefinitionReader" ∈ pm_GW := gw_of (tw_1 (List.mem_of_getElem? (i := 3) rfl)) rfl
set_option maxRecDepth 20000 in
theorem gi_4 : Cond.initialized "ArmExpander$Expander" ∈ pm_GW := gw_of (tw_1 (List.mem_of_getElem? (i := 7) rfl)) rfl
set_option maxRecDepth 20000 in
theorem gi_5 : Cond.initialized "ArmExpander$Matcher" ∈ pm_GW := gw_of (tw_1 (List.mem_of_getElem? (i := 8) rfl)) rfl
set_option maxRecDepth 20000 in
theorem gi_6 : Cond.initialized "ArmExpander$Nesting" ∈ pm_GW := gw_of (tw_1 (List.mem_of_getElem? (i := 4) rfl)) rfl
set_option maxRecDepth 20000 in
theorem gi_7 : Cond.initialized "ArmExpander$Row" ∈ pm_GW := gw_of (tw_1 (List.mem_of_getElem? (i := 11) rfl)) rfl
set_option maxRecDepth 20000 in
theorem gi_8 : Cond.initialized "ArmExpander$Takings" ∈ pm_GW := gw_of (tw_1 (List.mem_of_getElem? (i := 9) rfl)) rfl
set_option maxRecDepth 20000 in
theorem gi_9 : Cond.initialized "ArmExpander$Threads" ∈ pm_GW := gw_of (tw_1 (List.mem_of_getElem? (i := 6) rfl)) rfl
set_option maxRecDepth 20000 in
theorem gi_10 : Cond.initialized "ArmExpander$TypedText" ∈ pm_GW := gw_of (tw_1 (List.mem_of_getElem? (i := 2) rfl)) rfl
set_option maxRecDepth 20000 in
theorem gi_11 : Cond.initialized "ArmExpander$Writer" ∈ pm_GW := gw_of (tw_1 (List.mem_of_getElem? (i := 10) rfl)) rfl
set_option maxRecDepth 20000 in
theorem gi_12 : Cond.initialized "ArmExpanderModel" ∈ pm_GW := gw_of (tw_1 (List.mem_of_getElem? (i := 13) rfl)) rfl
set_option maxRecDepth 20000 in
theorem gi_13 : Cond.initialized "ArmExpanderLaw" ∈ pm_GW := gw_of (tw_1 (List.mem_of_getElem? (i := 0) rfl)) rfl
set_option maxRecDepth 20000 in
theorem gi_14 : Cond.initialized "java/lang/StringLatin1" ∈ pm_GW := gw_of (tw_1 (List.mem_of_getElem? (i := 15) rfl)) rfl
set_option maxRecDepth 20000 in
theorem gi_15 : Cond.initialized "java/util/Arrays" ∈ pm_GW := gw_of (tw_1 (List.mem_of_getElem? (i := 20) rfl)) rfl
set_option maxRecDepth 20000 in
theorem gi_100 : Cond.initialized "java/lang/String" ∈ pm_GW := gw_of (tw_1 (List.mem_of_getElem? (i := 14) rfl)) rfl
set_option maxRecDepth 20000 in
theorem gn_0 : Cond.instantiable "ArmExpander" 6 ∈ pm_GW := gw_of (tw_1 (List.mem_of_getElem? (i := 22) rfl)) rfl
set_option maxRecDepth 20000 in
theorem gl_0_0 : Cond.laysFinal "ArmExpander" "ArmExpander" "text" "LArmExpander$TypedText;" ∈ pm_GW := gw_of (tw_2 (List.mem_of_getElem? (i := 58) rfl)) rfl
set_option maxRecDepth 20000 in
theorem gl_0_1 : Cond.laysFinal "ArmExpander" "ArmExpander" "reader" "LArmExpander$DefinitionReader;" ∈ pm_GW := gw_of (tw_2 (List.mem_of_getElem? (i := 60) rfl)) rfl
set_option maxRecDepth 20000 in
theorem gl_0_2 : Cond.laysFinal "ArmExpander" "ArmExpander" "checker" "LArmExpander$Checker;" ∈ pm_GW := gw_of (tw_2 (List.mem_of_getElem? (i := 62) rfl)) rfl
set_option maxRecDepth 20000 in
theorem gl_0_3 : Cond.laysFinal "ArmExpander" "ArmExpander" "expander" "LArmExpander$Expander;" ∈ pm_GW := gw_of (tw_2 (List.mem_of_getElem? (i := 64) rfl)) rfl
set_option maxRecDepth 20000 in
theorem gl_0_4 : Cond.laysFinal "ArmExpander" "ArmExpander" "places" "[LArmExpander$Definition;" ∈ pm_GW := gw_of (tw_2 (List.mem_of_getElem? (i := 66) rfl)) rfl
set_option maxRecDepth 20000 in
theorem gl_0_5 : Cond.lays "ArmExpander" "ArmExpander" "count" "I" ∈ pm_GW := gw_of (tw_2 (List.mem_of_getElem? (i := 68) rfl)) rfl
set_option maxRecDepth 20000 in
theorem gn_1 : Cond.instantiable "ArmExpander$Checker" 1 ∈ pm_GW := gw_of (tw_1 (List.mem_of_getElem? (i := 97) rfl)) rfl
set_option maxRecDepth 20000 in
theorem gl_1_0 : Cond.laysFinal "ArmExpander$Checker" "ArmExpander$Checker" "threads" "LArmExpander$Threads;" ∈ pm_GW := gw_of (tw_1 (List.mem_of_getElem? (i := 125) rfl)) rfl
set_option maxRecDepth 20000 in
theorem gn_2 : Cond.instantiable "ArmExpander$Definition" 8 ∈ pm_GW := gw_of (tw_2 (List.mem_of_getElem? (i := 22) rfl)) rfl
set_option maxRecDepth 20000 in
theorem gl_2_0 : Cond.laysFinal "ArmExpander$Definition" "ArmExpander$Definition" "code" "[I" ∈ pm_GW := gw_of (tw_2 (List.mem_of_getElem? (i := 35) rfl)) rfl
set_option maxRecDepth 20000 in
theorem gl_2_1 : Cond.laysFinal "ArmExpander$Definition" "ArmExpander$Definition" "partner" "[I" ∈ pm_GW := gw_of (tw_2 (List.mem_of_getElem? (i := 37) rfl)) rfl
set_option maxRecDepth 20000 in
theorem gl_2_2 : Cond.laysFinal "ArmExpander$Definition" "ArmExpander$Definition" "around" "[I" ∈ pm_GW := gw_of (tw_2 (List.mem_of_getElem? (i := 39) rfl)) rfl
set_option maxRecDepth 20000 in
theorem gl_2_3 : Cond.laysFinal "ArmExpander$Definition" "ArmExpander$Definition" "markPlace" "[I" ∈ pm_GW := gw_of (tw_2 (List.mem_of_getElem? (i := 41) rfl)) rfl
set_option maxRecDepth 20000 in
theorem gl_2_4 : Cond.laysFinal "ArmExpander$Definition" "ArmExpander$Definition" "order" "[I" ∈ pm_GW := gw_of (tw_2 (List.mem_of_getElem? (i := 43) rfl)) rfl
set_option maxRecDepth 20000 in
theorem gl_2_5 : Cond.laysFinal "ArmExpander$Definition" "ArmExpander$Definition" "armPlace" "[I" ∈ pm_GW := gw_of (tw_2 (List.mem_of_getElem? (i := 45) rfl)) rfl
set_option maxRecDepth 20000 in
theorem gl_2_6 : Cond.lays "ArmExpander$Definition" "ArmExpander$Definition" "size" "I" ∈ pm_GW := gw_of (tw_2 (List.mem_of_getElem? (i := 47) rfl)) rfl
set_option maxRecDepth 20000 in
theorem gl_2_7 : Cond.lays "ArmExpander$Definition" "ArmExpander$Definition" "armCount" "I" ∈ pm_GW := gw_of (tw_2 (List.mem_of_getElem? (i := 49) rfl)) rfl
set_option maxRecDepth 20000 in
theorem gn_3 : Cond.instantiable "ArmExpander$DefinitionReader" 8 ∈ pm_GW := gw_of (tw_1 (List.mem_of_getElem? (i := 50) rfl)) rfl
set_option maxRecDepth 20000 in
theorem gl_3_0 : Cond.laysFinal "ArmExpander$DefinitionReader" "ArmExpander$DefinitionReader" "nesting" "LArmExpander$Nesting;" ∈ pm_GW := gw_of (tw_1 (List.mem_of_getElem? (i := 79) rfl)) rfl
set_option maxRecDepth 20000 in
theorem gl_3_1 : Cond.lays "ArmExpander$DefinitionReader" "ArmExpander$DefinitionReader" "into" "LArmExpander$Definition;" ∈ pm_GW := gw_of (tw_1 (List.mem_of_getElem? (i := 81) rfl)) rfl
set_option maxRecDepth 20000 in
theorem gl_3_2 : Cond.lays "ArmExpander$DefinitionReader" "ArmExpander$DefinitionReader" "expected" "I" ∈ pm_GW := gw_of (tw_1 (List.mem_of_getElem? (i := 83) rfl)) rfl
set_option maxRecDepth 20000 in
theorem gl_3_3 : Cond.lays "ArmExpander$DefinitionReader" "ArmExpander$DefinitionReader" "place" "I" ∈ pm_GW := gw_of (tw_1 (List.mem_of_getElem? (i := 85) rfl)) rfl
set_option maxRecDepth 20000 in
theorem gl_3_4 : Cond.lays "ArmExpander$DefinitionReader" "ArmExpander$DefinitionReader" "inPattern" "Z" ∈ pm_GW := gw_of (tw_1 (List.mem_of_getElem? (i := 87) rfl)) rfl
set_option maxRecDepth 20000 in
theorem gl_3_5 : Cond.lays "ArmExpander$DefinitionReader" "ArmExpander$DefinitionReader" "repetitions" "I" ∈ pm_GW := gw_of (tw_1 (List.mem_of_getElem? (i := 89) rfl)) rfl
set_option maxRecDepth 20000 in
theorem gl_3_6 : Cond.lays "ArmExpander$DefinitionReader" "ArmExpander$DefinitionReader" "innermost" "I" ∈ pm_GW := gw_of (tw_1 (List.mem_of_getElem? (i := 91) rfl)) rfl
set_option maxRecDepth 20000 in
theorem gl_3_7 : Cond.lays "ArmExpander$DefinitionReader" "ArmExpander$DefinitionReader" "closed" "I" ∈ pm_GW := gw_of (tw_1 (List.mem_of_getElem? (i := 93) rfl)) rfl
set_option maxRecDepth 20000 in
theorem gn_4 : Cond.instantiable "ArmExpander$Expander" 7 ∈ pm_GW := gw_of (tw_1 (List.mem_of_getElem? (i := 129) rfl)) rfl
set_option maxRecDepth 20000 in
theorem gl_4_0 : Cond.laysFinal "ArmExpander$Expander" "ArmExpander$Expander" "nesting" "LArmExpander$Nesting;" ∈ pm_GW := gw_of (tw_2 (List.mem_of_getElem? (i := 5) rfl)) rfl
set_option maxRecDepth 20000 in
theorem gl_4_1 : Cond.laysFinal "ArmExpander$Expander" "ArmExpander$Expander" "matcher" "LArmExpander$Matcher;" ∈ pm_GW := gw_of (tw_2 (List.mem_of_getElem? (i := 7) rfl)) rfl
set_option maxRecDepth 20000 in
theorem gl_4_2 : Cond.laysFinal "ArmExpander$Expander" "ArmExpander$Expander" "writer" "LArmExpander$Writer;" ∈ pm_GW := gw_of (tw_2 (List.mem_of_getElem? (i := 9) rfl)) rfl
set_option maxRecDepth 20000 in
theorem gl_4_3 : Cond.laysFinal "ArmExpander$Expander" "ArmExpander$Expander" "chosenArms" "[I" ∈ pm_GW := gw_of (tw_2 (List.mem_of_getElem? (i := 11) rfl)) rfl
set_option maxRecDepth 20000 in
theorem gl_4_4 : Cond.lays "ArmExpander$Expander" "ArmExpander$Expander" "row" "LArmExpander$Row;" ∈ pm_GW := gw_of (tw_2 (List.mem_of_getElem? (i := 13) rfl)) rfl
set_option maxRecDepth 20000 in
theorem gl_4_5 : Cond.lays "ArmExpander$Expander" "ArmExpander$Expander" "spare" "LArmExpander$Row;" ∈ pm_GW := gw_of (tw_2 (List.mem_of_getElem? (i := 15) rfl)) rfl
set_option maxRecDepth 20000 in
theorem gl_4_6 : Cond.lays "ArmExpander$Expander" "ArmExpander$Expander" "done" "I" ∈ pm_GW := gw_of (tw_2 (List.mem_of_getElem? (i := 17) rfl)) rfl
set_option maxRecDepth 20000 in
theorem gn_5 : Cond.instantiable "ArmExpander$Matcher" 7 ∈ pm_GW := gw_of (tw_1 (List.mem_of_getElem? (i := 137) rfl)) rfl
set_option maxRecDepth 20000 in
theorem gl_5_0 : Cond.laysFinal "ArmExpander$Matcher" "ArmExpander$Matcher" "takings" "LArmExpander$Takings;" ∈ pm_GW := gw_of (tw_1 (List.mem_of_getElem? (i := 176) rfl)) rfl
set_option maxRecDepth 20000 in
theorem gl_5_1 : Cond.lays "ArmExpander$Matcher" "ArmExpander$Matcher" "standing" "LArmExpander$Threads;" ∈ pm_GW := gw_of (tw_1 (List.mem_of_getElem? (i := 178) rfl)) rfl
set_option maxRecDepth 20000 in
theorem gl_5_2 : Cond.lays "ArmExpander$Matcher" "ArmExpander$Matcher" "coming" "LArmExpander$Threads;" ∈ pm_GW := gw_of (tw_1 (List.mem_of_getElem? (i := 180) rfl)) rfl
set_option maxRecDepth 20000 in
theorem gl_5_3 : Cond.lays "ArmExpander$Matcher" "ArmExpander$Matcher" "definition" "LArmExpander$Definition;" ∈ pm_GW := gw_of (tw_1 (List.mem_of_getElem? (i := 182) rfl)) rfl
set_option maxRecDepth 20000 in
theorem gl_5_4 : Cond.lays "ArmExpander$Matcher" "ArmExpander$Matcher" "start" "I" ∈ pm_GW := gw_of (tw_1 (List.mem_of_getElem? (i := 184) rfl)) rfl
set_option maxRecDepth 20000 in
theorem gl_5_5 : Cond.lays "ArmExpander$Matcher" "ArmExpander$Matcher" "end" "I" ∈ pm_GW := gw_of (tw_1 (List.mem_of_getElem? (i := 186) rfl)) rfl
set_option maxRecDepth 20000 in
theorem gl_5_6 : Cond.lays "ArmExpander$Matcher" "ArmExpander$Matcher" "row" "LArmExpander$Row;" ∈ pm_GW := gw_of (tw_1 (List.mem_of_getElem? (i := 188) rfl)) rfl
set_option maxRecDepth 20000 in
theorem gn_6 : Cond.instantiable "ArmExpander$Nesting" 3 ∈ pm_GW := gw_of (tw_1 (List.mem_of_getElem? (i := 56) rfl)) rfl
set_option maxRecDepth 20000 in
theorem gl_6_0 : Cond.laysFinal "ArmExpander$Nesting" "ArmExpander$Nesting" "places" "[I" ∈ pm_GW := gw_of (tw_1 (List.mem_of_getElem? (i := 64) rfl)) rfl
set_option maxRecDepth 20000 in
theorem gl_6_1 : Cond.laysFinal "ArmExpander$Nesting" "ArmExpander$Nesting" "closings" "[I" ∈ pm_GW := gw_of (tw_1 (List.mem_of_getElem? (i := 66) rfl)) rfl
set_option maxRecDepth 20000 in
theorem gl_6_2 : Cond.lays "ArmExpander$Nesting" "ArmExpander$Nesting" "depth" "I" ∈ pm_GW := gw_of (tw_1 (List.mem_of_getElem? (i := 68) rfl)) rfl
set_option maxRecDepth 20000 in
theorem gn_7 : Cond.instantiable "ArmExpander$Row" 4 ∈ pm_GW := gw_of (tw_1 (List.mem_of_getElem? (i := 220) rfl)) rfl
set_option maxRecDepth 20000 in
theorem gl_7_0 : Cond.laysFinal "ArmExpander$Row" "ArmExpander$Row" "codes" "[I" ∈ pm_GW := gw_of (tw_1 (List.mem_of_getElem? (i := 229) rfl)) rfl
set_option maxRecDepth 20000 in
theorem gl_7_1 : Cond.laysFinal "ArmExpander$Row" "ArmExpander$Row" "origins" "[I" ∈ pm_GW := gw_of (tw_1 (List.mem_of_getElem? (i := 231) rfl)) rfl
set_option maxRecDepth 20000 in
theorem gl_7_2 : Cond.lays "ArmExpander$Row" "ArmExpander$Row" "size" "I" ∈ pm_GW := gw_of (tw_1 (List.mem_of_getElem? (i := 233) rfl)) rfl
set_option maxRecDepth 20000 in
theorem gl_7_3 : Cond.lays "ArmExpander$Row" "ArmExpander$Row" "overfull" "Z" ∈ pm_GW := gw_of (tw_1 (List.mem_of_getElem? (i := 235) rfl)) rfl
set_option maxRecDepth 20000 in
theorem gn_8 : Cond.instantiable "ArmExpander$Takings" 6 ∈ pm_GW := gw_of (tw_1 (List.mem_of_getElem? (i := 143) rfl)) rfl
set_option maxRecDepth 20000 in
theorem gl_8_0 : Cond.laysFinal "ArmExpander$Takings" "ArmExpander$Takings" "fragments" "[I" ∈ pm_GW := gw_of (tw_1 (List.mem_of_getElem? (i := 154) rfl)) rfl
set_option maxRecDepth 20000 in
theorem gl_8_1 : Cond.laysFinal "ArmExpander$Takings" "ArmExpander$Takings" "outerRounds" "[I" ∈ pm_GW := gw_of (tw_1 (List.mem_of_getElem? (i := 156) rfl)) rfl
set_option maxRecDepth 20000 in
theorem gl_8_2 : Cond.laysFinal "ArmExpander$Takings" "ArmExpander$Takings" "froms" "[I" ∈ pm_GW := gw_of (tw_1 (List.mem_of_getElem? (i := 158) rfl)) rfl
set_option maxRecDepth 20000 in
theorem gl_8_3 : Cond.laysFinal "ArmExpander$Takings" "ArmExpander$Takings" "tos" "[I" ∈ pm_GW := gw_of (tw_1 (List.mem_of_getElem? (i := 160) rfl)) rfl
set_option maxRecDepth 20000 in
theorem gl_8_4 : Cond.laysFinal "ArmExpander$Takings" "ArmExpander$Takings" "rounds" "[I" ∈ pm_GW := gw_of (tw_1 (List.mem_of_getElem? (i := 162) rfl)) rfl
set_option maxRecDepth 20000 in
theorem gl_8_5 : Cond.lays "ArmExpander$Takings" "ArmExpander$Takings" "size" "I" ∈ pm_GW := gw_of (tw_1 (List.mem_of_getElem? (i := 164) rfl)) rfl
set_option maxRecDepth 20000 in
theorem gn_9 : Cond.instantiable "ArmExpander$Threads" 5 ∈ pm_GW := gw_of (tw_1 (List.mem_of_getElem? (i := 103) rfl)) rfl
set_option maxRecDepth 20000 in
theorem gl_9_0 : Cond.laysFinal "ArmExpander$Threads" "ArmExpander$Threads" "many" "[I" ∈ pm_GW := gw_of (tw_1 (List.mem_of_getElem? (i := 113) rfl)) rfl
set_option maxRecDepth 20000 in
theorem gl_9_1 : Cond.laysFinal "ArmExpander$Threads" "ArmExpander$Threads" "rounds" "[I" ∈ pm_GW := gw_of (tw_1 (List.mem_of_getElem? (i := 115) rfl)) rfl
set_option maxRecDepth 20000 in
theorem gl_9_2 : Cond.laysFinal "ArmExpander$Threads" "ArmExpander$Threads" "ownRounds" "[I" ∈ pm_GW := gw_of (tw_1 (List.mem_of_getElem? (i := 117) rfl)) rfl
set_option maxRecDepth 20000 in
theorem gl_9_3 : Cond.lays "ArmExpander$Threads" "ArmExpander$Threads" "weight" "I" ∈ pm_GW := gw_of (tw_1 (List.mem_of_getElem? (i := 119) rfl)) rfl
set_option maxRecDepth 20000 in
theorem gl_9_4 : Cond.lays "ArmExpander$Threads" "ArmExpander$Threads" "definition" "LArmExpander$Definition;" ∈ pm_GW := gw_of (tw_1 (List.mem_of_getElem? (i := 121) rfl)) rfl
set_option maxRecDepth 20000 in
theorem gn_10 : Cond.instantiable "ArmExpander$TypedText" 4 ∈ pm_GW := gw_of (tw_1 (List.mem_of_getElem? (i := 30) rfl)) rfl
set_option maxRecDepth 20000 in
theorem gl_10_0 : Cond.laysFinal "ArmExpander$TypedText" "ArmExpander$TypedText" "characters" "[I" ∈ pm_GW := gw_of (tw_1 (List.mem_of_getElem? (i := 39) rfl)) rfl
set_option maxRecDepth 20000 in
theorem gl_10_1 : Cond.lays "ArmExpander$TypedText" "ArmExpander$TypedText" "length" "I" ∈ pm_GW := gw_of (tw_1 (List.mem_of_getElem? (i := 41) rfl)) rfl
set_option maxRecDepth 20000 in
theorem gl_10_2 : Cond.lays "ArmExpander$TypedText" "ArmExpander$TypedText" "next" "I" ∈ pm_GW := gw_of (tw_1 (List.mem_of_getElem? (i := 43) rfl)) rfl
set_option maxRecDepth 20000 in
theorem gl_10_3 : Cond.lays "ArmExpander$TypedText" "ArmExpander$TypedText" "start" "I" ∈ pm_GW := gw_of (tw_1 (List.mem_of_getElem? (i := 45) rfl)) rfl
set_option maxRecDepth 20000 in
theorem gn_11 : Cond.instantiable "ArmExpander$Writer" 7 ∈ pm_GW := gw_of (tw_1 (List.mem_of_getElem? (i := 192) rfl)) rfl
set_option maxRecDepth 20000 in
theorem gl_11_0 : Cond.laysFinal "ArmExpander$Writer" "ArmExpander$Writer" "present" "[I" ∈ pm_GW := gw_of (tw_1 (List.mem_of_getElem? (i := 204) rfl)) rfl
set_option maxRecDepth 20000 in
theorem gl_11_1 : Cond.lays "ArmExpander$Writer" "ArmExpander$Writer" "definition" "LArmExpander$Definition;" ∈ pm_GW := gw_of (tw_1 (List.mem_of_getElem? (i := 206) rfl)) rfl
set_option maxRecDepth 20000 in
theorem gl_11_2 : Cond.lays "ArmExpander$Writer" "ArmExpander$Writer" "arm" "I" ∈ pm_GW := gw_of (tw_1 (List.mem_of_getElem? (i := 208) rfl)) rfl
set_option maxRecDepth 20000 in
theorem gl_11_3 : Cond.lays "ArmExpander$Writer" "ArmExpander$Writer" "origin" "I" ∈ pm_GW := gw_of (tw_1 (List.mem_of_getElem? (i := 210) rfl)) rfl
set_option maxRecDepth 20000 in
theorem gl_11_4 : Cond.lays "ArmExpander$Writer" "ArmExpander$Writer" "takings" "LArmExpander$Takings;" ∈ pm_GW := gw_of (tw_1 (List.mem_of_getElem? (i := 212) rfl)) rfl
set_option maxRecDepth 20000 in
theorem gl_11_5 : Cond.lays "ArmExpander$Writer" "ArmExpander$Writer" "source" "LArmExpander$Row;" ∈ pm_GW := gw_of (tw_1 (List.mem_of_getElem? (i := 214) rfl)) rfl
set_option maxRecDepth 20000 in
theorem gl_11_6 : Cond.lays "ArmExpander$Writer" "ArmExpander$Writer" "into" "LArmExpander$Row;" ∈ pm_GW := gw_of (tw_1 (List.mem_of_getElem? (i := 216) rfl)) rfl
set_option maxRecDepth 20000 in
theorem gn_12 : Cond.instantiable "ArmExpanderModel" 65 ∈ pm_GW := gw_of (tw_5 (List.mem_of_getElem? (i := 8) rfl)) rfl
set_option maxRecDepth 20000 in
theorem gl_12_0 : Cond.lays "ArmExpanderModel" "ArmExpanderModel" "typed" "[I" ∈ pm_GW := gw_of (tw_5 (List.mem_of_getElem? (i := 78) rfl)) rfl
set_option maxRecDepth 20000 in
theorem gl_12_1 : Cond.lays "ArmExpanderModel" "ArmExpanderModel" "size" "I" ∈ pm_GW := gw_of (tw_5 (List.mem_of_getElem? (i := 80) rfl)) rfl
set_option maxRecDepth 20000 in
theorem gl_12_2 : Cond.lays "ArmExpanderModel" "ArmExpanderModel" "text" "[I" ∈ pm_GW := gw_of (tw_5 (List.mem_of_getElem? (i := 82) rfl)) rfl
set_option maxRecDepth 20000 in
theorem gl_12_3 : Cond.lays "ArmExpanderModel" "ArmExpanderModel" "textSize" "I" ∈ pm_GW := gw_of (tw_5 (List.mem_of_getElem? (i := 84) rfl)) rfl
set_option maxRecDepth 20000 in
theorem gl_12_4 : Cond.lays "ArmExpanderModel" "ArmExpanderModel" "sort" "I" ∈ pm_GW := gw_of (tw_5 (List.mem_of_getElem? (i := 86) rfl)) rfl
set_option maxRecDepth 20000 in
theorem gl_12_5 : Cond.lays "ArmExpanderModel" "ArmExpanderModel" "code" "I" ∈ pm_GW := gw_of (tw_5 (List.mem_of_getElem? (i := 88) rfl)) rfl
set_option maxRecDepth 20000 in
theorem gl_12_6 : Cond.lays "ArmExpanderModel" "ArmExpanderModel" "from" "I" ∈ pm_GW := gw_of (tw_5 (List.mem_of_getElem? (i := 90) rfl)) rfl
set_option maxRecDepth 20000 in
theorem gl_12_7 : Cond.lays "ArmExpanderModel" "ArmExpanderModel" "to" "I" ∈ pm_GW := gw_of (tw_5 (List.mem_of_getElem? (i := 92) rfl)) rfl
set_option maxRecDepth 20000 in
theorem gl_12_8 : Cond.lays "ArmExpanderModel" "ArmExpanderModel" "bad" "I" ∈ pm_GW := gw_of (tw_5 (List.mem_of_getElem? (i := 94) rfl)) rfl
set_option maxRecDepth 20000 in
theorem gl_12_9 : Cond.lays "ArmExpanderModel" "ArmExpanderModel" "definitions" "I" ∈ pm_GW := gw_of (tw_5 (List.mem_of_getElem? (i := 96) rfl)) rfl
set_option maxRecDepth 20000 in
theorem gl_12_10 : Cond.lays "ArmExpanderModel" "ArmExpanderModel" "kept" "[I" ∈ pm_GW := gw_of (tw_5 (List.mem_of_getElem? (i := 98) rfl)) rfl
set_option maxRecDepth 20000 in
theorem gl_12_11 : Cond.lays "ArmExpanderModel" "ArmExpanderModel" "keptSize" "[I" ∈ pm_GW := gw_of (tw_5 (List.mem_of_getElem? (i := 100) rfl)) rfl
set_option maxRecDepth 20000 in
theorem gl_12_12 : Cond.lays "ArmExpanderModel" "ArmExpanderModel" "name" "[I" ∈ pm_GW := gw_of (tw_5 (List.mem_of_getElem? (i := 102) rfl)) rfl
set_option maxRecDepth 20000 in
theorem gl_12_13 : Cond.lays "ArmExpanderModel" "ArmExpanderModel" "arms" "[I" ∈ pm_GW := gw_of (tw_5 (List.mem_of_getElem? (i := 104) rfl)) rfl
set_option maxRecDepth 20000 in
theorem gl_12_14 : Cond.lays "ArmExpanderModel" "ArmExpanderModel" "pKind" "[I" ∈ pm_GW := gw_of (tw_5 (List.mem_of_getElem? (i := 106) rfl)) rfl
set_option maxRecDepth 20000 in
theorem gl_12_15 : Cond.lays "ArmExpanderModel" "ArmExpanderModel" "pCode" "[I" ∈ pm_GW := gw_of (tw_5 (List.mem_of_getElem? (i := 108) rfl)) rfl
set_option maxRecDepth 20000 in
theorem gl_12_16 : Cond.lays "ArmExpanderModel" "ArmExpanderModel" "pOther" "[I" ∈ pm_GW := gw_of (tw_5 (List.mem_of_getElem? (i := 110) rfl)) rfl
set_option maxRecDepth 20000 in
theorem gl_12_17 : Cond.lays "ArmExpanderModel" "ArmExpanderModel" "pSeparator" "[I" ∈ pm_GW := gw_of (tw_5 (List.mem_of_getElem? (i := 112) rfl)) rfl
set_option maxRecDepth 20000 in
theorem gl_12_18 : Cond.lays "ArmExpanderModel" "ArmExpanderModel" "pMark" "[I" ∈ pm_GW := gw_of (tw_5 (List.mem_of_getElem? (i := 114) rfl)) rfl
set_option maxRecDepth 20000 in
theorem gl_12_19 : Cond.lays "ArmExpanderModel" "ArmExpanderModel" "pOuter" "[I" ∈ pm_GW := gw_of (tw_5 (List.mem_of_getElem? (i := 116) rfl)) rfl
set_option maxRecDepth 20000 in
theorem gl_12_20 : Cond.lays "ArmExpanderModel" "ArmExpanderModel" "pInner" "[I" ∈ pm_GW := gw_of (tw_5 (List.mem_of_getElem? (i := 118) rfl)) rfl
set_option maxRecDepth 20000 in
theorem gl_12_21 : Cond.lays "ArmExpanderModel" "ArmExpanderModel" "bKind" "[I" ∈ pm_GW := gw_of (tw_5 (List.mem_of_getElem? (i := 120) rfl)) rfl
set_option maxRecDepth 20000 in
theorem gl_12_22 : Cond.lays "ArmExpanderModel" "ArmExpanderModel" "bCode" "[I" ∈ pm_GW := gw_of (tw_5 (List.mem_of_getElem? (i := 122) rfl)) rfl
set_option maxRecDepth 20000 in
theorem gl_12_23 : Cond.lays "ArmExpanderModel" "ArmExpanderModel" "bOther" "[I" ∈ pm_GW := gw_of (tw_5 (List.mem_of_getElem? (i := 124) rfl)) rfl
set_option maxRecDepth 20000 in
theorem gl_12_24 : Cond.lays "ArmExpanderModel" "ArmExpanderModel" "bSeparator" "[I" ∈ pm_GW := gw_of (tw_5 (List.mem_of_getElem? (i := 126) rfl)) rfl
set_option maxRecDepth 20000 in
theorem gl_12_25 : Cond.lays "ArmExpanderModel" "ArmExpanderModel" "bOuter" "[I" ∈ pm_GW := gw_of (tw_5 (List.mem_of_getElem? (i := 128) rfl)) rfl
set_option maxRecDepth 20000 in
theorem gl_12_26 : Cond.lays "ArmExpanderModel" "ArmExpanderModel" "bInner" "[I" ∈ pm_GW := gw_of (tw_5 (List.mem_of_getElem? (i := 130) rfl)) rfl
set_option maxRecDepth 20000 in
theorem gl_12_27 : Cond.lays "ArmExpanderModel" "ArmExpanderModel" "open" "I" ∈ pm_GW := gw_of (tw_5 (List.mem_of_getElem? (i := 132) rfl)) rfl
set_option maxRecDepth 20000 in
theorem gl_12_28 : Cond.lays "ArmExpanderModel" "ArmExpanderModel" "openCode" "[I" ∈ pm_GW := gw_of (tw_5 (List.mem_of_getElem? (i := 134) rfl)) rfl
set_option maxRecDepth 20000 in
theorem gl_12_29 : Cond.lays "ArmExpanderModel" "ArmExpanderModel" "openAt" "[I" ∈ pm_GW := gw_of (tw_5 (List.mem_of_getElem? (i := 136) rfl)) rfl
set_option maxRecDepth 20000 in
theorem gl_12_30 : Cond.lays "ArmExpanderModel" "ArmExpanderModel" "outer" "I" ∈ pm_GW := gw_of (tw_5 (List.mem_of_getElem? (i := 138) rfl)) rfl
set_option maxRecDepth 20000 in
theorem gl_12_31 : Cond.lays "ArmExpanderModel" "ArmExpanderModel" "inner" "I" ∈ pm_GW := gw_of (tw_5 (List.mem_of_getElem? (i := 140) rfl)) rfl
set_option maxRecDepth 20000 in
theorem gl_12_32 : Cond.lays "ArmExpanderModel" "ArmExpanderModel" "count" "I" ∈ pm_GW := gw_of (tw_5 (List.mem_of_getElem? (i := 142) rfl)) rfl
set_option maxRecDepth 20000 in
theorem gl_12_33 : Cond.lays "ArmExpanderModel" "ArmExpanderModel" "repetitions" "I" ∈ pm_GW := gw_of (tw_5 (List.mem_of_getElem? (i := 144) rfl)) rfl
set_option maxRecDepth 20000 in
theorem gl_12_34 : Cond.lays "ArmExpanderModel" "ArmExpanderModel" "tokens" "I" ∈ pm_GW := gw_of (tw_5 (List.mem_of_getElem? (i := 146) rfl)) rfl
set_option maxRecDepth 20000 in
theorem gl_12_35 : Cond.lays "ArmExpanderModel" "ArmExpanderModel" "token" "[I" ∈ pm_GW := gw_of (tw_5 (List.mem_of_getElem? (i := 148) rfl)) rfl
set_option maxRecDepth 20000 in
theorem gl_12_36 : Cond.lays "ArmExpanderModel" "ArmExpanderModel" "marked" "[I" ∈ pm_GW := gw_of (tw_5 (List.mem_of_getElem? (i := 150) rfl)) rfl
set_option maxRecDepth 20000 in
theorem gl_12_37 : Cond.lays "ArmExpanderModel" "ArmExpanderModel" "outcome" "I" ∈ pm_GW := gw_of (tw_5 (List.mem_of_getElem? (i := 152) rfl)) rfl
set_option maxRecDepth 20000 in
theorem gl_12_38 : Cond.lays "ArmExpanderModel" "ArmExpanderModel" "expansions" "I" ∈ pm_GW := gw_of (tw_5 (List.mem_of_getElem? (i := 154) rfl)) rfl
set_option maxRecDepth 20000 in
theorem gl_12_39 : Cond.lays "ArmExpanderModel" "ArmExpanderModel" "usedArm" "[I" ∈ pm_GW := gw_of (tw_5 (List.mem_of_getElem? (i := 156) rfl)) rfl
set_option maxRecDepth 20000 in
theorem gl_12_40 : Cond.lays "ArmExpanderModel" "ArmExpanderModel" "steps" "I" ∈ pm_GW := gw_of (tw_5 (List.mem_of_getElem? (i := 158) rfl)) rfl
set_option maxRecDepth 20000 in
theorem gl_12_41 : Cond.lays "ArmExpanderModel" "ArmExpanderModel" "threads" "[I" ∈ pm_GW := gw_of (tw_5 (List.mem_of_getElem? (i := 160) rfl)) rfl
set_option maxRecDepth 20000 in
theorem gl_12_42 : Cond.lays "ArmExpanderModel" "ArmExpanderModel" "nextThreads" "[I" ∈ pm_GW := gw_of (tw_5 (List.mem_of_getElem? (i := 162) rfl)) rfl
set_option maxRecDepth 20000 in
theorem gl_12_43 : Cond.lays "ArmExpanderModel" "ArmExpanderModel" "source" "[I" ∈ pm_GW := gw_of (tw_5 (List.mem_of_getElem? (i := 164) rfl)) rfl
set_option maxRecDepth 20000 in
theorem gl_12_44 : Cond.lays "ArmExpanderModel" "ArmExpanderModel" "sources" "[J" ∈ pm_GW := gw_of (tw_5 (List.mem_of_getElem? (i := 166) rfl)) rfl
set_option maxRecDepth 20000 in
theorem gl_12_45 : Cond.lays "ArmExpanderModel" "ArmExpanderModel" "tookFrom" "[I" ∈ pm_GW := gw_of (tw_5 (List.mem_of_getElem? (i := 168) rfl)) rfl
set_option maxRecDepth 20000 in
theorem gl_12_46 : Cond.lays "ArmExpanderModel" "ArmExpanderModel" "tookTo" "[I" ∈ pm_GW := gw_of (tw_5 (List.mem_of_getElem? (i := 170) rfl)) rfl
set_option maxRecDepth 20000 in
theorem gl_12_47 : Cond.lays "ArmExpanderModel" "ArmExpanderModel" "stack" "[I" ∈ pm_GW := gw_of (tw_5 (List.mem_of_getElem? (i := 172) rfl)) rfl
set_option maxRecDepth 20000 in
theorem gl_12_48 : Cond.lays "ArmExpanderModel" "ArmExpanderModel" "parent" "[I" ∈ pm_GW := gw_of (tw_5 (List.mem_of_getElem? (i := 174) rfl)) rfl
set_option maxRecDepth 20000 in
theorem gl_12_49 : Cond.lays "ArmExpanderModel" "ArmExpanderModel" "path" "[I" ∈ pm_GW := gw_of (tw_5 (List.mem_of_getElem? (i := 176) rfl)) rfl
set_option maxRecDepth 20000 in
theorem gl_12_50 : Cond.lays "ArmExpanderModel" "ArmExpanderModel" "way" "[I" ∈ pm_GW := gw_of (tw_5 (List.mem_of_getElem? (i := 178) rfl)) rfl
set_option maxRecDepth 20000 in
theorem gl_12_51 : Cond.lays "ArmExpanderModel" "ArmExpanderModel" "rounds" "[I" ∈ pm_GW := gw_of (tw_5 (List.mem_of_getElem? (i := 180) rfl)) rfl
set_option maxRecDepth 20000 in
theorem gl_12_52 : Cond.lays "ArmExpanderModel" "ArmExpanderModel" "inners" "I" ∈ pm_GW := gw_of (tw_5 (List.mem_of_getElem? (i := 182) rfl)) rfl
set_option maxRecDepth 20000 in
theorem gl_12_53 : Cond.lays "ArmExpanderModel" "ArmExpanderModel" "innerOf" "[I" ∈ pm_GW := gw_of (tw_5 (List.mem_of_getElem? (i := 184) rfl)) rfl
set_option maxRecDepth 20000 in
theorem gl_12_54 : Cond.lays "ArmExpanderModel" "ArmExpanderModel" "innerIn" "[I" ∈ pm_GW := gw_of (tw_5 (List.mem_of_getElem? (i := 186) rfl)) rfl
set_option maxRecDepth 20000 in
theorem gl_12_55 : Cond.lays "ArmExpanderModel" "ArmExpanderModel" "innerRounds" "[I" ∈ pm_GW := gw_of (tw_5 (List.mem_of_getElem? (i := 188) rfl)) rfl
set_option maxRecDepth 20000 in
theorem gl_12_56 : Cond.lays "ArmExpanderModel" "ArmExpanderModel" "takings" "I" ∈ pm_GW := gw_of (tw_5 (List.mem_of_getElem? (i := 190) rfl)) rfl
set_option maxRecDepth 20000 in
theorem gl_12_57 : Cond.lays "ArmExpanderModel" "ArmExpanderModel" "takenBy" "[I" ∈ pm_GW := gw_of (tw_5 (List.mem_of_getElem? (i := 192) rfl)) rfl
set_option maxRecDepth 20000 in
theorem gl_12_58 : Cond.lays "ArmExpanderModel" "ArmExpanderModel" "takenOuter" "[I" ∈ pm_GW := gw_of (tw_5 (List.mem_of_getElem? (i := 194) rfl)) rfl
set_option maxRecDepth 20000 in
theorem gl_12_59 : Cond.lays "ArmExpanderModel" "ArmExpanderModel" "takenInner" "[I" ∈ pm_GW := gw_of (tw_5 (List.mem_of_getElem? (i := 196) rfl)) rfl
set_option maxRecDepth 20000 in
theorem gl_12_60 : Cond.lays "ArmExpanderModel" "ArmExpanderModel" "takenFrom" "[I" ∈ pm_GW := gw_of (tw_5 (List.mem_of_getElem? (i := 198) rfl)) rfl
set_option maxRecDepth 20000 in
theorem gl_12_61 : Cond.lays "ArmExpanderModel" "ArmExpanderModel" "takenTo" "[I" ∈ pm_GW := gw_of (tw_5 (List.mem_of_getElem? (i := 200) rfl)) rfl
set_option maxRecDepth 20000 in
theorem gl_12_62 : Cond.lays "ArmExpanderModel" "ArmExpanderModel" "made" "I" ∈ pm_GW := gw_of (tw_5 (List.mem_of_getElem? (i := 202) rfl)) rfl
set_option maxRecDepth 20000 in
theorem gl_12_63 : Cond.lays "ArmExpanderModel" "ArmExpanderModel" "madeToken" "[I" ∈ pm_GW := gw_of (tw_5 (List.mem_of_getElem? (i := 204) rfl)) rfl
set_option maxRecDepth 20000 in
theorem gl_12_64 : Cond.lays "ArmExpanderModel" "ArmExpanderModel" "madeMark" "[I" ∈ pm_GW := gw_of (tw_5 (List.mem_of_getElem? (i := 206) rfl)) rfl
set_option maxRecDepth 20000 in
theorem gc_0 : Cond.code pm_y0 prog_1_method_1_code 2 (none) ∈ pm_GW := gw_of (tw_1 (List.mem_of_getElem? (i := 25) rfl)) rfl
set_option maxRecDepth 20000 in
theorem gm_0 : Cond.instanceMethod pm_y0 ∈ pm_GW := gw_of (tw_1 (List.mem_of_getElem? (i := 24) rfl)) rfl
set_option maxRecDepth 20000 in
theorem gc_1 : Cond.code pm_y1 prog_1_method_2_code 3 ((some FieldType.boolean)) ∈ pm_GW := gw_of (tw_2 (List.mem_of_getElem? (i := 74) rfl)) rfl
set_option maxRecDepth 20000 in
theorem gm_1 : Cond.instanceMethod pm_y1 ∈ pm_GW := gw_of (tw_2 (List.mem_of_getElem? (i := 72) rfl)) rfl
set_option maxRecDepth 20000 in
theorem gs_1 : Cond.selects pm_y1.cls pm_y1 pm_y1 ∈ pm_GW := gw_of (tw_2 (List.mem_of_getElem? (i := 73) rfl)) rfl
set_option maxRecDepth 20000 in
theorem gc_2 : Cond.code pm_y2 prog_1_method_3_code 4 ((some FieldType.int)) ∈ pm_GW := gw_of (tw_2 (List.mem_of_getElem? (i := 85) rfl)) rfl
set_option maxRecDepth 20000 in
theorem gm_2 : Cond.instanceMethod pm_y2 ∈ pm_GW := gw_of (tw_2 (List.mem_of_getElem? (i := 83) rfl)) rfl
set_option maxRecDepth 20000 in
theorem gs_2 : Cond.selects pm_y2.cls pm_y2 pm_y2 ∈ pm_GW := gw_of (tw_2 (List.mem_of_getElem? (i := 84) rfl)) rfl
set_option maxRecDepth 20000 in
theorem gc_3 : Cond.code pm_y3 prog_1_method_4_code 2 ((some FieldType.int)) ∈ pm_GW := gw_of (tw_3 (List.mem_of_getElem? (i := 196) rfl)) rfl
set_option maxRecDepth 20000 in
theorem gm_3 : Cond.instanceMethod pm_y3 ∈ pm_GW := gw_of (tw_3 (List.mem_of_getElem? (i := 194) rfl)) rfl
set_option maxRecDepth 20000 in
theorem gs_3 : Cond.selects pm_y3.cls pm_y3 pm_y3 ∈ pm_GW := gw_of (tw_3 (List.mem_of_getElem? (i := 195) rfl)) rfl
set_option maxRecDepth 20000 in
theorem gc_4 : Cond.code pm_y4 prog_1_method_5_code 1 ((some FieldType.int)) ∈ pm_GW := gw_of (tw_4 (List.mem_of_getElem? (i := 195) rfl)) rfl
set_option maxRecDepth 20000 in
theorem gm_4 : Cond.instanceMethod pm_y4 ∈ pm_GW := gw_of (tw_4 (List.mem_of_getElem? (i := 193) rfl)) rfl
set_option maxRecDepth 20000 in
theorem gs_4 : Cond.selects pm_y4.cls pm_y4 pm_y4 ∈ pm_GW := gw_of (tw_4 (List.mem_of_getElem? (i := 194) rfl)) rfl
set_option maxRecDepth 20000 in
theorem gc_5 : Cond.code pm_y5 prog_1_method_6_code 2 ((some FieldType.int)) ∈ pm_GW := gw_of (tw_4 (List.mem_of_getElem? (i := 199) rfl)) rfl
set_option maxRecDepth 20000 in
theorem gm_5 : Cond.instanceMethod pm_y5 ∈ pm_GW := gw_of (tw_4 (List.mem_of_getElem? (i := 197) rfl)) rfl
set_option maxRecDepth 20000 in
theorem gs_5 : Cond.selects pm_y5.cls pm_y5 pm_y5 ∈ pm_GW := gw_of (tw_4 (List.mem_of_getElem? (i := 198) rfl)) rfl
set_option maxRecDepth 20000 in
theorem gc_6 : Cond.code pm_y6 prog_1_method_7_code 2 ((some FieldType.int)) ∈ pm_GW := gw_of (tw_4 (List.mem_of_getElem? (i := 204) rfl)) rfl
set_option maxRecDepth 20000 in
theorem gm_6 : Cond.instanceMethod pm_y6 ∈ pm_GW := gw_of (tw_4 (List.mem_of_getElem? (i := 202) rfl)) rfl
set_option maxRecDepth 20000 in
theorem gs_6 : Cond.selects pm_y6.cls pm_y6 pm_y6 ∈ pm_GW := gw_of (tw_4 (List.mem_of_getElem? (i := 203) rfl)) rfl
set_option maxRecDepth 20000 in
theorem gc_7 : Cond.code pm_y7 prog_1_method_8_code 2 ((some FieldType.int)) ∈ pm_GW := gw_of (tw_4 (List.mem_of_getElem? (i := 213) rfl)) rfl
set_option maxRecDepth 20000 in
theorem gm_7 : Cond.instanceMethod pm_y7 ∈ pm_GW := gw_of (tw_4 (List.mem_of_getElem? (i := 211) rfl)) rfl
set_option maxRecDepth 20000 in
theorem gs_7 : Cond.selects pm_y7.cls pm_y7 pm_y7 ∈ pm_GW := gw_of (tw_4 (List.mem_of_getElem? (i := 212) rfl)) rfl
set_option maxRecDepth 20000 in
theorem gc_8 : Cond.code pm_y8 prog_1_method_9_code 2 ((some FieldType.int)) ∈ pm_GW := gw_of (tw_4 (List.mem_of_getElem? (i := 218) rfl)) rfl
set_option maxRecDepth 20000 in
theorem gm_8 : Cond.instanceMethod pm_y8 ∈ pm_GW := gw_of (tw_4 (List.mem_of_getElem? (i := 216) rfl)) rfl
set_option maxRecDepth 20000 in
theorem gs_8 : Cond.selects pm_y8.cls pm_y8 pm_y8 ∈ pm_GW := gw_of (tw_4 (List.mem_of_getElem? (i := 217) rfl)) rfl
set_option maxRecDepth 20000 in
theorem gc_9 : Cond.code pm_y9 prog_1_method_10_code 1 ((some FieldType.int)) ∈ pm_GW := gw_of (tw_4 (List.mem_of_getElem? (i := 234) rfl)) rfl
set_option maxRecDepth 20000 in
theorem gm_9 : Cond.instanceMethod pm_y9 ∈ pm_GW := gw_of (tw_4 (List.mem_of_getElem? (i := 232) rfl)) rfl
set_option maxRecDepth 20000 in
theorem gs_9 : Cond.selects pm_y9.cls pm_y9 pm_y9 ∈ pm_GW := gw_of (tw_4 (List.mem_of_getElem? (i := 233) rfl)) rfl
set_option maxRecDepth 20000 in
theorem gc_10 : Cond.code pm_y10 prog_1_method_11_code 2 ((some FieldType.int)) ∈ pm_GW := gw_of (tw_5 (List.mem_of_getElem? (i := 2) rfl)) rfl
set_option maxRecDepth 20000 in
theorem gm_10 : Cond.instanceMethod pm_y10 ∈ pm_GW := gw_of (tw_5 (List.mem_of_getElem? (i := 0) rfl)) rfl
set_option maxRecDepth 20000 in
theorem gs_10 : Cond.selects pm_y10.cls pm_y10 pm_y10 ∈ pm_GW := gw_of (tw_5 (List.mem_of_getElem? (i := 1) rfl)) rfl
set_option maxRecDepth 20000 in
theorem gc_11 : Cond.code pm_y11 prog_1_method_12_code 1 ((some FieldType.boolean)) ∈ pm_GW := gw_of (tw_2 (List.mem_of_getElem? (i := 213) rfl)) rfl
set_option maxRecDepth 20000 in
theorem gt_11 : Cond.static pm_y11 ∈ pm_GW := gw_of (tw_2 (List.mem_of_getElem? (i := 212) rfl)) rfl
set_option maxRecDepth 20000 in
theorem gc_12 : Cond.code pm_y12 prog_1_method_13_code 1 ((some FieldType.boolean)) ∈ pm_GW := gw_of (tw_4 (List.mem_of_getElem? (i := 46) rfl)) rfl
set_option maxRecDepth 20000 in
theorem gt_12 : Cond.static pm_y12 ∈ pm_GW := gw_of (tw_4 (List.mem_of_getElem? (i := 45) rfl)) rfl
set_option maxRecDepth 20000 in
theorem gc_13 : Cond.code pm_y13 prog_1_method_14_code 1 ((some FieldType.boolean)) ∈ pm_GW := gw_of (tw_3 (List.mem_of_getElem? (i := 29) rfl)) rfl
set_option maxRecDepth 20000 in
theorem gt_13 : Cond.static pm_y13 ∈ pm_GW := gw_of (tw_3 (List.mem_of_getElem? (i := 28) rfl)) rfl
set_option maxRecDepth 20000 in
theorem gc_14 : Cond.code pm_y14 prog_1_method_15_code 1 ((some FieldType.boolean)) ∈ pm_GW := gw_of (tw_3 (List.mem_of_getElem? (i := 32) rfl)) rfl
set_option maxRecDepth 20000 in
theorem gt_14 : Cond.static pm_y14 ∈ pm_GW := gw_of (tw_3 (List.mem_of_getElem? (i := 31) rfl)) rfl
set_option maxRecDepth 20000 in
theorem gc_15 : Cond.code pm_y15 prog_1_method_16_code 1 ((some FieldType.boolean)) ∈ pm_GW := gw_of (tw_3 (List.mem_of_getElem? (i := 22) rfl)) rfl
set_option maxRecDepth 20000 in
theorem gt_15 : Cond.static pm_y15 ∈ pm_GW := gw_of (tw_3 (List.mem_of_getElem? (i := 21) rfl)) rfl
set_option maxRecDepth 20000 in
theorem gc_16 : Cond.code pm_y16 prog_1_method_17_code 1 ((some FieldType.boolean)) ∈ pm_GW := gw_of (tw_3 (List.mem_of_getElem? (i := 15) rfl)) rfl
set_option maxRecDepth 20000 in
theorem gt_16 : Cond.static pm_y16 ∈ pm_GW := gw_of (tw_3 (List.mem_of_getElem? (i := 14) rfl)) rfl
set_option maxRecDepth 20000 in
theorem gc_17 : Cond.code pm_y17 prog_1_method_18_code 1 ((some FieldType.int)) ∈ pm_GW := gw_of (tw_2 (List.mem_of_getElem? (i := 232) rfl)) rfl
set_option maxRecDepth 20000 in
theorem gt_17 : Cond.static pm_y17 ∈ pm_GW := gw_of (tw_2 (List.mem_of_getElem? (i := 231) rfl)) rfl
set_option maxRecDepth 20000 in
theorem gc_18 : Cond.code pm_y18 prog_14_method_1_code 1 (none) ∈ pm_GW := gw_of (tw_5 (List.mem_of_getElem? (i := 11) rfl)) rfl
set_option maxRecDepth 20000 in
theorem gm_18 : Cond.instanceMethod pm_y18 ∈ pm_GW := gw_of (tw_5 (List.mem_of_getElem? (i := 10) rfl)) rfl
set_option maxRecDepth 20000 in
theorem gc_19 : Cond.code pm_y19 prog_14_method_2_code 3 ((some FieldType.boolean)) ∈ pm_GW := gw_of (tw_5 (List.mem_of_getElem? (i := 216) rfl)) rfl
set_option maxRecDepth 20000 in
theorem gt_19 : Cond.static pm_y19 ∈ pm_GW := gw_of (tw_5 (List.mem_of_getElem? (i := 215) rfl)) rfl
set_option maxRecDepth 20000 in
theorem gc_20 : Cond.code pm_y20 prog_14_method_3_code 5 ((some FieldType.boolean)) ∈ pm_GW := gw_of (tw_5 (List.mem_of_getElem? (i := 213) rfl)) rfl
set_option maxRecDepth 20000 in
theorem gm_20 : Cond.instanceMethod pm_y20 ∈ pm_GW := gw_of (tw_5 (List.mem_of_getElem? (i := 211) rfl)) rfl
set_option maxRecDepth 20000 in
theorem gs_20 : Cond.selects pm_y20.cls pm_y20 pm_y20 ∈ pm_GW := gw_of (tw_5 (List.mem_of_getElem? (i := 212) rfl)) rfl
set_option maxRecDepth 20000 in
theorem gc_21 : Cond.code pm_y21 prog_14_method_4_code 1 ((some FieldType.boolean)) ∈ pm_GW := gw_of (tw_5 (List.mem_of_getElem? (i := 237) rfl)) rfl
set_option maxRecDepth 20000 in
theorem gt_21 : Cond.static pm_y21 ∈ pm_GW := gw_of (tw_5 (List.mem_of_getElem? (i := 236) rfl)) rfl
set_option maxRecDepth 20000 in
theorem gc_22 : Cond.code pm_y22 prog_14_method_5_code 1 ((some FieldType.boolean)) ∈ pm_GW := gw_of (tw_6 (List.mem_of_getElem? (i := 0) rfl)) rfl
set_option maxRecDepth 20000 in
theorem gt_22 : Cond.static pm_y22 ∈ pm_GW := gw_of (tw_5 (List.mem_of_getElem? (i := 239) rfl)) rfl
set_option maxRecDepth 20000 in
theorem gc_23 : Cond.code pm_y23 prog_14_method_6_code 1 ((some FieldType.int)) ∈ pm_GW := gw_of (tw_6 (List.mem_of_getElem? (i := 26) rfl)) rfl
set_option maxRecDepth 20000 in
theorem gt_23 : Cond.static pm_y23 ∈ pm_GW := gw_of (tw_6 (List.mem_of_getElem? (i := 25) rfl)) rfl
set_option maxRecDepth 20000 in
theorem gc_24 : Cond.code pm_y24 prog_14_method_7_code 1 ((some FieldType.boolean)) ∈ pm_GW := gw_of (tw_6 (List.mem_of_getElem? (i := 3) rfl)) rfl
set_option maxRecDepth 20000 in
theorem gt_24 : Cond.static pm_y24 ∈ pm_GW := gw_of (tw_6 (List.mem_of_getElem? (i := 2) rfl)) rfl
set_option maxRecDepth 20000 in
theorem gc_25 : Cond.code pm_y25 prog_14_method_8_code 1 ((some FieldType.boolean)) ∈ pm_GW := gw_of (tw_5 (List.mem_of_getElem? (i := 231) rfl)) rfl
set_option maxRecDepth 20000 in
theorem gt_25 : Cond.static pm_y25 ∈ pm_GW := gw_of (tw_5 (List.mem_of_getElem? (i := 230) rfl)) rfl
set_option maxRecDepth 20000 in
theorem gc_26 : Cond.code pm_y26 prog_14_method_9_code 1 ((some FieldType.boolean)) ∈ pm_GW := gw_of (tw_5 (List.mem_of_getElem? (i := 234) rfl)) rfl
set_option maxRecDepth 20000 in
theorem gt_26 : Cond.static pm_y26 ∈ pm_GW := gw_of (tw_5 (List.mem_of_getElem? (i := 233) rfl)) rfl
set_option maxRecDepth 20000 in
theorem gc_27 : Cond.code pm_y27 prog_14_method_10_code 3 ((some FieldType.int)) ∈ pm_GW := gw_of (tw_6 (List.mem_of_getElem? (i := 56) rfl)) rfl
set_option maxRecDepth 20000 in
theorem gt_27 : Cond.static pm_y27 ∈ pm_GW := gw_of (tw_6 (List.mem_of_getElem? (i := 55) rfl)) rfl
set_option maxRecDepth 20000 in
theorem gc_28 : Cond.code pm_y28 prog_14_method_11_code 6 (none) ∈ pm_GW := gw_of (tw_5 (List.mem_of_getElem? (i := 228) rfl)) rfl
set_option maxRecDepth 20000 in
theorem gm_28 : Cond.instanceMethod pm_y28 ∈ pm_GW := gw_of (tw_5 (List.mem_of_getElem? (i := 227) rfl)) rfl
set_option maxRecDepth 20000 in
theorem gs_28 : Cond.selects pm_y28.cls pm_y28 pm_y28 ∈ pm_GW := gw_sel (q := (pm_y28, 65)) (tq_3 (List.mem_of_getElem? (i := 2) rfl))
set_option maxRecDepth 20000 in
theorem gc_29 : Cond.code pm_y29 prog_14_method_12_code 1 ((some FieldType.boolean)) ∈ pm_GW := gw_of (tw_6 (List.mem_of_getElem? (i := 15) rfl)) rfl
set_option maxRecDepth 20000 in
theorem gm_29 : Cond.instanceMethod pm_y29 ∈ pm_GW := gw_of (tw_6 (List.mem_of_getElem? (i := 14) rfl)) rfl
set_option maxRecDepth 20000 in
theorem gs_29 : Cond.selects pm_y29.cls pm_y29 pm_y29 ∈ pm_GW := gw_sel (q := (pm_y29, 65)) (tq_3 (List.mem_of_getElem? (i := 5) rfl))
set_option maxRecDepth 20000 in
theorem gc_30 : Cond.code pm_y30 prog_14_method_13_code 2 ((some FieldType.boolean)) ∈ pm_GW := gw_of (tw_6 (List.mem_of_getElem? (i := 11) rfl)) rfl
set_option maxRecDepth 20000 in
theorem gm_30 : Cond.instanceMethod pm_y30 ∈ pm_GW := gw_of (tw_6 (List.mem_of_getElem? (i := 10) rfl)) rfl
set_option maxRecDepth 20000 in
theorem gs_30 : Cond.selects pm_y30.cls pm_y30 pm_y30 ∈ pm_GW := gw_sel (q := (pm_y30, 65)) (tq_3 (List.mem_of_getElem? (i := 4) rfl))
set_option maxRecDepth 20000 in
theorem gc_31 : Cond.code pm_y31 prog_14_method_14_code 2 ((some FieldType.boolean)) ∈ pm_GW := gw_of (tw_6 (List.mem_of_getElem? (i := 19) rfl)) rfl
set_option maxRecDepth 20000 in
theorem gm_31 : Cond.instanceMethod pm_y31 ∈ pm_GW := gw_of (tw_6 (List.mem_of_getElem? (i := 18) rfl)) rfl
set_option maxRecDepth 20000 in
theorem gs_31 : Cond.selects pm_y31.cls pm_y31 pm_y31 ∈ pm_GW := gw_sel (q := (pm_y31, 65)) (tq_3 (List.mem_of_getElem? (i := 6) rfl))
set_option maxRecDepth 20000 in
theorem gc_32 : Cond.code pm_y32 prog_14_method_15_code 2 (none) ∈ pm_GW := gw_of (tw_5 (List.mem_of_getElem? (i := 224) rfl)) rfl
set_option maxRecDepth 20000 in
theorem gm_32 : Cond.instanceMethod pm_y32 ∈ pm_GW := gw_of (tw_5 (List.mem_of_getElem? (i := 223) rfl)) rfl
set_option maxRecDepth 20000 in
theorem gs_32 : Cond.selects pm_y32.cls pm_y32 pm_y32 ∈ pm_GW := gw_sel (q := (pm_y32, 65)) (tq_3 (List.mem_of_getElem? (i := 1) rfl))
set_option maxRecDepth 20000 in
theorem gc_33 : Cond.code pm_y33 prog_14_method_16_code 4 (none) ∈ pm_GW := gw_of (tw_6 (List.mem_of_getElem? (i := 139) rfl)) rfl
set_option maxRecDepth 20000 in
theorem gm_33 : Cond.instanceMethod pm_y33 ∈ pm_GW := gw_of (tw_6 (List.mem_of_getElem? (i := 138) rfl)) rfl
set_option maxRecDepth 20000 in
theorem gs_33 : Cond.selects pm_y33.cls pm_y33 pm_y33 ∈ pm_GW := gw_sel (q := (pm_y33, 65)) (tq_4 (List.mem_of_getElem? (i := 14) rfl))
set_option maxRecDepth 20000 in
theorem gc_34 : Cond.code pm_y34 prog_14_method_17_code 2 ((some FieldType.boolean)) ∈ pm_GW := gw_of (tw_6 (List.mem_of_getElem? (i := 68) rfl)) rfl
set_option maxRecDepth 20000 in
theorem gm_34 : Cond.instanceMethod pm_y34 ∈ pm_GW := gw_of (tw_6 (List.mem_of_getElem? (i := 67) rfl)) rfl
set_option maxRecDepth 20000 in
theorem gs_34 : Cond.selects pm_y34.cls pm_y34 pm_y34 ∈ pm_GW := gw_sel (q := (pm_y34, 65)) (tq_4 (List.mem_of_getElem? (i := 0) rfl))
set_option maxRecDepth 20000 in
theorem gc_35 : Cond.code pm_y35 prog_14_method_18_code 4 (none) ∈ pm_GW := gw_of (tw_6 (List.mem_of_getElem? (i := 34) rfl)) rfl
set_option maxRecDepth 20000 in
theorem gm_35 : Cond.instanceMethod pm_y35 ∈ pm_GW := gw_of (tw_6 (List.mem_of_getElem? (i := 33) rfl)) rfl
set_option maxRecDepth 20000 in
theorem gs_35 : Cond.selects pm_y35.cls pm_y35 pm_y35 ∈ pm_GW := gw_sel (q := (pm_y35, 65)) (tq_3 (List.mem_of_getElem? (i := 9) rfl))
set_option maxRecDepth 20000 in
theorem gc_36 : Cond.code pm_y36 prog_14_method_19_code 3 (none) ∈ pm_GW := gw_of (tw_6 (List.mem_of_getElem? (i := 38) rfl)) rfl
set_option maxRecDepth 20000 in
theorem gm_36 : Cond.instanceMethod pm_y36 ∈ pm_GW := gw_of (tw_6 (List.mem_of_getElem? (i := 37) rfl)) rfl
set_option maxRecDepth 20000 in
theorem gs_36 : Cond.selects pm_y36.cls pm_y36 pm_y36 ∈ pm_GW := gw_sel (q := (pm_y36, 65)) (tq_3 (List.mem_of_getElem? (i := 10) rfl))
set_option maxRecDepth 20000 in
theorem gc_37 : Cond.code pm_y37 prog_14_method_20_code 2 ((some FieldType.boolean)) ∈ pm_GW := gw_of (tw_6 (List.mem_of_getElem? (i := 60) rfl)) rfl
set_option maxRecDepth 20000 in
theorem gm_37 : Cond.instanceMethod pm_y37 ∈ pm_GW := gw_of (tw_6 (List.mem_of_getElem? (i := 59) rfl)) rfl
set_option maxRecDepth 20000 in
theorem gs_37 : Cond.selects pm_y37.cls pm_y37 pm_y37 ∈ pm_GW := gw_sel (q := (pm_y37, 65)) (tq_3 (List.mem_of_getElem? (i := 14) rfl))
set_option maxRecDepth 20000 in
theorem gc_38 : Cond.code pm_y38 prog_14_method_21_code 2 (none) ∈ pm_GW := gw_of (tw_6 (List.mem_of_getElem? (i := 64) rfl)) rfl
set_option maxRecDepth 20000 in
theorem gm_38 : Cond.instanceMethod pm_y38 ∈ pm_GW := gw_of (tw_6 (List.mem_of_getElem? (i := 63) rfl)) rfl
set_option maxRecDepth 20000 in
theorem gs_38 : Cond.selects pm_y38.cls pm_y38 pm_y38 ∈ pm_GW := gw_sel (q := (pm_y38, 65)) (tq_3 (List.mem_of_getElem? (i := 15) rfl))
set_option maxRecDepth 20000 in
theorem gc_39 : Cond.code pm_y39 prog_14_method_22_code 1 (none) ∈ pm_GW := gw_of (tw_6 (List.mem_of_getElem? (i := 42) rfl)) rfl
set_option maxRecDepth 20000 in
theorem gm_39 : Cond.instanceMethod pm_y39 ∈ pm_GW := gw_of (tw_6 (List.mem_of_getElem? (i := 41) rfl)) rfl
set_option maxRecDepth 20000 in
theorem gs_39 : Cond.selects pm_y39.cls pm_y39 pm_y39 ∈ pm_GW := gw_sel (q := (pm_y39, 65)) (tq_3 (List.mem_of_getElem? (i := 11) rfl))
set_option maxRecDepth 20000 in
theorem gc_40 : Cond.code pm_y40 prog_14_method_23_code 3 ((some FieldType.int)) ∈ pm_GW := gw_of (tw_6 (List.mem_of_getElem? (i := 46) rfl)) rfl
set_option maxRecDepth 20000 in
theorem gm_40 : Cond.instanceMethod pm_y40 ∈ pm_GW := gw_of (tw_6 (List.mem_of_getElem? (i := 45) rfl)) rfl
set_option maxRecDepth 20000 in
theorem gs_40 : Cond.selects pm_y40.cls pm_y40 pm_y40 ∈ pm_GW := gw_sel (q := (pm_y40, 65)) (tq_3 (List.mem_of_getElem? (i := 12) rfl))
set_option maxRecDepth 20000 in
theorem gc_41 : Cond.code pm_y41 prog_14_method_24_code 1 ((some FieldType.int)) ∈ pm_GW := gw_of (tw_6 (List.mem_of_getElem? (i := 53) rfl)) rfl
set_option maxRecDepth 20000 in
theorem gt_41 : Cond.static pm_y41 ∈ pm_GW := gw_of (tw_6 (List.mem_of_getElem? (i := 52) rfl)) rfl
set_option maxRecDepth 20000 in
theorem gc_42 : Cond.code pm_y42 prog_14_method_25_code 4 ((some FieldType.boolean)) ∈ pm_GW := gw_of (tw_6 (List.mem_of_getElem? (i := 50) rfl)) rfl
set_option maxRecDepth 20000 in
theorem gm_42 : Cond.instanceMethod pm_y42 ∈ pm_GW := gw_of (tw_6 (List.mem_of_getElem? (i := 49) rfl)) rfl
set_option maxRecDepth 20000 in
theorem gs_42 : Cond.selects pm_y42.cls pm_y42 pm_y42 ∈ pm_GW := gw_sel (q := (pm_y42, 65)) (tq_3 (List.mem_of_getElem? (i := 13) rfl))
set_option maxRecDepth 20000 in
theorem gc_43 : Cond.code pm_y43 prog_14_method_26_code 6 ((some FieldType.boolean)) ∈ pm_GW := gw_of (tw_6 (List.mem_of_getElem? (i := 30) rfl)) rfl
set_option maxRecDepth 20000 in
theorem gm_43 : Cond.instanceMethod pm_y43 ∈ pm_GW := gw_of (tw_6 (List.mem_of_getElem? (i := 29) rfl)) rfl
set_option maxRecDepth 20000 in
theorem gs_43 : Cond.selects pm_y43.cls pm_y43 pm_y43 ∈ pm_GW := gw_sel (q := (pm_y43, 65)) (tq_3 (List.mem_of_getElem? (i := 8) rfl))
set_option maxRecDepth 20000 in
theorem gc_44 : Cond.code pm_y44 prog_14_method_27_code 5 ((some FieldType.boolean)) ∈ pm_GW := gw_of (tw_6 (List.mem_of_getElem? (i := 23) rfl)) rfl
set_option maxRecDepth 20000 in
theorem gm_44 : Cond.instanceMethod pm_y44 ∈ pm_GW := gw_of (tw_6 (List.mem_of_getElem? (i := 22) rfl)) rfl
set_option maxRecDepth 20000 in
theorem gs_44 : Cond.selects pm_y44.cls pm_y44 pm_y44 ∈ pm_GW := gw_sel (q := (pm_y44, 65)) (tq_3 (List.mem_of_getElem? (i := 7) rfl))
set_option maxRecDepth 20000 in
theorem gc_45 : Cond.code pm_y45 prog_14_method_28_code 4 ((some FieldType.boolean)) ∈ pm_GW := gw_of (tw_6 (List.mem_of_getElem? (i := 7) rfl)) rfl
set_option maxRecDepth 20000 in
theorem gm_45 : Cond.instanceMethod pm_y45 ∈ pm_GW := gw_of (tw_6 (List.mem_of_getElem? (i := 6) rfl)) rfl
set_option maxRecDepth 20000 in
theorem gs_45 : Cond.selects pm_y45.cls pm_y45 pm_y45 ∈ pm_GW := gw_sel (q := (pm_y45, 65)) (tq_3 (List.mem_of_getElem? (i := 3) rfl))
set_option maxRecDepth 20000 in
theorem gc_46 : Cond.code pm_y46 prog_14_method_29_code 4 ((some FieldType.int)) ∈ pm_GW := gw_of (tw_6 (List.mem_of_getElem? (i := 76) rfl)) rfl
set_option maxRecDepth 20000 in
theorem gm_46 : Cond.instanceMethod pm_y46 ∈ pm_GW := gw_of (tw_6 (List.mem_of_getElem? (i := 75) rfl)) rfl
set_option maxRecDepth 20000 in
theorem gs_46 : Cond.selects pm_y46.cls pm_y46 pm_y46 ∈ pm_GW := gw_sel (q := (pm_y46, 65)) (tq_4 (List.mem_of_getElem? (i := 2) rfl))
set_option maxRecDepth 20000 in
theorem gc_47 : Cond.code pm_y47 prog_14_method_30_code 3 ((some FieldType.boolean)) ∈ pm_GW := gw_of (tw_6 (List.mem_of_getElem? (i := 72) rfl)) rfl
set_option maxRecDepth 20000 in
theorem gm_47 : Cond.instanceMethod pm_y47 ∈ pm_GW := gw_of (tw_6 (List.mem_of_getElem? (i := 71) rfl)) rfl
set_option maxRecDepth 20000 in
theorem gs_47 : Cond.selects pm_y47.cls pm_y47 pm_y47 ∈ pm_GW := gw_sel (q := (pm_y47, 65)) (tq_4 (List.mem_of_getElem? (i := 1) rfl))
set_option maxRecDepth 20000 in
theorem gc_48 : Cond.code pm_y48 prog_14_method_31_code 4 ((some FieldType.boolean)) ∈ pm_GW := gw_of (tw_6 (List.mem_of_getElem? (i := 80) rfl)) rfl
set_option maxRecDepth 20000 in
theorem gm_48 : Cond.instanceMethod pm_y48 ∈ pm_GW := gw_of (tw_6 (List.mem_of_getElem? (i := 79) rfl)) rfl
set_option maxRecDepth 20000 in
theorem gs_48 : Cond.selects pm_y48.cls pm_y48 pm_y48 ∈ pm_GW := gw_sel (q := (pm_y48, 65)) (tq_4 (List.mem_of_getElem? (i := 3) rfl))
set_option maxRecDepth 20000 in
theorem gc_49 : Cond.code pm_y49 prog_14_method_32_code 9 (none) ∈ pm_GW := gw_of (tw_6 (List.mem_of_getElem? (i := 92) rfl)) rfl
set_option maxRecDepth 20000 in
theorem gm_49 : Cond.instanceMethod pm_y49 ∈ pm_GW := gw_of (tw_6 (List.mem_of_getElem? (i := 91) rfl)) rfl
set_option maxRecDepth 20000 in
theorem gs_49 : Cond.selects pm_y49.cls pm_y49 pm_y49 ∈ pm_GW := gw_sel (q := (pm_y49, 65)) (tq_4 (List.mem_of_getElem? (i := 6) rfl))
set_option maxRecDepth 20000 in
theorem gc_50 : Cond.code pm_y50 prog_14_method_33_code 2 (none) ∈ pm_GW := gw_of (tw_6 (List.mem_of_getElem? (i := 88) rfl)) rfl
set_option maxRecDepth 20000 in
theorem gm_50 : Cond.instanceMethod pm_y50 ∈ pm_GW := gw_of (tw_6 (List.mem_of_getElem? (i := 87) rfl)) rfl
set_option maxRecDepth 20000 in
theorem gs_50 : Cond.selects pm_y50.cls pm_y50 pm_y50 ∈ pm_GW := gw_sel (q := (pm_y50, 65)) (tq_4 (List.mem_of_getElem? (i := 5) rfl))
set_option maxRecDepth 20000 in
theorem gc_51 : Cond.code pm_y51 prog_14_method_34_code 4 (none) ∈ pm_GW := gw_of (tw_6 (List.mem_of_getElem? (i := 147) rfl)) rfl
set_option maxRecDepth 20000 in
theorem gm_51 : Cond.instanceMethod pm_y51 ∈ pm_GW := gw_of (tw_6 (List.mem_of_getElem? (i := 146) rfl)) rfl
set_option maxRecDepth 20000 in
theorem gs_51 : Cond.selects pm_y51.cls pm_y51 pm_y51 ∈ pm_GW := gw_sel (q := (pm_y51, 65)) (tq_5 (List.mem_of_getElem? (i := 0) rfl))
set_option maxRecDepth 20000 in
theorem gc_52 : Cond.code pm_y52 prog_14_method_35_code 3 ((some FieldType.int)) ∈ pm_GW := gw_of (tw_6 (List.mem_of_getElem? (i := 171) rfl)) rfl
set_option maxRecDepth 20000 in
theorem gm_52 : Cond.instanceMethod pm_y52 ∈ pm_GW := gw_of (tw_6 (List.mem_of_getElem? (i := 170) rfl)) rfl
set_option maxRecDepth 20000 in
theorem gs_52 : Cond.selects pm_y52.cls pm_y52 pm_y52 ∈ pm_GW := gw_sel (q := (pm_y52, 65)) (tq_5 (List.mem_of_getElem? (i := 6) rfl))
set_option maxRecDepth 20000 in
theorem gc_53 : Cond.code pm_y53 prog_14_method_36_code 2 ((some FieldType.int)) ∈ pm_GW := gw_of (tw_6 (List.mem_of_getElem? (i := 96) rfl)) rfl
set_option maxRecDepth 20000 in
theorem gm_53 : Cond.instanceMethod pm_y53 ∈ pm_GW := gw_of (tw_6 (List.mem_of_getElem? (i := 95) rfl)) rfl
set_option maxRecDepth 20000 in
theorem gs_53 : Cond.selects pm_y53.cls pm_y53 pm_y53 ∈ pm_GW := gw_sel (q := (pm_y53, 65)) (tq_4 (List.mem_of_getElem? (i := 7) rfl))
set_option maxRecDepth 20000 in
theorem gc_54 : Cond.code pm_y54 prog_14_method_37_code 6 ((some FieldType.boolean)) ∈ pm_GW := gw_of (tw_6 (List.mem_of_getElem? (i := 84) rfl)) rfl
set_option maxRecDepth 20000 in
theorem gm_54 : Cond.instanceMethod pm_y54 ∈ pm_GW := gw_of (tw_6 (List.mem_of_getElem? (i := 83) rfl)) rfl
set_option maxRecDepth 20000 in
theorem gs_54 : Cond.selects pm_y54.cls pm_y54 pm_y54 ∈ pm_GW := gw_sel (q := (pm_y54, 65)) (tq_4 (List.mem_of_getElem? (i := 4) rfl))
set_option maxRecDepth 20000 in
theorem gc_55 : Cond.code pm_y55 prog_14_method_38_code 4 ((some FieldType.boolean)) ∈ pm_GW := gw_of (tw_6 (List.mem_of_getElem? (i := 107) rfl)) rfl
set_option maxRecDepth 20000 in
theorem gm_55 : Cond.instanceMethod pm_y55 ∈ pm_GW := gw_of (tw_6 (List.mem_of_getElem? (i := 106) rfl)) rfl
set_option maxRecDepth 20000 in
theorem gs_55 : Cond.selects pm_y55.cls pm_y55 pm_y55 ∈ pm_GW := gw_sel (q := (pm_y55, 65)) (tq_4 (List.mem_of_getElem? (i := 9) rfl))
set_option maxRecDepth 20000 in
theorem gc_56 : Cond.code pm_y56 prog_14_method_39_code 2 ((some FieldType.int)) ∈ pm_GW := gw_of (tw_6 (List.mem_of_getElem? (i := 103) rfl)) rfl
set_option maxRecDepth 20000 in
theorem gt_56 : Cond.static pm_y56 ∈ pm_GW := gw_of (tw_6 (List.mem_of_getElem? (i := 102) rfl)) rfl
set_option maxRecDepth 20000 in
theorem gc_57 : Cond.code pm_y57 prog_14_method_40_code 5 ((some FieldType.boolean)) ∈ pm_GW := gw_of (tw_6 (List.mem_of_getElem? (i := 100) rfl)) rfl
set_option maxRecDepth 20000 in
theorem gm_57 : Cond.instanceMethod pm_y57 ∈ pm_GW := gw_of (tw_6 (List.mem_of_getElem? (i := 99) rfl)) rfl
set_option maxRecDepth 20000 in
theorem gs_57 : Cond.selects pm_y57.cls pm_y57 pm_y57 ∈ pm_GW := gw_sel (q := (pm_y57, 65)) (tq_4 (List.mem_of_getElem? (i := 8) rfl))
set_option maxRecDepth 20000 in
theorem gc_58 : Cond.code pm_y58 prog_14_method_41_code 4 ((some FieldType.int)) ∈ pm_GW := gw_of (tw_5 (List.mem_of_getElem? (i := 220) rfl)) rfl
set_option maxRecDepth 20000 in
theorem gm_58 : Cond.instanceMethod pm_y58 ∈ pm_GW := gw_of (tw_5 (List.mem_of_getElem? (i := 218) rfl)) rfl
set_option maxRecDepth 20000 in
theorem gs_58 : Cond.selects pm_y58.cls pm_y58 pm_y58 ∈ pm_GW := gw_of (tw_5 (List.mem_of_getElem? (i := 219) rfl)) rfl
set_option maxRecDepth 20000 in
theorem gc_59 : Cond.code pm_y59 prog_14_method_42_code 1 ((some FieldType.int)) ∈ pm_GW := gw_of (tw_6 (List.mem_of_getElem? (i := 111) rfl)) rfl
set_option maxRecDepth 20000 in
theorem gm_59 : Cond.instanceMethod pm_y59 ∈ pm_GW := gw_of (tw_6 (List.mem_of_getElem? (i := 109) rfl)) rfl
set_option maxRecDepth 20000 in
theorem gs_59 : Cond.selects pm_y59.cls pm_y59 pm_y59 ∈ pm_GW := gw_of (tw_6 (List.mem_of_getElem? (i := 110) rfl)) rfl
set_option maxRecDepth 20000 in
theorem gc_60 : Cond.code pm_y60 prog_14_method_43_code 2 ((some FieldType.int)) ∈ pm_GW := gw_of (tw_6 (List.mem_of_getElem? (i := 115) rfl)) rfl
set_option maxRecDepth 20000 in
theorem gm_60 : Cond.instanceMethod pm_y60 ∈ pm_GW := gw_of (tw_6 (List.mem_of_getElem? (i := 113) rfl)) rfl
set_option maxRecDepth 20000 in
theorem gs_60 : Cond.selects pm_y60.cls pm_y60 pm_y60 ∈ pm_GW := gw_of (tw_6 (List.mem_of_getElem? (i := 114) rfl)) rfl
set_option maxRecDepth 20000 in
theorem gc_61 : Cond.code pm_y61 prog_14_method_44_code 4 ((some FieldType.int)) ∈ pm_GW := gw_of (tw_6 (List.mem_of_getElem? (i := 135) rfl)) rfl
set_option maxRecDepth 20000 in
theorem gm_61 : Cond.instanceMethod pm_y61 ∈ pm_GW := gw_of (tw_6 (List.mem_of_getElem? (i := 134) rfl)) rfl
set_option maxRecDepth 20000 in
theorem gs_61 : Cond.selects pm_y61.cls pm_y61 pm_y61 ∈ pm_GW := gw_sel (q := (pm_y61, 65)) (tq_4 (List.mem_of_getElem? (i := 13) rfl))
set_option maxRecDepth 20000 in
theorem gc_62 : Cond.code pm_y62 prog_14_method_45_code 9 ((some FieldType.int)) ∈ pm_GW := gw_of (tw_6 (List.mem_of_getElem? (i := 167) rfl)) rfl
set_option maxRecDepth 20000 in
theorem gm_62 : Cond.instanceMethod pm_y62 ∈ pm_GW := gw_of (tw_6 (List.mem_of_getElem? (i := 166) rfl)) rfl
set_option maxRecDepth 20000 in
theorem gs_62 : Cond.selects pm_y62.cls pm_y62 pm_y62 ∈ pm_GW := gw_sel (q := (pm_y62, 65)) (tq_5 (List.mem_of_getElem? (i := 5) rfl))
set_option maxRecDepth 20000 in
theorem gc_63 : Cond.code pm_y63 prog_14_method_46_code 6 ((some FieldType.int)) ∈ pm_GW := gw_of (tw_6 (List.mem_of_getElem? (i := 163) rfl)) rfl
set_option maxRecDepth 20000 in
theorem gm_63 : Cond.instanceMethod pm_y63 ∈ pm_GW := gw_of (tw_6 (List.mem_of_getElem? (i := 162) rfl)) rfl
set_option maxRecDepth 20000 in
theorem gs_63 : Cond.selects pm_y63.cls pm_y63 pm_y63 ∈ pm_GW := gw_sel (q := (pm_y63, 65)) (tq_5 (List.mem_of_getElem? (i := 4) rfl))
set_option maxRecDepth 20000 in
theorem gc_64 : Cond.code pm_y64 prog_14_method_47_code 3 ((some FieldType.boolean)) ∈ pm_GW := gw_of (tw_6 (List.mem_of_getElem? (i := 155) rfl)) rfl
set_option maxRecDepth 20000 in
theorem gm_64 : Cond.instanceMethod pm_y64 ∈ pm_GW := gw_of (tw_6 (List.mem_of_getElem? (i := 154) rfl)) rfl
set_option maxRecDepth 20000 in
theorem gs_64 : Cond.selects pm_y64.cls pm_y64 pm_y64 ∈ pm_GW := gw_sel (q := (pm_y64, 65)) (tq_5 (List.mem_of_getElem? (i := 2) rfl))
set_option maxRecDepth 20000 in
theorem gc_65 : Cond.code pm_y65 prog_14_method_48_code 4 ((some FieldType.int)) ∈ pm_GW := gw_of (tw_6 (List.mem_of_getElem? (i := 159) rfl)) rfl
set_option maxRecDepth 20000 in
theorem gm_65 : Cond.instanceMethod pm_y65 ∈ pm_GW := gw_of (tw_6 (List.mem_of_getElem? (i := 158) rfl)) rfl
set_option maxRecDepth 20000 in
theorem gs_65 : Cond.selects pm_y65.cls pm_y65 pm_y65 ∈ pm_GW := gw_sel (q := (pm_y65, 65)) (tq_5 (List.mem_of_getElem? (i := 3) rfl))
set_option maxRecDepth 20000 in
theorem gc_66 : Cond.code pm_y66 prog_14_method_49_code 10 ((some FieldType.int)) ∈ pm_GW := gw_of (tw_6 (List.mem_of_getElem? (i := 151) rfl)) rfl
set_option maxRecDepth 20000 in
theorem gm_66 : Cond.instanceMethod pm_y66 ∈ pm_GW := gw_of (tw_6 (List.mem_of_getElem? (i := 150) rfl)) rfl
set_option maxRecDepth 20000 in
theorem gs_66 : Cond.selects pm_y66.cls pm_y66 pm_y66 ∈ pm_GW := gw_sel (q := (pm_y66, 65)) (tq_5 (List.mem_of_getElem? (i := 1) rfl))
set_option maxRecDepth 20000 in
theorem gc_67 : Cond.code pm_y67 prog_14_method_50_code 7 ((some FieldType.int)) ∈ pm_GW := gw_of (tw_6 (List.mem_of_getElem? (i := 143) rfl)) rfl
set_option maxRecDepth 20000 in
theorem gm_67 : Cond.instanceMethod pm_y67 ∈ pm_GW := gw_of (tw_6 (List.mem_of_getElem? (i := 142) rfl)) rfl
set_option maxRecDepth 20000 in
theorem gs_67 : Cond.selects pm_y67.cls pm_y67 pm_y67 ∈ pm_GW := gw_sel (q := (pm_y67, 65)) (tq_4 (List.mem_of_getElem? (i := 15) rfl))
set_option maxRecDepth 20000 in
theorem gc_68 : Cond.code pm_y68 prog_14_method_51_code 5 ((some FieldType.int)) ∈ pm_GW := gw_of (tw_6 (List.mem_of_getElem? (i := 188) rfl)) rfl
set_option maxRecDepth 20000 in
theorem gm_68 : Cond.instanceMethod pm_y68 ∈ pm_GW := gw_of (tw_6 (List.mem_of_getElem? (i := 187) rfl)) rfl
set_option maxRecDepth 20000 in
theorem gs_68 : Cond.selects pm_y68.cls pm_y68 pm_y68 ∈ pm_GW := gw_sel (q := (pm_y68, 65)) (tq_5 (List.mem_of_getElem? (i := 10) rfl))
set_option maxRecDepth 20000 in
theorem gc_69 : Cond.code pm_y69 prog_14_method_52_code 4 ((some FieldType.int)) ∈ pm_GW := gw_of (tw_6 (List.mem_of_getElem? (i := 196) rfl)) rfl
set_option maxRecDepth 20000 in
theorem gm_69 : Cond.instanceMethod pm_y69 ∈ pm_GW := gw_of (tw_6 (List.mem_of_getElem? (i := 195) rfl)) rfl
set_option maxRecDepth 20000 in
theorem gs_69 : Cond.selects pm_y69.cls pm_y69 pm_y69 ∈ pm_GW := gw_sel (q := (pm_y69, 65)) (tq_5 (List.mem_of_getElem? (i := 12) rfl))
set_option maxRecDepth 20000 in
theorem gc_70 : Cond.code pm_y70 prog_14_method_53_code 4 (none) ∈ pm_GW := gw_of (tw_6 (List.mem_of_getElem? (i := 184) rfl)) rfl
set_option maxRecDepth 20000 in
theorem gm_70 : Cond.instanceMethod pm_y70 ∈ pm_GW := gw_of (tw_6 (List.mem_of_getElem? (i := 183) rfl)) rfl
set_option maxRecDepth 20000 in
theorem gs_70 : Cond.selects pm_y70.cls pm_y70 pm_y70 ∈ pm_GW := gw_sel (q := (pm_y70, 65)) (tq_5 (List.mem_of_getElem? (i := 9) rfl))
set_option maxRecDepth 20000 in
theorem gc_71 : Cond.code pm_y71 prog_14_method_54_code 9 (none) ∈ pm_GW := gw_of (tw_6 (List.mem_of_getElem? (i := 180) rfl)) rfl
set_option maxRecDepth 20000 in
theorem gm_71 : Cond.instanceMethod pm_y71 ∈ pm_GW := gw_of (tw_6 (List.mem_of_getElem? (i := 179) rfl)) rfl
set_option maxRecDepth 20000 in
theorem gs_71 : Cond.selects pm_y71.cls pm_y71 pm_y71 ∈ pm_GW := gw_sel (q := (pm_y71, 65)) (tq_5 (List.mem_of_getElem? (i := 8) rfl))
set_option maxRecDepth 20000 in
theorem gc_72 : Cond.code pm_y72 prog_14_method_55_code 2 ((some FieldType.int)) ∈ pm_GW := gw_of (tw_6 (List.mem_of_getElem? (i := 192) rfl)) rfl
set_option maxRecDepth 20000 in
theorem gm_72 : Cond.instanceMethod pm_y72 ∈ pm_GW := gw_of (tw_6 (List.mem_of_getElem? (i := 191) rfl)) rfl
set_option maxRecDepth 20000 in
theorem gs_72 : Cond.selects pm_y72.cls pm_y72 pm_y72 ∈ pm_GW := gw_sel (q := (pm_y72, 65)) (tq_5 (List.mem_of_getElem? (i := 11) rfl))
set_option maxRecDepth 20000 in
theorem gc_73 : Cond.code pm_y73 prog_14_method_56_code 5 (none) ∈ pm_GW := gw_of (tw_6 (List.mem_of_getElem? (i := 176) rfl)) rfl
set_option maxRecDepth 20000 in
theorem gm_73 : Cond.instanceMethod pm_y73 ∈ pm_GW := gw_of (tw_6 (List.mem_of_getElem? (i := 175) rfl)) rfl
set_option maxRecDepth 20000 in
theorem gs_73 : Cond.selects pm_y73.cls pm_y73 pm_y73 ∈ pm_GW := gw_sel (q := (pm_y73, 65)) (tq_5 (List.mem_of_getElem? (i := 7) rfl))
set_option maxRecDepth 20000 in
theorem gc_74 : Cond.code pm_y74 prog_14_method_57_code 3 (none) ∈ pm_GW := gw_of (tw_6 (List.mem_of_getElem? (i := 204) rfl)) rfl
set_option maxRecDepth 20000 in
theorem gm_74 : Cond.instanceMethod pm_y74 ∈ pm_GW := gw_of (tw_6 (List.mem_of_getElem? (i := 203) rfl)) rfl
set_option maxRecDepth 20000 in
theorem gs_74 : Cond.selects pm_y74.cls pm_y74 pm_y74 ∈ pm_GW := gw_sel (q := (pm_y74, 65)) (tq_5 (List.mem_of_getElem? (i := 14) rfl))
set_option maxRecDepth 20000 in
theorem gc_75 : Cond.code pm_y75 prog_14_method_58_code 9 (none) ∈ pm_GW := gw_of (tw_6 (List.mem_of_getElem? (i := 208) rfl)) rfl
set_option maxRecDepth 20000 in
theorem gm_75 : Cond.instanceMethod pm_y75 ∈ pm_GW := gw_of (tw_6 (List.mem_of_getElem? (i := 207) rfl)) rfl
set_option maxRecDepth 20000 in
theorem gs_75 : Cond.selects pm_y75.cls pm_y75 pm_y75 ∈ pm_GW := gw_sel (q := (pm_y75, 65)) (tq_5 (List.mem_of_getElem? (i := 15) rfl))
set_option maxRecDepth 20000 in
theorem gc_76 : Cond.code pm_y76 prog_14_method_59_code 8 ((some FieldType.int)) ∈ pm_GW := gw_of (tw_6 (List.mem_of_getElem? (i := 212) rfl)) rfl
set_option maxRecDepth 20000 in
theorem gm_76 : Cond.instanceMethod pm_y76 ∈ pm_GW := gw_of (tw_6 (List.mem_of_getElem? (i := 211) rfl)) rfl
set_option maxRecDepth 20000 in
theorem gs_76 : Cond.selects pm_y76.cls pm_y76 pm_y76 ∈ pm_GW := gw_sel (q := (pm_y76, 65)) (tq_6 (List.mem_of_getElem? (i := 0) rfl))
set_option maxRecDepth 20000 in
theorem gc_77 : Cond.code pm_y77 prog_14_method_60_code 11 ((some FieldType.boolean)) ∈ pm_GW := gw_of (tw_6 (List.mem_of_getElem? (i := 200) rfl)) rfl
set_option maxRecDepth 20000 in
theorem gm_77 : Cond.instanceMethod pm_y77 ∈ pm_GW := gw_of (tw_6 (List.mem_of_getElem? (i := 199) rfl)) rfl
set_option maxRecDepth 20000 in
theorem gs_77 : Cond.selects pm_y77.cls pm_y77 pm_y77 ∈ pm_GW := gw_sel (q := (pm_y77, 65)) (tq_5 (List.mem_of_getElem? (i := 13) rfl))
set_option maxRecDepth 20000 in
theorem gc_78 : Cond.code pm_y78 prog_14_method_61_code 2 ((some FieldType.boolean)) ∈ pm_GW := gw_of (tw_6 (List.mem_of_getElem? (i := 123) rfl)) rfl
set_option maxRecDepth 20000 in
theorem gm_78 : Cond.instanceMethod pm_y78 ∈ pm_GW := gw_of (tw_6 (List.mem_of_getElem? (i := 122) rfl)) rfl
set_option maxRecDepth 20000 in
theorem gs_78 : Cond.selects pm_y78.cls pm_y78 pm_y78 ∈ pm_GW := gw_sel (q := (pm_y78, 65)) (tq_4 (List.mem_of_getElem? (i := 10) rfl))
set_option maxRecDepth 20000 in
theorem gc_79 : Cond.code pm_y79 prog_14_method_62_code 2 ((some FieldType.boolean)) ∈ pm_GW := gw_of (tw_6 (List.mem_of_getElem? (i := 127) rfl)) rfl
set_option maxRecDepth 20000 in
theorem gm_79 : Cond.instanceMethod pm_y79 ∈ pm_GW := gw_of (tw_6 (List.mem_of_getElem? (i := 126) rfl)) rfl
set_option maxRecDepth 20000 in
theorem gs_79 : Cond.selects pm_y79.cls pm_y79 pm_y79 ∈ pm_GW := gw_sel (q := (pm_y79, 65)) (tq_4 (List.mem_of_getElem? (i := 11) rfl))
set_option maxRecDepth 20000 in
theorem gc_80 : Cond.code pm_y80 prog_14_method_63_code 5 ((some FieldType.boolean)) ∈ pm_GW := gw_of (tw_6 (List.mem_of_getElem? (i := 216) rfl)) rfl
set_option maxRecDepth 20000 in
theorem gm_80 : Cond.instanceMethod pm_y80 ∈ pm_GW := gw_of (tw_6 (List.mem_of_getElem? (i := 215) rfl)) rfl
set_option maxRecDepth 20000 in
theorem gs_80 : Cond.selects pm_y80.cls pm_y80 pm_y80 ∈ pm_GW := gw_sel (q := (pm_y80, 65)) (tq_6 (List.mem_of_getElem? (i := 1) rfl))
set_option maxRecDepth 20000 in
theorem gc_81 : Cond.code pm_y81 prog_14_method_64_code 6 ((some FieldType.int)) ∈ pm_GW := gw_of (tw_6 (List.mem_of_getElem? (i := 131) rfl)) rfl
set_option maxRecDepth 20000 in
theorem gm_81 : Cond.instanceMethod pm_y81 ∈ pm_GW := gw_of (tw_6 (List.mem_of_getElem? (i := 130) rfl)) rfl
set_option maxRecDepth 20000 in
theorem gs_81 : Cond.selects pm_y81.cls pm_y81 pm_y81 ∈ pm_GW := gw_sel (q := (pm_y81, 65)) (tq_4 (List.mem_of_getElem? (i := 12) rfl))
set_option maxRecDepth 20000 in
theorem gc_82 : Cond.code pm_y82 prog_14_method_65_code 3 ((some FieldType.int)) ∈ pm_GW := gw_of (tw_6 (List.mem_of_getElem? (i := 119) rfl)) rfl
set_option maxRecDepth 20000 in
theorem gm_82 : Cond.instanceMethod pm_y82 ∈ pm_GW := gw_of (tw_6 (List.mem_of_getElem? (i := 117) rfl)) rfl
set_option maxRecDepth 20000 in
theorem gs_82 : Cond.selects pm_y82.cls pm_y82 pm_y82 ∈ pm_GW := gw_of (tw_6 (List.mem_of_getElem? (i := 118) rfl)) rfl
set_option maxRecDepth 20000 in
theorem gc_83 : Cond.code pm_y83 prog_14_method_66_code 2 ((some FieldType.int)) ∈ pm_GW := gw_of (tw_6 (List.mem_of_getElem? (i := 220) rfl)) rfl
set_option maxRecDepth 20000 in
theorem gm_83 : Cond.instanceMethod pm_y83 ∈ pm_GW := gw_of (tw_6 (List.mem_of_getElem? (i := 218) rfl)) rfl
set_option maxRecDepth 20000 in
theorem gs_83 : Cond.selects pm_y83.cls pm_y83 pm_y83 ∈ pm_GW := gw_of (tw_6 (List.mem_of_getElem? (i := 219) rfl)) rfl
set_option maxRecDepth 20000 in
theorem gc_84 : Cond.code pm_y84 prog_14_method_67_code 2 ((some FieldType.int)) ∈ pm_GW := gw_of (tw_6 (List.mem_of_getElem? (i := 224) rfl)) rfl
set_option maxRecDepth 20000 in
theorem gm_84 : Cond.instanceMethod pm_y84 ∈ pm_GW := gw_of (tw_6 (List.mem_of_getElem? (i := 222) rfl)) rfl
set_option maxRecDepth 20000 in
theorem gs_84 : Cond.selects pm_y84.cls pm_y84 pm_y84 ∈ pm_GW := gw_of (tw_6 (List.mem_of_getElem? (i := 223) rfl)) rfl
set_option maxRecDepth 20000 in
theorem gc_85 : Cond.code pm_y85 prog_14_method_68_code 2 ((some FieldType.boolean)) ∈ pm_GW := gw_of (tw_6 (List.mem_of_getElem? (i := 232) rfl)) rfl
set_option maxRecDepth 20000 in
theorem gm_85 : Cond.instanceMethod pm_y85 ∈ pm_GW := gw_of (tw_6 (List.mem_of_getElem? (i := 231) rfl)) rfl
set_option maxRecDepth 20000 in
theorem gs_85 : Cond.selects pm_y85.cls pm_y85 pm_y85 ∈ pm_GW := gw_sel (q := (pm_y85, 65)) (tq_6 (List.mem_of_getElem? (i := 2) rfl))
set_option maxRecDepth 20000 in
theorem gc_86 : Cond.code pm_y86 prog_14_method_69_code 6 ((some FieldType.int)) ∈ pm_GW := gw_of (tw_6 (List.mem_of_getElem? (i := 228) rfl)) rfl
set_option maxRecDepth 20000 in
theorem gm_86 : Cond.instanceMethod pm_y86 ∈ pm_GW := gw_of (tw_6 (List.mem_of_getElem? (i := 226) rfl)) rfl
set_option maxRecDepth 20000 in
theorem gs_86 : Cond.selects pm_y86.cls pm_y86 pm_y86 ∈ pm_GW := gw_of (tw_6 (List.mem_of_getElem? (i := 227) rfl)) rfl
set_option maxRecDepth 20000 in
theorem gc_87 : Cond.code pm_y87 prog_14_method_70_code 1 ((some FieldType.int)) ∈ pm_GW := gw_of (tw_6 (List.mem_of_getElem? (i := 236) rfl)) rfl
set_option maxRecDepth 20000 in
theorem gm_87 : Cond.instanceMethod pm_y87 ∈ pm_GW := gw_of (tw_6 (List.mem_of_getElem? (i := 234) rfl)) rfl
set_option maxRecDepth 20000 in
theorem gs_87 : Cond.selects pm_y87.cls pm_y87 pm_y87 ∈ pm_GW := gw_of (tw_6 (List.mem_of_getElem? (i := 235) rfl)) rfl
set_option maxRecDepth 20000 in
theorem gc_88 : Cond.code pm_y88 prog_14_method_71_code 2 ((some FieldType.int)) ∈ pm_GW := gw_of (tw_7 (List.mem_of_getElem? (i := 0) rfl)) rfl
set_option maxRecDepth 20000 in
theorem gm_88 : Cond.instanceMethod pm_y88 ∈ pm_GW := gw_of (tw_6 (List.mem_of_getElem? (i := 238) rfl)) rfl
set_option maxRecDepth 20000 in
theorem gs_88 : Cond.selects pm_y88.cls pm_y88 pm_y88 ∈ pm_GW := gw_of (tw_6 (List.mem_of_getElem? (i := 239) rfl)) rfl
set_option maxRecDepth 20000 in
theorem gc_89 : Cond.code pm_y89 prog_2_method_1_code 1 (none) ∈ pm_GW := gw_of (tw_1 (List.mem_of_getElem? (i := 100) rfl)) rfl
set_option maxRecDepth 20000 in
theorem gm_89 : Cond.instanceMethod pm_y89 ∈ pm_GW := gw_of (tw_1 (List.mem_of_getElem? (i := 99) rfl)) rfl
set_option maxRecDepth 20000 in
theorem gc_90 : Cond.code pm_y90 prog_2_method_2_code 4 ((some FieldType.int)) ∈ pm_GW := gw_of (tw_3 (List.mem_of_getElem? (i := 73) rfl)) rfl
set_option maxRecDepth 20000 in
theorem gm_90 : Cond.instanceMethod pm_y90 ∈ pm_GW := gw_of (tw_3 (List.mem_of_getElem? (i := 71) rfl)) rfl
set_option maxRecDepth 20000 in
theorem gs_90 : Cond.selects pm_y90.cls pm_y90 pm_y90 ∈ pm_GW := gw_of (tw_3 (List.mem_of_getElem? (i := 72) rfl)) rfl
set_option maxRecDepth 20000 in
theorem gc_91 : Cond.code pm_y91 prog_2_method_3_code 3 ((some FieldType.int)) ∈ pm_GW := gw_of (tw_3 (List.mem_of_getElem? (i := 78) rfl)) rfl
set_option maxRecDepth 20000 in
theorem gm_91 : Cond.instanceMethod pm_y91 ∈ pm_GW := gw_of (tw_3 (List.mem_of_getElem? (i := 77) rfl)) rfl
set_option maxRecDepth 20000 in
theorem gs_91 : Cond.selects pm_y91.cls pm_y91 pm_y91 ∈ pm_GW := gw_sel (q := (pm_y91, 1)) (tq_1 (List.mem_of_getElem? (i := 9) rfl))
set_option maxRecDepth 20000 in
theorem gc_92 : Cond.code pm_y92 prog_2_method_4_code 4 ((some FieldType.boolean)) ∈ pm_GW := gw_of (tw_3 (List.mem_of_getElem? (i := 81) rfl)) rfl
set_option maxRecDepth 20000 in
theorem gt_92 : Cond.static pm_y92 ∈ pm_GW := gw_of (tw_3 (List.mem_of_getElem? (i := 80) rfl)) rfl
set_option maxRecDepth 20000 in
theorem gc_93 : Cond.code pm_y93 prog_2_method_5_code 4 ((some FieldType.boolean)) ∈ pm_GW := gw_of (tw_3 (List.mem_of_getElem? (i := 104) rfl)) rfl
set_option maxRecDepth 20000 in
theorem gt_93 : Cond.static pm_y93 ∈ pm_GW := gw_of (tw_3 (List.mem_of_getElem? (i := 103) rfl)) rfl
set_option maxRecDepth 20000 in
theorem gc_94 : Cond.code pm_y94 prog_2_method_6_code 5 ((some FieldType.boolean)) ∈ pm_GW := gw_of (tw_3 (List.mem_of_getElem? (i := 111) rfl)) rfl
set_option maxRecDepth 20000 in
theorem gt_94 : Cond.static pm_y94 ∈ pm_GW := gw_of (tw_3 (List.mem_of_getElem? (i := 110) rfl)) rfl
set_option maxRecDepth 20000 in
theorem gc_95 : Cond.code pm_y95 prog_2_method_7_code 5 ((some FieldType.boolean)) ∈ pm_GW := gw_of (tw_3 (List.mem_of_getElem? (i := 127) rfl)) rfl
set_option maxRecDepth 20000 in
theorem gm_95 : Cond.instanceMethod pm_y95 ∈ pm_GW := gw_of (tw_3 (List.mem_of_getElem? (i := 126) rfl)) rfl
set_option maxRecDepth 20000 in
theorem gs_95 : Cond.selects pm_y95.cls pm_y95 pm_y95 ∈ pm_GW := gw_sel (q := (pm_y95, 1)) (tq_1 (List.mem_of_getElem? (i := 10) rfl))
set_option maxRecDepth 20000 in
theorem gc_96 : Cond.code pm_y96 prog_2_method_8_code 6 ((some FieldType.boolean)) ∈ pm_GW := gw_of (tw_3 (List.mem_of_getElem? (i := 131) rfl)) rfl
set_option maxRecDepth 20000 in
theorem gm_96 : Cond.instanceMethod pm_y96 ∈ pm_GW := gw_of (tw_3 (List.mem_of_getElem? (i := 130) rfl)) rfl
set_option maxRecDepth 20000 in
theorem gs_96 : Cond.selects pm_y96.cls pm_y96 pm_y96 ∈ pm_GW := gw_sel (q := (pm_y96, 1)) (tq_1 (List.mem_of_getElem? (i := 11) rfl))
set_option maxRecDepth 20000 in
theorem gc_97 : Cond.code pm_y97 prog_2_method_9_code 5 ((some FieldType.boolean)) ∈ pm_GW := gw_of (tw_3 (List.mem_of_getElem? (i := 174) rfl)) rfl
set_option maxRecDepth 20000 in
theorem gt_97 : Cond.static pm_y97 ∈ pm_GW := gw_of (tw_3 (List.mem_of_getElem? (i := 173) rfl)) rfl
set_option maxRecDepth 20000 in
theorem gc_98 : Cond.code pm_y98 prog_2_method_10_code 4 ((some FieldType.boolean)) ∈ pm_GW := gw_of (tw_3 (List.mem_of_getElem? (i := 188) rfl)) rfl
set_option maxRecDepth 20000 in
theorem gt_98 : Cond.static pm_y98 ∈ pm_GW := gw_of (tw_3 (List.mem_of_getElem? (i := 187) rfl)) rfl
set_option maxRecDepth 20000 in
theorem gc_99 : Cond.code pm_y99 prog_2_method_11_code 4 ((some FieldType.boolean)) ∈ pm_GW := gw_of (tw_3 (List.mem_of_getElem? (i := 191) rfl)) rfl
set_option maxRecDepth 20000 in
theorem gt_99 : Cond.static pm_y99 ∈ pm_GW := gw_of (tw_3 (List.mem_of_getElem? (i := 190) rfl)) rfl
set_option maxRecDepth 20000 in
theorem gc_100 : Cond.code pm_y100 prog_3_method_1_code 1 (none) ∈ pm_GW := gw_of (tw_2 (List.mem_of_getElem? (i := 25) rfl)) rfl
set_option maxRecDepth 20000 in
theorem gm_100 : Cond.instanceMethod pm_y100 ∈ pm_GW := gw_of (tw_2 (List.mem_of_getElem? (i := 24) rfl)) rfl
set_option maxRecDepth 20000 in
theorem gc_101 : Cond.code pm_y101 prog_3_method_2_code 1 (none) ∈ pm_GW := gw_of (tw_2 (List.mem_of_getElem? (i := 93) rfl)) rfl
set_option maxRecDepth 20000 in
theorem gm_101 : Cond.instanceMethod pm_y101 ∈ pm_GW := gw_of (tw_2 (List.mem_of_getElem? (i := 91) rfl)) rfl
set_option maxRecDepth 20000 in
theorem gs_101 : Cond.selects pm_y101.cls pm_y101 pm_y101 ∈ pm_GW := gw_of (tw_2 (List.mem_of_getElem? (i := 92) rfl)) rfl
set_option maxRecDepth 20000 in
theorem gc_102 : Cond.code pm_y102 prog_3_method_3_code 3 (none) ∈ pm_GW := gw_of (tw_2 (List.mem_of_getElem? (i := 210) rfl)) rfl
set_option maxRecDepth 20000 in
theorem gm_102 : Cond.instanceMethod pm_y102 ∈ pm_GW := gw_of (tw_2 (List.mem_of_getElem? (i := 208) rfl)) rfl
set_option maxRecDepth 20000 in
theorem gs_102 : Cond.selects pm_y102.cls pm_y102 pm_y102 ∈ pm_GW := gw_of (tw_2 (List.mem_of_getElem? (i := 209) rfl)) rfl
set_option maxRecDepth 20000 in
theorem gc_103 : Cond.code pm_y103 prog_3_method_4_code 2 (none) ∈ pm_GW := gw_of (tw_2 (List.mem_of_getElem? (i := 225) rfl)) rfl
set_option maxRecDepth 20000 in
theorem gm_103 : Cond.instanceMethod pm_y103 ∈ pm_GW := gw_of (tw_2 (List.mem_of_getElem? (i := 223) rfl)) rfl
set_option maxRecDepth 20000 in
theorem gs_103 : Cond.selects pm_y103.cls pm_y103 pm_y103 ∈ pm_GW := gw_of (tw_2 (List.mem_of_getElem? (i := 224) rfl)) rfl
set_option maxRecDepth 20000 in
theorem gc_104 : Cond.code pm_y104 prog_3_method_5_code 3 (none) ∈ pm_GW := gw_of (tw_3 (List.mem_of_getElem? (i := 48) rfl)) rfl
set_option maxRecDepth 20000 in
theorem gm_104 : Cond.instanceMethod pm_y104 ∈ pm_GW := gw_of (tw_3 (List.mem_of_getElem? (i := 46) rfl)) rfl
set_option maxRecDepth 20000 in
theorem gs_104 : Cond.selects pm_y104.cls pm_y104 pm_y104 ∈ pm_GW := gw_of (tw_3 (List.mem_of_getElem? (i := 47) rfl)) rfl
set_option maxRecDepth 20000 in
theorem gc_105 : Cond.code pm_y105 prog_3_method_6_code 3 (none) ∈ pm_GW := gw_of (tw_3 (List.mem_of_getElem? (i := 26) rfl)) rfl
set_option maxRecDepth 20000 in
theorem gm_105 : Cond.instanceMethod pm_y105 ∈ pm_GW := gw_of (tw_3 (List.mem_of_getElem? (i := 24) rfl)) rfl
set_option maxRecDepth 20000 in
theorem gs_105 : Cond.selects pm_y105.cls pm_y105 pm_y105 ∈ pm_GW := gw_of (tw_3 (List.mem_of_getElem? (i := 25) rfl)) rfl
set_option maxRecDepth 20000 in
theorem gc_106 : Cond.code pm_y106 prog_3_method_7_code 3 (none) ∈ pm_GW := gw_of (tw_3 (List.mem_of_getElem? (i := 12) rfl)) rfl
set_option maxRecDepth 20000 in
theorem gm_106 : Cond.instanceMethod pm_y106 ∈ pm_GW := gw_of (tw_3 (List.mem_of_getElem? (i := 10) rfl)) rfl
set_option maxRecDepth 20000 in
theorem gs_106 : Cond.selects pm_y106.cls pm_y106 pm_y106 ∈ pm_GW := gw_of (tw_3 (List.mem_of_getElem? (i := 11) rfl)) rfl
set_option maxRecDepth 20000 in
theorem gc_107 : Cond.code pm_y107 prog_3_method_8_code 1 ((some FieldType.int)) ∈ pm_GW := gw_of (tw_4 (List.mem_of_getElem? (i := 8) rfl)) rfl
set_option maxRecDepth 20000 in
theorem gm_107 : Cond.instanceMethod pm_y107 ∈ pm_GW := gw_of (tw_4 (List.mem_of_getElem? (i := 6) rfl)) rfl
set_option maxRecDepth 20000 in
theorem gs_107 : Cond.selects pm_y107.cls pm_y107 pm_y107 ∈ pm_GW := gw_of (tw_4 (List.mem_of_getElem? (i := 7) rfl)) rfl
set_option maxRecDepth 20000 in
theorem gc_108 : Cond.code pm_y108 prog_3_method_9_code 1 ((some FieldType.int)) ∈ pm_GW := gw_of (tw_2 (List.mem_of_getElem? (i := 236) rfl)) rfl
set_option maxRecDepth 20000 in
theorem gm_108 : Cond.instanceMethod pm_y108 ∈ pm_GW := gw_of (tw_2 (List.mem_of_getElem? (i := 234) rfl)) rfl
set_option maxRecDepth 20000 in
theorem gs_108 : Cond.selects pm_y108.cls pm_y108 pm_y108 ∈ pm_GW := gw_of (tw_2 (List.mem_of_getElem? (i := 235) rfl)) rfl
set_option maxRecDepth 20000 in
theorem gc_109 : Cond.code pm_y109 prog_3_method_10_code 2 ((some FieldType.int)) ∈ pm_GW := gw_of (tw_3 (List.mem_of_getElem? (i := 97) rfl)) rfl
set_option maxRecDepth 20000 in
theorem gm_109 : Cond.instanceMethod pm_y109 ∈ pm_GW := gw_of (tw_3 (List.mem_of_getElem? (i := 95) rfl)) rfl
set_option maxRecDepth 20000 in
theorem gs_109 : Cond.selects pm_y109.cls pm_y109 pm_y109 ∈ pm_GW := gw_of (tw_3 (List.mem_of_getElem? (i := 96) rfl)) rfl
set_option maxRecDepth 20000 in
theorem gc_110 : Cond.code pm_y110 prog_3_method_11_code 2 ((some FieldType.int)) ∈ pm_GW := gw_of (tw_3 (List.mem_of_getElem? (i := 115) rfl)) rfl
set_option maxRecDepth 20000 in
theorem gm_110 : Cond.instanceMethod pm_y110 ∈ pm_GW := gw_of (tw_3 (List.mem_of_getElem? (i := 113) rfl)) rfl
set_option maxRecDepth 20000 in
theorem gs_110 : Cond.selects pm_y110.cls pm_y110 pm_y110 ∈ pm_GW := gw_of (tw_3 (List.mem_of_getElem? (i := 114) rfl)) rfl
set_option maxRecDepth 20000 in
theorem gc_111 : Cond.code pm_y111 prog_3_method_12_code 2 ((some FieldType.int)) ∈ pm_GW := gw_of (tw_3 (List.mem_of_getElem? (i := 89) rfl)) rfl
set_option maxRecDepth 20000 in
theorem gm_111 : Cond.instanceMethod pm_y111 ∈ pm_GW := gw_of (tw_3 (List.mem_of_getElem? (i := 87) rfl)) rfl
set_option maxRecDepth 20000 in
theorem gs_111 : Cond.selects pm_y111.cls pm_y111 pm_y111 ∈ pm_GW := gw_of (tw_3 (List.mem_of_getElem? (i := 88) rfl)) rfl
set_option maxRecDepth 20000 in
theorem gc_112 : Cond.code pm_y112 prog_3_method_13_code 2 ((some FieldType.int)) ∈ pm_GW := gw_of (tw_3 (List.mem_of_getElem? (i := 85) rfl)) rfl
set_option maxRecDepth 20000 in
theorem gm_112 : Cond.instanceMethod pm_y112 ∈ pm_GW := gw_of (tw_3 (List.mem_of_getElem? (i := 83) rfl)) rfl
set_option maxRecDepth 20000 in
theorem gs_112 : Cond.selects pm_y112.cls pm_y112 pm_y112 ∈ pm_GW := gw_of (tw_3 (List.mem_of_getElem? (i := 84) rfl)) rfl
set_option maxRecDepth 20000 in
theorem gc_113 : Cond.code pm_y113 prog_3_method_14_code 2 ((some FieldType.int)) ∈ pm_GW := gw_of (tw_3 (List.mem_of_getElem? (i := 184) rfl)) rfl
set_option maxRecDepth 20000 in
theorem gm_113 : Cond.instanceMethod pm_y113 ∈ pm_GW := gw_of (tw_3 (List.mem_of_getElem? (i := 182) rfl)) rfl
set_option maxRecDepth 20000 in
theorem gs_113 : Cond.selects pm_y113.cls pm_y113 pm_y113 ∈ pm_GW := gw_of (tw_3 (List.mem_of_getElem? (i := 183) rfl)) rfl
set_option maxRecDepth 20000 in
theorem gc_114 : Cond.code pm_y114 prog_3_method_15_code 2 ((some FieldType.int)) ∈ pm_GW := gw_of (tw_3 (List.mem_of_getElem? (i := 178) rfl)) rfl
set_option maxRecDepth 20000 in
theorem gm_114 : Cond.instanceMethod pm_y114 ∈ pm_GW := gw_of (tw_3 (List.mem_of_getElem? (i := 176) rfl)) rfl
set_option maxRecDepth 20000 in
theorem gs_114 : Cond.selects pm_y114.cls pm_y114 pm_y114 ∈ pm_GW := gw_of (tw_3 (List.mem_of_getElem? (i := 177) rfl)) rfl
set_option maxRecDepth 20000 in
theorem gc_115 : Cond.code pm_y115 prog_3_method_16_code 2 ((some FieldType.boolean)) ∈ pm_GW := gw_of (tw_3 (List.mem_of_getElem? (i := 93) rfl)) rfl
set_option maxRecDepth 20000 in
theorem gm_115 : Cond.instanceMethod pm_y115 ∈ pm_GW := gw_of (tw_3 (List.mem_of_getElem? (i := 91) rfl)) rfl
set_option maxRecDepth 20000 in
theorem gs_115 : Cond.selects pm_y115.cls pm_y115 pm_y115 ∈ pm_GW := gw_of (tw_3 (List.mem_of_getElem? (i := 92) rfl)) rfl
set_option maxRecDepth 20000 in
theorem gc_116 : Cond.code pm_y116 prog_3_method_17_code 2 ((some FieldType.boolean)) ∈ pm_GW := gw_of (tw_3 (List.mem_of_getElem? (i := 108) rfl)) rfl
set_option maxRecDepth 20000 in
theorem gm_116 : Cond.instanceMethod pm_y116 ∈ pm_GW := gw_of (tw_3 (List.mem_of_getElem? (i := 106) rfl)) rfl
set_option maxRecDepth 20000 in
theorem gs_116 : Cond.selects pm_y116.cls pm_y116 pm_y116 ∈ pm_GW := gw_of (tw_3 (List.mem_of_getElem? (i := 107) rfl)) rfl
set_option maxRecDepth 20000 in
theorem gc_117 : Cond.code pm_y117 prog_3_method_18_code 3 ((some FieldType.int)) ∈ pm_GW := gw_of (tw_3 (List.mem_of_getElem? (i := 56) rfl)) rfl
set_option maxRecDepth 20000 in
theorem gm_117 : Cond.instanceMethod pm_y117 ∈ pm_GW := gw_of (tw_3 (List.mem_of_getElem? (i := 54) rfl)) rfl
set_option maxRecDepth 20000 in
theorem gs_117 : Cond.selects pm_y117.cls pm_y117 pm_y117 ∈ pm_GW := gw_of (tw_3 (List.mem_of_getElem? (i := 55) rfl)) rfl
set_option maxRecDepth 20000 in
theorem gc_118 : Cond.code pm_y118 prog_3_method_19_code 2 ((some FieldType.int)) ∈ pm_GW := gw_of (tw_3 (List.mem_of_getElem? (i := 119) rfl)) rfl
set_option maxRecDepth 20000 in
theorem gm_118 : Cond.instanceMethod pm_y118 ∈ pm_GW := gw_of (tw_3 (List.mem_of_getElem? (i := 117) rfl)) rfl
set_option maxRecDepth 20000 in
theorem gs_118 : Cond.selects pm_y118.cls pm_y118 pm_y118 ∈ pm_GW := gw_of (tw_3 (List.mem_of_getElem? (i := 118) rfl)) rfl
set_option maxRecDepth 20000 in
theorem gc_119 : Cond.code pm_y119 prog_3_method_20_code 2 ((some FieldType.int)) ∈ pm_GW := gw_of (tw_3 (List.mem_of_getElem? (i := 123) rfl)) rfl
set_option maxRecDepth 20000 in
theorem gm_119 : Cond.instanceMethod pm_y119 ∈ pm_GW := gw_of (tw_3 (List.mem_of_getElem? (i := 121) rfl)) rfl
set_option maxRecDepth 20000 in
theorem gs_119 : Cond.selects pm_y119.cls pm_y119 pm_y119 ∈ pm_GW := gw_of (tw_3 (List.mem_of_getElem? (i := 122) rfl)) rfl
set_option maxRecDepth 20000 in
theorem gc_120 : Cond.code pm_y120 prog_3_method_21_code 3 ((some FieldType.int)) ∈ pm_GW := gw_of (tw_3 (List.mem_of_getElem? (i := 162) rfl)) rfl
set_option maxRecDepth 20000 in
theorem gm_120 : Cond.instanceMethod pm_y120 ∈ pm_GW := gw_of (tw_3 (List.mem_of_getElem? (i := 160) rfl)) rfl
set_option maxRecDepth 20000 in
theorem gs_120 : Cond.selects pm_y120.cls pm_y120 pm_y120 ∈ pm_GW := gw_of (tw_3 (List.mem_of_getElem? (i := 161) rfl)) rfl
set_option maxRecDepth 20000 in
theorem gc_121 : Cond.code pm_y121 prog_3_method_22_code 2 ((some FieldType.int)) ∈ pm_GW := gw_of (tw_3 (List.mem_of_getElem? (i := 8) rfl)) rfl
set_option maxRecDepth 20000 in
theorem gm_121 : Cond.instanceMethod pm_y121 ∈ pm_GW := gw_of (tw_3 (List.mem_of_getElem? (i := 6) rfl)) rfl
set_option maxRecDepth 20000 in
theorem gs_121 : Cond.selects pm_y121.cls pm_y121 pm_y121 ∈ pm_GW := gw_of (tw_3 (List.mem_of_getElem? (i := 7) rfl)) rfl
set_option maxRecDepth 20000 in
theorem gc_122 : Cond.code pm_y122 prog_3_method_23_code 3 ((some FieldType.int)) ∈ pm_GW := gw_of (tw_3 (List.mem_of_getElem? (i := 4) rfl)) rfl
set_option maxRecDepth 20000 in
theorem gm_122 : Cond.instanceMethod pm_y122 ∈ pm_GW := gw_of (tw_3 (List.mem_of_getElem? (i := 2) rfl)) rfl
set_option maxRecDepth 20000 in
theorem gs_122 : Cond.selects pm_y122.cls pm_y122 pm_y122 ∈ pm_GW := gw_of (tw_3 (List.mem_of_getElem? (i := 3) rfl)) rfl
set_option maxRecDepth 20000 in
theorem gc_123 : Cond.code pm_y123 prog_3_method_24_code 2 ((some FieldType.int)) ∈ pm_GW := gw_of (tw_3 (List.mem_of_getElem? (i := 166) rfl)) rfl
set_option maxRecDepth 20000 in
theorem gm_123 : Cond.instanceMethod pm_y123 ∈ pm_GW := gw_of (tw_3 (List.mem_of_getElem? (i := 164) rfl)) rfl
set_option maxRecDepth 20000 in
theorem gs_123 : Cond.selects pm_y123.cls pm_y123 pm_y123 ∈ pm_GW := gw_of (tw_3 (List.mem_of_getElem? (i := 165) rfl)) rfl
set_option maxRecDepth 20000 in
theorem gc_124 : Cond.code pm_y124 prog_3_method_25_code 3 ((some FieldType.int)) ∈ pm_GW := gw_of (tw_4 (List.mem_of_getElem? (i := 91) rfl)) rfl
set_option maxRecDepth 20000 in
theorem gm_124 : Cond.instanceMethod pm_y124 ∈ pm_GW := gw_of (tw_4 (List.mem_of_getElem? (i := 89) rfl)) rfl
set_option maxRecDepth 20000 in
theorem gs_124 : Cond.selects pm_y124.cls pm_y124 pm_y124 ∈ pm_GW := gw_of (tw_4 (List.mem_of_getElem? (i := 90) rfl)) rfl
set_option maxRecDepth 20000 in
theorem gc_125 : Cond.code pm_y125 prog_3_method_26_code 5 ((some FieldType.int)) ∈ pm_GW := gw_of (tw_3 (List.mem_of_getElem? (i := 101) rfl)) rfl
set_option maxRecDepth 20000 in
theorem gm_125 : Cond.instanceMethod pm_y125 ∈ pm_GW := gw_of (tw_3 (List.mem_of_getElem? (i := 99) rfl)) rfl
set_option maxRecDepth 20000 in
theorem gs_125 : Cond.selects pm_y125.cls pm_y125 pm_y125 ∈ pm_GW := gw_of (tw_3 (List.mem_of_getElem? (i := 100) rfl)) rfl
set_option maxRecDepth 20000 in
theorem gc_126 : Cond.code pm_y126 prog_4_method_1_code 1 (none) ∈ pm_GW := gw_of (tw_1 (List.mem_of_getElem? (i := 53) rfl)) rfl
set_option maxRecDepth 20000 in
theorem gm_126 : Cond.instanceMethod pm_y126 ∈ pm_GW := gw_of (tw_1 (List.mem_of_getElem? (i := 52) rfl)) rfl
set_option maxRecDepth 20000 in
theorem gc_127 : Cond.code pm_y127 prog_4_method_2_code 5 ((some FieldType.int)) ∈ pm_GW := gw_of (tw_2 (List.mem_of_getElem? (i := 89) rfl)) rfl
set_option maxRecDepth 20000 in
theorem gm_127 : Cond.instanceMethod pm_y127 ∈ pm_GW := gw_of (tw_2 (List.mem_of_getElem? (i := 87) rfl)) rfl
set_option maxRecDepth 20000 in
theorem gs_127 : Cond.selects pm_y127.cls pm_y127 pm_y127 ∈ pm_GW := gw_of (tw_2 (List.mem_of_getElem? (i := 88) rfl)) rfl
set_option maxRecDepth 20000 in
theorem gc_128 : Cond.code pm_y128 prog_4_method_3_code 3 ((some FieldType.boolean)) ∈ pm_GW := gw_of (tw_2 (List.mem_of_getElem? (i := 206) rfl)) rfl
set_option maxRecDepth 20000 in
theorem gm_128 : Cond.instanceMethod pm_y128 ∈ pm_GW := gw_of (tw_2 (List.mem_of_getElem? (i := 205) rfl)) rfl
set_option maxRecDepth 20000 in
theorem gs_128 : Cond.selects pm_y128.cls pm_y128 pm_y128 ∈ pm_GW := gw_sel (q := (pm_y128, 8)) (tq_1 (List.mem_of_getElem? (i := 2) rfl))
set_option maxRecDepth 20000 in
theorem gc_129 : Cond.code pm_y129 prog_4_method_4_code 3 ((some FieldType.boolean)) ∈ pm_GW := gw_of (tw_2 (List.mem_of_getElem? (i := 217) rfl)) rfl
set_option maxRecDepth 20000 in
theorem gm_129 : Cond.instanceMethod pm_y129 ∈ pm_GW := gw_of (tw_2 (List.mem_of_getElem? (i := 216) rfl)) rfl
set_option maxRecDepth 20000 in
theorem gs_129 : Cond.selects pm_y129.cls pm_y129 pm_y129 ∈ pm_GW := gw_sel (q := (pm_y129, 8)) (tq_1 (List.mem_of_getElem? (i := 3) rfl))
set_option maxRecDepth 20000 in
theorem gc_130 : Cond.code pm_y130 prog_4_method_5_code 2 ((some FieldType.boolean)) ∈ pm_GW := gw_of (tw_2 (List.mem_of_getElem? (i := 221) rfl)) rfl
set_option maxRecDepth 20000 in
theorem gm_130 : Cond.instanceMethod pm_y130 ∈ pm_GW := gw_of (tw_2 (List.mem_of_getElem? (i := 220) rfl)) rfl
set_option maxRecDepth 20000 in
theorem gs_130 : Cond.selects pm_y130.cls pm_y130 pm_y130 ∈ pm_GW := gw_sel (q := (pm_y130, 8)) (tq_1 (List.mem_of_getElem? (i := 4) rfl))
set_option maxRecDepth 20000 in
theorem gc_131 : Cond.code pm_y131 prog_4_method_6_code 2 ((some FieldType.boolean)) ∈ pm_GW := gw_of (tw_3 (List.mem_of_getElem? (i := 36) rfl)) rfl
set_option maxRecDepth 20000 in
theorem gm_131 : Cond.instanceMethod pm_y131 ∈ pm_GW := gw_of (tw_3 (List.mem_of_getElem? (i := 35) rfl)) rfl
set_option maxRecDepth 20000 in
theorem gs_131 : Cond.selects pm_y131.cls pm_y131 pm_y131 ∈ pm_GW := gw_sel (q := (pm_y131, 8)) (tq_1 (List.mem_of_getElem? (i := 7) rfl))
set_option maxRecDepth 20000 in
theorem gc_132 : Cond.code pm_y132 prog_4_method_7_code 3 ((some FieldType.boolean)) ∈ pm_GW := gw_of (tw_3 (List.mem_of_getElem? (i := 40) rfl)) rfl
set_option maxRecDepth 20000 in
theorem gm_132 : Cond.instanceMethod pm_y132 ∈ pm_GW := gw_of (tw_3 (List.mem_of_getElem? (i := 39) rfl)) rfl
set_option maxRecDepth 20000 in
theorem gs_132 : Cond.selects pm_y132.cls pm_y132 pm_y132 ∈ pm_GW := gw_sel (q := (pm_y132, 8)) (tq_1 (List.mem_of_getElem? (i := 8) rfl))
set_option maxRecDepth 20000 in
theorem gc_133 : Cond.code pm_y133 prog_4_method_8_code 3 ((some FieldType.boolean)) ∈ pm_GW := gw_of (tw_3 (List.mem_of_getElem? (i := 0) rfl)) rfl
set_option maxRecDepth 20000 in
theorem gm_133 : Cond.instanceMethod pm_y133 ∈ pm_GW := gw_of (tw_2 (List.mem_of_getElem? (i := 239) rfl)) rfl
set_option maxRecDepth 20000 in
theorem gs_133 : Cond.selects pm_y133.cls pm_y133 pm_y133 ∈ pm_GW := gw_sel (q := (pm_y133, 8)) (tq_1 (List.mem_of_getElem? (i := 5) rfl))
set_option maxRecDepth 20000 in
theorem gc_134 : Cond.code pm_y134 prog_4_method_9_code 2 ((some FieldType.boolean)) ∈ pm_GW := gw_of (tw_3 (List.mem_of_getElem? (i := 19) rfl)) rfl
set_option maxRecDepth 20000 in
theorem gm_134 : Cond.instanceMethod pm_y134 ∈ pm_GW := gw_of (tw_3 (List.mem_of_getElem? (i := 18) rfl)) rfl
set_option maxRecDepth 20000 in
theorem gs_134 : Cond.selects pm_y134.cls pm_y134 pm_y134 ∈ pm_GW := gw_sel (q := (pm_y134, 8)) (tq_1 (List.mem_of_getElem? (i := 6) rfl))
set_option maxRecDepth 20000 in
theorem gc_135 : Cond.code pm_y135 prog_5_method_1_code 1 (none) ∈ pm_GW := gw_of (tw_1 (List.mem_of_getElem? (i := 132) rfl)) rfl
set_option maxRecDepth 20000 in
theorem gm_135 : Cond.instanceMethod pm_y135 ∈ pm_GW := gw_of (tw_1 (List.mem_of_getElem? (i := 131) rfl)) rfl
set_option maxRecDepth 20000 in
theorem gc_136 : Cond.code pm_y136 prog_5_method_2_code 1 ((some (FieldType.object "ArmExpander$Row"))) ∈ pm_GW := gw_of (tw_4 (List.mem_of_getElem? (i := 208) rfl)) rfl
set_option maxRecDepth 20000 in
theorem gm_136 : Cond.instanceMethod pm_y136 ∈ pm_GW := gw_of (tw_4 (List.mem_of_getElem? (i := 206) rfl)) rfl
set_option maxRecDepth 20000 in
theorem gs_136 : Cond.selects pm_y136.cls pm_y136 pm_y136 ∈ pm_GW := gw_of (tw_4 (List.mem_of_getElem? (i := 207) rfl)) rfl
set_option maxRecDepth 20000 in
theorem gc_137 : Cond.code pm_y137 prog_5_method_3_code 1 ((some FieldType.int)) ∈ pm_GW := gw_of (tw_4 (List.mem_of_getElem? (i := 238) rfl)) rfl
set_option maxRecDepth 20000 in
theorem gm_137 : Cond.instanceMethod pm_y137 ∈ pm_GW := gw_of (tw_4 (List.mem_of_getElem? (i := 236) rfl)) rfl
set_option maxRecDepth 20000 in
theorem gs_137 : Cond.selects pm_y137.cls pm_y137 pm_y137 ∈ pm_GW := gw_of (tw_4 (List.mem_of_getElem? (i := 237) rfl)) rfl
set_option maxRecDepth 20000 in
theorem gc_138 : Cond.code pm_y138 prog_5_method_4_code 2 ((some FieldType.int)) ∈ pm_GW := gw_of (tw_5 (List.mem_of_getElem? (i := 6) rfl)) rfl
set_option maxRecDepth 20000 in
theorem gm_138 : Cond.instanceMethod pm_y138 ∈ pm_GW := gw_of (tw_5 (List.mem_of_getElem? (i := 4) rfl)) rfl
set_option maxRecDepth 20000 in
theorem gs_138 : Cond.selects pm_y138.cls pm_y138 pm_y138 ∈ pm_GW := gw_of (tw_5 (List.mem_of_getElem? (i := 5) rfl)) rfl
set_option maxRecDepth 20000 in
theorem gc_139 : Cond.code pm_y139 prog_5_method_5_code 3 ((some FieldType.int)) ∈ pm_GW := gw_of (tw_3 (List.mem_of_getElem? (i := 200) rfl)) rfl
set_option maxRecDepth 20000 in
theorem gm_139 : Cond.instanceMethod pm_y139 ∈ pm_GW := gw_of (tw_3 (List.mem_of_getElem? (i := 198) rfl)) rfl
set_option maxRecDepth 20000 in
theorem gs_139 : Cond.selects pm_y139.cls pm_y139 pm_y139 ∈ pm_GW := gw_of (tw_3 (List.mem_of_getElem? (i := 199) rfl)) rfl
set_option maxRecDepth 20000 in
theorem gc_140 : Cond.code pm_y140 prog_5_method_6_code 4 ((some FieldType.int)) ∈ pm_GW := gw_of (tw_3 (List.mem_of_getElem? (i := 209) rfl)) rfl
set_option maxRecDepth 20000 in
theorem gm_140 : Cond.instanceMethod pm_y140 ∈ pm_GW := gw_of (tw_3 (List.mem_of_getElem? (i := 208) rfl)) rfl
set_option maxRecDepth 20000 in
theorem gs_140 : Cond.selects pm_y140.cls pm_y140 pm_y140 ∈ pm_GW := gw_sel (q := (pm_y140, 7)) (tq_1 (List.mem_of_getElem? (i := 14) rfl))
set_option maxRecDepth 20000 in
theorem gc_141 : Cond.code pm_y141 prog_5_method_7_code 3 ((some FieldType.boolean)) ∈ pm_GW := gw_of (tw_3 (List.mem_of_getElem? (i := 214) rfl)) rfl
set_option maxRecDepth 20000 in
theorem gm_141 : Cond.instanceMethod pm_y141 ∈ pm_GW := gw_of (tw_3 (List.mem_of_getElem? (i := 213) rfl)) rfl
set_option maxRecDepth 20000 in
theorem gs_141 : Cond.selects pm_y141.cls pm_y141 pm_y141 ∈ pm_GW := gw_sel (q := (pm_y141, 7)) (tq_1 (List.mem_of_getElem? (i := 15) rfl))
set_option maxRecDepth 20000 in
theorem gc_142 : Cond.code pm_y142 prog_5_method_8_code 9 ((some FieldType.int)) ∈ pm_GW := gw_of (tw_3 (List.mem_of_getElem? (i := 229) rfl)) rfl
set_option maxRecDepth 20000 in
theorem gm_142 : Cond.instanceMethod pm_y142 ∈ pm_GW := gw_of (tw_3 (List.mem_of_getElem? (i := 227) rfl)) rfl
set_option maxRecDepth 20000 in
theorem gs_142 : Cond.selects pm_y142.cls pm_y142 pm_y142 ∈ pm_GW := gw_of (tw_3 (List.mem_of_getElem? (i := 228) rfl)) rfl
set_option maxRecDepth 20000 in
theorem gc_143 : Cond.code pm_y143 prog_5_method_9_code 4 ((some (FieldType.object "ArmExpander$Definition"))) ∈ pm_GW := gw_of (tw_4 (List.mem_of_getElem? (i := 3) rfl)) rfl
set_option maxRecDepth 20000 in
theorem gt_143 : Cond.static pm_y143 ∈ pm_GW := gw_of (tw_4 (List.mem_of_getElem? (i := 2) rfl)) rfl
set_option maxRecDepth 20000 in
theorem gc_144 : Cond.code pm_y144 prog_5_method_10_code 5 ((some FieldType.int)) ∈ pm_GW := gw_of (tw_4 (List.mem_of_getElem? (i := 108) rfl)) rfl
set_option maxRecDepth 20000 in
theorem gm_144 : Cond.instanceMethod pm_y144 ∈ pm_GW := gw_of (tw_4 (List.mem_of_getElem? (i := 107) rfl)) rfl
set_option maxRecDepth 20000 in
theorem gs_144 : Cond.selects pm_y144.cls pm_y144 pm_y144 ∈ pm_GW := gw_sel (q := (pm_y144, 7)) (tq_2 (List.mem_of_getElem? (i := 9) rfl))
set_option maxRecDepth 20000 in
theorem gc_145 : Cond.code pm_y145 prog_5_method_11_code 6 ((some FieldType.int)) ∈ pm_GW := gw_of (tw_4 (List.mem_of_getElem? (i := 17) rfl)) rfl
set_option maxRecDepth 20000 in
theorem gm_145 : Cond.instanceMethod pm_y145 ∈ pm_GW := gw_of (tw_4 (List.mem_of_getElem? (i := 16) rfl)) rfl
set_option maxRecDepth 20000 in
theorem gs_145 : Cond.selects pm_y145.cls pm_y145 pm_y145 ∈ pm_GW := gw_sel (q := (pm_y145, 7)) (tq_2 (List.mem_of_getElem? (i := 0) rfl))
set_option maxRecDepth 20000 in
theorem gc_146 : Cond.code pm_y146 prog_5_method_12_code 2 (none) ∈ pm_GW := gw_of (tw_4 (List.mem_of_getElem? (i := 191) rfl)) rfl
set_option maxRecDepth 20000 in
theorem gm_146 : Cond.instanceMethod pm_y146 ∈ pm_GW := gw_of (tw_4 (List.mem_of_getElem? (i := 190) rfl)) rfl
set_option maxRecDepth 20000 in
theorem gs_146 : Cond.selects pm_y146.cls pm_y146 pm_y146 ∈ pm_GW := gw_sel (q := (pm_y146, 7)) (tq_2 (List.mem_of_getElem? (i := 14) rfl))
set_option maxRecDepth 20000 in
theorem gc_147 : Cond.code pm_y147 prog_6_method_1_code 1 (none) ∈ pm_GW := gw_of (tw_1 (List.mem_of_getElem? (i := 140) rfl)) rfl
set_option maxRecDepth 20000 in
theorem gm_147 : Cond.instanceMethod pm_y147 ∈ pm_GW := gw_of (tw_1 (List.mem_of_getElem? (i := 139) rfl)) rfl
set_option maxRecDepth 20000 in
theorem gc_148 : Cond.code pm_y148 prog_6_method_2_code 1 ((some (FieldType.object "ArmExpander$Takings"))) ∈ pm_GW := gw_of (tw_4 (List.mem_of_getElem? (i := 122) rfl)) rfl
set_option maxRecDepth 20000 in
theorem gm_148 : Cond.instanceMethod pm_y148 ∈ pm_GW := gw_of (tw_4 (List.mem_of_getElem? (i := 120) rfl)) rfl
set_option maxRecDepth 20000 in
theorem gs_148 : Cond.selects pm_y148.cls pm_y148 pm_y148 ∈ pm_GW := gw_of (tw_4 (List.mem_of_getElem? (i := 121) rfl)) rfl
set_option maxRecDepth 20000 in
theorem gc_149 : Cond.code pm_y149 prog_6_method_3_code 10 ((some FieldType.int)) ∈ pm_GW := gw_of (tw_4 (List.mem_of_getElem? (i := 22) rfl)) rfl
set_option maxRecDepth 20000 in
theorem gm_149 : Cond.instanceMethod pm_y149 ∈ pm_GW := gw_of (tw_4 (List.mem_of_getElem? (i := 20) rfl)) rfl
set_option maxRecDepth 20000 in
theorem gs_149 : Cond.selects pm_y149.cls pm_y149 pm_y149 ∈ pm_GW := gw_of (tw_4 (List.mem_of_getElem? (i := 21) rfl)) rfl
set_option maxRecDepth 20000 in
theorem gc_150 : Cond.code pm_y150 prog_6_method_4_code 2 ((some FieldType.int)) ∈ pm_GW := gw_of (tw_4 (List.mem_of_getElem? (i := 100) rfl)) rfl
set_option maxRecDepth 20000 in
theorem gm_150 : Cond.instanceMethod pm_y150 ∈ pm_GW := gw_of (tw_4 (List.mem_of_getElem? (i := 99) rfl)) rfl
set_option maxRecDepth 20000 in
theorem gs_150 : Cond.selects pm_y150.cls pm_y150 pm_y150 ∈ pm_GW := gw_sel (q := (pm_y150, 7)) (tq_2 (List.mem_of_getElem? (i := 8) rfl))
set_option maxRecDepth 20000 in
theorem gc_151 : Cond.code pm_y151 prog_6_method_5_code 7 ((some FieldType.int)) ∈ pm_GW := gw_of (tw_4 (List.mem_of_getElem? (i := 36) rfl)) rfl
set_option maxRecDepth 20000 in
theorem gm_151 : Cond.instanceMethod pm_y151 ∈ pm_GW := gw_of (tw_4 (List.mem_of_getElem? (i := 35) rfl)) rfl
set_option maxRecDepth 20000 in
theorem gs_151 : Cond.selects pm_y151.cls pm_y151 pm_y151 ∈ pm_GW := gw_sel (q := (pm_y151, 7)) (tq_2 (List.mem_of_getElem? (i := 1) rfl))
set_option maxRecDepth 20000 in
theorem gc_152 : Cond.code pm_y152 prog_6_method_6_code 2 ((some FieldType.boolean)) ∈ pm_GW := gw_of (tw_4 (List.mem_of_getElem? (i := 42) rfl)) rfl
set_option maxRecDepth 20000 in
theorem gt_152 : Cond.static pm_y152 ∈ pm_GW := gw_of (tw_4 (List.mem_of_getElem? (i := 41) rfl)) rfl
set_option maxRecDepth 20000 in
theorem gc_153 : Cond.code pm_y153 prog_6_method_7_code 3 ((some FieldType.int)) ∈ pm_GW := gw_of (tw_4 (List.mem_of_getElem? (i := 51) rfl)) rfl
set_option maxRecDepth 20000 in
theorem gm_153 : Cond.instanceMethod pm_y153 ∈ pm_GW := gw_of (tw_4 (List.mem_of_getElem? (i := 50) rfl)) rfl
set_option maxRecDepth 20000 in
theorem gs_153 : Cond.selects pm_y153.cls pm_y153 pm_y153 ∈ pm_GW := gw_sel (q := (pm_y153, 7)) (tq_2 (List.mem_of_getElem? (i := 2) rfl))
set_option maxRecDepth 20000 in
theorem gc_154 : Cond.code pm_y154 prog_6_method_8_code 6 (none) ∈ pm_GW := gw_of (tw_4 (List.mem_of_getElem? (i := 87) rfl)) rfl
set_option maxRecDepth 20000 in
theorem gm_154 : Cond.instanceMethod pm_y154 ∈ pm_GW := gw_of (tw_4 (List.mem_of_getElem? (i := 86) rfl)) rfl
set_option maxRecDepth 20000 in
theorem gs_154 : Cond.selects pm_y154.cls pm_y154 pm_y154 ∈ pm_GW := gw_sel (q := (pm_y154, 7)) (tq_2 (List.mem_of_getElem? (i := 7) rfl))
set_option maxRecDepth 20000 in
theorem gc_155 : Cond.code pm_y155 prog_6_method_9_code 4 (none) ∈ pm_GW := gw_of (tw_4 (List.mem_of_getElem? (i := 65) rfl)) rfl
set_option maxRecDepth 20000 in
theorem gm_155 : Cond.instanceMethod pm_y155 ∈ pm_GW := gw_of (tw_4 (List.mem_of_getElem? (i := 64) rfl)) rfl
set_option maxRecDepth 20000 in
theorem gs_155 : Cond.selects pm_y155.cls pm_y155 pm_y155 ∈ pm_GW := gw_sel (q := (pm_y155, 7)) (tq_2 (List.mem_of_getElem? (i := 5) rfl))
set_option maxRecDepth 20000 in
theorem gc_156 : Cond.code pm_y156 prog_6_method_10_code 2 (none) ∈ pm_GW := gw_of (tw_4 (List.mem_of_getElem? (i := 83) rfl)) rfl
set_option maxRecDepth 20000 in
theorem gm_156 : Cond.instanceMethod pm_y156 ∈ pm_GW := gw_of (tw_4 (List.mem_of_getElem? (i := 82) rfl)) rfl
set_option maxRecDepth 20000 in
theorem gs_156 : Cond.selects pm_y156.cls pm_y156 pm_y156 ∈ pm_GW := gw_sel (q := (pm_y156, 7)) (tq_2 (List.mem_of_getElem? (i := 6) rfl))
set_option maxRecDepth 20000 in
theorem gc_157 : Cond.code pm_y157 prog_6_method_11_code 7 ((some FieldType.int)) ∈ pm_GW := gw_of (tw_4 (List.mem_of_getElem? (i := 55) rfl)) rfl
set_option maxRecDepth 20000 in
theorem gm_157 : Cond.instanceMethod pm_y157 ∈ pm_GW := gw_of (tw_4 (List.mem_of_getElem? (i := 54) rfl)) rfl
set_option maxRecDepth 20000 in
theorem gs_157 : Cond.selects pm_y157.cls pm_y157 pm_y157 ∈ pm_GW := gw_sel (q := (pm_y157, 7)) (tq_2 (List.mem_of_getElem? (i := 3) rfl))
set_option maxRecDepth 20000 in
theorem gc_158 : Cond.code pm_y158 prog_6_method_12_code 5 ((some FieldType.int)) ∈ pm_GW := gw_of (tw_4 (List.mem_of_getElem? (i := 59) rfl)) rfl
set_option maxRecDepth 20000 in
theorem gm_158 : Cond.instanceMethod pm_y158 ∈ pm_GW := gw_of (tw_4 (List.mem_of_getElem? (i := 58) rfl)) rfl
set_option maxRecDepth 20000 in
theorem gs_158 : Cond.selects pm_y158.cls pm_y158 pm_y158 ∈ pm_GW := gw_sel (q := (pm_y158, 7)) (tq_2 (List.mem_of_getElem? (i := 4) rfl))
set_option maxRecDepth 20000 in
theorem gc_159 : Cond.code pm_y159 prog_7_method_1_code 1 (none) ∈ pm_GW := gw_of (tw_1 (List.mem_of_getElem? (i := 59) rfl)) rfl
set_option maxRecDepth 20000 in
theorem gm_159 : Cond.instanceMethod pm_y159 ∈ pm_GW := gw_of (tw_1 (List.mem_of_getElem? (i := 58) rfl)) rfl
set_option maxRecDepth 20000 in
theorem gc_160 : Cond.code pm_y160 prog_7_method_2_code 1 (none) ∈ pm_GW := gw_of (tw_2 (List.mem_of_getElem? (i := 97) rfl)) rfl
set_option maxRecDepth 20000 in
theorem gm_160 : Cond.instanceMethod pm_y160 ∈ pm_GW := gw_of (tw_2 (List.mem_of_getElem? (i := 95) rfl)) rfl
set_option maxRecDepth 20000 in
theorem gs_160 : Cond.selects pm_y160.cls pm_y160 pm_y160 ∈ pm_GW := gw_of (tw_2 (List.mem_of_getElem? (i := 96) rfl)) rfl
set_option maxRecDepth 20000 in
theorem gc_161 : Cond.code pm_y161 prog_7_method_3_code 1 ((some FieldType.boolean)) ∈ pm_GW := gw_of (tw_3 (List.mem_of_getElem? (i := 52) rfl)) rfl
set_option maxRecDepth 20000 in
theorem gm_161 : Cond.instanceMethod pm_y161 ∈ pm_GW := gw_of (tw_3 (List.mem_of_getElem? (i := 50) rfl)) rfl
set_option maxRecDepth 20000 in
theorem gs_161 : Cond.selects pm_y161.cls pm_y161 pm_y161 ∈ pm_GW := gw_of (tw_3 (List.mem_of_getElem? (i := 51) rfl)) rfl
set_option maxRecDepth 20000 in
theorem gc_162 : Cond.code pm_y162 prog_7_method_4_code 3 ((some FieldType.boolean)) ∈ pm_GW := gw_of (tw_2 (List.mem_of_getElem? (i := 229) rfl)) rfl
set_option maxRecDepth 20000 in
theorem gm_162 : Cond.instanceMethod pm_y162 ∈ pm_GW := gw_of (tw_2 (List.mem_of_getElem? (i := 227) rfl)) rfl
set_option maxRecDepth 20000 in
theorem gs_162 : Cond.selects pm_y162.cls pm_y162 pm_y162 ∈ pm_GW := gw_of (tw_2 (List.mem_of_getElem? (i := 228) rfl)) rfl
set_option maxRecDepth 20000 in
theorem gc_163 : Cond.code pm_y163 prog_7_method_5_code 2 ((some FieldType.int)) ∈ pm_GW := gw_of (tw_3 (List.mem_of_getElem? (i := 44) rfl)) rfl
set_option maxRecDepth 20000 in
theorem gm_163 : Cond.instanceMethod pm_y163 ∈ pm_GW := gw_of (tw_3 (List.mem_of_getElem? (i := 42) rfl)) rfl
set_option maxRecDepth 20000 in
theorem gs_163 : Cond.selects pm_y163.cls pm_y163 pm_y163 ∈ pm_GW := gw_of (tw_3 (List.mem_of_getElem? (i := 43) rfl)) rfl
set_option maxRecDepth 20000 in
theorem gc_164 : Cond.code pm_y164 prog_8_method_1_code 1 (none) ∈ pm_GW := gw_of (tw_1 (List.mem_of_getElem? (i := 223) rfl)) rfl
set_option maxRecDepth 20000 in
theorem gm_164 : Cond.instanceMethod pm_y164 ∈ pm_GW := gw_of (tw_1 (List.mem_of_getElem? (i := 222) rfl)) rfl
set_option maxRecDepth 20000 in
theorem gc_165 : Cond.code pm_y165 prog_8_method_2_code 1 (none) ∈ pm_GW := gw_of (tw_3 (List.mem_of_getElem? (i := 204) rfl)) rfl
set_option maxRecDepth 20000 in
theorem gm_165 : Cond.instanceMethod pm_y165 ∈ pm_GW := gw_of (tw_3 (List.mem_of_getElem? (i := 202) rfl)) rfl
set_option maxRecDepth 20000 in
theorem gs_165 : Cond.selects pm_y165.cls pm_y165 pm_y165 ∈ pm_GW := gw_of (tw_3 (List.mem_of_getElem? (i := 203) rfl)) rfl
set_option maxRecDepth 20000 in
theorem gc_166 : Cond.code pm_y166 prog_8_method_3_code 1 ((some FieldType.int)) ∈ pm_GW := gw_of (tw_4 (List.mem_of_getElem? (i := 183) rfl)) rfl
set_option maxRecDepth 20000 in
theorem gm_166 : Cond.instanceMethod pm_y166 ∈ pm_GW := gw_of (tw_4 (List.mem_of_getElem? (i := 181) rfl)) rfl
set_option maxRecDepth 20000 in
theorem gs_166 : Cond.selects pm_y166.cls pm_y166 pm_y166 ∈ pm_GW := gw_of (tw_4 (List.mem_of_getElem? (i := 182) rfl)) rfl
set_option maxRecDepth 20000 in
theorem gc_167 : Cond.code pm_y167 prog_8_method_4_code 1 ((some FieldType.boolean)) ∈ pm_GW := gw_of (tw_4 (List.mem_of_getElem? (i := 187) rfl)) rfl
set_option maxRecDepth 20000 in
theorem gm_167 : Cond.instanceMethod pm_y167 ∈ pm_GW := gw_of (tw_4 (List.mem_of_getElem? (i := 185) rfl)) rfl
set_option maxRecDepth 20000 in
theorem gs_167 : Cond.selects pm_y167.cls pm_y167 pm_y167 ∈ pm_GW := gw_of (tw_4 (List.mem_of_getElem? (i := 186) rfl)) rfl
set_option maxRecDepth 20000 in
theorem gc_168 : Cond.code pm_y168 prog_8_method_5_code 3 (none) ∈ pm_GW := gw_of (tw_3 (List.mem_of_getElem? (i := 223) rfl)) rfl
set_option maxRecDepth 20000 in
theorem gm_168 : Cond.instanceMethod pm_y168 ∈ pm_GW := gw_of (tw_3 (List.mem_of_getElem? (i := 221) rfl)) rfl
set_option maxRecDepth 20000 in
theorem gs_168 : Cond.selects pm_y168.cls pm_y168 pm_y168 ∈ pm_GW := gw_of (tw_3 (List.mem_of_getElem? (i := 222) rfl)) rfl
set_option maxRecDepth 20000 in
theorem gc_169 : Cond.code pm_y169 prog_8_method_6_code 5 (none) ∈ pm_GW := gw_of (tw_4 (List.mem_of_getElem? (i := 112) rfl)) rfl
set_option maxRecDepth 20000 in
theorem gm_169 : Cond.instanceMethod pm_y169 ∈ pm_GW := gw_of (tw_4 (List.mem_of_getElem? (i := 110) rfl)) rfl
set_option maxRecDepth 20000 in
theorem gs_169 : Cond.selects pm_y169.cls pm_y169 pm_y169 ∈ pm_GW := gw_of (tw_4 (List.mem_of_getElem? (i := 111) rfl)) rfl
set_option maxRecDepth 20000 in
theorem gc_170 : Cond.code pm_y170 prog_8_method_7_code 2 ((some FieldType.int)) ∈ pm_GW := gw_of (tw_4 (List.mem_of_getElem? (i := 0) rfl)) rfl
set_option maxRecDepth 20000 in
theorem gm_170 : Cond.instanceMethod pm_y170 ∈ pm_GW := gw_of (tw_3 (List.mem_of_getElem? (i := 238) rfl)) rfl
set_option maxRecDepth 20000 in
theorem gs_170 : Cond.selects pm_y170.cls pm_y170 pm_y170 ∈ pm_GW := gw_of (tw_3 (List.mem_of_getElem? (i := 239) rfl)) rfl
set_option maxRecDepth 20000 in
theorem gc_171 : Cond.code pm_y171 prog_8_method_8_code 2 ((some FieldType.int)) ∈ pm_GW := gw_of (tw_4 (List.mem_of_getElem? (i := 117) rfl)) rfl
set_option maxRecDepth 20000 in
theorem gm_171 : Cond.instanceMethod pm_y171 ∈ pm_GW := gw_of (tw_4 (List.mem_of_getElem? (i := 115) rfl)) rfl
set_option maxRecDepth 20000 in
theorem gs_171 : Cond.selects pm_y171.cls pm_y171 pm_y171 ∈ pm_GW := gw_of (tw_4 (List.mem_of_getElem? (i := 116) rfl)) rfl
set_option maxRecDepth 20000 in
theorem gc_172 : Cond.code pm_y172 prog_8_method_9_code 4 ((some FieldType.int)) ∈ pm_GW := gw_of (tw_4 (List.mem_of_getElem? (i := 12) rfl)) rfl
set_option maxRecDepth 20000 in
theorem gm_172 : Cond.instanceMethod pm_y172 ∈ pm_GW := gw_of (tw_4 (List.mem_of_getElem? (i := 10) rfl)) rfl
set_option maxRecDepth 20000 in
theorem gs_172 : Cond.selects pm_y172.cls pm_y172 pm_y172 ∈ pm_GW := gw_of (tw_4 (List.mem_of_getElem? (i := 11) rfl)) rfl
set_option maxRecDepth 20000 in
theorem gc_173 : Cond.code pm_y173 prog_8_method_10_code 3 ((some FieldType.int)) ∈ pm_GW := gw_of (tw_3 (List.mem_of_getElem? (i := 233) rfl)) rfl
set_option maxRecDepth 20000 in
theorem gm_173 : Cond.instanceMethod pm_y173 ∈ pm_GW := gw_of (tw_3 (List.mem_of_getElem? (i := 231) rfl)) rfl
set_option maxRecDepth 20000 in
theorem gs_173 : Cond.selects pm_y173.cls pm_y173 pm_y173 ∈ pm_GW := gw_of (tw_3 (List.mem_of_getElem? (i := 232) rfl)) rfl
set_option maxRecDepth 20000 in
theorem gc_174 : Cond.code pm_y174 prog_8_method_11_code 4 ((some FieldType.int)) ∈ pm_GW := gw_of (tw_4 (List.mem_of_getElem? (i := 222) rfl)) rfl
set_option maxRecDepth 20000 in
theorem gm_174 : Cond.instanceMethod pm_y174 ∈ pm_GW := gw_of (tw_4 (List.mem_of_getElem? (i := 220) rfl)) rfl
set_option maxRecDepth 20000 in
theorem gs_174 : Cond.selects pm_y174.cls pm_y174 pm_y174 ∈ pm_GW := gw_of (tw_4 (List.mem_of_getElem? (i := 221) rfl)) rfl
set_option maxRecDepth 20000 in
theorem gc_175 : Cond.code pm_y175 prog_8_method_12_code 2 ((some FieldType.boolean)) ∈ pm_GW := gw_of (tw_4 (List.mem_of_getElem? (i := 226) rfl)) rfl
set_option maxRecDepth 20000 in
theorem gm_175 : Cond.instanceMethod pm_y175 ∈ pm_GW := gw_of (tw_4 (List.mem_of_getElem? (i := 225) rfl)) rfl
set_option maxRecDepth 20000 in
theorem gs_175 : Cond.selects pm_y175.cls pm_y175 pm_y175 ∈ pm_GW := gw_sel (q := (pm_y175, 4)) (tq_2 (List.mem_of_getElem? (i := 15) rfl))
set_option maxRecDepth 20000 in
theorem gc_176 : Cond.code pm_y176 prog_8_method_13_code 3 ((some FieldType.boolean)) ∈ pm_GW := gw_of (tw_4 (List.mem_of_getElem? (i := 230) rfl)) rfl
set_option maxRecDepth 20000 in
theorem gm_176 : Cond.instanceMethod pm_y176 ∈ pm_GW := gw_of (tw_4 (List.mem_of_getElem? (i := 229) rfl)) rfl
set_option maxRecDepth 20000 in
theorem gs_176 : Cond.selects pm_y176.cls pm_y176 pm_y176 ∈ pm_GW := gw_sel (q := (pm_y176, 4)) (tq_3 (List.mem_of_getElem? (i := 0) rfl))
set_option maxRecDepth 20000 in
theorem gc_177 : Cond.code pm_y177 prog_9_method_1_code 1 (none) ∈ pm_GW := gw_of (tw_1 (List.mem_of_getElem? (i := 146) rfl)) rfl
set_option maxRecDepth 20000 in
theorem gm_177 : Cond.instanceMethod pm_y177 ∈ pm_GW := gw_of (tw_1 (List.mem_of_getElem? (i := 145) rfl)) rfl
set_option maxRecDepth 20000 in
theorem gc_178 : Cond.code pm_y178 prog_9_method_2_code 1 (none) ∈ pm_GW := gw_of (tw_4 (List.mem_of_getElem? (i := 28) rfl)) rfl
set_option maxRecDepth 20000 in
theorem gm_178 : Cond.instanceMethod pm_y178 ∈ pm_GW := gw_of (tw_4 (List.mem_of_getElem? (i := 26) rfl)) rfl
set_option maxRecDepth 20000 in
theorem gs_178 : Cond.selects pm_y178.cls pm_y178 pm_y178 ∈ pm_GW := gw_of (tw_4 (List.mem_of_getElem? (i := 27) rfl)) rfl
set_option maxRecDepth 20000 in
theorem gc_179 : Cond.code pm_y179 prog_9_method_3_code 5 (none) ∈ pm_GW := gw_of (tw_4 (List.mem_of_getElem? (i := 96) rfl)) rfl
set_option maxRecDepth 20000 in
theorem gm_179 : Cond.instanceMethod pm_y179 ∈ pm_GW := gw_of (tw_4 (List.mem_of_getElem? (i := 94) rfl)) rfl
set_option maxRecDepth 20000 in
theorem gs_179 : Cond.selects pm_y179.cls pm_y179 pm_y179 ∈ pm_GW := gw_of (tw_4 (List.mem_of_getElem? (i := 95) rfl)) rfl
set_option maxRecDepth 20000 in
theorem gc_180 : Cond.code pm_y180 prog_9_method_4_code 3 (none) ∈ pm_GW := gw_of (tw_4 (List.mem_of_getElem? (i := 104) rfl)) rfl
set_option maxRecDepth 20000 in
theorem gm_180 : Cond.instanceMethod pm_y180 ∈ pm_GW := gw_of (tw_4 (List.mem_of_getElem? (i := 102) rfl)) rfl
set_option maxRecDepth 20000 in
theorem gs_180 : Cond.selects pm_y180.cls pm_y180 pm_y180 ∈ pm_GW := gw_of (tw_4 (List.mem_of_getElem? (i := 103) rfl)) rfl
set_option maxRecDepth 20000 in
theorem gc_181 : Cond.code pm_y181 prog_9_method_5_code 2 ((some FieldType.int)) ∈ pm_GW := gw_of (tw_4 (List.mem_of_getElem? (i := 155) rfl)) rfl
set_option maxRecDepth 20000 in
theorem gm_181 : Cond.instanceMethod pm_y181 ∈ pm_GW := gw_of (tw_4 (List.mem_of_getElem? (i := 153) rfl)) rfl
set_option maxRecDepth 20000 in
theorem gs_181 : Cond.selects pm_y181.cls pm_y181 pm_y181 ∈ pm_GW := gw_of (tw_4 (List.mem_of_getElem? (i := 154) rfl)) rfl
set_option maxRecDepth 20000 in
theorem gc_182 : Cond.code pm_y182 prog_9_method_6_code 5 ((some FieldType.int)) ∈ pm_GW := gw_of (tw_4 (List.mem_of_getElem? (i := 159) rfl)) rfl
set_option maxRecDepth 20000 in
theorem gm_182 : Cond.instanceMethod pm_y182 ∈ pm_GW := gw_of (tw_4 (List.mem_of_getElem? (i := 157) rfl)) rfl
set_option maxRecDepth 20000 in
theorem gs_182 : Cond.selects pm_y182.cls pm_y182 pm_y182 ∈ pm_GW := gw_of (tw_4 (List.mem_of_getElem? (i := 158) rfl)) rfl
set_option maxRecDepth 20000 in
theorem gc_183 : Cond.code pm_y183 prog_9_method_7_code 6 ((some FieldType.int)) ∈ pm_GW := gw_of (tw_4 (List.mem_of_getElem? (i := 170) rfl)) rfl
set_option maxRecDepth 20000 in
theorem gm_183 : Cond.instanceMethod pm_y183 ∈ pm_GW := gw_of (tw_4 (List.mem_of_getElem? (i := 168) rfl)) rfl
set_option maxRecDepth 20000 in
theorem gs_183 : Cond.selects pm_y183.cls pm_y183 pm_y183 ∈ pm_GW := gw_of (tw_4 (List.mem_of_getElem? (i := 169) rfl)) rfl
set_option maxRecDepth 20000 in
theorem gc_184 : Cond.code pm_y184 prog_9_method_8_code 2 ((some FieldType.int)) ∈ pm_GW := gw_of (tw_4 (List.mem_of_getElem? (i := 174) rfl)) rfl
set_option maxRecDepth 20000 in
theorem gm_184 : Cond.instanceMethod pm_y184 ∈ pm_GW := gw_of (tw_4 (List.mem_of_getElem? (i := 172) rfl)) rfl
set_option maxRecDepth 20000 in
theorem gs_184 : Cond.selects pm_y184.cls pm_y184 pm_y184 ∈ pm_GW := gw_of (tw_4 (List.mem_of_getElem? (i := 173) rfl)) rfl
set_option maxRecDepth 20000 in
theorem gc_185 : Cond.code pm_y185 prog_9_method_9_code 2 ((some FieldType.int)) ∈ pm_GW := gw_of (tw_4 (List.mem_of_getElem? (i := 178) rfl)) rfl
set_option maxRecDepth 20000 in
theorem gm_185 : Cond.instanceMethod pm_y185 ∈ pm_GW := gw_of (tw_4 (List.mem_of_getElem? (i := 176) rfl)) rfl
set_option maxRecDepth 20000 in
theorem gs_185 : Cond.selects pm_y185.cls pm_y185 pm_y185 ∈ pm_GW := gw_of (tw_4 (List.mem_of_getElem? (i := 177) rfl)) rfl
set_option maxRecDepth 20000 in
theorem gc_186 : Cond.code pm_y186 prog_10_method_1_code 1 (none) ∈ pm_GW := gw_of (tw_1 (List.mem_of_getElem? (i := 106) rfl)) rfl
set_option maxRecDepth 20000 in
theorem gm_186 : Cond.instanceMethod pm_y186 ∈ pm_GW := gw_of (tw_1 (List.mem_of_getElem? (i := 105) rfl)) rfl
set_option maxRecDepth 20000 in
theorem gc_187 : Cond.code pm_y187 prog_10_method_2_code 2 (none) ∈ pm_GW := gw_of (tw_3 (List.mem_of_getElem? (i := 135) rfl)) rfl
set_option maxRecDepth 20000 in
theorem gm_187 : Cond.instanceMethod pm_y187 ∈ pm_GW := gw_of (tw_3 (List.mem_of_getElem? (i := 133) rfl)) rfl
set_option maxRecDepth 20000 in
theorem gs_187 : Cond.selects pm_y187.cls pm_y187 pm_y187 ∈ pm_GW := gw_of (tw_3 (List.mem_of_getElem? (i := 134) rfl)) rfl
set_option maxRecDepth 20000 in
theorem gc_188 : Cond.code pm_y188 prog_10_method_3_code 2 ((some FieldType.int)) ∈ pm_GW := gw_of (tw_3 (List.mem_of_getElem? (i := 170) rfl)) rfl
set_option maxRecDepth 20000 in
theorem gm_188 : Cond.instanceMethod pm_y188 ∈ pm_GW := gw_of (tw_3 (List.mem_of_getElem? (i := 168) rfl)) rfl
set_option maxRecDepth 20000 in
theorem gs_188 : Cond.selects pm_y188.cls pm_y188 pm_y188 ∈ pm_GW := gw_of (tw_3 (List.mem_of_getElem? (i := 169) rfl)) rfl
set_option maxRecDepth 20000 in
theorem gc_189 : Cond.code pm_y189 prog_10_method_4_code 3 ((some FieldType.int)) ∈ pm_GW := gw_of (tw_4 (List.mem_of_getElem? (i := 73) rfl)) rfl
set_option maxRecDepth 20000 in
theorem gm_189 : Cond.instanceMethod pm_y189 ∈ pm_GW := gw_of (tw_4 (List.mem_of_getElem? (i := 71) rfl)) rfl
set_option maxRecDepth 20000 in
theorem gs_189 : Cond.selects pm_y189.cls pm_y189 pm_y189 ∈ pm_GW := gw_of (tw_4 (List.mem_of_getElem? (i := 72) rfl)) rfl
set_option maxRecDepth 20000 in
theorem gc_190 : Cond.code pm_y190 prog_10_method_5_code 1 (none) ∈ pm_GW := gw_of (tw_3 (List.mem_of_getElem? (i := 142) rfl)) rfl
set_option maxRecDepth 20000 in
theorem gm_190 : Cond.instanceMethod pm_y190 ∈ pm_GW := gw_of (tw_3 (List.mem_of_getElem? (i := 140) rfl)) rfl
set_option maxRecDepth 20000 in
theorem gs_190 : Cond.selects pm_y190.cls pm_y190 pm_y190 ∈ pm_GW := gw_of (tw_3 (List.mem_of_getElem? (i := 141) rfl)) rfl
set_option maxRecDepth 20000 in
theorem gc_191 : Cond.code pm_y191 prog_10_method_6_code 4 (none) ∈ pm_GW := gw_of (tw_4 (List.mem_of_getElem? (i := 69) rfl)) rfl
set_option maxRecDepth 20000 in
theorem gm_191 : Cond.instanceMethod pm_y191 ∈ pm_GW := gw_of (tw_4 (List.mem_of_getElem? (i := 67) rfl)) rfl
set_option maxRecDepth 20000 in
theorem gs_191 : Cond.selects pm_y191.cls pm_y191 pm_y191 ∈ pm_GW := gw_of (tw_4 (List.mem_of_getElem? (i := 68) rfl)) rfl
set_option maxRecDepth 20000 in
theorem gc_192 : Cond.code pm_y192 prog_10_method_7_code 2 (none) ∈ pm_GW := gw_of (tw_3 (List.mem_of_getElem? (i := 146) rfl)) rfl
set_option maxRecDepth 20000 in
theorem gm_192 : Cond.instanceMethod pm_y192 ∈ pm_GW := gw_of (tw_3 (List.mem_of_getElem? (i := 144) rfl)) rfl
set_option maxRecDepth 20000 in
theorem gs_192 : Cond.selects pm_y192.cls pm_y192 pm_y192 ∈ pm_GW := gw_of (tw_3 (List.mem_of_getElem? (i := 145) rfl)) rfl
set_option maxRecDepth 20000 in
theorem gc_193 : Cond.code pm_y193 prog_10_method_8_code 3 (none) ∈ pm_GW := gw_of (tw_4 (List.mem_of_getElem? (i := 79) rfl)) rfl
set_option maxRecDepth 20000 in
theorem gm_193 : Cond.instanceMethod pm_y193 ∈ pm_GW := gw_of (tw_4 (List.mem_of_getElem? (i := 77) rfl)) rfl
set_option maxRecDepth 20000 in
theorem gs_193 : Cond.selects pm_y193.cls pm_y193 pm_y193 ∈ pm_GW := gw_of (tw_4 (List.mem_of_getElem? (i := 78) rfl)) rfl
set_option maxRecDepth 20000 in
theorem gc_194 : Cond.code pm_y194 prog_10_method_9_code 9 (none) ∈ pm_GW := gw_of (tw_3 (List.mem_of_getElem? (i := 150) rfl)) rfl
set_option maxRecDepth 20000 in
theorem gm_194 : Cond.instanceMethod pm_y194 ∈ pm_GW := gw_of (tw_3 (List.mem_of_getElem? (i := 149) rfl)) rfl
set_option maxRecDepth 20000 in
theorem gs_194 : Cond.selects pm_y194.cls pm_y194 pm_y194 ∈ pm_GW := gw_sel (q := (pm_y194, 5)) (tq_1 (List.mem_of_getElem? (i := 12) rfl))
set_option maxRecDepth 20000 in
theorem gc_195 : Cond.code pm_y195 prog_10_method_10_code 4 (none) ∈ pm_GW := gw_of (tw_3 (List.mem_of_getElem? (i := 156) rfl)) rfl
set_option maxRecDepth 20000 in
theorem gm_195 : Cond.instanceMethod pm_y195 ∈ pm_GW := gw_of (tw_3 (List.mem_of_getElem? (i := 155) rfl)) rfl
set_option maxRecDepth 20000 in
theorem gs_195 : Cond.selects pm_y195.cls pm_y195 pm_y195 ∈ pm_GW := gw_sel (q := (pm_y195, 5)) (tq_1 (List.mem_of_getElem? (i := 13) rfl))
set_option maxRecDepth 20000 in
theorem gc_196 : Cond.code pm_y196 prog_11_method_1_code 1 (none) ∈ pm_GW := gw_of (tw_1 (List.mem_of_getElem? (i := 33) rfl)) rfl
set_option maxRecDepth 20000 in
theorem gm_196 : Cond.instanceMethod pm_y196 ∈ pm_GW := gw_of (tw_1 (List.mem_of_getElem? (i := 32) rfl)) rfl
set_option maxRecDepth 20000 in
theorem gc_197 : Cond.code pm_y197 prog_11_method_2_code 5 ((some FieldType.boolean)) ∈ pm_GW := gw_of (tw_2 (List.mem_of_getElem? (i := 78) rfl)) rfl
set_option maxRecDepth 20000 in
theorem gm_197 : Cond.instanceMethod pm_y197 ∈ pm_GW := gw_of (tw_2 (List.mem_of_getElem? (i := 76) rfl)) rfl
set_option maxRecDepth 20000 in
theorem gs_197 : Cond.selects pm_y197.cls pm_y197 pm_y197 ∈ pm_GW := gw_of (tw_2 (List.mem_of_getElem? (i := 77) rfl)) rfl
set_option maxRecDepth 20000 in
theorem gc_198 : Cond.code pm_y198 prog_11_method_3_code 1 (none) ∈ pm_GW := gw_of (tw_3 (List.mem_of_getElem? (i := 69) rfl)) rfl
set_option maxRecDepth 20000 in
theorem gm_198 : Cond.instanceMethod pm_y198 ∈ pm_GW := gw_of (tw_3 (List.mem_of_getElem? (i := 67) rfl)) rfl
set_option maxRecDepth 20000 in
theorem gs_198 : Cond.selects pm_y198.cls pm_y198 pm_y198 ∈ pm_GW := gw_of (tw_3 (List.mem_of_getElem? (i := 68) rfl)) rfl
set_option maxRecDepth 20000 in
theorem gc_199 : Cond.code pm_y199 prog_11_method_4_code 1 ((some FieldType.int)) ∈ pm_GW := gw_of (tw_3 (List.mem_of_getElem? (i := 65) rfl)) rfl
set_option maxRecDepth 20000 in
theorem gm_199 : Cond.instanceMethod pm_y199 ∈ pm_GW := gw_of (tw_3 (List.mem_of_getElem? (i := 63) rfl)) rfl
set_option maxRecDepth 20000 in
theorem gs_199 : Cond.selects pm_y199.cls pm_y199 pm_y199 ∈ pm_GW := gw_of (tw_3 (List.mem_of_getElem? (i := 64) rfl)) rfl
set_option maxRecDepth 20000 in
theorem gc_200 : Cond.code pm_y200 prog_11_method_5_code 1 ((some FieldType.int)) ∈ pm_GW := gw_of (tw_3 (List.mem_of_getElem? (i := 61) rfl)) rfl
set_option maxRecDepth 20000 in
theorem gm_200 : Cond.instanceMethod pm_y200 ∈ pm_GW := gw_of (tw_3 (List.mem_of_getElem? (i := 59) rfl)) rfl
set_option maxRecDepth 20000 in
theorem gs_200 : Cond.selects pm_y200.cls pm_y200 pm_y200 ∈ pm_GW := gw_of (tw_3 (List.mem_of_getElem? (i := 60) rfl)) rfl
set_option maxRecDepth 20000 in
theorem gc_201 : Cond.code pm_y201 prog_11_method_6_code 2 ((some FieldType.int)) ∈ pm_GW := gw_of (tw_2 (List.mem_of_getElem? (i := 101) rfl)) rfl
set_option maxRecDepth 20000 in
theorem gm_201 : Cond.instanceMethod pm_y201 ∈ pm_GW := gw_of (tw_2 (List.mem_of_getElem? (i := 99) rfl)) rfl
set_option maxRecDepth 20000 in
theorem gs_201 : Cond.selects pm_y201.cls pm_y201 pm_y201 ∈ pm_GW := gw_of (tw_2 (List.mem_of_getElem? (i := 100) rfl)) rfl
set_option maxRecDepth 20000 in
theorem gc_202 : Cond.code pm_y202 prog_11_method_7_code 3 ((some FieldType.int)) ∈ pm_GW := gw_of (tw_2 (List.mem_of_getElem? (i := 108) rfl)) rfl
set_option maxRecDepth 20000 in
theorem gm_202 : Cond.instanceMethod pm_y202 ∈ pm_GW := gw_of (tw_2 (List.mem_of_getElem? (i := 107) rfl)) rfl
set_option maxRecDepth 20000 in
theorem gs_202 : Cond.selects pm_y202.cls pm_y202 pm_y202 ∈ pm_GW := gw_sel (q := (pm_y202, 4)) (tq_1 (List.mem_of_getElem? (i := 0) rfl))
set_option maxRecDepth 20000 in
theorem gc_203 : Cond.code pm_y203 prog_11_method_8_code 4 ((some FieldType.int)) ∈ pm_GW := gw_of (tw_2 (List.mem_of_getElem? (i := 115) rfl)) rfl
set_option maxRecDepth 20000 in
theorem gm_203 : Cond.instanceMethod pm_y203 ∈ pm_GW := gw_of (tw_2 (List.mem_of_getElem? (i := 114) rfl)) rfl
set_option maxRecDepth 20000 in
theorem gs_203 : Cond.selects pm_y203.cls pm_y203 pm_y203 ∈ pm_GW := gw_sel (q := (pm_y203, 4)) (tq_1 (List.mem_of_getElem? (i := 1) rfl))
set_option maxRecDepth 20000 in
theorem gc_204 : Cond.code pm_y204 prog_11_method_9_code 2 ((some FieldType.int)) ∈ pm_GW := gw_of (tw_2 (List.mem_of_getElem? (i := 81) rfl)) rfl
set_option maxRecDepth 20000 in
theorem gt_204 : Cond.static pm_y204 ∈ pm_GW := gw_of (tw_2 (List.mem_of_getElem? (i := 80) rfl)) rfl
set_option maxRecDepth 20000 in
theorem gc_205 : Cond.code pm_y205 prog_11_method_10_code 1 ((some FieldType.boolean)) ∈ pm_GW := gw_of (tw_2 (List.mem_of_getElem? (i := 104) rfl)) rfl
set_option maxRecDepth 20000 in
theorem gt_205 : Cond.static pm_y205 ∈ pm_GW := gw_of (tw_2 (List.mem_of_getElem? (i := 103) rfl)) rfl
set_option maxRecDepth 20000 in
theorem gc_206 : Cond.code pm_y206 prog_11_method_11_code 1 ((some FieldType.boolean)) ∈ pm_GW := gw_of (tw_2 (List.mem_of_getElem? (i := 111) rfl)) rfl
set_option maxRecDepth 20000 in
theorem gt_206 : Cond.static pm_y206 ∈ pm_GW := gw_of (tw_2 (List.mem_of_getElem? (i := 110) rfl)) rfl
set_option maxRecDepth 20000 in
theorem gc_207 : Cond.code pm_y207 prog_12_method_1_code 1 (none) ∈ pm_GW := gw_of (tw_1 (List.mem_of_getElem? (i := 195) rfl)) rfl
set_option maxRecDepth 20000 in
theorem gm_207 : Cond.instanceMethod pm_y207 ∈ pm_GW := gw_of (tw_1 (List.mem_of_getElem? (i := 194) rfl)) rfl
set_option maxRecDepth 20000 in
theorem gc_208 : Cond.code pm_y208 prog_12_method_2_code 4 (none) ∈ pm_GW := gw_of (tw_4 (List.mem_of_getElem? (i := 126) rfl)) rfl
set_option maxRecDepth 20000 in
theorem gm_208 : Cond.instanceMethod pm_y208 ∈ pm_GW := gw_of (tw_4 (List.mem_of_getElem? (i := 124) rfl)) rfl
set_option maxRecDepth 20000 in
theorem gs_208 : Cond.selects pm_y208.cls pm_y208 pm_y208 ∈ pm_GW := gw_of (tw_4 (List.mem_of_getElem? (i := 125) rfl)) rfl
set_option maxRecDepth 20000 in
theorem gc_209 : Cond.code pm_y209 prog_12_method_3_code 4 ((some FieldType.boolean)) ∈ pm_GW := gw_of (tw_4 (List.mem_of_getElem? (i := 130) rfl)) rfl
set_option maxRecDepth 20000 in
theorem gm_209 : Cond.instanceMethod pm_y209 ∈ pm_GW := gw_of (tw_4 (List.mem_of_getElem? (i := 128) rfl)) rfl
set_option maxRecDepth 20000 in
theorem gs_209 : Cond.selects pm_y209.cls pm_y209 pm_y209 ∈ pm_GW := gw_of (tw_4 (List.mem_of_getElem? (i := 129) rfl)) rfl
set_option maxRecDepth 20000 in
theorem gc_210 : Cond.code pm_y210 prog_12_method_4_code 6 ((some FieldType.boolean)) ∈ pm_GW := gw_of (tw_4 (List.mem_of_getElem? (i := 137) rfl)) rfl
set_option maxRecDepth 20000 in
theorem gm_210 : Cond.instanceMethod pm_y210 ∈ pm_GW := gw_of (tw_4 (List.mem_of_getElem? (i := 136) rfl)) rfl
set_option maxRecDepth 20000 in
theorem gs_210 : Cond.selects pm_y210.cls pm_y210 pm_y210 ∈ pm_GW := gw_sel (q := (pm_y210, 7)) (tq_2 (List.mem_of_getElem? (i := 10) rfl))
set_option maxRecDepth 20000 in
theorem gc_211 : Cond.code pm_y211 prog_12_method_5_code 8 ((some FieldType.boolean)) ∈ pm_GW := gw_of (tw_4 (List.mem_of_getElem? (i := 142) rfl)) rfl
set_option maxRecDepth 20000 in
theorem gm_211 : Cond.instanceMethod pm_y211 ∈ pm_GW := gw_of (tw_4 (List.mem_of_getElem? (i := 141) rfl)) rfl
set_option maxRecDepth 20000 in
theorem gs_211 : Cond.selects pm_y211.cls pm_y211 pm_y211 ∈ pm_GW := gw_sel (q := (pm_y211, 7)) (tq_2 (List.mem_of_getElem? (i := 11) rfl))
set_option maxRecDepth 20000 in
theorem gc_212 : Cond.code pm_y212 prog_12_method_6_code 8 ((some FieldType.int)) ∈ pm_GW := gw_of (tw_4 (List.mem_of_getElem? (i := 146) rfl)) rfl
set_option maxRecDepth 20000 in
theorem gm_212 : Cond.instanceMethod pm_y212 ∈ pm_GW := gw_of (tw_4 (List.mem_of_getElem? (i := 145) rfl)) rfl
set_option maxRecDepth 20000 in
theorem gs_212 : Cond.selects pm_y212.cls pm_y212 pm_y212 ∈ pm_GW := gw_sel (q := (pm_y212, 7)) (tq_2 (List.mem_of_getElem? (i := 12) rfl))
set_option maxRecDepth 20000 in
theorem gc_213 : Cond.code pm_y213 prog_12_method_7_code 6 (none) ∈ pm_GW := gw_of (tw_4 (List.mem_of_getElem? (i := 166) rfl)) rfl
set_option maxRecDepth 20000 in
theorem gm_213 : Cond.instanceMethod pm_y213 ∈ pm_GW := gw_of (tw_4 (List.mem_of_getElem? (i := 165) rfl)) rfl
set_option maxRecDepth 20000 in
theorem gs_213 : Cond.selects pm_y213.cls pm_y213 pm_y213 ∈ pm_GW := gw_sel (q := (pm_y213, 7)) (tq_2 (List.mem_of_getElem? (i := 13) rfl))
set_option maxRecDepth 20000 in
theorem gc_215 : Cond.code pm_y215 prog_17_method_79_code 2 ((some FieldType.int)) ∈ pm_GW := gw_of (tw_2 (List.mem_of_getElem? (i := 120) rfl)) rfl
set_option maxRecDepth 20000 in
theorem gm_215 : Cond.instanceMethod pm_y215 ∈ pm_GW := gw_of (tw_2 (List.mem_of_getElem? (i := 118) rfl)) rfl
set_option maxRecDepth 20000 in
theorem gs_215 : Cond.selects pm_y215.cls pm_y215 pm_y215 ∈ pm_GW := gw_of (tw_2 (List.mem_of_getElem? (i := 119) rfl)) rfl
set_option maxRecDepth 20000 in
theorem gc_216 : Cond.code pm_y216 prog_17_method_80_code 3 ((some FieldType.int)) ∈ pm_GW := gw_of (tw_2 (List.mem_of_getElem? (i := 124) rfl)) rfl
set_option maxRecDepth 20000 in
theorem gm_216 : Cond.instanceMethod pm_y216 ∈ pm_GW := gw_of (tw_2 (List.mem_of_getElem? (i := 122) rfl)) rfl
set_option maxRecDepth 20000 in
theorem gs_216 : Cond.selects pm_y216.cls pm_y216 pm_y216 ∈ pm_GW := gw_of (tw_2 (List.mem_of_getElem? (i := 123) rfl)) rfl
set_option maxRecDepth 20000 in
theorem gc_217 : Cond.code pm_y217 prog_17_method_154_code 1 ((some FieldType.boolean)) ∈ pm_GW := gw_of (tw_2 (List.mem_of_getElem? (i := 128) rfl)) rfl
set_option maxRecDepth 20000 in
theorem gm_217 : Cond.instanceMethod pm_y217 ∈ pm_GW := gw_of (tw_2 (List.mem_of_getElem? (i := 126) rfl)) rfl
set_option maxRecDepth 20000 in
theorem gs_217 : Cond.selects pm_y217.cls pm_y217 pm_y217 ∈ pm_GW := gw_of (tw_2 (List.mem_of_getElem? (i := 127) rfl)) rfl
set_option maxRecDepth 20000 in
theorem gc_218 : Cond.code pm_y218 prog_17_method_54_code 1 ((some FieldType.int)) ∈ pm_GW := gw_of (tw_2 (List.mem_of_getElem? (i := 134) rfl)) rfl
set_option maxRecDepth 20000 in
theorem gm_218 : Cond.instanceMethod pm_y218 ∈ pm_GW := gw_of (tw_2 (List.mem_of_getElem? (i := 132) rfl)) rfl
set_option maxRecDepth 20000 in
theorem gs_218 : Cond.selects pm_y218.cls pm_y218 pm_y218 ∈ pm_GW := gw_of (tw_2 (List.mem_of_getElem? (i := 133) rfl)) rfl
set_option maxRecDepth 20000 in
theorem gc_219 : Cond.code pm_y219 prog_17_method_152_code 1 ((some FieldType.byte)) ∈ pm_GW := gw_of (tw_2 (List.mem_of_getElem? (i := 138) rfl)) rfl
set_option maxRecDepth 20000 in
theorem gm_219 : Cond.instanceMethod pm_y219 ∈ pm_GW := gw_of (tw_2 (List.mem_of_getElem? (i := 136) rfl)) rfl
set_option maxRecDepth 20000 in
theorem gs_219 : Cond.selects pm_y219.cls pm_y219 pm_y219 ∈ pm_GW := gw_of (tw_2 (List.mem_of_getElem? (i := 137) rfl)) rfl
set_option maxRecDepth 20000 in
theorem gc_220 : Cond.code pm_y220 prog_18_method_22_code 4 ((some FieldType.int)) ∈ pm_GW := gw_of (tw_2 (List.mem_of_getElem? (i := 141) rfl)) rfl
set_option maxRecDepth 20000 in
theorem gt_220 : Cond.static pm_y220 ∈ pm_GW := gw_of (tw_2 (List.mem_of_getElem? (i := 140) rfl)) rfl
set_option maxRecDepth 20000 in
theorem gc_221 : Cond.code pm_y221 prog_18_method_4_code 1 ((some FieldType.boolean)) ∈ pm_GW := gw_of (tw_2 (List.mem_of_getElem? (i := 144) rfl)) rfl
set_option maxRecDepth 20000 in
theorem gt_221 : Cond.static pm_y221 ∈ pm_GW := gw_of (tw_2 (List.mem_of_getElem? (i := 143) rfl)) rfl
set_option maxRecDepth 20000 in
theorem gc_222 : Cond.code pm_y222 prog_18_method_23_code 6 ((some FieldType.int)) ∈ pm_GW := gw_of (tw_2 (List.mem_of_getElem? (i := 153) rfl)) rfl
set_option maxRecDepth 20000 in
theorem gt_222 : Cond.static pm_y222 ∈ pm_GW := gw_of (tw_2 (List.mem_of_getElem? (i := 152) rfl)) rfl
set_option maxRecDepth 20000 in
theorem gc_223 : Cond.code pm_y223 prog_20_method_103_code 4 (none) ∈ pm_GW := gw_of (tw_3 (List.mem_of_getElem? (i := 138) rfl)) rfl
set_option maxRecDepth 20000 in
theorem gt_223 : Cond.static pm_y223 ∈ pm_GW := gw_of (tw_3 (List.mem_of_getElem? (i := 137) rfl)) rfl
set_option maxRecDepth 20000 in
theorem go_i : Cond.instanceMethod Lib.objectInit ∈ pm_GW := gw_of (tw_1 (List.mem_of_getElem? (i := 27) rfl)) rfl
set_option maxRecDepth 20000 in
theorem go_c : Cond.code Lib.objectInit ⟨#[0xb1]⟩ 1 none ∈ pm_GW := gw_of (tw_1 (List.mem_of_getElem? (i := 28) rfl)) rfl
set_option maxRecDepth 20000 in
theorem gmax_s : Cond.static Lib.Math.max.name ∈ pm_GW := gw_of (tw_2 (List.mem_of_getElem? (i := 146) rfl)) rfl
set_option maxRecDepth 20000 in
theorem gmax_c : Cond.code Lib.Math.max.name Lib.Math.max.code 2 (some .int) ∈ pm_GW := gw_of (tw_2 (List.mem_of_getElem? (i := 147) rfl)) rfl
set_option maxRecDepth 20000 in
theorem gmin_s : Cond.static Lib.Math.min.name ∈ pm_GW := gw_of (tw_2 (List.mem_of_getElem? (i := 149) rfl)) rfl
set_option maxRecDepth 20000 in
theorem gmin_c : Cond.code Lib.Math.min.name Lib.Math.min.code 2 (some .int) ∈ pm_GW := gw_of (tw_2 (List.mem_of_getElem? (i := 150) rfl)) rfl
set_option maxRecDepth 20000 in
theorem g_math : Cond.initialized "java/lang/Math" ∈ pm_GW := gw_of (tw_1 (List.mem_of_getElem? (i := 16) rfl)) rfl
def pm_okM (M : pm_M) : Prop := plainName M.1.cls = true ∧ M.1.cls ≠ "java/lang/invoke/MethodHandle" ∧ M.1.cls ≠ "java/lang/invoke/VarHandle" ∧ (M.2.2.2.2.2.1 = true → M.1.name = "<init>" ∧ M.2.2.2.1 = none) ∧ M.2.2.1 ≤ 41 ∧ M.1.cls = pm_cn M.2.2.2.2.1 ∧ ∀ (pc : Nat) (i : Instr) (tgt : Nat) (cv : Int32), M.2.2.2.2.2.2 pc = some (i, tgt, cv) → pm_dec M.2.1 pc i tgt cv
def pm_okcall (cls : String) (idx na md : Nat) (M : pm_M) : Prop := (parseMethodDescriptor M.1.desc).map (fun d => d.parameters.length) = some na ∧ md < 6 ∧ (md < 3 → Cond.methodLink cls idx M.1 ∈ pm_GW) ∧ (3 ≤ md → ∃ host, Cond.methodLinkNest cls idx M.1 host ∈ pm_NW) ∧
  (md % 3 = 0 → Cond.instanceMethod M.1 ∈ pm_GW ∧ Cond.selects M.1.cls M.1 M.1 ∈ pm_GW ∧ (M.2.2.2.2.1 = 100 → M.1.cls = "java/lang/String") ∧ (M.2.2.2.2.1 ≠ 100 → ∃ (Tf : u_T) (N : Nat), pm_cl[M.2.2.2.2.1]? = some (M.1.cls, Tf, N))) ∧ (md % 3 = 1 → Cond.instanceMethod M.1 ∈ pm_GW ∧ M.2.2.2.2.2.1 = true) ∧ (md % 3 = 2 → Cond.static M.1 ∈ pm_GW) ∧ Cond.code M.1 M.2.1 M.2.2.1 M.2.2.2.1 ∈ pm_GW ∧ Cond.initialized M.1.cls ∈ pm_GW
def pm_okcp (o : Nat) (q : Nat × Nat × Nat × Nat × Nat) : Prop := match q with
  | (idx, 0, ci, k, _) => ∃ (C : String) (Tf : u_T) (N : Nat), pm_cl[ci]? = some (C, Tf, N) ∧ k < N ∧ (Tf k).1 = C ∧ (ci = o → C = pm_cn o) ∧ Cond.fieldLink (pm_cn o) idx C (Tf k).2.1 (Tf k).2.2.1 ∈ pm_GW
  | (idx, 1, ci, _, _) => ∃ (C : String) (Tf : u_T) (N : Nat), pm_cl[ci]? = some (C, Tf, N) ∧ Cond.classLink (pm_cn o) idx C ∈ pm_GW ∧ Cond.instantiable C N ∈ pm_GW ∧ Cond.initialized C ∈ pm_GW
  | (idx, 2, z, na, md) => ∃ M : pm_M, pm_mt z = some M ∧ pm_okcall (pm_cn o) idx na md M
  | (idx, 4, x, _, _) => (x = 0 → Cond.methodLink (pm_cn o) idx Lib.objectInit ∈ pm_GW) ∧ (x = 1 → Cond.methodLink (pm_cn o) idx Lib.Math.max.name ∈ pm_GW) ∧ (x = 2 → Cond.methodLink (pm_cn o) idx Lib.Math.min.name ∈ pm_GW)
  | (idx, 6, x, _, _) => Cond.constantLong (pm_cn o) idx (Int64.ofNat x) ∈ pm_GW
  | (idx, 7, _, _, _) => pm_cn o = "ArmExpander$TypedText" ∧ idx = 43
  | (idx, 8, _, _, _) => Cond.fieldLink (pm_cn o) idx "java/lang/String" "COMPACT_STRINGS" "Z" ∈ pm_GW
  | (idx, 9, x, _, _) => (x = 0 → Cond.fieldLink (pm_cn o) idx "java/lang/String" "coder" "B" ∈ pm_GW) ∧ (x = 1 → Cond.fieldLink (pm_cn o) idx "java/lang/String" "value" "[B" ∈ pm_GW)
  | _ => True
set_option maxRecDepth 20000 in
theorem dc_0 : ∀ (pc : Nat) (a : Instr × Nat × Int32), pm_c0 pc = some a → pm_dec prog_1_method_1_code pc a.1 a.2.1 a.2.2 := pm_nd_ok (pm_nd_ok (pm_nd_ok (pm_decs (by decide +kernel)) (pm_decs (by decide +kernel))) (pm_nd_ok (pm_decs (by decide +kernel)) (pm_decs (by decide +kernel)))) (pm_nd_ok (pm_nd_ok (pm_decs (by decide +kernel)) (pm_decs (by decide +kernel))) (pm_nd_ok (pm_decs (by decide +kernel)) (pm_decs (by decide +kernel))))
set_option maxRecDepth 20000 in
theorem om_0 : pm_okM pm_m0 := ⟨by decide +kernel, by decide +kernel, by decide +kernel, fun _ => ⟨rfl, rfl⟩, by decide, rfl, fun pc i tgt cv h => dc_0 pc (i, tgt, cv) h⟩
set_option maxRecDepth 20000 in
theorem dc_1 : ∀ (pc : Nat) (a : Instr × Nat × Int32), pm_c1 pc = some a → pm_dec prog_1_method_2_code pc a.1 a.2.1 a.2.2 := pm_decs (by decide +kernel)
set_option maxRecDepth 20000 in
theorem om_1 : pm_okM pm_m1 := ⟨by decide +kernel, by decide +kernel, by decide +kernel, fun h => absurd h (by decide), by decide, rfl, fun pc i tgt cv h => dc_1 pc (i, tgt, cv) h⟩
set_option maxRecDepth 20000 in
theorem dc_2 : ∀ (pc : Nat) (a : Instr × Nat × Int32), pm_c2 pc = some a → pm_dec prog_1_method_3_code pc a.1 a.2.1 a.2.2 := pm_nd_ok (pm_nd_ok (pm_nd_ok (pm_decs (by decide +kernel)) (pm_decs (by decide +kernel))) (pm_nd_ok (pm_decs (by decide +kernel)) (pm_decs (by decide +kernel)))) (pm_nd_ok (pm_nd_ok (pm_decs (by decide +kernel)) (pm_decs (by decide +kernel))) (pm_nd_ok (pm_decs (by decide +kernel)) (pm_decs (by decide +kernel))))
set_option maxRecDepth 20000 in
theorem om_2 : pm_okM pm_m2 := ⟨by decide +kernel, by decide +kernel, by decide +kernel, fun h => absurd h (by decide), by decide, rfl, fun pc i tgt cv h => dc_2 pc (i, tgt, cv) h⟩
set_option maxRecDepth 20000 in
theorem dc_3 : ∀ (pc : Nat) (a : Instr × Nat × Int32), pm_c3 pc = some a → pm_dec prog_1_method_4_code pc a.1 a.2.1 a.2.2 := pm_nd_ok (pm_nd_ok (pm_decs (by decide +kernel)) (pm_decs (by decide +kernel))) (pm_nd_ok (pm_decs (by decide +kernel)) (pm_decs (by decide +kernel)))
set_option maxRecDepth 20000 in
theorem om_3 : pm_okM pm_m3 := ⟨by decide +kernel, by decide +kernel, by decide +kernel, fun h => absurd h (by decide), by decide, rfl, fun pc i tgt cv h => dc_3 pc (i, tgt, cv) h⟩
set_option maxRecDepth 20000 in
theorem dc_4 : ∀ (pc : Nat) (a : Instr × Nat × Int32), pm_c4 pc = some a → pm_dec prog_1_method_5_code pc a.1 a.2.1 a.2.2 := pm_decs (by decide +kernel)
set_option maxRecDepth 20000 in
theorem om_4 : pm_okM pm_m4 := ⟨by decide +kernel, by decide +kernel, by decide +kernel, fun h => absurd h (by decide), by decide, rfl, fun pc i tgt cv h => dc_4 pc (i, tgt, cv) h⟩
set_option maxRecDepth 20000 in
theorem dc_5 : ∀ (pc : Nat) (a : Instr × Nat × Int32), pm_c5 pc = some a → pm_dec prog_1_method_6_code pc a.1 a.2.1 a.2.2 := pm_nd_ok (pm_nd_ok (pm_decs (by decide +kernel)) (pm_decs (by decide +kernel))) (pm_nd_ok (pm_decs (by decide +kernel)) (pm_decs (by decide +kernel)))
set_option maxRecDepth 20000 in
theorem om_5 : pm_okM pm_m5 := ⟨by decide +kernel, by decide +kernel, by decide +kernel, fun h => absurd h (by decide), by decide, rfl, fun pc i tgt cv h => dc_5 pc (i, tgt, cv) h⟩
set_option maxRecDepth 20000 in
theorem dc_6 : ∀ (pc : Nat) (a : Instr × Nat × Int32), pm_c6 pc = some a → pm_dec prog_1_method_7_code pc a.1 a.2.1 a.2.2 := pm_decs (by decide +kernel)
set_option maxRecDepth 20000 in
theorem om_6 : pm_okM pm_m6 := ⟨by decide +kernel, by decide +kernel, by decide +kernel, fun h => absurd h (by decide), by decide, rfl, fun pc i tgt cv h => dc_6 pc (i, tgt, cv) h⟩
set_option maxRecDepth 20000 in
theorem dc_7 : ∀ (pc : Nat) (a : Instr × Nat × Int32), pm_c7 pc = some a → pm_dec prog_1_method_8_code pc a.1 a.2.1 a.2.2 := pm_decs (by decide +kernel)
set_option maxRecDepth 20000 in
theorem om_7 : pm_okM pm_m7 := ⟨by decide +kernel, by decide +kernel, by decide +kernel, fun h => absurd h (by decide), by decide, rfl, fun pc i tgt cv h => dc_7 pc (i, tgt, cv) h⟩
set_option maxRecDepth 20000 in
theorem dc_8 : ∀ (pc : Nat) (a : Instr × Nat × Int32), pm_c8 pc = some a → pm_dec prog_1_method_9_code pc a.1 a.2.1 a.2.2 := pm_decs (by decide +kernel)
set_option maxRecDepth 20000 in
theorem om_8 : pm_okM pm_m8 := ⟨by decide +kernel, by decide +kernel, by decide +kernel, fun h => absurd h (by decide), by decide, rfl, fun pc i tgt cv h => dc_8 pc (i, tgt, cv) h⟩
set_option maxRecDepth 20000 in
theorem dc_9 : ∀ (pc : Nat) (a : Instr × Nat × Int32), pm_c9 pc = some a → pm_dec prog_1_method_10_code pc a.1 a.2.1 a.2.2 := pm_decs (by decide +kernel)
set_option maxRecDepth 20000 in
theorem om_9 : pm_okM pm_m9 := ⟨by decide +kernel, by decide +kernel, by decide +kernel, fun h => absurd h (by decide), by decide, rfl, fun pc i tgt cv h => dc_9 pc (i, tgt, cv) h⟩
set_option maxRecDepth 20000 in
theorem dc_10 : ∀ (pc : Nat) (a : Instr × Nat × Int32), pm_c10 pc = some a → pm_dec prog_1_method_11_code pc a.1 a.2.1 a.2.2 := pm_decs (by decide +kernel)
set_option maxRecDepth 20000 in
theorem om_10 : pm_okM pm_m10 := ⟨by decide +kernel, by decide +kernel, by decide +kernel, fun h => absurd h (by decide), by decide, rfl, fun pc i tgt cv h => dc_10 pc (i, tgt, cv) h⟩
set_option maxRecDepth 20000 in
theorem dc_11 : ∀ (pc : Nat) (a : Instr × Nat × Int32), pm_c11 pc = some a → pm_dec prog_1_method_12_code pc a.1 a.2.1 a.2.2 := pm_nd_ok (pm_decs (by decide +kernel)) (pm_decs (by decide +kernel))
set_option maxRecDepth 20000 in
theorem om_11 : pm_okM pm_m11 := ⟨by decide +kernel, by decide +kernel, by decide +kernel, fun h => absurd h (by decide), by decide, rfl, fun pc i tgt cv h => dc_11 pc (i, tgt, cv) h⟩
set_option maxRecDepth 20000 in
theorem dc_12 : ∀ (pc : Nat) (a : Instr × Nat × Int32), pm_c12 pc = some a → pm_dec prog_1_method_13_code pc a.1 a.2.1 a.2.2 := pm_nd_ok (pm_decs (by decide +kernel)) (pm_decs (by decide +kernel))
set_option maxRecDepth 20000 in
theorem om_12 : pm_okM pm_m12 := ⟨by decide +kernel, by decide +kernel, by decide +kernel, fun h => absurd h (by decide), by decide, rfl, fun pc i tgt cv h => dc_12 pc (i, tgt, cv) h⟩
set_option maxRecDepth 20000 in
theorem dc_13 : ∀ (pc : Nat) (a : Instr × Nat × Int32), pm_c13 pc = some a → pm_dec prog_1_method_14_code pc a.1 a.2.1 a.2.2 := pm_nd_ok (pm_decs (by decide +kernel)) (pm_nd_ok (pm_decs (by decide +kernel)) (pm_decs (by decide +kernel)))
set_option maxRecDepth 20000 in
theorem om_13 : pm_okM pm_m13 := ⟨by decide +kernel, by decide +kernel, by decide +kernel, fun h => absurd h (by decide), by decide, rfl, fun pc i tgt cv h => dc_13 pc (i, tgt, cv) h⟩
set_option maxRecDepth 20000 in
theorem dc_14 : ∀ (pc : Nat) (a : Instr × Nat × Int32), pm_c14 pc = some a → pm_dec prog_1_method_15_code pc a.1 a.2.1 a.2.2 := pm_nd_ok (pm_decs (by decide +kernel)) (pm_nd_ok (pm_decs (by decide +kernel)) (pm_decs (by decide +kernel)))
set_option maxRecDepth 20000 in
theorem om_14 : pm_okM pm_m14 := ⟨by decide +kernel, by decide +kernel, by decide +kernel, fun h => absurd h (by decide), by decide, rfl, fun pc i tgt cv h => dc_14 pc (i, tgt, cv) h⟩
set_option maxRecDepth 20000 in
theorem dc_15 : ∀ (pc : Nat) (a : Instr × Nat × Int32), pm_c15 pc = some a → pm_dec prog_1_method_16_code pc a.1 a.2.1 a.2.2 := pm_nd_ok (pm_decs (by decide +kernel)) (pm_nd_ok (pm_decs (by decide +kernel)) (pm_decs (by decide +kernel)))
set_option maxRecDepth 20000 in
theorem om_15 : pm_okM pm_m15 := ⟨by decide +kernel, by decide +kernel, by decide +kernel, fun h => absurd h (by decide), by decide, rfl, fun pc i tgt cv h => dc_15 pc (i, tgt, cv) h⟩
set_option maxRecDepth 20000 in
theorem dc_16 : ∀ (pc : Nat) (a : Instr × Nat × Int32), pm_c16 pc = some a → pm_dec prog_1_method_17_code pc a.1 a.2.1 a.2.2 := pm_nd_ok (pm_nd_ok (pm_decs (by decide +kernel)) (pm_decs (by decide +kernel))) (pm_nd_ok (pm_decs (by decide +kernel)) (pm_decs (by decide +kernel)))
set_option maxRecDepth 20000 in
theorem om_16 : pm_okM pm_m16 := ⟨by decide +kernel, by decide +kernel, by decide +kernel, fun h => absurd h (by decide), by decide, rfl, fun pc i tgt cv h => dc_16 pc (i, tgt, cv) h⟩
set_option maxRecDepth 20000 in
theorem dc_17 : ∀ (pc : Nat) (a : Instr × Nat × Int32), pm_c17 pc = some a → pm_dec prog_1_method_18_code pc a.1 a.2.1 a.2.2 := pm_nd_ok (pm_decs (by decide +kernel)) (pm_decs (by decide +kernel))
set_option maxRecDepth 20000 in
theorem om_17 : pm_okM pm_m17 := ⟨by decide +kernel, by decide +kernel, by decide +kernel, fun h => absurd h (by decide), by decide, rfl, fun pc i tgt cv h => dc_17 pc (i, tgt, cv) h⟩
set_option maxRecDepth 20000 in
theorem dc_18 : ∀ (pc : Nat) (a : Instr × Nat × Int32), pm_c18 pc = some a → pm_dec prog_14_method_1_code pc a.1 a.2.1 a.2.2 := pm_nd_ok (pm_nd_ok (pm_nd_ok (pm_nd_ok (pm_nd_ok (pm_decs (by decide +kernel)) (pm_decs (by decide +kernel))) (pm_nd_ok (pm_decs (by decide +kernel)) (pm_decs (by decide +kernel)))) (pm_nd_ok (pm_nd_ok (pm_decs (by decide +kernel)) (pm_decs (by decide +kernel))) (pm_nd_ok (pm_decs (by decide +kernel)) (pm_decs (by decide +kernel))))) (pm_nd_ok (pm_nd_ok (pm_nd_ok (pm_decs (by decide +kernel)) (pm_decs (by decide +kernel))) (pm_nd_ok (pm_decs (by decide +kernel)) (pm_decs (by decide +kernel)))) (pm_nd_ok (pm_nd_ok (pm_decs (by decide +kernel)) (pm_decs (by decide +kernel))) (pm_nd_ok (pm_decs (by decide +kernel)) (pm_decs (by decide +kernel)))))) (pm_nd_ok (pm_nd_ok (pm_nd_ok (pm_nd_ok (pm_decs (by decide +kernel)) (pm_decs (by decide +kernel))) (pm_nd_ok (pm_decs (by decide +kernel)) (pm_decs (by decide +kernel)))) (pm_nd_ok (pm_nd_ok (pm_decs (by decide +kernel)) (pm_decs (by decide +kernel))) (pm_nd_ok (pm_decs (by decide +kernel)) (pm_decs (by decide +kernel))))) (pm_nd_ok (pm_nd_ok (pm_nd_ok (pm_decs (by decide +kernel)) (pm_decs (by decide +kernel))) (pm_nd_ok (pm_decs (by decide +kernel)) (pm_decs (by decide +kernel)))) (pm_nd_ok (pm_nd_ok (pm_decs (by decide +kernel)) (pm_decs (by decide +kernel))) (pm_nd_ok (pm_decs (by decide +kernel)) (pm_decs (by decide +kernel))))))
set_option maxRecDepth 20000 in
theorem om_18 : pm_okM pm_m18 := ⟨by decide +kernel, by decide +kernel, by decide +kernel, fun _ => ⟨rfl, rfl⟩, by decide, rfl, fun pc i tgt cv h => dc_18 pc (i, tgt, cv) h⟩
set_option maxRecDepth 20000 in
theorem dc_19 : ∀ (pc : Nat) (a : Instr × Nat × Int32), pm_c19 pc = some a → pm_dec prog_14_method_2_code pc a.1 a.2.1 a.2.2 := pm_nd_ok (pm_decs (by decide +kernel)) (pm_decs (by decide +kernel))
set_option maxRecDepth 20000 in
theorem om_19 : pm_okM pm_m19 := ⟨by decide +kernel, by decide +kernel, by decide +kernel, fun h => absurd h (by decide), by decide, rfl, fun pc i tgt cv h => dc_19 pc (i, tgt, cv) h⟩
set_option maxRecDepth 20000 in
theorem dc_20 : ∀ (pc : Nat) (a : Instr × Nat × Int32), pm_c20 pc = some a → pm_dec prog_14_method_3_code pc a.1 a.2.1 a.2.2 := pm_nd_ok (pm_nd_ok (pm_nd_ok (pm_nd_ok (pm_decs (by decide +kernel)) (pm_decs (by decide +kernel))) (pm_nd_ok (pm_decs (by decide +kernel)) (pm_decs (by decide +kernel)))) (pm_nd_ok (pm_nd_ok (pm_decs (by decide +kernel)) (pm_decs (by decide +kernel))) (pm_nd_ok (pm_decs (by decide +kernel)) (pm_decs (by decide +kernel))))) (pm_nd_ok (pm_nd_ok (pm_nd_ok (pm_decs (by decide +kernel)) (pm_decs (by decide +kernel))) (pm_nd_ok (pm_decs (by decide +kernel)) (pm_decs (by decide +kernel)))) (pm_nd_ok (pm_nd_ok (pm_decs (by decide +kernel)) (pm_decs (by decide +kernel))) (pm_nd_ok (pm_decs (by decide +kernel)) (pm_decs (by decide +kernel)))))
set_option maxRecDepth 20000 in
theorem om_20 : pm_okM pm_m20 := ⟨by decide +kernel, by decide +kernel, by decide +kernel, fun h => absurd h (by decide), by decide, rfl, fun pc i tgt cv h => dc_20 pc (i, tgt, cv) h⟩
set_option maxRecDepth 20000 in
theorem dc_21 : ∀ (pc : Nat) (a : Instr × Nat × Int32), pm_c21 pc = some a → pm_dec prog_14_method_4_code pc a.1 a.2.1 a.2.2 := pm_nd_ok (pm_decs (by decide +kernel)) (pm_nd_ok (pm_decs (by decide +kernel)) (pm_decs (by decide +kernel)))
set_option maxRecDepth 20000 in
theorem om_21 : pm_okM pm_m21 := ⟨by decide +kernel, by decide +kernel, by decide +kernel, fun h => absurd h (by decide), by decide, rfl, fun pc i tgt cv h => dc_21 pc (i, tgt, cv) h⟩
set_option maxRecDepth 20000 in
theorem dc_22 : ∀ (pc : Nat) (a : Instr × Nat × Int32), pm_c22 pc = some a → pm_dec prog_14_method_5_code pc a.1 a.2.1 a.2.2 := pm_nd_ok (pm_decs (by decide +kernel)) (pm_nd_ok (pm_decs (by decide +kernel)) (pm_decs (by decide +kernel)))
set_option maxRecDepth 20000 in
theorem om_22 : pm_okM pm_m22 := ⟨by decide +kernel, by decide +kernel, by decide +kernel, fun h => absurd h (by decide), by decide, rfl, fun pc i tgt cv h => dc_22 pc (i, tgt, cv) h⟩
set_option maxRecDepth 20000 in
theorem dc_23 : ∀ (pc : Nat) (a : Instr × Nat × Int32), pm_c23 pc = some a → pm_dec prog_14_method_6_code pc a.1 a.2.1 a.2.2 := pm_nd_ok (pm_decs (by decide +kernel)) (pm_decs (by decide +kernel))
set_option maxRecDepth 20000 in
theorem om_23 : pm_okM pm_m23 := ⟨by decide +kernel, by decide +kernel, by decide +kernel, fun h => absurd h (by decide), by decide, rfl, fun pc i tgt cv h => dc_23 pc (i, tgt, cv) h⟩
set_option maxRecDepth 20000 in
theorem dc_24 : ∀ (pc : Nat) (a : Instr × Nat × Int32), pm_c24 pc = some a → pm_dec prog_14_method_7_code pc a.1 a.2.1 a.2.2 := pm_nd_ok (pm_nd_ok (pm_nd_ok (pm_decs (by decide +kernel)) (pm_decs (by decide +kernel))) (pm_nd_ok (pm_decs (by decide +kernel)) (pm_decs (by decide +kernel)))) (pm_nd_ok (pm_nd_ok (pm_decs (by decide +kernel)) (pm_decs (by decide +kernel))) (pm_nd_ok (pm_decs (by decide +kernel)) (pm_decs (by decide +kernel))))
set_option maxRecDepth 20000 in
theorem om_24 : pm_okM pm_m24 := ⟨by decide +kernel, by decide +kernel, by decide +kernel, fun h => absurd h (by decide), by decide, rfl, fun pc i tgt cv h => dc_24 pc (i, tgt, cv) h⟩
set_option maxRecDepth 20000 in
theorem dc_25 : ∀ (pc : Nat) (a : Instr × Nat × Int32), pm_c25 pc = some a → pm_dec prog_14_method_8_code pc a.1 a.2.1 a.2.2 := pm_decs (by decide +kernel)
set_option maxRecDepth 20000 in
theorem om_25 : pm_okM pm_m25 := ⟨by decide +kernel, by decide +kernel, by decide +kernel, fun h => absurd h (by decide), by decide, rfl, fun pc i tgt cv h => dc_25 pc (i, tgt, cv) h⟩
set_option maxRecDepth 20000 in
theorem dc_26 : ∀ (pc : Nat) (a : Instr × Nat × Int32), pm_c26 pc = some a → pm_dec prog_14_method_9_code pc a.1 a.2.1 a.2.2 := pm_decs (by decide +kernel)
set_option maxRecDepth 20000 in
theorem om_26 : pm_okM pm_m26 := ⟨by decide +kernel, by decide +kernel, by decide +kernel, fun h => absurd h (by decide), by decide, rfl, fun pc i tgt cv h => dc_26 pc (i, tgt, cv) h⟩
set_option maxRecDepth 20000 in
theorem dc_27 : ∀ (pc : Nat) (a : Instr × Nat × Int32), pm_c27 pc = some a → pm_dec prog_14_method_10_code pc a.1 a.2.1 a.2.2 := pm_nd_ok (pm_nd_ok (pm_decs (by decide +kernel)) (pm_decs (by decide +kernel))) (pm_nd_ok (pm_decs (by decide +kernel)) (pm_decs (by decide +kernel)))
set_option maxRecDepth 20000 in
theorem om_27 : pm_okM pm_m27 := ⟨by decide +kernel, by decide +kernel, by decide +kernel, fun h => absurd h (by decide), by decide, rfl, fun pc i tgt cv h => dc_27 pc (i, tgt, cv) h⟩
set_option maxRecDepth 20000 in
theorem dc_28 : ∀ (pc : Nat) (a : Instr × Nat × Int32), pm_c28 pc = some a → pm_dec prog_14_method_11_code pc a.1 a.2.1 a.2.2 := pm_nd_ok (pm_nd_ok (pm_nd_ok (pm_nd_ok (pm_nd_ok (pm_decs (by decide +kernel)) (pm_decs (by decide +kernel))) (pm_nd_ok (pm_decs (by decide +kernel)) (pm_decs (by decide +kernel)))) (pm_nd_ok (pm_nd_ok (pm_decs (by decide +kernel)) (pm_decs (by decide +kernel))) (pm_nd_ok (pm_decs (by decide +kernel)) (pm_decs (by decide +kernel))))) (pm_nd_ok (pm_nd_ok (pm_nd_ok (pm_decs (by decide +kernel)) (pm_decs (by decide +kernel))) (pm_nd_ok (pm_decs (by decide +kernel)) (pm_decs (by decide +kernel)))) (pm_nd_ok (pm_nd_ok (pm_decs (by decide +kernel)) (pm_decs (by decide +kernel))) (pm_nd_ok (pm_decs (by decide +kernel)) (pm_decs (by decide +kernel)))))) (pm_nd_ok (pm_nd_ok (pm_nd_ok (pm_nd_ok (pm_decs (by decide +kernel)) (pm_decs (by decide +kernel))) (pm_nd_ok (pm_decs (by decide +kernel)) (pm_decs (by decide +kernel)))) (pm_nd_ok (pm_nd_ok (pm_decs (by decide +kernel)) (pm_decs (by decide +kernel))) (pm_nd_ok (pm_decs (by decide +kernel)) (pm_decs (by decide +kernel))))) (pm_nd_ok (pm_nd_ok (pm_nd_ok (pm_decs (by decide +kernel)) (pm_decs (by decide +kernel))) (pm_nd_ok (pm_decs (by decide +kernel)) (pm_decs (by decide +kernel)))) (pm_nd_ok (pm_nd_ok (pm_decs (by decide +kernel)) (pm_decs (by decide +kernel))) (pm_nd_ok (pm_decs (by decide +kernel)) (pm_decs (by decide +kernel))))))
set_option maxRecDepth 20000 in
theorem om_28 : pm_okM pm_m28 := ⟨by decide +kernel, by decide +kernel, by decide +kernel, fun h => absurd h (by decide), by decide, rfl, fun pc i tgt cv h => dc_28 pc (i, tgt, cv) h⟩
set_option maxRecDepth 20000 in
theorem dc_29 : ∀ (pc : Nat) (a : Instr × Nat × Int32), pm_c29 pc = some a → pm_dec prog_14_method_12_code pc a.1 a.2.1 a.2.2 := pm_decs (by decide +kernel)
set_option maxRecDepth 20000 in
theorem om_29 : pm_okM pm_m29 := ⟨by decide +kernel, by decide +kernel, by decide +kernel, fun h => absurd h (by decide), by decide, rfl, fun pc i tgt cv h => dc_29 pc (i, tgt, cv) h⟩
set_option maxRecDepth 20000 in
theorem dc_30 : ∀ (pc : Nat) (a : Instr × Nat × Int32), pm_c30 pc = some a → pm_dec prog_14_method_13_code pc a.1 a.2.1 a.2.2 := pm_nd_ok (pm_decs (by decide +kernel)) (pm_decs (by decide +kernel))
set_option maxRecDepth 20000 in
theorem om_30 : pm_okM pm_m30 := ⟨by decide +kernel, by decide +kernel, by decide +kernel, fun h => absurd h (by decide), by decide, rfl, fun pc i tgt cv h => dc_30 pc (i, tgt, cv) h⟩
set_option maxRecDepth 20000 in
theorem dc_31 : ∀ (pc : Nat) (a : Instr × Nat × Int32), pm_c31 pc = some a → pm_dec prog_14_method_14_code pc a.1 a.2.1 a.2.2 := pm_nd_ok (pm_nd_ok (pm_decs (by decide +kernel)) (pm_decs (by decide +kernel))) (pm_nd_ok (pm_decs (by decide +kernel)) (pm_decs (by decide +kernel)))
set_option maxRecDepth 20000 in
theorem om_31 : pm_okM pm_m31 := ⟨by decide +kernel, by decide +kernel, by decide +kernel, fun h => absurd h (by decide), by decide, rfl, fun pc i tgt cv h => dc_31 pc (i, tgt, cv) h⟩
set_option maxRecDepth 20000 in
theorem dc_32 : ∀ (pc : Nat) (a : Instr × Nat × Int32), pm_c32 pc = some a → pm_dec prog_14_method_15_code pc a.1 a.2.1 a.2.2 := pm_nd_ok (pm_nd_ok (pm_nd_ok (pm_decs (by decide +kernel)) (pm_decs (by decide +kernel))) (pm_nd_ok (pm_decs (by decide +kernel)) (pm_decs (by decide +kernel)))) (pm_nd_ok (pm_nd_ok (pm_decs (by decide +kernel)) (pm_decs (by decide +kernel))) (pm_nd_ok (pm_decs (by decide +kernel)) (pm_decs (by decide +kernel))))
set_option maxRecDepth 20000 in
theorem om_32 : pm_okM pm_m32 := ⟨by decide +kernel, by decide +kernel, by decide +kernel, fun h => absurd h (by decide), by decide, rfl, fun pc i tgt cv h => dc_32 pc (i, tgt, cv) h⟩
set_option maxRecDepth 20000 in
theorem dc_33 : ∀ (pc : Nat) (a : Instr × Nat × Int32), pm_c33 pc = some a → pm_dec prog_14_method_16_code pc a.1 a.2.1 a.2.2 := pm_nd_ok (pm_nd_ok (pm_nd_ok (pm_decs (by decide +kernel)) (pm_decs (by decide +kernel))) (pm_nd_ok (pm_decs (by decide +kernel)) (pm_decs (by decide +kernel)))) (pm_nd_ok (pm_nd_ok (pm_decs (by decide +kernel)) (pm_decs (by decide +kernel))) (pm_nd_ok (pm_decs (by decide +kernel)) (pm_decs (by decide +kernel))))
set_option maxRecDepth 20000 in
theorem om_33 : pm_okM pm_m33 := ⟨by decide +kernel, by decide +kernel, by decide +kernel, fun h => absurd h (by decide), by decide, rfl, fun pc i tgt cv h => dc_33 pc (i, tgt, cv) h⟩
set_option maxRecDepth 20000 in
theorem dc_34 : ∀ (pc : Nat) (a : Instr × Nat × Int32), pm_c34 pc = some a → pm_dec prog_14_method_17_code pc a.1 a.2.1 a.2.2 := pm_nd_ok (pm_decs (by decide +kernel)) (pm_decs (by decide +kernel))
set_option maxRecDepth 20000 in
theorem om_34 : pm_okM pm_m34 := ⟨by decide +kernel, by decide +kernel, by decide +kernel, fun h => absurd h (by decide), by decide, rfl, fun pc i tgt cv h => dc_34 pc (i, tgt, cv) h⟩
set_option maxRecDepth 20000 in
theorem dc_35 : ∀ (pc : Nat) (a : Instr × Nat × Int32), pm_c35 pc = some a → pm_dec prog_14_method_18_code pc a.1 a.2.1 a.2.2 := pm_nd_ok (pm_nd_ok (pm_nd_ok (pm_decs (by decide +kernel)) (pm_decs (by decide +kernel))) (pm_nd_ok (pm_decs (by decide +kernel)) (pm_nd_ok (pm_decs (by decide +kernel)) (pm_decs (by decide +kernel))))) (pm_nd_ok (pm_nd_ok (pm_decs (by decide +kernel)) (pm_nd_ok (pm_decs (by decide +kernel)) (pm_decs (by decide +kernel)))) (pm_nd_ok (pm_decs (by decide +kernel)) (pm_nd_ok (pm_decs (by decide +kernel)) (pm_decs (by decide +kernel)))))
set_option maxRecDepth 20000 in
theorem om_35 : pm_okM pm_m35 := ⟨by decide +kernel, by decide +kernel, by decide +kernel, fun h => absurd h (by decide), by decide, rfl, fun pc i tgt cv h => dc_35 pc (i, tgt, cv) h⟩
set_option maxRecDepth 20000 in
theorem dc_36 : ∀ (pc : Nat) (a : Instr × Nat × Int32), pm_c36 pc = some a → pm_dec prog_14_method_19_code pc a.1 a.2.1 a.2.2 := pm_nd_ok (pm_nd_ok (pm_nd_ok (pm_decs (by decide +kernel)) (pm_decs (by decide +kernel))) (pm_nd_ok (pm_decs (by decide +kernel)) (pm_decs (by decide +kernel)))) (pm_nd_ok (pm_nd_ok (pm_decs (by decide +kernel)) (pm_decs (by decide +kernel))) (pm_nd_ok (pm_decs (by decide +kernel)) (pm_decs (by decide +kernel))))
set_option maxRecDepth 20000 in
theorem om_36 : pm_okM pm_m36 := ⟨by decide +kernel, by decide +kernel, by decide +kernel, fun h => absurd h (by decide), by decide, rfl, fun pc i tgt cv h => dc_36 pc (i, tgt, cv) h⟩
set_option maxRecDepth 20000 in
theorem dc_37 : ∀ (pc : Nat) (a : Instr × Nat × Int32), pm_c37 pc = some a → pm_dec prog_14_method_20_code pc a.1 a.2.1 a.2.2 := pm_nd_ok (pm_nd_ok (pm_nd_ok (pm_decs (by decide +kernel)) (pm_decs (by decide +kernel))) (pm_nd_ok (pm_decs (by decide +kernel)) (pm_decs (by decide +kernel)))) (pm_nd_ok (pm_nd_ok (pm_decs (by decide +kernel)) (pm_decs (by decide +kernel))) (pm_nd_ok (pm_decs (by decide +kernel)) (pm_decs (by decide +kernel))))
set_option maxRecDepth 20000 in
theorem om_37 : pm_okM pm_m37 := ⟨by decide +kernel, by decide +kernel, by decide +kernel, fun h => absurd h (by decide), by decide, rfl, fun pc i tgt cv h => dc_37 pc (i, tgt, cv) h⟩
set_option maxRecDepth 20000 in
theorem dc_38 : ∀ (pc : Nat) (a : Instr × Nat × Int32), pm_c38 pc = some a → pm_dec prog_14_method_21_code pc a.1 a.2.1 a.2.2 := pm_nd_ok (pm_nd_ok (pm_decs (by decide +kernel)) (pm_decs (by decide +kernel))) (pm_nd_ok (pm_decs (by decide +kernel)) (pm_decs (by decide +kernel)))
set_option maxRecDepth 20000 in
theorem om_38 : pm_okM pm_m38 := ⟨by decide +kernel, by decide +kernel, by decide +kernel, fun h => absurd h (by decide), by decide, rfl, fun pc i tgt cv h => dc_38 pc (i, tgt, cv) h⟩
set_option maxRecDepth 20000 in
theorem dc_39 : ∀ (pc : Nat) (a : Instr × Nat × Int32), pm_c39 pc = some a → pm_dec prog_14_method_22_code pc a.1 a.2.1 a.2.2 := pm_nd_ok (pm_decs (by decide +kernel)) (pm_nd_ok (pm_decs (by decide +kernel)) (pm_decs (by decide +kernel)))
set_option maxRecDepth 20000 in
theorem om_39 : pm_okM pm_m39 := ⟨by decide +kernel, by decide +kernel, by decide +kernel, fun h => absurd h (by decide), by decide, rfl, fun pc i tgt cv h => dc_39 pc (i, tgt, cv) h⟩
set_option maxRecDepth 20000 in
theorem dc_40 : ∀ (pc : Nat) (a : Instr × Nat × Int32), pm_c40 pc = some a → pm_dec prog_14_method_23_code pc a.1 a.2.1 a.2.2 := pm_nd_ok (pm_nd_ok (pm_nd_ok (pm_nd_ok (pm_decs (by decide +kernel)) (pm_decs (by decide +kernel))) (pm_nd_ok (pm_decs (by decide +kernel)) (pm_decs (by decide +kernel)))) (pm_nd_ok (pm_nd_ok (pm_decs (by decide +kernel)) (pm_decs (by decide +kernel))) (pm_nd_ok (pm_decs (by decide +kernel)) (pm_decs (by decide +kernel))))) (pm_nd_ok (pm_nd_ok (pm_nd_ok (pm_decs (by decide +kernel)) (pm_decs (by decide +kernel))) (pm_nd_ok (pm_decs (by decide +kernel)) (pm_decs (by decide +kernel)))) (pm_nd_ok (pm_nd_ok (pm_decs (by decide +kernel)) (pm_decs (by decide +kernel))) (pm_nd_ok (pm_decs (by decide +kernel)) (pm_decs (by decide +kernel)))))
set_option maxRecDepth 20000 in
theorem om_40 : pm_okM pm_m40 := ⟨by decide +kernel, by decide +kernel, by decide +kernel, fun h => absurd h (by decide), by decide, rfl, fun pc i tgt cv h => dc_40 pc (i, tgt, cv) h⟩
set_option maxRecDepth 20000 in
theorem dc_41 : ∀ (pc : Nat) (a : Instr × Nat × Int32), pm_c41 pc = some a → pm_dec prog_14_method_24_code pc a.1 a.2.1 a.2.2 := pm_nd_ok (pm_nd_ok (pm_nd_ok (pm_decs (by decide +kernel)) (pm_decs (by decide +kernel))) (pm_nd_ok (pm_decs (by decide +kernel)) (pm_decs (by decide +kernel)))) (pm_nd_ok (pm_nd_ok (pm_decs (by decide +kernel)) (pm_decs (by decide +kernel))) (pm_nd_ok (pm_decs (by decide +kernel)) (pm_decs (by decide +kernel))))
set_option maxRecDepth 20000 in
theorem om_41 : pm_okM pm_m41 := ⟨by decide +kernel, by decide +kernel, by decide +kernel, fun h => absurd h (by decide), by decide, rfl, fun pc i tgt cv h => dc_41 pc (i, tgt, cv) h⟩
set_option maxRecDepth 20000 in
theorem dc_42 : ∀ (pc : Nat) (a : Instr × Nat × Int32), pm_c42 pc = some a → pm_dec prog_14_method_25_code pc a.1 a.2.1 a.2.2 := pm_nd_ok (pm_nd_ok (pm_nd_ok (pm_nd_ok (pm_decs (by decide +kernel)) (pm_decs (by decide +kernel))) (pm_nd_ok (pm_decs (by decide +kernel)) (pm_decs (by decide +kernel)))) (pm_nd_ok (pm_nd_ok (pm_decs (by decide +kernel)) (pm_decs (by decide +kernel))) (pm_nd_ok (pm_decs (by decide +kernel)) (pm_decs (by decide +kernel))))) (pm_nd_ok (pm_nd_ok (pm_nd_ok (pm_decs (by decide +kernel)) (pm_decs (by decide +kernel))) (pm_nd_ok (pm_decs (by decide +kernel)) (pm_decs (by decide +kernel)))) (pm_nd_ok (pm_nd_ok (pm_decs (by decide +kernel)) (pm_decs (by decide +kernel))) (pm_nd_ok (pm_decs (by decide +kernel)) (pm_decs (by decide +kernel)))))
set_option maxRecDepth 20000 in
theorem om_42 : pm_okM pm_m42 := ⟨by decide +kernel, by decide +kernel, by decide +kernel, fun h => absurd h (by decide), by decide, rfl, fun pc i tgt cv h => dc_42 pc (i, tgt, cv) h⟩
set_option maxRecDepth 20000 in
theorem dc_43 : ∀ (pc : Nat) (a : Instr × Nat × Int32), pm_c43 pc = some a → pm_dec prog_14_method_26_code pc a.1 a.2.1 a.2.2 := pm_nd_ok (pm_nd_ok (pm_nd_ok (pm_nd_ok (pm_decs (by decide +kernel)) (pm_nd_ok (pm_decs (by decide +kernel)) (pm_decs (by decide +kernel)))) (pm_nd_ok (pm_nd_ok (pm_decs (by decide +kernel)) (pm_decs (by decide +kernel))) (pm_nd_ok (pm_decs (by decide +kernel)) (pm_decs (by decide +kernel))))) (pm_nd_ok (pm_nd_ok (pm_decs (by decide +kernel)) (pm_nd_ok (pm_decs (by decide +kernel)) (pm_decs (by decide +kernel)))) (pm_nd_ok (pm_nd_ok (pm_decs (by decide +kernel)) (pm_decs (by decide +kernel))) (pm_nd_ok (pm_decs (by decide +kernel)) (pm_decs (by decide +kernel)))))) (pm_nd_ok (pm_nd_ok (pm_nd_ok (pm_decs (by decide +kernel)) (pm_nd_ok (pm_decs (by decide +kernel)) (pm_decs (by decide +kernel)))) (pm_nd_ok (pm_nd_ok (pm_decs (by decide +kernel)) (pm_decs (by decide +kernel))) (pm_nd_ok (pm_decs (by decide +kernel)) (pm_decs (by decide +kernel))))) (pm_nd_ok (pm_nd_ok (pm_nd_ok (pm_decs (by decide +kernel)) (pm_decs (by decide +kernel))) (pm_nd_ok (pm_decs (by decide +kernel)) (pm_decs (by decide +kernel)))) (pm_nd_ok (pm_nd_ok (pm_decs (by decide +kernel)) (pm_decs (by decide +kernel))) (pm_nd_ok (pm_decs (by decide +kernel)) (pm_decs (by decide +kernel))))))
set_option maxRecDepth 20000 in
theorem om_43 : pm_okM pm_m43 := ⟨by decide +kernel, by decide +kernel, by decide +kernel, fun h => absurd h (by decide), by decide, rfl, fun pc i tgt cv h => dc_43 pc (i, tgt, cv) h⟩
set_option maxRecDepth 20000 in
theorem dc_44 : ∀ (pc : Nat) (a : Instr × Nat × Int32), pm_c44 pc = some a → pm_dec prog_14_method_27_code pc a.1 a.2.1 a.2.2 := pm_nd_ok (pm_nd_ok (pm_nd_ok (pm_nd_ok (pm_nd_ok (pm_decs (by decide +kernel)) (pm_decs (by decide +kernel))) (pm_nd_ok (pm_decs (by decide +kernel)) (pm_decs (by decide +kernel)))) (pm_nd_ok (pm_nd_ok (pm_decs (by decide +kernel)) (pm_decs (by decide +kernel))) (pm_nd_ok (pm_decs (by decide +kernel)) (pm_decs (by decide +kernel))))) (pm_nd_ok (pm_nd_ok (pm_nd_ok (pm_decs (by decide +kernel)) (pm_decs (by decide +kernel))) (pm_nd_ok (pm_decs (by decide +kernel)) (pm_decs (by decide +kernel)))) (pm_nd_ok (pm_nd_ok (pm_decs (by decide +kernel)) (pm_decs (by decide +kernel))) (pm_nd_ok (pm_decs (by decide +kernel)) (pm_decs (by decide +kernel)))))) (pm_nd_ok (pm_nd_ok (pm_nd_ok (pm_nd_ok (pm_decs (by decide +kernel)) (pm_decs (by decide +kernel))) (pm_nd_ok (pm_decs (by decide +kernel)) (pm_decs (by decide +kernel)))) (pm_nd_ok (pm_nd_ok (pm_decs (by decide +kernel)) (pm_decs (by decide +kernel))) (pm_nd_ok (pm_decs (by decide +kernel)) (pm_decs (by decide +kernel))))) (pm_nd_ok (pm_nd_ok (pm_nd_ok (pm_decs (by decide +kernel)) (pm_decs (by decide +kernel))) (pm_nd_ok (pm_decs (by decide +kernel)) (pm_decs (by decide +kernel)))) (pm_nd_ok (pm_nd_ok (pm_decs (by decide +kernel)) (pm_decs (by decide +kernel))) (pm_nd_ok (pm_decs (by decide +kernel)) (pm_decs (by decide +kernel))))))
set_option maxRecDepth 20000 in
theorem om_44 : pm_okM pm_m44 := ⟨by decide +kernel, by decide +kernel, by decide +kernel, fun h => absurd h (by decide), by decide, rfl, fun pc i tgt cv h => dc_44 pc (i, tgt, cv) h⟩
set_option maxRecDepth 20000 in
theorem dc_45 : ∀ (pc : Nat) (a : Instr × Nat × Int32), pm_c45 pc = some a → pm_dec prog_14_method_28_code pc a.1 a.2.1 a.2.2 := pm_nd_ok (pm_nd_ok (pm_nd_ok (pm_nd_ok (pm_decs (by decide +kernel)) (pm_decs (by decide +kernel))) (pm_nd_ok (pm_decs (by decide +kernel)) (pm_nd_ok (pm_decs (by decide +kernel)) (pm_decs (by decide +kernel))))) (pm_nd_ok (pm_nd_ok (pm_decs (by decide +kernel)) (pm_decs (by decide +kernel))) (pm_nd_ok (pm_decs (by decide +kernel)) (pm_nd_ok (pm_decs (by decide +kernel)) (pm_decs (by decide +kernel)))))) (pm_nd_ok (pm_nd_ok (pm_nd_ok (pm_decs (by decide +kernel)) (pm_decs (by decide +kernel))) (pm_nd_ok (pm_decs (by decide +kernel)) (pm_nd_ok (pm_decs (by decide +kernel)) (pm_decs (by decide +kernel))))) (pm_nd_ok (pm_nd_ok (pm_decs (by decide +kernel)) (pm_nd_ok (pm_decs (by decide +kernel)) (pm_decs (by decide +kernel)))) (pm_nd_ok (pm_decs (by decide +kernel)) (pm_nd_ok (pm_decs (by decide +kernel)) (pm_decs (by decide +kernel))))))
set_option maxRecDepth 20000 in
theorem om_45 : pm_okM pm_m45 := ⟨by decide +kernel, by decide +kernel, by decide +kernel, fun h => absurd h (by decide), by decide, rfl, fun pc i tgt cv h => dc_45 pc (i, tgt, cv) h⟩
set_option maxRecDepth 20000 in
theorem dc_46 : ∀ (pc : Nat) (a : Instr × Nat × Int32), pm_c46 pc = some a → pm_dec prog_14_method_29_code pc a.1 a.2.1 a.2.2 := pm_nd_ok (pm_nd_ok (pm_nd_ok (pm_decs (by decide +kernel)) (pm_decs (by decide +kernel))) (pm_nd_ok (pm_decs (by decide +kernel)) (pm_decs (by decide +kernel)))) (pm_nd_ok (pm_nd_ok (pm_decs (by decide +kernel)) (pm_decs (by decide +kernel))) (pm_nd_ok (pm_decs (by decide +kernel)) (pm_decs (by decide +kernel))))
set_option maxRecDepth 20000 in
theorem om_46 : pm_okM pm_m46 := ⟨by decide +kernel, by decide +kernel, by decide +kernel, fun h => absurd h (by decide), by decide, rfl, fun pc i tgt cv h => dc_46 pc (i, tgt, cv) h⟩
set_option maxRecDepth 20000 in
theorem dc_47 : ∀ (pc : Nat) (a : Instr × Nat × Int32), pm_c47 pc = some a → pm_dec prog_14_method_30_code pc a.1 a.2.1 a.2.2 := pm_nd_ok (pm_nd_ok (pm_nd_ok (pm_decs (by decide +kernel)) (pm_decs (by decide +kernel))) (pm_nd_ok (pm_decs (by decide +kernel)) (pm_decs (by decide +kernel)))) (pm_nd_ok (pm_nd_ok (pm_decs (by decide +kernel)) (pm_decs (by decide +kernel))) (pm_nd_ok (pm_decs (by decide +kernel)) (pm_decs (by decide +kernel))))
set_option maxRecDepth 20000 in
theorem om_47 : pm_okM pm_m47 := ⟨by decide +kernel, by decide +kernel, by decide +kernel, fun h => absurd h (by decide), by decide, rfl, fun pc i tgt cv h => dc_47 pc (i, tgt, cv) h⟩
set_option maxRecDepth 20000 in
theorem dc_48 : ∀ (pc : Nat) (a : Instr × Nat × Int32), pm_c48 pc = some a → pm_dec prog_14_method_31_code pc a.1 a.2.1 a.2.2 := pm_nd_ok (pm_nd_ok (pm_nd_ok (pm_nd_ok (pm_decs (by decide +kernel)) (pm_decs (by decide +kernel))) (pm_nd_ok (pm_decs (by decide +kernel)) (pm_decs (by decide +kernel)))) (pm_nd_ok (pm_nd_ok (pm_decs (by decide +kernel)) (pm_decs (by decide +kernel))) (pm_nd_ok (pm_decs (by decide +kernel)) (pm_decs (by decide +kernel))))) (pm_nd_ok (pm_nd_ok (pm_nd_ok (pm_decs (by decide +kernel)) (pm_decs (by decide +kernel))) (pm_nd_ok (pm_decs (by decide +kernel)) (pm_decs (by decide +kernel)))) (pm_nd_ok (pm_nd_ok (pm_decs (by decide +kernel)) (pm_decs (by decide +kernel))) (pm_nd_ok (pm_decs (by decide +kernel)) (pm_decs (by decide +kernel)))))
set_option maxRecDepth 20000 in
theorem om_48 : pm_okM pm_m48 := ⟨by decide +kernel, by decide +kernel, by decide +kernel, fun h => absurd h (by decide), by decide, rfl, fun pc i tgt cv h => dc_48 pc (i, tgt, cv) h⟩
set_option maxRecDepth 20000 in
theorem dc_49 : ∀ (pc : Nat) (a : Instr × Nat × Int32), pm_c49 pc = some a → pm_dec prog_14_method_32_code pc a.1 a.2.1 a.2.2 := pm_nd_ok (pm_nd_ok (pm_nd_ok (pm_nd_ok (pm_nd_ok (pm_decs (by decide +kernel)) (pm_decs (by decide +kernel))) (pm_nd_ok (pm_decs (by decide +kernel)) (pm_decs (by decide +kernel)))) (pm_nd_ok (pm_nd_ok (pm_decs (by decide +kernel)) (pm_decs (by decide +kernel))) (pm_nd_ok (pm_decs (by decide +kernel)) (pm_decs (by decide +kernel))))) (pm_nd_ok (pm_nd_ok (pm_nd_ok (pm_decs (by decide +kernel)) (pm_decs (by decide +kernel))) (pm_nd_ok (pm_decs (by decide +kernel)) (pm_decs (by decide +kernel)))) (pm_nd_ok (pm_nd_ok (pm_decs (by decide +kernel)) (pm_decs (by decide +kernel))) (pm_nd_ok (pm_decs (by decide +kernel)) (pm_decs (by decide +kernel)))))) (pm_nd_ok (pm_nd_ok (pm_nd_ok (pm_nd_ok (pm_decs (by decide +kernel)) (pm_decs (by decide +kernel))) (pm_nd_ok (pm_decs (by decide +kernel)) (pm_decs (by decide +kernel)))) (pm_nd_ok (pm_nd_ok (pm_decs (by decide +kernel)) (pm_decs (by decide +kernel))) (pm_nd_ok (pm_decs (by decide +kernel)) (pm_decs (by decide +kernel))))) (pm_nd_ok (pm_nd_ok (pm_nd_ok (pm_decs (by decide +kernel)) (pm_decs (by decide +kernel))) (pm_nd_ok (pm_decs (by decide +kernel)) (pm_decs (by decide +kernel)))) (pm_nd_ok (pm_nd_ok (pm_decs (by decide +kernel)) (pm_decs (by decide +kernel))) (pm_nd_ok (pm_decs (by decide +kernel)) (pm_decs (by decide +kernel))))))
set_option maxRecDepth 20000 in
theorem om_49 : pm_okM pm_m49 := ⟨by decide +kernel, by decide +kernel, by decide +kernel, fun h => absurd h (by decide), by decide, rfl, fun pc i tgt cv h => dc_49 pc (i, tgt, cv) h⟩
set_option maxRecDepth 20000 in
theorem dc_50 : ∀ (pc : Nat) (a : Instr × Nat × Int32), pm_c50 pc = some a → pm_dec prog_14_method_33_code pc a.1 a.2.1 a.2.2 := pm_nd_ok (pm_nd_ok (pm_decs (by decide +kernel)) (pm_decs (by decide +kernel))) (pm_nd_ok (pm_decs (by decide +kernel)) (pm_decs (by decide +kernel)))
set_option maxRecDepth 20000 in
theorem om_50 : pm_okM pm_m50 := ⟨by decide +kernel, by decide +kernel, by decide +kernel, fun h => absurd h (by decide), by decide, rfl, fun pc i tgt cv h => dc_50 pc (i, tgt, cv) h⟩
set_option maxRecDepth 20000 in
theorem dc_51 : ∀ (pc : Nat) (a : Instr × Nat × Int32), pm_c51 pc = some a → pm_dec prog_14_method_34_code pc a.1 a.2.1 a.2.2 := pm_nd_ok (pm_nd_ok (pm_nd_ok (pm_nd_ok (pm_decs (by decide +kernel)) (pm_decs (by decide +kernel))) (pm_nd_ok (pm_decs (by decide +kernel)) (pm_decs (by decide +kernel)))) (pm_nd_ok (pm_nd_ok (pm_decs (by decide +kernel)) (pm_decs (by decide +kernel))) (pm_nd_ok (pm_decs (by decide +kernel)) (pm_decs (by decide +kernel))))) (pm_nd_ok (pm_nd_ok (pm_nd_ok (pm_decs (by decide +kernel)) (pm_decs (by decide +kernel))) (pm_nd_ok (pm_decs (by decide +kernel)) (pm_decs (by decide +kernel)))) (pm_nd_ok (pm_nd_ok (pm_decs (by decide +kernel)) (pm_decs (by decide +kernel))) (pm_nd_ok (pm_decs (by decide +kernel)) (pm_decs (by decide +kernel)))))
set_option maxRecDepth 20000 in
theorem om_51 : pm_okM pm_m51 := ⟨by decide +kernel, by decide +kernel, by decide +kernel, fun h => absurd h (by decide), by decide, rfl, fun pc i tgt cv h => dc_51 pc (i, tgt, cv) h⟩
set_option maxRecDepth 20000 in
theorem dc_52 : ∀ (pc : Nat) (a : Instr × Nat × Int32), pm_c52 pc = some a → pm_dec prog_14_method_35_code pc a.1 a.2.1 a.2.2 := pm_nd_ok (pm_nd_ok (pm_decs (by decide +kernel)) (pm_decs (by decide +kernel))) (pm_nd_ok (pm_decs (by decide +kernel)) (pm_decs (by decide +kernel)))
set_option maxRecDepth 20000 in
theorem om_52 : pm_okM pm_m52 := ⟨by decide +kernel, by decide +kernel, by decide +kernel, fun h => absurd h (by decide), by decide, rfl, fun pc i tgt cv h => dc_52 pc (i, tgt, cv) h⟩
set_option maxRecDepth 20000 in
theorem dc_53 : ∀ (pc : Nat) (a : Instr × Nat × Int32), pm_c53 pc = some a → pm_dec prog_14_method_36_code pc a.1 a.2.1 a.2.2 := pm_nd_ok (pm_nd_ok (pm_nd_ok (pm_decs (by decide +kernel)) (pm_decs (by decide +kernel))) (pm_nd_ok (pm_decs (by decide +kernel)) (pm_decs (by decide +kernel)))) (pm_nd_ok (pm_nd_ok (pm_decs (by decide +kernel)) (pm_decs (by decide +kernel))) (pm_nd_ok (pm_decs (by decide +kernel)) (pm_decs (by decide +kernel))))
set_option maxRecDepth 20000 in
theorem om_53 : pm_okM pm_m53 := ⟨by decide +kernel, by decide +kernel, by decide +kernel, fun h => absurd h (by decide), by decide, rfl, fun pc i tgt cv h => dc_53 pc (i, tgt, cv) h⟩
set_option maxRecDepth 20000 in
theorem dc_54 : ∀ (pc : Nat) (a : Instr × Nat × Int32), pm_c54 pc = some a → pm_dec prog_14_method_37_code pc a.1 a.2.1 a.2.2 := pm_nd_ok (pm_nd_ok (pm_nd_ok (pm_nd_ok (pm_decs (by decide +kernel)) (pm_decs (by decide +kernel))) (pm_nd_ok (pm_decs (by decide +kernel)) (pm_decs (by decide +kernel)))) (pm_nd_ok (pm_nd_ok (pm_decs (by decide +kernel)) (pm_decs (by decide +kernel))) (pm_nd_ok (pm_decs (by decide +kernel)) (pm_decs (by decide +kernel))))) (pm_nd_ok (pm_nd_ok (pm_nd_ok (pm_decs (by decide +kernel)) (pm_decs (by decide +kernel))) (pm_nd_ok (pm_decs (by decide +kernel)) (pm_decs (by decide +kernel)))) (pm_nd_ok (pm_nd_ok (pm_decs (by decide +kernel)) (pm_decs (by decide +kernel))) (pm_nd_ok (pm_decs (by decide +kernel)) (pm_decs (by decide +kernel)))))
set_option maxRecDepth 20000 in
theorem om_54 : pm_okM pm_m54 := ⟨by decide +kernel, by decide +kernel, by decide +kernel, fun h => absurd h (by decide), by decide, rfl, fun pc i tgt cv h => dc_54 pc (i, tgt, cv) h⟩
set_option maxRecDepth 20000 in
theorem dc_55 : ∀ (pc : Nat) (a : Instr × Nat × Int32), pm_c55 pc = some a → pm_dec prog_14_method_38_code pc a.1 a.2.1 a.2.2 := pm_nd_ok (pm_nd_ok (pm_decs (by decide +kernel)) (pm_nd_ok (pm_decs (by decide +kernel)) (pm_decs (by decide +kernel)))) (pm_nd_ok (pm_decs (by decide +kernel)) (pm_nd_ok (pm_decs (by decide +kernel)) (pm_decs (by decide +kernel))))
set_option maxRecDepth 20000 in
theorem om_55 : pm_okM pm_m55 := ⟨by decide +kernel, by decide +kernel, by decide +kernel, fun h => absurd h (by decide), by decide, rfl, fun pc i tgt cv h => dc_55 pc (i, tgt, cv) h⟩
set_option maxRecDepth 20000 in
theorem dc_56 : ∀ (pc : Nat) (a : Instr × Nat × Int32), pm_c56 pc = some a → pm_dec prog_14_method_39_code pc a.1 a.2.1 a.2.2 := pm_nd_ok (pm_decs (by decide +kernel)) (pm_decs (by decide +kernel))
set_option maxRecDepth 20000 in
theorem om_56 : pm_okM pm_m56 := ⟨by decide +kernel, by decide +kernel, by decide +kernel, fun h => absurd h (by decide), by decide, rfl, fun pc i tgt cv h => dc_56 pc (i, tgt, cv) h⟩
set_option maxRecDepth 20000 in
theorem dc_57 : ∀ (pc : Nat) (a : Instr × Nat × Int32), pm_c57 pc = some a → pm_dec prog_14_method_40_code pc a.1 a.2.1 a.2.2 := pm_nd_ok (pm_nd_ok (pm_nd_ok (pm_nd_ok (pm_decs (by decide +kernel)) (pm_decs (by decide +kernel))) (pm_nd_ok (pm_decs (by decide +kernel)) (pm_decs (by decide +kernel)))) (pm_nd_ok (pm_nd_ok (pm_decs (by decide +kernel)) (pm_decs (by decide +kernel))) (pm_nd_ok (pm_decs (by decide +kernel)) (pm_decs (by decide +kernel))))) (pm_nd_ok (pm_nd_ok (pm_nd_ok (pm_decs (by decide +kernel)) (pm_decs (by decide +kernel))) (pm_nd_ok (pm_decs (by decide +kernel)) (pm_decs (by decide +kernel)))) (pm_nd_ok (pm_nd_ok (pm_decs (by decide +kernel)) (pm_decs (by decide +kernel))) (pm_nd_ok (pm_decs (by decide +kernel)) (pm_decs (by decide +kernel)))))
set_option maxRecDepth 20000 in
theorem om_57 : pm_okM pm_m57 := ⟨by decide +kernel, by decide +kernel, by decide +kernel, fun h => absurd h (by decide), by decide, rfl, fun pc i tgt cv h => dc_57 pc (i, tgt, cv) h⟩
set_option maxRecDepth 20000 in
theorem dc_58 : ∀ (pc : Nat) (a : Instr × Nat × Int32), pm_c58 pc = some a → pm_dec prog_14_method_41_code pc a.1 a.2.1 a.2.2 := pm_nd_ok (pm_nd_ok (pm_nd_ok (pm_nd_ok (pm_decs (by decide +kernel)) (pm_nd_ok (pm_decs (by decide +kernel)) (pm_decs (by decide +kernel)))) (pm_nd_ok (pm_nd_ok (pm_decs (by decide +kernel)) (pm_decs (by decide +kernel))) (pm_nd_ok (pm_decs (by decide +kernel)) (pm_decs (by decide +kernel))))) (pm_nd_ok (pm_nd_ok (pm_decs (by decide +kernel)) (pm_nd_ok (pm_decs (by decide +kernel)) (pm_decs (by decide +kernel)))) (pm_nd_ok (pm_nd_ok (pm_decs (by decide +kernel)) (pm_decs (by decide +kernel))) (pm_nd_ok (pm_decs (by decide +kernel)) (pm_decs (by decide +kernel)))))) (pm_nd_ok (pm_nd_ok (pm_nd_ok (pm_decs (by decide +kernel)) (pm_nd_ok (pm_decs (by decide +kernel)) (pm_decs (by decide +kernel)))) (pm_nd_ok (pm_nd_ok (pm_decs (by decide +kernel)) (pm_decs (by decide +kernel))) (pm_nd_ok (pm_decs (by decide +kernel)) (pm_decs (by decide +kernel))))) (pm_nd_ok (pm_nd_ok (pm_decs (by decide +kernel)) (pm_nd_ok (pm_decs (by decide +kernel)) (pm_decs (by decide +kernel)))) (pm_nd_ok (pm_nd_ok (pm_decs (by decide +kernel)) (pm_decs (by decide +kernel))) (pm_nd_ok (pm_decs (by decide +kernel)) (pm_decs (by decide +kernel))))))
set_option maxRecDepth 20000 in
theorem om_58 : pm_okM pm_m58 := ⟨by decide +kernel, by decide +kernel, by decide +kernel, fun h => absurd h (by decide), by decide, rfl, fun pc i tgt cv h => dc_58 pc (i, tgt, cv) h⟩
set_option maxRecDepth 20000 in
theorem dc_59 : ∀ (pc : Nat) (a : Instr × Nat × Int32), pm_c59 pc = some a → pm_dec prog_14_method_42_code pc a.1 a.2.1 a.2.2 := pm_decs (by decide +kernel)
set_option maxRecDepth 20000 in
theorem om_59 : pm_okM pm_m59 := ⟨by decide +kernel, by decide +kernel, by decide +kernel, fun h => absurd h (by decide), by decide, rfl, fun pc i tgt cv h => dc_59 pc (i, tgt, cv) h⟩
set_option maxRecDepth 20000 in
theorem dc_60 : ∀ (pc : Nat) (a : Instr × Nat × Int32), pm_c60 pc = some a → pm_dec prog_14_method_43_code pc a.1 a.2.1 a.2.2 := pm_nd_ok (pm_nd_ok (pm_decs (by decide +kernel)) (pm_decs (by decide +kernel))) (pm_nd_ok (pm_decs (by decide +kernel)) (pm_decs (by decide +kernel)))
set_option maxRecDepth 20000 in
theorem om_60 : pm_okM pm_m60 := ⟨by decide +kernel, by decide +kernel, by decide +kernel, fun h => absurd h (by decide), by decide, rfl, fun pc i tgt cv h => dc_60 pc (i, tgt, cv) h⟩
set_option maxRecDepth 20000 in
theorem dc_61 : ∀ (pc : Nat) (a : Instr × Nat × Int32), pm_c61 pc = some a → pm_dec prog_14_method_44_code pc a.1 a.2.1 a.2.2 := pm_nd_ok (pm_nd_ok (pm_nd_ok (pm_decs (by decide +kernel)) (pm_decs (by decide +kernel))) (pm_nd_ok (pm_decs (by decide +kernel)) (pm_decs (by decide +kernel)))) (pm_nd_ok (pm_nd_ok (pm_decs (by decide +kernel)) (pm_decs (by decide +kernel))) (pm_nd_ok (pm_decs (by decide +kernel)) (pm_decs (by decide +kernel))))
set_option maxRecDepth 20000 in
theorem om_61 : pm_okM pm_m61 := ⟨by decide +kernel, by decide +kernel, by decide +kernel, fun h => absurd h (by decide), by decide, rfl, fun pc i tgt cv h => dc_61 pc (i, tgt, cv) h⟩
set_option maxRecDepth 20000 in
theorem dc_62 : ∀ (pc : Nat) (a : Instr × Nat × Int32), pm_c62 pc = some a → pm_dec prog_14_method_45_code pc a.1 a.2.1 a.2.2 := pm_nd_ok (pm_nd_ok (pm_nd_ok (pm_nd_ok (pm_decs (by decide +kernel)) (pm_nd_ok (pm_decs (by decide +kernel)) (pm_decs (by decide +kernel)))) (pm_nd_ok (pm_nd_ok (pm_decs (by decide +kernel)) (pm_decs (by decide +kernel))) (pm_nd_ok (pm_decs (by decide +kernel)) (pm_decs (by decide +kernel))))) (pm_nd_ok (pm_nd_ok (pm_decs (by decide +kernel)) (pm_nd_ok (pm_decs (by decide +kernel)) (pm_decs (by decide +kernel)))) (pm_nd_ok (pm_nd_ok (pm_decs (by decide +kernel)) (pm_decs (by decide +kernel))) (pm_nd_ok (pm_decs (by decide +kernel)) (pm_decs (by decide +kernel)))))) (pm_nd_ok (pm_nd_ok (pm_nd_ok (pm_decs (by decide +kernel)) (pm_nd_ok (pm_decs (by decide +kernel)) (pm_decs (by decide +kernel)))) (pm_nd_ok (pm_nd_ok (pm_decs (by decide +kernel)) (pm_decs (by decide +kernel))) (pm_nd_ok (pm_decs (by decide +kernel)) (pm_decs (by decide +kernel))))) (pm_nd_ok (pm_nd_ok (pm_decs (by decide +kernel)) (pm_nd_ok (pm_decs (by decide +kernel)) (pm_decs (by decide +kernel)))) (pm_nd_ok (pm_nd_ok (pm_decs (by decide +kernel)) (pm_decs (by decide +kernel))) (pm_nd_ok (pm_decs (by decide +kernel)) (pm_decs (by decide +kernel))))))
set_option maxRecDepth 20000 in
theorem om_62 : pm_okM pm_m62 := ⟨by decide +kernel, by decide +kernel, by decide +kernel, fun h => absurd h (by decide), by decide, rfl, fun pc i tgt cv h => dc_62 pc (i, tgt, cv) h⟩
set_option maxRecDepth 20000 in
theorem dc_63 : ∀ (pc : Nat) (a : Instr × Nat × Int32), pm_c63 pc = some a → pm_dec prog_14_method_46_code pc a.1 a.2.1 a.2.2 := pm_nd_ok (pm_nd_ok (pm_nd_ok (pm_decs (by decide +kernel)) (pm_nd_ok (pm_decs (by decide +kernel)) (pm_decs (by decide +kernel)))) (pm_nd_ok (pm_decs (by decide +kernel)) (pm_nd_ok (pm_decs (by decide +kernel)) (pm_decs (by decide +kernel))))) (pm_nd_ok (pm_nd_ok (pm_decs (by decide +kernel)) (pm_nd_ok (pm_decs (by decide +kernel)) (pm_decs (by decide +kernel)))) (pm_nd_ok (pm_decs (by decide +kernel)) (pm_nd_ok (pm_decs (by decide +kernel)) (pm_decs (by decide +kernel)))))
set_option maxRecDepth 20000 in
theorem om_63 : pm_okM pm_m63 := ⟨by decide +kernel, by decide +kernel, by decide +kernel, fun h => absurd h (by decide), by decide, rfl, fun pc i tgt cv h => dc_63 pc (i, tgt, cv) h⟩
set_option maxRecDepth 20000 in
theorem dc_64 : ∀ (pc : Nat) (a : Instr × Nat × Int32), pm_c64 pc = some a → pm_dec prog_14_method_47_code pc a.1 a.2.1 a.2.2 := pm_nd_ok (pm_nd_ok (pm_nd_ok (pm_decs (by decide +kernel)) (pm_decs (by decide +kernel))) (pm_nd_ok (pm_decs (by decide +kernel)) (pm_decs (by decide +kernel)))) (pm_nd_ok (pm_nd_ok (pm_decs (by decide +kernel)) (pm_decs (by decide +kernel))) (pm_nd_ok (pm_decs (by decide +kernel)) (pm_decs (by decide +kernel))))
set_option maxRecDepth 20000 in
theorem om_64 : pm_okM pm_m64 := ⟨by decide +kernel, by decide +kernel, by decide +kernel, fun h => absurd h (by decide), by decide, rfl, fun pc i tgt cv h => dc_64 pc (i, tgt, cv) h⟩
set_option maxRecDepth 20000 in
theorem dc_65 : ∀ (pc : Nat) (a : Instr × Nat × Int32), pm_c65 pc = some a → pm_dec prog_14_method_48_code pc a.1 a.2.1 a.2.2 := pm_nd_ok (pm_nd_ok (pm_decs (by decide +kernel)) (pm_nd_ok (pm_decs (by decide +kernel)) (pm_decs (by decide +kernel)))) (pm_nd_ok (pm_nd_ok (pm_decs (by decide +kernel)) (pm_decs (by decide +kernel))) (pm_nd_ok (pm_decs (by decide +kernel)) (pm_decs (by decide +kernel))))
set_option maxRecDepth 20000 in
theorem om_65 : pm_okM pm_m65 := ⟨by decide +kernel, by decide +kernel, by decide +kernel, fun h => absurd h (by decide), by decide, rfl, fun pc i tgt cv h => dc_65 pc (i, tgt, cv) h⟩
set_option maxRecDepth 20000 in
theorem dc_66 : ∀ (pc : Nat) (a : Instr × Nat × Int32), pm_c66 pc = some a → pm_dec prog_14_method_49_code pc a.1 a.2.1 a.2.2 := pm_nd_ok (pm_nd_ok (pm_nd_ok (pm_nd_ok (pm_nd_ok (pm_decs (by decide +kernel)) (pm_decs (by decide +kernel))) (pm_nd_ok (pm_decs (by decide +kernel)) (pm_nd_ok (pm_decs (by decide +kernel)) (pm_decs (by decide +kernel))))) (pm_nd_ok (pm_nd_ok (pm_decs (by decide +kernel)) (pm_decs (by decide +kernel))) (pm_nd_ok (pm_decs (by decide +kernel)) (pm_nd_ok (pm_decs (by decide +kernel)) (pm_decs (by decide +kernel)))))) (pm_nd_ok (pm_nd_ok (pm_nd_ok (pm_decs (by decide +kernel)) (pm_decs (by decide +kernel))) (pm_nd_ok (pm_decs (by decide +kernel)) (pm_nd_ok (pm_decs (by decide +kernel)) (pm_decs (by decide +kernel))))) (pm_nd_ok (pm_nd_ok (pm_decs (by decide +kernel)) (pm_nd_ok (pm_decs (by decide +kernel)) (pm_decs (by decide +kernel)))) (pm_nd_ok (pm_decs (by decide +kernel)) (pm_nd_ok (pm_decs (by decide +kernel)) (pm_decs (by decide +kernel))))))) (pm_nd_ok (pm_nd_ok (pm_nd_ok (pm_nd_ok (pm_decs (by decide +kernel)) (pm_decs (by decide +kernel))) (pm_nd_ok (pm_decs (by decide +kernel)) (pm_nd_ok (pm_decs (by decide +kernel)) (pm_decs (by decide +kernel))))) (pm_nd_ok (pm_nd_ok (pm_decs (by decide +kernel)) (pm_decs (by decide +kernel))) (pm_nd_ok (pm_decs (by decide +kernel)) (pm_nd_ok (pm_decs (by decide +kernel)) (pm_decs (by decide +kernel)))))) (pm_nd_ok (pm_nd_ok (pm_nd_ok (pm_decs (by decide +kernel)) (pm_decs (by decide +kernel))) (pm_nd_ok (pm_decs (by decide +kernel)) (pm_nd_ok (pm_decs (by decide +kernel)) (pm_decs (by decide +kernel))))) (pm_nd_ok (pm_nd_ok (pm_decs (by decide +kernel)) (pm_nd_ok (pm_decs (by decide +kernel)) (pm_decs (by decide +kernel)))) (pm_nd_ok (pm_decs (by decide +kernel)) (pm_nd_ok (pm_decs (by decide +kernel)) (pm_decs (by decide +kernel)))))))
set_option maxRecDepth 20000 in
theorem om_66 : pm_okM pm_m66 := ⟨by decide +kernel, by decide +kernel, by decide +kernel, fun h => absurd h (by decide), by decide, rfl, fun pc i tgt cv h => dc_66 pc (i, tgt, cv) h⟩
set_option maxRecDepth 20000 in
theorem dc_67 : ∀ (pc : Nat) (a : Instr × Nat × Int32), pm_c67 pc = some a → pm_dec prog_14_method_50_code pc a.1 a.2.1 a.2.2 := pm_nd_ok (pm_nd_ok (pm_nd_ok (pm_nd_ok (pm_decs (by decide +kernel)) (pm_decs (by decide +kernel))) (pm_nd_ok (pm_decs (by decide +kernel)) (pm_decs (by decide +kernel)))) (pm_nd_ok (pm_nd_ok (pm_decs (by decide +kernel)) (pm_decs (by decide +kernel))) (pm_nd_ok (pm_decs (by decide +kernel)) (pm_decs (by decide +kernel))))) (pm_nd_ok (pm_nd_ok (pm_nd_ok (pm_decs (by decide +kernel)) (pm_decs (by decide +kernel))) (pm_nd_ok (pm_decs (by decide +kernel)) (pm_decs (by decide +kernel)))) (pm_nd_ok (pm_nd_ok (pm_decs (by decide +kernel)) (pm_decs (by decide +kernel))) (pm_nd_ok (pm_decs (by decide +kernel)) (pm_decs (by decide +kernel)))))
set_option maxRecDepth 20000 in
theorem om_67 : pm_okM pm_m67 := ⟨by decide +kernel, by decide +kernel, by decide +kernel, fun h => absurd h (by decide), by decide, rfl, fun pc i tgt cv h => dc_67 pc (i, tgt, cv) h⟩
set_option maxRecDepth 20000 in
theorem dc_68 : ∀ (pc : Nat) (a : Instr × Nat × Int32), pm_c68 pc = some a → pm_dec prog_14_method_51_code pc a.1 a.2.1 a.2.2 := pm_nd_ok (pm_nd_ok (pm_nd_ok (pm_decs (by decide +kernel)) (pm_decs (by decide +kernel))) (pm_nd_ok (pm_decs (by decide +kernel)) (pm_decs (by decide +kernel)))) (pm_nd_ok (pm_nd_ok (pm_decs (by decide +kernel)) (pm_decs (by decide +kernel))) (pm_nd_ok (pm_decs (by decide +kernel)) (pm_decs (by decide +kernel))))
set_option maxRecDepth 20000 in
theorem om_68 : pm_okM pm_m68 := ⟨by decide +kernel, by decide +kernel, by decide +kernel, fun h => absurd h (by decide), by decide, rfl, fun pc i tgt cv h => dc_68 pc (i, tgt, cv) h⟩
set_option maxRecDepth 20000 in
theorem dc_69 : ∀ (pc : Nat) (a : Instr × Nat × Int32), pm_c69 pc = some a → pm_dec prog_14_method_52_code pc a.1 a.2.1 a.2.2 := pm_nd_ok (pm_nd_ok (pm_decs (by decide +kernel)) (pm_decs (by decide +kernel))) (pm_nd_ok (pm_decs (by decide +kernel)) (pm_decs (by decide +kernel)))
set_option maxRecDepth 20000 in
theorem om_69 : pm_okM pm_m69 := ⟨by decide +kernel, by decide +kernel, by decide +kernel, fun h => absurd h (by decide), by decide, rfl, fun pc i tgt cv h => dc_69 pc (i, tgt, cv) h⟩
set_option maxRecDepth 20000 in
theorem dc_70 : ∀ (pc : Nat) (a : Instr × Nat × Int32), pm_c70 pc = some a → pm_dec prog_14_method_53_code pc a.1 a.2.1 a.2.2 := pm_nd_ok (pm_nd_ok (pm_nd_ok (pm_nd_ok (pm_decs (by decide +kernel)) (pm_decs (by decide +kernel))) (pm_nd_ok (pm_decs (by decide +kernel)) (pm_decs (by decide +kernel)))) (pm_nd_ok (pm_nd_ok (pm_decs (by decide +kernel)) (pm_decs (by decide +kernel))) (pm_nd_ok (pm_decs (by decide +kernel)) (pm_decs (by decide +kernel))))) (pm_nd_ok (pm_nd_ok (pm_nd_ok (pm_decs (by decide +kernel)) (pm_decs (by decide +kernel))) (pm_nd_ok (pm_decs (by decide +kernel)) (pm_decs (by decide +kernel)))) (pm_nd_ok (pm_nd_ok (pm_decs (by decide +kernel)) (pm_decs (by decide +kernel))) (pm_nd_ok (pm_decs (by decide +kernel)) (pm_decs (by decide +kernel)))))
set_option maxRecDepth 20000 in
theorem om_70 : pm_okM pm_m70 := ⟨by decide +kernel, by decide +kernel, by decide +kernel, fun h => absurd h (by decide), by decide, rfl, fun pc i tgt cv h => dc_70 pc (i, tgt, cv) h⟩
set_option maxRecDepth 20000 in
theorem dc_71 : ∀ (pc : Nat) (a : Instr × Nat × Int32), pm_c71 pc = some a → pm_dec prog_14_method_54_code pc a.1 a.2.1 a.2.2 := pm_nd_ok (pm_nd_ok (pm_nd_ok (pm_nd_ok (pm_nd_ok (pm_decs (by decide +kernel)) (pm_nd_ok (pm_decs (by decide +kernel)) (pm_decs (by decide +kernel)))) (pm_nd_ok (pm_decs (by decide +kernel)) (pm_nd_ok (pm_decs (by decide +kernel)) (pm_decs (by decide +kernel))))) (pm_nd_ok (pm_nd_ok (pm_decs (by decide +kernel)) (pm_nd_ok (pm_decs (by decide +kernel)) (pm_decs (by decide +kernel)))) (pm_nd_ok (pm_decs (by decide +kernel)) (pm_nd_ok (pm_decs (by decide +kernel)) (pm_decs (by decide +kernel)))))) (pm_nd_ok (pm_nd_ok (pm_nd_ok (pm_decs (by decide +kernel)) (pm_nd_ok (pm_decs (by decide +kernel)) (pm_decs (by decide +kernel)))) (pm_nd_ok (pm_decs (by decide +kernel)) (pm_nd_ok (pm_decs (by decide +kernel)) (pm_decs (by decide +kernel))))) (pm_nd_ok (pm_nd_ok (pm_decs (by decide +kernel)) (pm_nd_ok (pm_decs (by decide +kernel)) (pm_decs (by decide +kernel)))) (pm_nd_ok (pm_nd_ok (pm_decs (by decide +kernel)) (pm_decs (by decide +kernel))) (pm_nd_ok (pm_decs (by decide +kernel)) (pm_decs (by decide +kernel))))))) (pm_nd_ok (pm_nd_ok (pm_nd_ok (pm_nd_ok (pm_decs (by decide +kernel)) (pm_nd_ok (pm_decs (by decide +kernel)) (pm_decs (by decide +kernel)))) (pm_nd_ok (pm_decs (by decide +kernel)) (pm_nd_ok (pm_decs (by decide +kernel)) (pm_decs (by decide +kernel))))) (pm_nd_ok (pm_nd_ok (pm_decs (by decide +kernel)) (pm_nd_ok (pm_decs (by decide +kernel)) (pm_decs (by decide +kernel)))) (pm_nd_ok (pm_nd_ok (pm_decs (by decide +kernel)) (pm_decs (by decide +kernel))) (pm_nd_ok (pm_decs (by decide +kernel)) (pm_decs (by decide +kernel)))))) (pm_nd_ok (pm_nd_ok (pm_nd_ok (pm_decs (by decide +kernel)) (pm_nd_ok (pm_decs (by decide +kernel)) (pm_decs (by decide +kernel)))) (pm_nd_ok (pm_decs (by decide +kernel)) (pm_nd_ok (pm_decs (by decide +kernel)) (pm_decs (by decide +kernel))))) (pm_nd_ok (pm_nd_ok (pm_decs (by decide +kernel)) (pm_nd_ok (pm_decs (by decide +kernel)) (pm_decs (by decide +kernel)))) (pm_nd_ok (pm_nd_ok (pm_decs (by decide +kernel)) (pm_decs (by decide +kernel))) (pm_nd_ok (pm_decs (by decide +kernel)) (pm_decs (by decide +kernel)))))))
set_option maxRecDepth 20000 in
theorem om_71 : pm_okM pm_m71 := ⟨by decide +kernel, by decide +kernel, by decide +kernel, fun h => absurd h (by decide), by decide, rfl, fun pc i tgt cv h => dc_71 pc (i, tgt, cv) h⟩
set_option maxRecDepth 20000 in
theorem dc_72 : ∀ (pc : Nat) (a : Instr × Nat × Int32), pm_c72 pc = some a → pm_dec prog_14_method_55_code pc a.1 a.2.1 a.2.2 := pm_nd_ok (pm_nd_ok (pm_nd_ok (pm_decs (by decide +kernel)) (pm_decs (by decide +kernel))) (pm_nd_ok (pm_decs (by decide +kernel)) (pm_decs (by decide +kernel)))) (pm_nd_ok (pm_nd_ok (pm_decs (by decide +kernel)) (pm_decs (by decide +kernel))) (pm_nd_ok (pm_decs (by decide +kernel)) (pm_decs (by decide +kernel))))
set_option maxRecDepth 20000 in
theorem om_72 : pm_okM pm_m72 := ⟨by decide +kernel, by decide +kernel, by decide +kernel, fun h => absurd h (by decide), by decide, rfl, fun pc i tgt cv h => dc_72 pc (i, tgt, cv) h⟩
set_option maxRecDepth 20000 in
theorem dc_73 : ∀ (pc : Nat) (a : Instr × Nat × Int32), pm_c73 pc = some a → pm_dec prog_14_method_56_code pc a.1 a.2.1 a.2.2 := pm_nd_ok (pm_nd_ok (pm_nd_ok (pm_nd_ok (pm_nd_ok (pm_decs (by decide +kernel)) (pm_decs (by decide +kernel))) (pm_nd_ok (pm_decs (by decide +kernel)) (pm_decs (by decide +kernel)))) (pm_nd_ok (pm_nd_ok (pm_decs (by decide +kernel)) (pm_decs (by decide +kernel))) (pm_nd_ok (pm_decs (by decide +kernel)) (pm_decs (by decide +kernel))))) (pm_nd_ok (pm_nd_ok (pm_nd_ok (pm_decs (by decide +kernel)) (pm_decs (by decide +kernel))) (pm_nd_ok (pm_decs (by decide +kernel)) (pm_decs (by decide +kernel)))) (pm_nd_ok (pm_nd_ok (pm_decs (by decide +kernel)) (pm_decs (by decide +kernel))) (pm_nd_ok (pm_decs (by decide +kernel)) (pm_decs (by decide +kernel)))))) (pm_nd_ok (pm_nd_ok (pm_nd_ok (pm_nd_ok (pm_decs (by decide +kernel)) (pm_decs (by decide +kernel))) (pm_nd_ok (pm_decs (by decide +kernel)) (pm_decs (by decide +kernel)))) (pm_nd_ok (pm_nd_ok (pm_decs (by decide +kernel)) (pm_decs (by decide +kernel))) (pm_nd_ok (pm_decs (by decide +kernel)) (pm_decs (by decide +kernel))))) (pm_nd_ok (pm_nd_ok (pm_nd_ok (pm_decs (by decide +kernel)) (pm_decs (by decide +kernel))) (pm_nd_ok (pm_decs (by decide +kernel)) (pm_decs (by decide +kernel)))) (pm_nd_ok (pm_nd_ok (pm_decs (by decide +kernel)) (pm_decs (by decide +kernel))) (pm_nd_ok (pm_decs (by decide +kernel)) (pm_decs (by decide +kernel))))))
set_option maxRecDepth 20000 in
theorem om_73 : pm_okM pm_m73 := ⟨by decide +kernel, by decide +kernel, by decide +kernel, fun h => absurd h (by decide), by decide, rfl, fun pc i tgt cv h => dc_73 pc (i, tgt, cv) h⟩
set_option maxRecDepth 20000 in
theorem dc_74 : ∀ (pc : Nat) (a : Instr × Nat × Int32), pm_c74 pc = some a → pm_dec prog_14_method_57_code pc a.1 a.2.1 a.2.2 := pm_nd_ok (pm_nd_ok (pm_decs (by decide +kernel)) (pm_decs (by decide +kernel))) (pm_nd_ok (pm_decs (by decide +kernel)) (pm_decs (by decide +kernel)))
set_option maxRecDepth 20000 in
theorem om_74 : pm_okM pm_m74 := ⟨by decide +kernel, by decide +kernel, by decide +kernel, fun h => absurd h (by decide), by decide, rfl, fun pc i tgt cv h => dc_74 pc (i, tgt, cv) h⟩
set_option maxRecDepth 20000 in
theorem dc_75 : ∀ (pc : Nat) (a : Instr × Nat × Int32), pm_c75 pc = some a → pm_dec prog_14_method_58_code pc a.1 a.2.1 a.2.2 := pm_nd_ok (pm_nd_ok (pm_nd_ok (pm_nd_ok (pm_decs (by decide +kernel)) (pm_decs (by decide +kernel))) (pm_nd_ok (pm_decs (by decide +kernel)) (pm_nd_ok (pm_decs (by decide +kernel)) (pm_decs (by decide +kernel))))) (pm_nd_ok (pm_nd_ok (pm_decs (by decide +kernel)) (pm_nd_ok (pm_decs (by decide +kernel)) (pm_decs (by decide +kernel)))) (pm_nd_ok (pm_decs (by decide +kernel)) (pm_nd_ok (pm_decs (by decide +kernel)) (pm_decs (by decide +kernel)))))) (pm_nd_ok (pm_nd_ok (pm_nd_ok (pm_decs (by decide +kernel)) (pm_nd_ok (pm_decs (by decide +kernel)) (pm_decs (by decide +kernel)))) (pm_nd_ok (pm_decs (by decide +kernel)) (pm_nd_ok (pm_decs (by decide +kernel)) (pm_decs (by decide +kernel))))) (pm_nd_ok (pm_nd_ok (pm_decs (by decide +kernel)) (pm_nd_ok (pm_decs (by decide +kernel)) (pm_decs (by decide +kernel)))) (pm_nd_ok (pm_decs (by decide +kernel)) (pm_nd_ok (pm_decs (by decide +kernel)) (pm_decs (by decide +kernel))))))
set_option maxRecDepth 20000 in
theorem om_75 : pm_okM pm_m75 := ⟨by decide +kernel, by decide +kernel, by decide +kernel, fun h => absurd h (by decide), by decide, rfl, fun pc i tgt cv h => dc_75 pc (i, tgt, cv) h⟩
set_option maxRecDepth 20000 in
theorem dc_76 : ∀ (pc : Nat) (a : Instr × Nat × Int32), pm_c76 pc = some a → pm_dec prog_14_method_59_code pc a.1 a.2.1 a.2.2 := pm_nd_ok (pm_nd_ok (pm_nd_ok (pm_nd_ok (pm_decs (by decide +kernel)) (pm_decs (by decide +kernel))) (pm_nd_ok (pm_decs (by decide +kernel)) (pm_decs (by decide +kernel)))) (pm_nd_ok (pm_nd_ok (pm_decs (by decide +kernel)) (pm_decs (by decide +kernel))) (pm_nd_ok (pm_decs (by decide +kernel)) (pm_decs (by decide +kernel))))) (pm_nd_ok (pm_nd_ok (pm_nd_ok (pm_decs (by decide +kernel)) (pm_decs (by decide +kernel))) (pm_nd_ok (pm_decs (by decide +kernel)) (pm_decs (by decide +kernel)))) (pm_nd_ok (pm_nd_ok (pm_decs (by decide +kernel)) (pm_decs (by decide +kernel))) (pm_nd_ok (pm_decs (by decide +kernel)) (pm_decs (by decide +kernel)))))
set_option maxRecDepth 20000 in
theorem om_76 : pm_okM pm_m76 := ⟨by decide +kernel, by decide +kernel, by decide +kernel, fun h => absurd h (by decide), by decide, rfl, fun pc i tgt cv h => dc_76 pc (i, tgt, cv) h⟩
set_option maxRecDepth 20000 in
theorem dc_77 : ∀ (pc : Nat) (a : Instr × Nat × Int32), pm_c77 pc = some a → pm_dec prog_14_method_60_code pc a.1 a.2.1 a.2.2 := pm_nd_ok (pm_nd_ok (pm_nd_ok (pm_nd_ok (pm_nd_ok (pm_decs (by decide +kernel)) (pm_decs (by decide +kernel))) (pm_nd_ok (pm_decs (by decide +kernel)) (pm_decs (by decide +kernel)))) (pm_nd_ok (pm_nd_ok (pm_decs (by decide +kernel)) (pm_decs (by decide +kernel))) (pm_nd_ok (pm_decs (by decide +kernel)) (pm_decs (by decide +kernel))))) (pm_nd_ok (pm_nd_ok (pm_nd_ok (pm_decs (by decide +kernel)) (pm_decs (by decide +kernel))) (pm_nd_ok (pm_decs (by decide +kernel)) (pm_decs (by decide +kernel)))) (pm_nd_ok (pm_nd_ok (pm_decs (by decide +kernel)) (pm_decs (by decide +kernel))) (pm_nd_ok (pm_decs (by decide +kernel)) (pm_decs (by decide +kernel)))))) (pm_nd_ok (pm_nd_ok (pm_nd_ok (pm_nd_ok (pm_decs (by decide +kernel)) (pm_decs (by decide +kernel))) (pm_nd_ok (pm_decs (by decide +kernel)) (pm_decs (by decide +kernel)))) (pm_nd_ok (pm_nd_ok (pm_decs (by decide +kernel)) (pm_decs (by decide +kernel))) (pm_nd_ok (pm_decs (by decide +kernel)) (pm_decs (by decide +kernel))))) (pm_nd_ok (pm_nd_ok (pm_nd_ok (pm_decs (by decide +kernel)) (pm_decs (by decide +kernel))) (pm_nd_ok (pm_decs (by decide +kernel)) (pm_decs (by decide +kernel)))) (pm_nd_ok (pm_nd_ok (pm_decs (by decide +kernel)) (pm_decs (by decide +kernel))) (pm_nd_ok (pm_decs (by decide +kernel)) (pm_decs (by decide +kernel))))))
set_option maxRecDepth 20000 in
theorem om_77 : pm_okM pm_m77 := ⟨by decide +kernel, by decide +kernel, by decide +kernel, fun h => absurd h (by decide), by decide, rfl, fun pc i tgt cv h => dc_77 pc (i, tgt, cv) h⟩
set_option maxRecDepth 20000 in
theorem dc_78 : ∀ (pc : Nat) (a : Instr × Nat × Int32), pm_c78 pc = some a → pm_dec prog_14_method_61_code pc a.1 a.2.1 a.2.2 := pm_nd_ok (pm_nd_ok (pm_nd_ok (pm_nd_ok (pm_decs (by decide +kernel)) (pm_decs (by decide +kernel))) (pm_nd_ok (pm_decs (by decide +kernel)) (pm_nd_ok (pm_decs (by decide +kernel)) (pm_decs (by decide +kernel))))) (pm_nd_ok (pm_nd_ok (pm_decs (by decide +kernel)) (pm_decs (by decide +kernel))) (pm_nd_ok (pm_decs (by decide +kernel)) (pm_nd_ok (pm_decs (by decide +kernel)) (pm_decs (by decide +kernel)))))) (pm_nd_ok (pm_nd_ok (pm_nd_ok (pm_decs (by decide +kernel)) (pm_decs (by decide +kernel))) (pm_nd_ok (pm_decs (by decide +kernel)) (pm_nd_ok (pm_decs (by decide +kernel)) (pm_decs (by decide +kernel))))) (pm_nd_ok (pm_nd_ok (pm_decs (by decide +kernel)) (pm_decs (by decide +kernel))) (pm_nd_ok (pm_decs (by decide +kernel)) (pm_nd_ok (pm_decs (by decide +kernel)) (pm_decs (by decide +kernel))))))
set_option maxRecDepth 20000 in
theorem om_78 : pm_okM pm_m78 := ⟨by decide +kernel, by decide +kernel, by decide +kernel, fun h => absurd h (by decide), by decide, rfl, fun pc i tgt cv h => dc_78 pc (i, tgt, cv) h⟩
set_option maxRecDepth 20000 in
theorem dc_79 : ∀ (pc : Nat) (a : Instr × Nat × Int32), pm_c79 pc = some a → pm_dec prog_14_method_62_code pc a.1 a.2.1 a.2.2 := pm_nd_ok (pm_nd_ok (pm_nd_ok (pm_decs (by decide +kernel)) (pm_decs (by decide +kernel))) (pm_nd_ok (pm_decs (by decide +kernel)) (pm_decs (by decide +kernel)))) (pm_nd_ok (pm_nd_ok (pm_decs (by decide +kernel)) (pm_decs (by decide +kernel))) (pm_nd_ok (pm_decs (by decide +kernel)) (pm_decs (by decide +kernel))))
set_option maxRecDepth 20000 in
theorem om_79 : pm_okM pm_m79 := ⟨by decide +kernel, by decide +kernel, by decide +kernel, fun h => absurd h (by decide), by decide, rfl, fun pc i tgt cv h => dc_79 pc (i, tgt, cv) h⟩
set_option maxRecDepth 20000 in
theorem dc_80 : ∀ (pc : Nat) (a : Instr × Nat × Int32), pm_c80 pc = some a → pm_dec prog_14_method_63_code pc a.1 a.2.1 a.2.2 := pm_nd_ok (pm_nd_ok (pm_nd_ok (pm_nd_ok (pm_nd_ok (pm_decs (by decide +kernel)) (pm_decs (by decide +kernel))) (pm_nd_ok (pm_decs (by decide +kernel)) (pm_decs (by decide +kernel)))) (pm_nd_ok (pm_nd_ok (pm_decs (by decide +kernel)) (pm_decs (by decide +kernel))) (pm_nd_ok (pm_decs (by decide +kernel)) (pm_decs (by decide +kernel))))) (pm_nd_ok (pm_nd_ok (pm_nd_ok (pm_decs (by decide +kernel)) (pm_decs (by decide +kernel))) (pm_nd_ok (pm_decs (by decide +kernel)) (pm_decs (by decide +kernel)))) (pm_nd_ok (pm_nd_ok (pm_decs (by decide +kernel)) (pm_decs (by decide +kernel))) (pm_nd_ok (pm_decs (by decide +kernel)) (pm_decs (by decide +kernel)))))) (pm_nd_ok (pm_nd_ok (pm_nd_ok (pm_nd_ok (pm_decs (by decide +kernel)) (pm_decs (by decide +kernel))) (pm_nd_ok (pm_decs (by decide +kernel)) (pm_decs (by decide +kernel)))) (pm_nd_ok (pm_nd_ok (pm_decs (by decide +kernel)) (pm_decs (by decide +kernel))) (pm_nd_ok (pm_decs (by decide +kernel)) (pm_decs (by decide +kernel))))) (pm_nd_ok (pm_nd_ok (pm_nd_ok (pm_decs (by decide +kernel)) (pm_decs (by decide +kernel))) (pm_nd_ok (pm_decs (by decide +kernel)) (pm_decs (by decide +kernel)))) (pm_nd_ok (pm_nd_ok (pm_decs (by decide +kernel)) (pm_decs (by decide +kernel))) (pm_nd_ok (pm_decs (by decide +kernel)) (pm_decs (by decide +kernel))))))
set_option maxRecDepth 20000 in
theorem om_80 : pm_okM pm_m80 := ⟨by decide +kernel, by decide +kernel, by decide +kernel, fun h => absurd h (by decide), by decide, rfl, fun pc i tgt cv h => dc_80 pc (i, tgt, cv) h⟩
set_option maxRecDepth 20000 in
theorem dc_81 : ∀ (pc : Nat) (a : Instr × Nat × Int32), pm_c81 pc = some a → pm_dec prog_14_method_64_code pc a.1 a.2.1 a.2.2 := pm_nd_ok (pm_nd_ok (pm_nd_ok (pm_nd_ok (pm_nd_ok (pm_decs (by decide +kernel)) (pm_decs (by decide +kernel))) (pm_nd_ok (pm_decs (by decide +kernel)) (pm_decs (by decide +kernel)))) (pm_nd_ok (pm_nd_ok (pm_decs (by decide +kernel)) (pm_decs (by decide +kernel))) (pm_nd_ok (pm_decs (by decide +kernel)) (pm_decs (by decide +kernel))))) (pm_nd_ok (pm_nd_ok (pm_nd_ok (pm_decs (by decide +kernel)) (pm_decs (by decide +kernel))) (pm_nd_ok (pm_decs (by decide +kernel)) (pm_decs (by decide +kernel)))) (pm_nd_ok (pm_nd_ok (pm_decs (by decide +kernel)) (pm_decs (by decide +kernel))) (pm_nd_ok (pm_decs (by decide +kernel)) (pm_decs (by decide +kernel)))))) (pm_nd_ok (pm_nd_ok (pm_nd_ok (pm_nd_ok (pm_decs (by decide +kernel)) (pm_decs (by decide +kernel))) (pm_nd_ok (pm_decs (by decide +kernel)) (pm_decs (by decide +kernel)))) (pm_nd_ok (pm_nd_ok (pm_decs (by decide +kernel)) (pm_decs (by decide +kernel))) (pm_nd_ok (pm_decs (by decide +kernel)) (pm_decs (by decide +kernel))))) (pm_nd_ok (pm_nd_ok (pm_nd_ok (pm_decs (by decide +kernel)) (pm_decs (by decide +kernel))) (pm_nd_ok (pm_decs (by decide +kernel)) (pm_decs (by decide +kernel)))) (pm_nd_ok (pm_nd_ok (pm_decs (by decide +kernel)) (pm_decs (by decide +kernel))) (pm_nd_ok (pm_decs (by decide +kernel)) (pm_decs (by decide +kernel))))))
set_option maxRecDepth 20000 in
theorem om_81 : pm_okM pm_m81 := ⟨by decide +kernel, by decide +kernel, by decide +kernel, fun h => absurd h (by decide), by decide, rfl, fun pc i tgt cv h => dc_81 pc (i, tgt, cv) h⟩
set_option maxRecDepth 20000 in
theorem dc_82 : ∀ (pc : Nat) (a : Instr × Nat × Int32), pm_c82 pc = some a → pm_dec prog_14_method_65_code pc a.1 a.2.1 a.2.2 := pm_nd_ok (pm_nd_ok (pm_nd_ok (pm_decs (by decide +kernel)) (pm_decs (by decide +kernel))) (pm_nd_ok (pm_decs (by decide +kernel)) (pm_decs (by decide +kernel)))) (pm_nd_ok (pm_nd_ok (pm_decs (by decide +kernel)) (pm_decs (by decide +kernel))) (pm_nd_ok (pm_decs (by decide +kernel)) (pm_decs (by decide +kernel))))
set_option maxRecDepth 20000 in
theorem om_82 : pm_okM pm_m82 := ⟨by decide +kernel, by decide +kernel, by decide +kernel, fun h => absurd h (by decide), by decide, rfl, fun pc i tgt cv h => dc_82 pc (i, tgt, cv) h⟩
set_option maxRecDepth 20000 in
theorem dc_83 : ∀ (pc : Nat) (a : Instr × Nat × Int32), pm_c83 pc = some a → pm_dec prog_14_method_66_code pc a.1 a.2.1 a.2.2 := pm_nd_ok (pm_nd_ok (pm_decs (by decide +kernel)) (pm_decs (by decide +kernel))) (pm_nd_ok (pm_decs (by decide +kernel)) (pm_decs (by decide +kernel)))
set_option maxRecDepth 20000 in
theorem om_83 : pm_okM pm_m83 := ⟨by decide +kernel, by decide +kernel, by decide +kernel, fun h => absurd h (by decide), by decide, rfl, fun pc i tgt cv h => dc_83 pc (i, tgt, cv) h⟩
set_option maxRecDepth 20000 in
theorem dc_84 : ∀ (pc : Nat) (a : Instr × Nat × Int32), pm_c84 pc = some a → pm_dec prog_14_method_67_code pc a.1 a.2.1 a.2.2 := pm_nd_ok (pm_nd_ok (pm_decs (by decide +kernel)) (pm_decs (by decide +kernel))) (pm_nd_ok (pm_decs (by decide +kernel)) (pm_decs (by decide +kernel)))
set_option maxRecDepth 20000 in
theorem om_84 : pm_okM pm_m84 := ⟨by decide +kernel, by decide +kernel, by decide +kernel, fun h => absurd h (by decide), by decide, rfl, fun pc i tgt cv h => dc_84 pc (i, tgt, cv) h⟩
set_option maxRecDepth 20000 in
theorem dc_85 : ∀ (pc : Nat) (a : Instr × Nat × Int32), pm_c85 pc = some a → pm_dec prog_14_method_68_code pc a.1 a.2.1 a.2.2 := pm_nd_ok (pm_nd_ok (pm_decs (by decide +kernel)) (pm_decs (by decide +kernel))) (pm_nd_ok (pm_decs (by decide +kernel)) (pm_decs (by decide +kernel)))
set_option maxRecDepth 20000 in
theorem om_85 : pm_okM pm_m85 := ⟨by decide +kernel, by decide +kernel, by decide +kernel, fun h => absurd h (by decide), by decide, rfl, fun pc i tgt cv h => dc_85 pc (i, tgt, cv) h⟩
set_option maxRecDepth 20000 in
theorem dc_86 : ∀ (pc : Nat) (a : Instr × Nat × Int32), pm_c86 pc = some a → pm_dec prog_14_method_69_code pc a.1 a.2.1 a.2.2 := pm_nd_ok (pm_nd_ok (pm_nd_ok (pm_nd_ok (pm_decs (by decide +kernel)) (pm_decs (by decide +kernel))) (pm_nd_ok (pm_decs (by decide +kernel)) (pm_decs (by decide +kernel)))) (pm_nd_ok (pm_nd_ok (pm_decs (by decide +kernel)) (pm_decs (by decide +kernel))) (pm_nd_ok (pm_decs (by decide +kernel)) (pm_decs (by decide +kernel))))) (pm_nd_ok (pm_nd_ok (pm_nd_ok (pm_decs (by decide +kernel)) (pm_decs (by decide +kernel))) (pm_nd_ok (pm_decs (by decide +kernel)) (pm_decs (by decide +kernel)))) (pm_nd_ok (pm_nd_ok (pm_decs (by decide +kernel)) (pm_decs (by decide +kernel))) (pm_nd_ok (pm_decs (by decide +kernel)) (pm_decs (by decide +kernel)))))
set_option maxRecDepth 20000 in
theorem om_86 : pm_okM pm_m86 := ⟨by decide +kernel, by decide +kernel, by decide +kernel, fun h => absurd h (by decide), by decide, rfl, fun pc i tgt cv h => dc_86 pc (i, tgt, cv) h⟩
set_option maxRecDepth 20000 in
theorem dc_87 : ∀ (pc : Nat) (a : Instr × Nat × Int32), pm_c87 pc = some a → pm_dec prog_14_method_70_code pc a.1 a.2.1 a.2.2 := pm_decs (by decide +kernel)
set_option maxRecDepth 20000 in
theorem om_87 : pm_okM pm_m87 := ⟨by decide +kernel, by decide +kernel, by decide +kernel, fun h => absurd h (by decide), by decide, rfl, fun pc i tgt cv h => dc_87 pc (i, tgt, cv) h⟩
set_option maxRecDepth 20000 in
theorem dc_88 : ∀ (pc : Nat) (a : Instr × Nat × Int32), pm_c88 pc = some a → pm_dec prog_14_method_71_code pc a.1 a.2.1 a.2.2 := pm_nd_ok (pm_decs (by decide +kernel)) (pm_nd_ok (pm_decs (by decide +kernel)) (pm_decs (by decide +kernel)))
set_option maxRecDepth 20000 in
theorem om_88 : pm_okM pm_m88 := ⟨by decide +kernel, by decide +kernel, by decide +kernel, fun h => absurd h (by decide), by decide, rfl, fun pc i tgt cv h => dc_88 pc (i, tgt, cv) h⟩
set_option maxRecDepth 20000 in
theorem dc_89 : ∀ (pc : Nat) (a : Instr × Nat × Int32), pm_c89 pc = some a → pm_dec prog_2_method_1_code pc a.1 a.2.1 a.2.2 := pm_nd_ok (pm_decs (by decide +kernel)) (pm_decs (by decide +kernel))
set_option maxRecDepth 20000 in
theorem om_89 : pm_okM pm_m89 := ⟨by decide +kernel, by decide +kernel, by decide +kernel, fun _ => ⟨rfl, rfl⟩, by decide, rfl, fun pc i tgt cv h => dc_89 pc (i, tgt, cv) h⟩
set_option maxRecDepth 20000 in
theorem dc_90 : ∀ (pc : Nat) (a : Instr × Nat × Int32), pm_c90 pc = some a → pm_dec prog_2_method_2_code pc a.1 a.2.1 a.2.2 := pm_nd_ok (pm_nd_ok (pm_decs (by decide +kernel)) (pm_decs (by decide +kernel))) (pm_nd_ok (pm_decs (by decide +kernel)) (pm_decs (by decide +kernel)))
set_option maxRecDepth 20000 in
theorem om_90 : pm_okM pm_m90 := ⟨by decide +kernel, by decide +kernel, by decide +kernel, fun h => absurd h (by decide), by decide, rfl, fun pc i tgt cv h => dc_90 pc (i, tgt, cv) h⟩
set_option maxRecDepth 20000 in
theorem dc_91 : ∀ (pc : Nat) (a : Instr × Nat × Int32), pm_c91 pc = some a → pm_dec prog_2_method_3_code pc a.1 a.2.1 a.2.2 := pm_nd_ok (pm_nd_ok (pm_nd_ok (pm_decs (by decide +kernel)) (pm_decs (by decide +kernel))) (pm_nd_ok (pm_decs (by decide +kernel)) (pm_decs (by decide +kernel)))) (pm_nd_ok (pm_nd_ok (pm_decs (by decide +kernel)) (pm_decs (by decide +kernel))) (pm_nd_ok (pm_decs (by decide +kernel)) (pm_decs (by decide +kernel))))
set_option maxRecDepth 20000 in
theorem om_91 : pm_okM pm_m91 := ⟨by decide +kernel, by decide +kernel, by decide +kernel, fun h => absurd h (by decide), by decide, rfl, fun pc i tgt cv h => dc_91 pc (i, tgt, cv) h⟩
set_option maxRecDepth 20000 in
theorem dc_92 : ∀ (pc : Nat) (a : Instr × Nat × Int32), pm_c92 pc = some a → pm_dec prog_2_method_4_code pc a.1 a.2.1 a.2.2 := pm_nd_ok (pm_nd_ok (pm_nd_ok (pm_decs (by decide +kernel)) (pm_decs (by decide +kernel))) (pm_nd_ok (pm_decs (by decide +kernel)) (pm_decs (by decide +kernel)))) (pm_nd_ok (pm_nd_ok (pm_decs (by decide +kernel)) (pm_decs (by decide +kernel))) (pm_nd_ok (pm_decs (by decide +kernel)) (pm_decs (by decide +kernel))))
set_option maxRecDepth 20000 in
theorem om_92 : pm_okM pm_m92 := ⟨by decide +kernel, by decide +kernel, by decide +kernel, fun h => absurd h (by decide), by decide, rfl, fun pc i tgt cv h => dc_92 pc (i, tgt, cv) h⟩
set_option maxRecDepth 20000 in
theorem dc_93 : ∀ (pc : Nat) (a : Instr × Nat × Int32), pm_c93 pc = some a → pm_dec prog_2_method_5_code pc a.1 a.2.1 a.2.2 := pm_nd_ok (pm_nd_ok (pm_decs (by decide +kernel)) (pm_decs (by decide +kernel))) (pm_nd_ok (pm_decs (by decide +kernel)) (pm_nd_ok (pm_decs (by decide +kernel)) (pm_decs (by decide +kernel))))
set_option maxRecDepth 20000 in
theorem om_93 : pm_okM pm_m93 := ⟨by decide +kernel, by decide +kernel, by decide +kernel, fun h => absurd h (by decide), by decide, rfl, fun pc i tgt cv h => dc_93 pc (i, tgt, cv) h⟩
set_option maxRecDepth 20000 in
theorem dc_94 : ∀ (pc : Nat) (a : Instr × Nat × Int32), pm_c94 pc = some a → pm_dec prog_2_method_6_code pc a.1 a.2.1 a.2.2 := pm_nd_ok (pm_nd_ok (pm_nd_ok (pm_decs (by decide +kernel)) (pm_decs (by decide +kernel))) (pm_nd_ok (pm_decs (by decide +kernel)) (pm_decs (by decide +kernel)))) (pm_nd_ok (pm_nd_ok (pm_decs (by decide +kernel)) (pm_decs (by decide +kernel))) (pm_nd_ok (pm_decs (by decide +kernel)) (pm_decs (by decide +kernel))))
set_option maxRecDepth 20000 in
theorem om_94 : pm_okM pm_m94 := ⟨by decide +kernel, by decide +kernel, by decide +kernel, fun h => absurd h (by decide), by decide, rfl, fun pc i tgt cv h => dc_94 pc (i, tgt, cv) h⟩
set_option maxRecDepth 20000 in
theorem dc_95 : ∀ (pc : Nat) (a : Instr × Nat × Int32), pm_c95 pc = some a → pm_dec prog_2_method_7_code pc a.1 a.2.1 a.2.2 := pm_nd_ok (pm_nd_ok (pm_nd_ok (pm_decs (by decide +kernel)) (pm_decs (by decide +kernel))) (pm_nd_ok (pm_decs (by decide +kernel)) (pm_decs (by decide +kernel)))) (pm_nd_ok (pm_nd_ok (pm_decs (by decide +kernel)) (pm_decs (by decide +kernel))) (pm_nd_ok (pm_decs (by decide +kernel)) (pm_decs (by decide +kernel))))
set_option maxRecDepth 20000 in
theorem om_95 : pm_okM pm_m95 := ⟨by decide +kernel, by decide +kernel, by decide +kernel, fun h => absurd h (by decide), by decide, rfl, fun pc i tgt cv h => dc_95 pc (i, tgt, cv) h⟩
set_option maxRecDepth 20000 in
theorem dc_96 : ∀ (pc : Nat) (a : Instr × Nat × Int32), pm_c96 pc = some a → pm_dec prog_2_method_8_code pc a.1 a.2.1 a.2.2 := pm_nd_ok (pm_nd_ok (pm_nd_ok (pm_decs (by decide +kernel)) (pm_decs (by decide +kernel))) (pm_nd_ok (pm_decs (by decide +kernel)) (pm_decs (by decide +kernel)))) (pm_nd_ok (pm_nd_ok (pm_decs (by decide +kernel)) (pm_decs (by decide +kernel))) (pm_nd_ok (pm_decs (by decide +kernel)) (pm_decs (by decide +kernel))))
set_option maxRecDepth 20000 in
theorem om_96 : pm_okM pm_m96 := ⟨by decide +kernel, by decide +kernel, by decide +kernel, fun h => absurd h (by decide), by decide, rfl, fun pc i tgt cv h => dc_96 pc (i, tgt, cv) h⟩
set_option maxRecDepth 20000 in
theorem dc_97 : ∀ (pc : Nat) (a : Instr × Nat × Int32), pm_c97 pc = some a → pm_dec prog_2_method_9_code pc a.1 a.2.1 a.2.2 := pm_nd_ok (pm_nd_ok (pm_nd_ok (pm_decs (by decide +kernel)) (pm_decs (by decide +kernel))) (pm_nd_ok (pm_decs (by decide +kernel)) (pm_decs (by decide +kernel)))) (pm_nd_ok (pm_nd_ok (pm_decs (by decide +kernel)) (pm_decs (by decide +kernel))) (pm_nd_ok (pm_decs (by decide +kernel)) (pm_decs (by decide +kernel))))
set_option maxRecDepth 20000 in
theorem om_97 : pm_okM pm_m97 := ⟨by decide +kernel, by decide +kernel, by decide +kernel, fun h => absurd h (by decide), by decide, rfl, fun pc i tgt cv h => dc_97 pc (i, tgt, cv) h⟩
set_option maxRecDepth 20000 in
theorem dc_98 : ∀ (pc : Nat) (a : Instr × Nat × Int32), pm_c98 pc = some a → pm_dec prog_2_method_10_code pc a.1 a.2.1 a.2.2 := pm_nd_ok (pm_nd_ok (pm_decs (by decide +kernel)) (pm_decs (by decide +kernel))) (pm_nd_ok (pm_decs (by decide +kernel)) (pm_nd_ok (pm_decs (by decide +kernel)) (pm_decs (by decide +kernel))))
set_option maxRecDepth 20000 in
theorem om_98 : pm_okM pm_m98 := ⟨by decide +kernel, by decide +kernel, by decide +kernel, fun h => absurd h (by decide), by decide, rfl, fun pc i tgt cv h => dc_98 pc (i, tgt, cv) h⟩
set_option maxRecDepth 20000 in
theorem dc_99 : ∀ (pc : Nat) (a : Instr × Nat × Int32), pm_c99 pc = some a → pm_dec prog_2_method_11_code pc a.1 a.2.1 a.2.2 := pm_nd_ok (pm_nd_ok (pm_decs (by decide +kernel)) (pm_decs (by decide +kernel))) (pm_nd_ok (pm_decs (by decide +kernel)) (pm_decs (by decide +kernel)))
set_option maxRecDepth 20000 in
theorem om_99 : pm_okM pm_m99 := ⟨by decide +kernel, by decide +kernel, by decide +kernel, fun h => absurd h (by decide), by decide, rfl, fun pc i tgt cv h => dc_99 pc (i, tgt, cv) h⟩
set_option maxRecDepth 20000 in
theorem dc_100 : ∀ (pc : Nat) (a : Instr × Nat × Int32), pm_c100 pc = some a → pm_dec prog_3_method_1_code pc a.1 a.2.1 a.2.2 := pm_nd_ok (pm_nd_ok (pm_decs (by decide +kernel)) (pm_nd_ok (pm_decs (by decide +kernel)) (pm_decs (by decide +kernel)))) (pm_nd_ok (pm_nd_ok (pm_decs (by decide +kernel)) (pm_decs (by decide +kernel))) (pm_nd_ok (pm_decs (by decide +kernel)) (pm_decs (by decide +kernel))))
set_option maxRecDepth 20000 in
theorem om_100 : pm_okM pm_m100 := ⟨by decide +kernel, by decide +kernel, by decide +kernel, fun _ => ⟨rfl, rfl⟩, by decide, rfl, fun pc i tgt cv h => dc_100 pc (i, tgt, cv) h⟩
set_option maxRecDepth 20000 in
theorem dc_101 : ∀ (pc : Nat) (a : Instr × Nat × Int32), pm_c101 pc = some a → pm_dec prog_3_method_2_code pc a.1 a.2.1 a.2.2 := pm_nd_ok (pm_decs (by decide +kernel)) (pm_decs (by decide +kernel))
set_option maxRecDepth 20000 in
theorem om_101 : pm_okM pm_m101 := ⟨by decide +kernel, by decide +kernel, by decide +kernel, fun h => absurd h (by decide), by decide, rfl, fun pc i tgt cv h => dc_101 pc (i, tgt, cv) h⟩
set_option maxRecDepth 20000 in
theorem dc_102 : ∀ (pc : Nat) (a : Instr × Nat × Int32), pm_c102 pc = some a → pm_dec prog_3_method_3_code pc a.1 a.2.1 a.2.2 := pm_nd_ok (pm_nd_ok (pm_nd_ok (pm_decs (by decide +kernel)) (pm_decs (by decide +kernel))) (pm_nd_ok (pm_decs (by decide +kernel)) (pm_decs (by decide +kernel)))) (pm_nd_ok (pm_nd_ok (pm_decs (by decide +kernel)) (pm_decs (by decide +kernel))) (pm_nd_ok (pm_decs (by decide +kernel)) (pm_decs (by decide +kernel))))
set_option maxRecDepth 20000 in
theorem om_102 : pm_okM pm_m102 := ⟨by decide +kernel, by decide +kernel, by decide +kernel, fun h => absurd h (by decide), by decide, rfl, fun pc i tgt cv h => dc_102 pc (i, tgt, cv) h⟩
set_option maxRecDepth 20000 in
theorem dc_103 : ∀ (pc : Nat) (a : Instr × Nat × Int32), pm_c103 pc = some a → pm_dec prog_3_method_4_code pc a.1 a.2.1 a.2.2 := pm_nd_ok (pm_nd_ok (pm_decs (by decide +kernel)) (pm_decs (by decide +kernel))) (pm_nd_ok (pm_decs (by decide +kernel)) (pm_decs (by decide +kernel)))
set_option maxRecDepth 20000 in
theorem om_103 : pm_okM pm_m103 := ⟨by decide +kernel, by decide +kernel, by decide +kernel, fun h => absurd h (by decide), by decide, rfl, fun pc i tgt cv h => dc_103 pc (i, tgt, cv) h⟩
set_option maxRecDepth 20000 in
theorem dc_104 : ∀ (pc : Nat) (a : Instr × Nat × Int32), pm_c104 pc = some a → pm_dec prog_3_method_5_code pc a.1 a.2.1 a.2.2 := pm_nd_ok (pm_nd_ok (pm_decs (by decide +kernel)) (pm_decs (by decide +kernel))) (pm_nd_ok (pm_decs (by decide +kernel)) (pm_decs (by decide +kernel)))
set_option maxRecDepth 20000 in
theorem om_104 : pm_okM pm_m104 := ⟨by decide +kernel, by decide +kernel, by decide +kernel, fun h => absurd h (by decide), by decide, rfl, fun pc i tgt cv h => dc_104 pc (i, tgt, cv) h⟩
set_option maxRecDepth 20000 in
theorem dc_105 : ∀ (pc : Nat) (a : Instr × Nat × Int32), pm_c105 pc = some a → pm_dec prog_3_method_6_code pc a.1 a.2.1 a.2.2 := pm_nd_ok (pm_nd_ok (pm_decs (by decide +kernel)) (pm_decs (by decide +kernel))) (pm_nd_ok (pm_decs (by decide +kernel)) (pm_decs (by decide +kernel)))
set_option maxRecDepth 20000 in
theorem om_105 : pm_okM pm_m105 := ⟨by decide +kernel, by decide +kernel, by decide +kernel, fun h => absurd h (by decide), by decide, rfl, fun pc i tgt cv h => dc_105 pc (i, tgt, cv) h⟩
set_option maxRecDepth 20000 in
theorem dc_106 : ∀ (pc : Nat) (a : Instr × Nat × Int32), pm_c106 pc = some a → pm_dec prog_3_method_7_code pc a.1 a.2.1 a.2.2 := pm_nd_ok (pm_decs (by decide +kernel)) (pm_decs (by decide +kernel))
set_option maxRecDepth 20000 in
theorem om_106 : pm_okM pm_m106 := ⟨by decide +kernel, by decide +kernel, by decide +kernel, fun h => absurd h (by decide), by decide, rfl, fun pc i tgt cv h => dc_106 pc (i, tgt, cv) h⟩
set_option maxRecDepth 20000 in
theorem dc_107 : ∀ (pc : Nat) (a : Instr × Nat × Int32), pm_c107 pc = some a → pm_dec prog_3_method_8_code pc a.1 a.2.1 a.2.2 := pm_nd_ok (pm_decs (by decide +kernel)) (pm_decs (by decide +kernel))
set_option maxRecDepth 20000 in
theorem om_107 : pm_okM pm_m107 := ⟨by decide +kernel, by decide +kernel, by decide +kernel, fun h => absurd h (by decide), by decide, rfl, fun pc i tgt cv h => dc_107 pc (i, tgt, cv) h⟩
set_option maxRecDepth 20000 in
theorem dc_108 : ∀ (pc : Nat) (a : Instr × Nat × Int32), pm_c108 pc = some a → pm_dec prog_3_method_9_code pc a.1 a.2.1 a.2.2 := pm_decs (by decide +kernel)
set_option maxRecDepth 20000 in
theorem om_108 : pm_okM pm_m108 := ⟨by decide +kernel, by decide +kernel, by decide +kernel, fun h => absurd h (by decide), by decide, rfl, fun pc i tgt cv h => dc_108 pc (i, tgt, cv) h⟩
set_option maxRecDepth 20000 in
theorem dc_109 : ∀ (pc : Nat) (a : Instr × Nat × Int32), pm_c109 pc = some a → pm_dec prog_3_method_10_code pc a.1 a.2.1 a.2.2 := pm_nd_ok (pm_decs (by decide +kernel)) (pm_nd_ok (pm_decs (by decide +kernel)) (pm_decs (by decide +kernel)))
set_option maxRecDepth 20000 in
theorem om_109 : pm_okM pm_m109 := ⟨by decide +kernel, by decide +kernel, by decide +kernel, fun h => absurd h (by decide), by decide, rfl, fun pc i tgt cv h => dc_109 pc (i, tgt, cv) h⟩
set_option maxRecDepth 20000 in
theorem dc_110 : ∀ (pc : Nat) (a : Instr × Nat × Int32), pm_c110 pc = some a → pm_dec prog_3_method_11_code pc a.1 a.2.1 a.2.2 := pm_nd_ok (pm_decs (by decide +kernel)) (pm_nd_ok (pm_decs (by decide +kernel)) (pm_decs (by decide +kernel)))
set_option maxRecDepth 20000 in
theorem om_110 : pm_okM pm_m110 := ⟨by decide +kernel, by decide +kernel, by decide +kernel, fun h => absurd h (by decide), by decide, rfl, fun pc i tgt cv h => dc_110 pc (i, tgt, cv) h⟩
set_option maxRecDepth 20000 in
theorem dc_111 : ∀ (pc : Nat) (a : Instr × Nat × Int32), pm_c111 pc = some a → pm_dec prog_3_method_12_code pc a.1 a.2.1 a.2.2 := pm_nd_ok (pm_nd_ok (pm_decs (by decide +kernel)) (pm_decs (by decide +kernel))) (pm_nd_ok (pm_decs (by decide +kernel)) (pm_decs (by decide +kernel)))
set_option maxRecDepth 20000 in
theorem om_111 : pm_okM pm_m111 := ⟨by decide +kernel, by decide +kernel, by decide +kernel, fun h => absurd h (by decide), by decide, rfl, fun pc i tgt cv h => dc_111 pc (i, tgt, cv) h⟩
set_option maxRecDepth 20000 in
theorem dc_112 : ∀ (pc : Nat) (a : Instr × Nat × Int32), pm_c112 pc = some a → pm_dec prog_3_method_13_code pc a.1 a.2.1 a.2.2 := pm_nd_ok (pm_nd_ok (pm_decs (by decide +kernel)) (pm_decs (by decide +kernel))) (pm_nd_ok (pm_decs (by decide +kernel)) (pm_decs (by decide +kernel)))
set_option maxRecDepth 20000 in
theorem om_112 : pm_okM pm_m112 := ⟨by decide +kernel, by decide +kernel, by decide +kernel, fun h => absurd h (by decide), by decide, rfl, fun pc i tgt cv h => dc_112 pc (i, tgt, cv) h⟩
set_option maxRecDepth 20000 in
theorem dc_113 : ∀ (pc : Nat) (a : Instr × Nat × Int32), pm_c113 pc = some a → pm_dec prog_3_method_14_code pc a.1 a.2.1 a.2.2 := pm_decs (by decide +kernel)
set_option maxRecDepth 20000 in
theorem om_113 : pm_okM pm_m113 := ⟨by decide +kernel, by decide +kernel, by decide +kernel, fun h => absurd h (by decide), by decide, rfl, fun pc i tgt cv h => dc_113 pc (i, tgt, cv) h⟩
set_option maxRecDepth 20000 in
theorem dc_114 : ∀ (pc : Nat) (a : Instr × Nat × Int32), pm_c114 pc = some a → pm_dec prog_3_method_15_code pc a.1 a.2.1 a.2.2 := pm_nd_ok (pm_decs (by decide +kernel)) (pm_decs (by decide +kernel))
set_option maxRecDepth 20000 in
theorem om_114 : pm_okM pm_m114 := ⟨by decide +kernel, by decide +kernel, by decide +kernel, fun h => absurd h (by decide), by decide, rfl, fun pc i tgt cv h => dc_114 pc (i, tgt, cv) h⟩
set_option maxRecDepth 20000 in
theorem dc_115 : ∀ (pc : Nat) (a : Instr × Nat × Int32), pm_c115 pc = some a → pm_dec prog_3_method_16_code pc a.1 a.2.1 a.2.2 := pm_nd_ok (pm_nd_ok (pm_decs (by decide +kernel)) (pm_nd_ok (pm_decs (by decide +kernel)) (pm_decs (by decide +kernel)))) (pm_nd_ok (pm_decs (by decide +kernel)) (pm_nd_ok (pm_decs (by decide +kernel)) (pm_decs (by decide +kernel))))
set_option maxRecDepth 20000 in
theorem om_115 : pm_okM pm_m115 := ⟨by decide +kernel, by decide +kernel, by decide +kernel, fun h => absurd h (by decide), by decide, rfl, fun pc i tgt cv h => dc_115 pc (i, tgt, cv) h⟩
set_option maxRecDepth 20000 in
theorem dc_116 : ∀ (pc : Nat) (a : Instr × Nat × Int32), pm_c116 pc = some a → pm_dec prog_3_method_17_code pc a.1 a.2.1 a.2.2 := pm_nd_ok (pm_nd_ok (pm_decs (by decide +kernel)) (pm_nd_ok (pm_decs (by decide +kernel)) (pm_decs (by decide +kernel)))) (pm_nd_ok (pm_decs (by decide +kernel)) (pm_nd_ok (pm_decs (by decide +kernel)) (pm_decs (by decide +kernel))))
set_option maxRecDepth 20000 in
theorem om_116 : pm_okM pm_m116 := ⟨by decide +kernel, by decide +kernel, by decide +kernel, fun h => absurd h (by decide), by decide, rfl, fun pc i tgt cv h => dc_116 pc (i, tgt, cv) h⟩
set_option maxRecDepth 20000 in
theorem dc_117 : ∀ (pc : Nat) (a : Instr × Nat × Int32), pm_c117 pc = some a → pm_dec prog_3_method_18_code pc a.1 a.2.1 a.2.2 := pm_nd_ok (pm_nd_ok (pm_nd_ok (pm_decs (by decide +kernel)) (pm_decs (by decide +kernel))) (pm_nd_ok (pm_decs (by decide +kernel)) (pm_decs (by decide +kernel)))) (pm_nd_ok (pm_nd_ok (pm_decs (by decide +kernel)) (pm_decs (by decide +kernel))) (pm_nd_ok (pm_decs (by decide +kernel)) (pm_decs (by decide +kernel))))
set_option maxRecDepth 20000 in
theorem om_117 : pm_okM pm_m117 := ⟨by decide +kernel, by decide +kernel, by decide +kernel, fun h => absurd h (by decide), by decide, rfl, fun pc i tgt cv h => dc_117 pc (i, tgt, cv) h⟩
set_option maxRecDepth 20000 in
theorem dc_118 : ∀ (pc : Nat) (a : Instr × Nat × Int32), pm_c118 pc = some a → pm_dec prog_3_method_19_code pc a.1 a.2.1 a.2.2 := pm_nd_ok (pm_nd_ok (pm_decs (by decide +kernel)) (pm_decs (by decide +kernel))) (pm_nd_ok (pm_decs (by decide +kernel)) (pm_decs (by decide +kernel)))
set_option maxRecDepth 20000 in
theorem om_118 : pm_okM pm_m118 := ⟨by decide +kernel, by decide +kernel, by decide +kernel, fun h => absurd h (by decide), by decide, rfl, fun pc i tgt cv h => dc_118 pc (i, tgt, cv) h⟩
set_option maxRecDepth 20000 in
theorem dc_119 : ∀ (pc : Nat) (a : Instr × Nat × Int32), pm_c119 pc = some a → pm_dec prog_3_method_20_code pc a.1 a.2.1 a.2.2 := pm_nd_ok (pm_nd_ok (pm_decs (by decide +kernel)) (pm_decs (by decide +kernel))) (pm_nd_ok (pm_decs (by decide +kernel)) (pm_decs (by decide +kernel)))
set_option maxRecDepth 20000 in
theorem om_119 : pm_okM pm_m119 := ⟨by decide +kernel, by decide +kernel, by decide +kernel, fun h => absurd h (by decide), by decide, rfl, fun pc i tgt cv h => dc_119 pc (i, tgt, cv) h⟩
set_option maxRecDepth 20000 in
theorem dc_120 : ∀ (pc : Nat) (a : Instr × Nat × Int32), pm_c120 pc = some a → pm_dec prog_3_method_21_code pc a.1 a.2.1 a.2.2 := pm_nd_ok (pm_nd_ok (pm_nd_ok (pm_decs (by decide +kernel)) (pm_decs (by decide +kernel))) (pm_nd_ok (pm_decs (by decide +kernel)) (pm_decs (by decide +kernel)))) (pm_nd_ok (pm_nd_ok (pm_decs (by decide +kernel)) (pm_decs (by decide +kernel))) (pm_nd_ok (pm_decs (by decide +kernel)) (pm_decs (by decide +kernel))))
set_option maxRecDepth 20000 in
theorem om_120 : pm_okM pm_m120 := ⟨by decide +kernel, by decide +kernel, by decide +kernel, fun h => absurd h (by decide), by decide, rfl, fun pc i tgt cv h => dc_120 pc (i, tgt, cv) h⟩
set_option maxRecDepth 20000 in
theorem dc_121 : ∀ (pc : Nat) (a : Instr × Nat × Int32), pm_c121 pc = some a → pm_dec prog_3_method_22_code pc a.1 a.2.1 a.2.2 := pm_nd_ok (pm_decs (by decide +kernel)) (pm_nd_ok (pm_decs (by decide +kernel)) (pm_decs (by decide +kernel)))
set_option maxRecDepth 20000 in
theorem om_121 : pm_okM pm_m121 := ⟨by decide +kernel, by decide +kernel, by decide +kernel, fun h => absurd h (by decide), by decide, rfl, fun pc i tgt cv h => dc_121 pc (i, tgt, cv) h⟩
set_option maxRecDepth 20000 in
theorem dc_122 : ∀ (pc : Nat) (a : Instr × Nat × Int32), pm_c122 pc = some a → pm_dec prog_3_method_23_code pc a.1 a.2.1 a.2.2 := pm_nd_ok (pm_nd_ok (pm_decs (by decide +kernel)) (pm_decs (by decide +kernel))) (pm_nd_ok (pm_decs (by decide +kernel)) (pm_decs (by decide +kernel)))
set_option maxRecDepth 20000 in
theorem om_122 : pm_okM pm_m122 := ⟨by decide +kernel, by decide +kernel, by decide +kernel, fun h => absurd h (by decide), by decide, rfl, fun pc i tgt cv h => dc_122 pc (i, tgt, cv) h⟩
set_option maxRecDepth 20000 in
theorem dc_123 : ∀ (pc : Nat) (a : Instr × Nat × Int32), pm_c123 pc = some a → pm_dec prog_3_method_24_code pc a.1 a.2.1 a.2.2 := pm_nd_ok (pm_nd_ok (pm_decs (by decide +kernel)) (pm_decs (by decide +kernel))) (pm_nd_ok (pm_decs (by decide +kernel)) (pm_decs (by decide +kernel)))
set_option maxRecDepth 20000 in
theorem om_123 : pm_okM pm_m123 := ⟨by decide +kernel, by decide +kernel, by decide +kernel, fun h => absurd h (by decide), by decide, rfl, fun pc i tgt cv h => dc_123 pc (i, tgt, cv) h⟩
set_option maxRecDepth 20000 in
theorem dc_124 : ∀ (pc : Nat) (a : Instr × Nat × Int32), pm_c124 pc = some a → pm_dec prog_3_method_25_code pc a.1 a.2.1 a.2.2 := pm_nd_ok (pm_nd_ok (pm_nd_ok (pm_decs (by decide +kernel)) (pm_decs (by decide +kernel))) (pm_nd_ok (pm_decs (by decide +kernel)) (pm_decs (by decide +kernel)))) (pm_nd_ok (pm_nd_ok (pm_decs (by decide +kernel)) (pm_decs (by decide +kernel))) (pm_nd_ok (pm_decs (by decide +kernel)) (pm_decs (by decide +kernel))))
set_option maxRecDepth 20000 in
theorem om_124 : pm_okM pm_m124 := ⟨by decide +kernel, by decide +kernel, by decide +kernel, fun h => absurd h (by decide), by decide, rfl, fun pc i tgt cv h => dc_124 pc (i, tgt, cv) h⟩
set_option maxRecDepth 20000 in
theorem dc_125 : ∀ (pc : Nat) (a : Instr × Nat × Int32), pm_c125 pc = some a → pm_dec prog_3_method_26_code pc a.1 a.2.1 a.2.2 := pm_nd_ok (pm_nd_ok (pm_nd_ok (pm_decs (by decide +kernel)) (pm_decs (by decide +kernel))) (pm_nd_ok (pm_decs (by decide +kernel)) (pm_nd_ok (pm_decs (by decide +kernel)) (pm_decs (by decide +kernel))))) (pm_nd_ok (pm_nd_ok (pm_decs (by decide +kernel)) (pm_decs (by decide +kernel))) (pm_nd_ok (pm_decs (by decide +kernel)) (pm_nd_ok (pm_decs (by decide +kernel)) (pm_decs (by decide +kernel)))))
set_option maxRecDepth 20000 in
theorem om_125 : pm_okM pm_m125 := ⟨by decide +kernel, by decide +kernel, by decide +kernel, fun h => absurd h (by decide), by decide, rfl, fun pc i tgt cv h => dc_125 pc (i, tgt, cv) h⟩
set_option maxRecDepth 20000 in
theorem dc_126 : ∀ (pc : Nat) (a : Instr × Nat × Int32), pm_c126 pc = some a → pm_dec prog_4_method_1_code pc a.1 a.2.1 a.2.2 := pm_nd_ok (pm_decs (by decide +kernel)) (pm_decs (by decide +kernel))
set_option maxRecDepth 20000 in
theorem om_126 : pm_okM pm_m126 := ⟨by decide +kernel, by decide +kernel, by decide +kernel, fun _ => ⟨rfl, rfl⟩, by decide, rfl, fun pc i tgt cv h => dc_126 pc (i, tgt, cv) h⟩
set_option maxRecDepth 20000 in
theorem dc_127 : ∀ (pc : Nat) (a : Instr × Nat × Int32), pm_c127 pc = some a → pm_dec prog_4_method_2_code pc a.1 a.2.1 a.2.2 := pm_nd_ok (pm_nd_ok (pm_nd_ok (pm_decs (by decide +kernel)) (pm_decs (by decide +kernel))) (pm_nd_ok (pm_decs (by decide +kernel)) (pm_decs (by decide +kernel)))) (pm_nd_ok (pm_nd_ok (pm_decs (by decide +kernel)) (pm_decs (by decide +kernel))) (pm_nd_ok (pm_decs (by decide +kernel)) (pm_decs (by decide +kernel))))
set_option maxRecDepth 20000 in
theorem om_127 : pm_okM pm_m127 := ⟨by decide +kernel, by decide +kernel, by decide +kernel, fun h => absurd h (by decide), by decide, rfl, fun pc i tgt cv h => dc_127 pc (i, tgt, cv) h⟩
set_option maxRecDepth 20000 in
theorem dc_128 : ∀ (pc : Nat) (a : Instr × Nat × Int32), pm_c128 pc = some a → pm_dec prog_4_method_3_code pc a.1 a.2.1 a.2.2 := pm_nd_ok (pm_nd_ok (pm_nd_ok (pm_nd_ok (pm_decs (by decide +kernel)) (pm_nd_ok (pm_decs (by decide +kernel)) (pm_decs (by decide +kernel)))) (pm_nd_ok (pm_decs (by decide +kernel)) (pm_nd_ok (pm_decs (by decide +kernel)) (pm_decs (by decide +kernel))))) (pm_nd_ok (pm_nd_ok (pm_decs (by decide +kernel)) (pm_nd_ok (pm_decs (by decide +kernel)) (pm_decs (by decide +kernel)))) (pm_nd_ok (pm_decs (by decide +kernel)) (pm_nd_ok (pm_decs (by decide +kernel)) (pm_decs (by decide +kernel)))))) (pm_nd_ok (pm_nd_ok (pm_nd_ok (pm_decs (by decide +kernel)) (pm_nd_ok (pm_decs (by decide +kernel)) (pm_decs (by decide +kernel)))) (pm_nd_ok (pm_decs (by decide +kernel)) (pm_nd_ok (pm_decs (by decide +kernel)) (pm_decs (by decide +kernel))))) (pm_nd_ok (pm_nd_ok (pm_decs (by decide +kernel)) (pm_nd_ok (pm_decs (by decide +kernel)) (pm_decs (by decide +kernel)))) (pm_nd_ok (pm_nd_ok (pm_decs (by decide +kernel)) (pm_decs (by decide +kernel))) (pm_nd_ok (pm_decs (by decide +kernel)) (pm_decs (by decide +kernel))))))
set_option maxRecDepth 20000 in
theorem om_128 : pm_okM pm_m128 := ⟨by decide +kernel, by decide +kernel, by decide +kernel, fun h => absurd h (by decide), by decide, rfl, fun pc i tgt cv h => dc_128 pc (i, tgt, cv) h⟩
set_option maxRecDepth 20000 in
theorem dc_129 : ∀ (pc : Nat) (a : Instr × Nat × Int32), pm_c129 pc = some a → pm_dec prog_4_method_4_code pc a.1 a.2.1 a.2.2 := pm_decs (by decide +kernel)
set_option maxRecDepth 20000 in
theorem om_129 : pm_okM pm_m129 := ⟨by decide +kernel, by decide +kernel, by decide +kernel, fun h => absurd h (by decide), by decide, rfl, fun pc i tgt cv h => dc_129 pc (i, tgt, cv) h⟩
set_option maxRecDepth 20000 in
theorem dc_130 : ∀ (pc : Nat) (a : Instr × Nat × Int32), pm_c130 pc = some a → pm_dec prog_4_method_5_code pc a.1 a.2.1 a.2.2 := pm_nd_ok (pm_nd_ok (pm_nd_ok (pm_decs (by decide +kernel)) (pm_decs (by decide +kernel))) (pm_nd_ok (pm_decs (by decide +kernel)) (pm_decs (by decide +kernel)))) (pm_nd_ok (pm_nd_ok (pm_decs (by decide +kernel)) (pm_decs (by decide +kernel))) (pm_nd_ok (pm_decs (by decide +kernel)) (pm_decs (by decide +kernel))))
set_option maxRecDepth 20000 in
theorem om_130 : pm_okM pm_m130 := ⟨by decide +kernel, by decide +kernel, by decide +kernel, fun h => absurd h (by decide), by decide, rfl, fun pc i tgt cv h => dc_130 pc (i, tgt, cv) h⟩
set_option maxRecDepth 20000 in
theorem dc_131 : ∀ (pc : Nat) (a : Instr × Nat × Int32), pm_c131 pc = some a → pm_dec prog_4_method_6_code pc a.1 a.2.1 a.2.2 := pm_nd_ok (pm_nd_ok (pm_nd_ok (pm_decs (by decide +kernel)) (pm_decs (by decide +kernel))) (pm_nd_ok (pm_decs (by decide +kernel)) (pm_decs (by decide +kernel)))) (pm_nd_ok (pm_nd_ok (pm_decs (by decide +kernel)) (pm_decs (by decide +kernel))) (pm_nd_ok (pm_decs (by decide +kernel)) (pm_decs (by decide +kernel))))
set_option maxRecDepth 20000 in
theorem om_131 : pm_okM pm_m131 := ⟨by decide +kernel, by decide +kernel, by decide +kernel, fun h => absurd h (by decide), by decide, rfl, fun pc i tgt cv h => dc_131 pc (i, tgt, cv) h⟩
set_option maxRecDepth 20000 in
theorem dc_132 : ∀ (pc : Nat) (a : Instr × Nat × Int32), pm_c132 pc = some a → pm_dec prog_4_method_7_code pc a.1 a.2.1 a.2.2 := pm_nd_ok (pm_nd_ok (pm_nd_ok (pm_decs (by decide +kernel)) (pm_nd_ok (pm_decs (by decide +kernel)) (pm_decs (by decide +kernel)))) (pm_nd_ok (pm_decs (by decide +kernel)) (pm_nd_ok (pm_decs (by decide +kernel)) (pm_decs (by decide +kernel))))) (pm_nd_ok (pm_nd_ok (pm_decs (by decide +kernel)) (pm_nd_ok (pm_decs (by decide +kernel)) (pm_decs (by decide +kernel)))) (pm_nd_ok (pm_nd_ok (pm_decs (by decide +kernel)) (pm_decs (by decide +kernel))) (pm_nd_ok (pm_decs (by decide +kernel)) (pm_decs (by decide +kernel)))))
set_option maxRecDepth 20000 in
theorem om_132 : pm_okM pm_m132 := ⟨by decide +kernel, by decide +kernel, by decide +kernel, fun h => absurd h (by decide), by decide, rfl, fun pc i tgt cv h => dc_132 pc (i, tgt, cv) h⟩
set_option maxRecDepth 20000 in
theorem dc_133 : ∀ (pc : Nat) (a : Instr × Nat × Int32), pm_c133 pc = some a → pm_dec prog_4_method_8_code pc a.1 a.2.1 a.2.2 := pm_nd_ok (pm_nd_ok (pm_nd_ok (pm_nd_ok (pm_decs (by decide +kernel)) (pm_decs (by decide +kernel))) (pm_nd_ok (pm_decs (by decide +kernel)) (pm_decs (by decide +kernel)))) (pm_nd_ok (pm_nd_ok (pm_decs (by decide +kernel)) (pm_decs (by decide +kernel))) (pm_nd_ok (pm_decs (by decide +kernel)) (pm_decs (by decide +kernel))))) (pm_nd_ok (pm_nd_ok (pm_nd_ok (pm_decs (by decide +kernel)) (pm_decs (by decide +kernel))) (pm_nd_ok (pm_decs (by decide +kernel)) (pm_decs (by decide +kernel)))) (pm_nd_ok (pm_nd_ok (pm_decs (by decide +kernel)) (pm_decs (by decide +kernel))) (pm_nd_ok (pm_decs (by decide +kernel)) (pm_decs (by decide +kernel)))))
set_option maxRecDepth 20000 in
theorem om_133 : pm_okM pm_m133 := ⟨by decide +kernel, by decide +kernel, by decide +kernel, fun h => absurd h (by decide), by decide, rfl, fun pc i tgt cv h => dc_133 pc (i, tgt, cv) h⟩
set_option maxRecDepth 20000 in
theorem dc_134 : ∀ (pc : Nat) (a : Instr × Nat × Int32), pm_c134 pc = some a → pm_dec prog_4_method_9_code pc a.1 a.2.1 a.2.2 := pm_nd_ok (pm_nd_ok (pm_nd_ok (pm_decs (by decide +kernel)) (pm_decs (by decide +kernel))) (pm_nd_ok (pm_decs (by decide +kernel)) (pm_decs (by decide +kernel)))) (pm_nd_ok (pm_nd_ok (pm_decs (by decide +kernel)) (pm_decs (by decide +kernel))) (pm_nd_ok (pm_decs (by decide +kernel)) (pm_decs (by decide +kernel))))
set_option maxRecDepth 20000 in
theorem om_134 : pm_okM pm_m134 := ⟨by decide +kernel, by decide +kernel, by decide +kernel, fun h => absurd h (by decide), by decide, rfl, fun pc i tgt cv h => dc_134 pc (i, tgt, cv) h⟩
set_option maxRecDepth 20000 in
theorem dc_135 : ∀ (pc : Nat) (a : Instr × Nat × Int32), pm_c135 pc = some a → pm_dec prog_5_method_1_code pc a.1 a.2.1 a.2.2 := pm_nd_ok (pm_nd_ok (pm_nd_ok (pm_decs (by decide +kernel)) (pm_decs (by decide +kernel))) (pm_nd_ok (pm_decs (by decide +kernel)) (pm_decs (by decide +kernel)))) (pm_nd_ok (pm_nd_ok (pm_decs (by decide +kernel)) (pm_decs (by decide +kernel))) (pm_nd_ok (pm_decs (by decide +kernel)) (pm_decs (by decide +kernel))))
set_option maxRecDepth 20000 in
theorem om_135 : pm_okM pm_m135 := ⟨by decide +kernel, by decide +kernel, by decide +kernel, fun _ => ⟨rfl, rfl⟩, by decide, rfl, fun pc i tgt cv h => dc_135 pc (i, tgt, cv) h⟩
set_option maxRecDepth 20000 in
theorem dc_136 : ∀ (pc : Nat) (a : Instr × Nat × Int32), pm_c136 pc = some a → pm_dec prog_5_method_2_code pc a.1 a.2.1 a.2.2 := pm_decs (by decide +kernel)
set_option maxRecDepth 20000 in
theorem om_136 : pm_okM pm_m136 := ⟨by decide +kernel, by decide +kernel, by decide +kernel, fun h => absurd h (by decide), by decide, rfl, fun pc i tgt cv h => dc_136 pc (i, tgt, cv) h⟩
set_option maxRecDepth 20000 in
theorem dc_137 : ∀ (pc : Nat) (a : Instr × Nat × Int32), pm_c137 pc = some a → pm_dec prog_5_method_3_code pc a.1 a.2.1 a.2.2 := pm_decs (by decide +kernel)
set_option maxRecDepth 20000 in
theorem om_137 : pm_okM pm_m137 := ⟨by decide +kernel, by decide +kernel, by decide +kernel, fun h => absurd h (by decide), by decide, rfl, fun pc i tgt cv h => dc_137 pc (i, tgt, cv) h⟩
set_option maxRecDepth 20000 in
theorem dc_138 : ∀ (pc : Nat) (a : Instr × Nat × Int32), pm_c138 pc = some a → pm_dec prog_5_method_4_code pc a.1 a.2.1 a.2.2 := pm_nd_ok (pm_nd_ok (pm_decs (by decide +kernel)) (pm_decs (by decide +kernel))) (pm_nd_ok (pm_decs (by decide +kernel)) (pm_decs (by decide +kernel)))
set_option maxRecDepth 20000 in
theorem om_138 : pm_okM pm_m138 := ⟨by decide +kernel, by decide +kernel, by decide +kernel, fun h => absurd h (by decide), by decide, rfl, fun pc i tgt cv h => dc_138 pc (i, tgt, cv) h⟩
set_option maxRecDepth 20000 in
theorem dc_139 : ∀ (pc : Nat) (a : Instr × Nat × Int32), pm_c139 pc = some a → pm_dec prog_5_method_5_code pc a.1 a.2.1 a.2.2 := pm_nd_ok (pm_nd_ok (pm_decs (by decide +kernel)) (pm_decs (by decide +kernel))) (pm_nd_ok (pm_decs (by decide +kernel)) (pm_decs (by decide +kernel)))
set_option maxRecDepth 20000 in
theorem om_139 : pm_okM pm_m139 := ⟨by decide +kernel, by decide +kernel, by decide +kernel, fun h => absurd h (by decide), by decide, rfl, fun pc i tgt cv h => dc_139 pc (i, tgt, cv) h⟩
set_option maxRecDepth 20000 in
theorem dc_140 : ∀ (pc : Nat) (a : Instr × Nat × Int32), pm_c140 pc = some a → pm_dec prog_5_method_6_code pc a.1 a.2.1 a.2.2 := pm_nd_ok (pm_nd_ok (pm_nd_ok (pm_decs (by decide +kernel)) (pm_decs (by decide +kernel))) (pm_nd_ok (pm_decs (by decide +kernel)) (pm_decs (by decide +kernel)))) (pm_nd_ok (pm_nd_ok (pm_decs (by decide +kernel)) (pm_decs (by decide +kernel))) (pm_nd_ok (pm_decs (by decide +kernel)) (pm_decs (by decide +kernel))))
set_option maxRecDepth 20000 in
theorem om_140 : pm_okM pm_m140 := ⟨by decide +kernel, by decide +kernel, by decide +kernel, fun h => absurd h (by decide), by decide, rfl, fun pc i tgt cv h => dc_140 pc (i, tgt, cv) h⟩
set_option maxRecDepth 20000 in
theorem dc_141 : ∀ (pc : Nat) (a : Instr × Nat × Int32), pm_c141 pc = some a → pm_dec prog_5_method_7_code pc a.1 a.2.1 a.2.2 := pm_nd_ok (pm_nd_ok (pm_decs (by decide +kernel)) (pm_decs (by decide +kernel))) (pm_nd_ok (pm_decs (by decide +kernel)) (pm_decs (by decide +kernel)))
set_option maxRecDepth 20000 in
theorem om_141 : pm_okM pm_m141 := ⟨by decide +kernel, by decide +kernel, by decide +kernel, fun h => absurd h (by decide), by decide, rfl, fun pc i tgt cv h => dc_141 pc (i, tgt, cv) h⟩
set_option maxRecDepth 20000 in
theorem dc_142 : ∀ (pc : Nat) (a : Instr × Nat × Int32), pm_c142 pc = some a → pm_dec prog_5_method_8_code pc a.1 a.2.1 a.2.2 := pm_nd_ok (pm_nd_ok (pm_nd_ok (pm_nd_ok (pm_decs (by decide +kernel)) (pm_decs (by decide +kernel))) (pm_nd_ok (pm_decs (by decide +kernel)) (pm_decs (by decide +kernel)))) (pm_nd_ok (pm_nd_ok (pm_decs (by decide +kernel)) (pm_decs (by decide +kernel))) (pm_nd_ok (pm_decs (by decide +kernel)) (pm_decs (by decide +kernel))))) (pm_nd_ok (pm_nd_ok (pm_nd_ok (pm_decs (by decide +kernel)) (pm_decs (by decide +kernel))) (pm_nd_ok (pm_decs (by decide +kernel)) (pm_decs (by decide +kernel)))) (pm_nd_ok (pm_nd_ok (pm_decs (by decide +kernel)) (pm_decs (by decide +kernel))) (pm_nd_ok (pm_decs (by decide +kernel)) (pm_decs (by decide +kernel)))))
set_option maxRecDepth 20000 in
theorem om_142 : pm_okM pm_m142 := ⟨by decide +kernel, by decide +kernel, by decide +kernel, fun h => absurd h (by decide), by decide, rfl, fun pc i tgt cv h => dc_142 pc (i, tgt, cv) h⟩
set_option maxRecDepth 20000 in
theorem dc_143 : ∀ (pc : Nat) (a : Instr × Nat × Int32), pm_c143 pc = some a → pm_dec prog_5_method_9_code pc a.1 a.2.1 a.2.2 := pm_nd_ok (pm_nd_ok (pm_decs (by decide +kernel)) (pm_decs (by decide +kernel))) (pm_nd_ok (pm_decs (by decide +kernel)) (pm_decs (by decide +kernel)))
set_option maxRecDepth 20000 in
theorem om_143 : pm_okM pm_m143 := ⟨by decide +kernel, by decide +kernel, by decide +kernel, fun h => absurd h (by decide), by decide, rfl, fun pc i tgt cv h => dc_143 pc (i, tgt, cv) h⟩
set_option maxRecDepth 20000 in
theorem dc_144 : ∀ (pc : Nat) (a : Instr × Nat × Int32), pm_c144 pc = some a → pm_dec prog_5_method_10_code pc a.1 a.2.1 a.2.2 := pm_nd_ok (pm_nd_ok (pm_nd_ok (pm_nd_ok (pm_decs (by decide +kernel)) (pm_decs (by decide +kernel))) (pm_nd_ok (pm_decs (by decide +kernel)) (pm_decs (by decide +kernel)))) (pm_nd_ok (pm_nd_ok (pm_decs (by decide +kernel)) (pm_decs (by decide +kernel))) (pm_nd_ok (pm_decs (by decide +kernel)) (pm_decs (by decide +kernel))))) (pm_nd_ok (pm_nd_ok (pm_nd_ok (pm_decs (by decide +kernel)) (pm_decs (by decide +kernel))) (pm_nd_ok (pm_decs (by decide +kernel)) (pm_decs (by decide +kernel)))) (pm_nd_ok (pm_nd_ok (pm_decs (by decide +kernel)) (pm_decs (by decide +kernel))) (pm_nd_ok (pm_decs (by decide +kernel)) (pm_decs (by decide +kernel)))))
set_option maxRecDepth 20000 in
theorem om_144 : pm_okM pm_m144 := ⟨by decide +kernel, by decide +kernel, by decide +kernel, fun h => absurd h (by decide), by decide, rfl, fun pc i tgt cv h => dc_144 pc (i, tgt, cv) h⟩
set_option maxRecDepth 20000 in
theorem dc_145 : ∀ (pc : Nat) (a : Instr × Nat × Int32), pm_c145 pc = some a → pm_dec prog_5_method_11_code pc a.1 a.2.1 a.2.2 := pm_nd_ok (pm_nd_ok (pm_nd_ok (pm_decs (by decide +kernel)) (pm_decs (by decide +kernel))) (pm_nd_ok (pm_decs (by decide +kernel)) (pm_decs (by decide +kernel)))) (pm_nd_ok (pm_nd_ok (pm_decs (by decide +kernel)) (pm_decs (by decide +kernel))) (pm_nd_ok (pm_decs (by decide +kernel)) (pm_decs (by decide +kernel))))
set_option maxRecDepth 20000 in
theorem om_145 : pm_okM pm_m145 := ⟨by decide +kernel, by decide +kernel, by decide +kernel, fun h => absurd h (by decide), by decide, rfl, fun pc i tgt cv h => dc_145 pc (i, tgt, cv) h⟩
set_option maxRecDepth 20000 in
theorem dc_146 : ∀ (pc : Nat) (a : Instr × Nat × Int32), pm_c146 pc = some a → pm_dec prog_5_method_12_code pc a.1 a.2.1 a.2.2 := pm_nd_ok (pm_decs (by decide +kernel)) (pm_decs (by decide +kernel))
set_option maxRecDepth 20000 in
theorem om_146 : pm_okM pm_m146 := ⟨by decide +kernel, by decide +kernel, by decide +kernel, fun h => absurd h (by decide), by decide, rfl, fun pc i tgt cv h => dc_146 pc (i, tgt, cv) h⟩
set_option maxRecDepth 20000 in
theorem dc_147 : ∀ (pc : Nat) (a : Instr × Nat × Int32), pm_c147 pc = some a → pm_dec prog_6_method_1_code pc a.1 a.2.1 a.2.2 := pm_nd_ok (pm_nd_ok (pm_decs (by decide +kernel)) (pm_decs (by decide +kernel))) (pm_nd_ok (pm_decs (by decide +kernel)) (pm_decs (by decide +kernel)))
set_option maxRecDepth 20000 in
theorem om_147 : pm_okM pm_m147 := ⟨by decide +kernel, by decide +kernel, by decide +kernel, fun _ => ⟨rfl, rfl⟩, by decide, rfl, fun pc i tgt cv h => dc_147 pc (i, tgt, cv) h⟩
set_option maxRecDepth 20000 in
theorem dc_148 : ∀ (pc : Nat) (a : Instr × Nat × Int32), pm_c148 pc = some a → pm_dec prog_6_method_2_code pc a.1 a.2.1 a.2.2 := pm_decs (by decide +kernel)
set_option maxRecDepth 20000 in
theorem om_148 : pm_okM pm_m148 := ⟨by decide +kernel, by decide +kernel, by decide +kernel, fun h => absurd h (by decide), by decide, rfl, fun pc i tgt cv h => dc_148 pc (i, tgt, cv) h⟩
set_option maxRecDepth 20000 in
theorem dc_149 : ∀ (pc : Nat) (a : Instr × Nat × Int32), pm_c149 pc = some a → pm_dec prog_6_method_3_code pc a.1 a.2.1 a.2.2 := pm_nd_ok (pm_nd_ok (pm_nd_ok (pm_nd_ok (pm_decs (by decide +kernel)) (pm_decs (by decide +kernel))) (pm_nd_ok (pm_decs (by decide +kernel)) (pm_decs (by decide +kernel)))) (pm_nd_ok (pm_nd_ok (pm_decs (by decide +kernel)) (pm_decs (by decide +kernel))) (pm_nd_ok (pm_decs (by decide +kernel)) (pm_decs (by decide +kernel))))) (pm_nd_ok (pm_nd_ok (pm_nd_ok (pm_decs (by decide +kernel)) (pm_decs (by decide +kernel))) (pm_nd_ok (pm_decs (by decide +kernel)) (pm_decs (by decide +kernel)))) (pm_nd_ok (pm_nd_ok (pm_decs (by decide +kernel)) (pm_decs (by decide +kernel))) (pm_nd_ok (pm_decs (by decide +kernel)) (pm_nd_ok (pm_decs (by decide +kernel)) (pm_decs (by decide +kernel))))))
set_option maxRecDepth 20000 in
theorem om_149 : pm_okM pm_m149 := ⟨by decide +kernel, by decide +kernel, by decide +kernel, fun h => absurd h (by decide), by decide, rfl, fun pc i tgt cv h => dc_149 pc (i, tgt, cv) h⟩
set_option maxRecDepth 20000 in
theorem dc_150 : ∀ (pc : Nat) (a : Instr × Nat × Int32), pm_c150 pc = some a → pm_dec prog_6_method_4_code pc a.1 a.2.1 a.2.2 := pm_nd_ok (pm_nd_ok (pm_nd_ok (pm_decs (by decide +kernel)) (pm_decs (by decide +kernel))) (pm_nd_ok (pm_decs (by decide +kernel)) (pm_decs (by decide +kernel)))) (pm_nd_ok (pm_nd_ok (pm_decs (by decide +kernel)) (pm_decs (by decide +kernel))) (pm_nd_ok (pm_decs (by decide +kernel)) (pm_decs (by decide +kernel))))
set_option maxRecDepth 20000 in
theorem om_150 : pm_okM pm_m150 := ⟨by decide +kernel, by decide +kernel, by decide +kernel, fun h => absurd h (by decide), by decide, rfl, fun pc i tgt cv h => dc_150 pc (i, tgt, cv) h⟩
set_option maxRecDepth 20000 in
theorem dc_151 : ∀ (pc : Nat) (a : Instr × Nat × Int32), pm_c151 pc = some a → pm_dec prog_6_method_5_code pc a.1 a.2.1 a.2.2 := pm_nd_ok (pm_nd_ok (pm_nd_ok (pm_nd_ok (pm_decs (by decide +kernel)) (pm_decs (by decide +kernel))) (pm_nd_ok (pm_decs (by decide +kernel)) (pm_decs (by decide +kernel)))) (pm_nd_ok (pm_nd_ok (pm_decs (by decide +kernel)) (pm_decs (by decide +kernel))) (pm_nd_ok (pm_decs (by decide +kernel)) (pm_decs (by decide +kernel))))) (pm_nd_ok (pm_nd_ok (pm_nd_ok (pm_decs (by decide +kernel)) (pm_decs (by decide +kernel))) (pm_nd_ok (pm_decs (by decide +kernel)) (pm_decs (by decide +kernel)))) (pm_nd_ok (pm_nd_ok (pm_decs (by decide +kernel)) (pm_decs (by decide +kernel))) (pm_nd_ok (pm_decs (by decide +kernel)) (pm_decs (by decide +kernel)))))
set_option maxRecDepth 20000 in
theorem om_151 : pm_okM pm_m151 := ⟨by decide +kernel, by decide +kernel, by decide +kernel, fun h => absurd h (by decide), by decide, rfl, fun pc i tgt cv h => dc_151 pc (i, tgt, cv) h⟩
set_option maxRecDepth 20000 in
theorem dc_152 : ∀ (pc : Nat) (a : Instr × Nat × Int32), pm_c152 pc = some a → pm_dec prog_6_method_6_code pc a.1 a.2.1 a.2.2 := pm_nd_ok (pm_nd_ok (pm_nd_ok (pm_decs (by decide +kernel)) (pm_decs (by decide +kernel))) (pm_nd_ok (pm_decs (by decide +kernel)) (pm_decs (by decide +kernel)))) (pm_nd_ok (pm_nd_ok (pm_decs (by decide +kernel)) (pm_decs (by decide +kernel))) (pm_nd_ok (pm_decs (by decide +kernel)) (pm_decs (by decide +kernel))))
set_option maxRecDepth 20000 in
theorem om_152 : pm_okM pm_m152 := ⟨by decide +kernel, by decide +kernel, by decide +kernel, fun h => absurd h (by decide), by decide, rfl, fun pc i tgt cv h => dc_152 pc (i, tgt, cv) h⟩
set_option maxRecDepth 20000 in
theorem dc_153 : ∀ (pc : Nat) (a : Instr × Nat × Int32), pm_c153 pc = some a → pm_dec prog_6_method_7_code pc a.1 a.2.1 a.2.2 := pm_nd_ok (pm_nd_ok (pm_nd_ok (pm_decs (by decide +kernel)) (pm_decs (by decide +kernel))) (pm_nd_ok (pm_decs (by decide +kernel)) (pm_decs (by decide +kernel)))) (pm_nd_ok (pm_nd_ok (pm_decs (by decide +kernel)) (pm_decs (by decide +kernel))) (pm_nd_ok (pm_decs (by decide +kernel)) (pm_decs (by decide +kernel))))
set_option maxRecDepth 20000 in
theorem om_153 : pm_okM pm_m153 := ⟨by decide +kernel, by decide +kernel, by decide +kernel, fun h => absurd h (by decide), by decide, rfl, fun pc i tgt cv h => dc_153 pc (i, tgt, cv) h⟩
set_option maxRecDepth 20000 in
theorem dc_154 : ∀ (pc : Nat) (a : Instr × Nat × Int32), pm_c154 pc = some a → pm_dec prog_6_method_8_code pc a.1 a.2.1 a.2.2 := pm_nd_ok (pm_nd_ok (pm_nd_ok (pm_decs (by decide +kernel)) (pm_decs (by decide +kernel))) (pm_nd_ok (pm_decs (by decide +kernel)) (pm_decs (by decide +kernel)))) (pm_nd_ok (pm_nd_ok (pm_decs (by decide +kernel)) (pm_decs (by decide +kernel))) (pm_nd_ok (pm_decs (by decide +kernel)) (pm_decs (by decide +kernel))))
set_option maxRecDepth 20000 in
theorem om_154 : pm_okM pm_m154 := ⟨by decide +kernel, by decide +kernel, by decide +kernel, fun h => absurd h (by decide), by decide, rfl, fun pc i tgt cv h => dc_154 pc (i, tgt, cv) h⟩
set_option maxRecDepth 20000 in
theorem dc_155 : ∀ (pc : Nat) (a : Instr × Nat × Int32), pm_c155 pc = some a → pm_dec prog_6_method_9_code pc a.1 a.2.1 a.2.2 := pm_nd_ok (pm_nd_ok (pm_nd_ok (pm_nd_ok (pm_decs (by decide +kernel)) (pm_decs (by decide +kernel))) (pm_nd_ok (pm_decs (by decide +kernel)) (pm_decs (by decide +kernel)))) (pm_nd_ok (pm_nd_ok (pm_decs (by decide +kernel)) (pm_decs (by decide +kernel))) (pm_nd_ok (pm_decs (by decide +kernel)) (pm_decs (by decide +kernel))))) (pm_nd_ok (pm_nd_ok (pm_nd_ok (pm_decs (by decide +kernel)) (pm_decs (by decide +kernel))) (pm_nd_ok (pm_decs (by decide +kernel)) (pm_decs (by decide +kernel)))) (pm_nd_ok (pm_nd_ok (pm_decs (by decide +kernel)) (pm_decs (by decide +kernel))) (pm_nd_ok (pm_decs (by decide +kernel)) (pm_decs (by decide +kernel)))))
set_option maxRecDepth 20000 in
theorem om_155 : pm_okM pm_m155 := ⟨by decide +kernel, by decide +kernel, by decide +kernel, fun h => absurd h (by decide), by decide, rfl, fun pc i tgt cv h => dc_155 pc (i, tgt, cv) h⟩
set_option maxRecDepth 20000 in
theorem dc_156 : ∀ (pc : Nat) (a : Instr × Nat × Int32), pm_c156 pc = some a → pm_dec prog_6_method_10_code pc a.1 a.2.1 a.2.2 := pm_nd_ok (pm_decs (by decide +kernel)) (pm_decs (by decide +kernel))
set_option maxRecDepth 20000 in
theorem om_156 : pm_okM pm_m156 := ⟨by decide +kernel, by decide +kernel, by decide +kernel, fun h => absurd h (by decide), by decide, rfl, fun pc i tgt cv h => dc_156 pc (i, tgt, cv) h⟩
set_option maxRecDepth 20000 in
theorem dc_157 : ∀ (pc : Nat) (a : Instr × Nat × Int32), pm_c157 pc = some a → pm_dec prog_6_method_11_code pc a.1 a.2.1 a.2.2 := pm_nd_ok (pm_nd_ok (pm_nd_ok (pm_decs (by decide +kernel)) (pm_decs (by decide +kernel))) (pm_nd_ok (pm_decs (by decide +kernel)) (pm_decs (by decide +kernel)))) (pm_nd_ok (pm_nd_ok (pm_decs (by decide +kernel)) (pm_decs (by decide +kernel))) (pm_nd_ok (pm_decs (by decide +kernel)) (pm_decs (by decide +kernel))))
set_option maxRecDepth 20000 in
theorem om_157 : pm_okM pm_m157 := ⟨by decide +kernel, by decide +kernel, by decide +kernel, fun h => absurd h (by decide), by decide, rfl, fun pc i tgt cv h => dc_157 pc (i, tgt, cv) h⟩
set_option maxRecDepth 20000 in
theorem dc_158 : ∀ (pc : Nat) (a : Instr × Nat × Int32), pm_c158 pc = some a → pm_dec prog_6_method_12_code pc a.1 a.2.1 a.2.2 := pm_nd_ok (pm_nd_ok (pm_nd_ok (pm_decs (by decide +kernel)) (pm_decs (by decide +kernel))) (pm_nd_ok (pm_decs (by decide +kernel)) (pm_decs (by decide +kernel)))) (pm_nd_ok (pm_nd_ok (pm_decs (by decide +kernel)) (pm_decs (by decide +kernel))) (pm_nd_ok (pm_decs (by decide +kernel)) (pm_decs (by decide +kernel))))
set_option maxRecDepth 20000 in
theorem om_158 : pm_okM pm_m158 := ⟨by decide +kernel, by decide +kernel, by decide +kernel, fun h => absurd h (by decide), by decide, rfl, fun pc i tgt cv h => dc_158 pc (i, tgt, cv) h⟩
set_option maxRecDepth 20000 in
theorem dc_159 : ∀ (pc : Nat) (a : Instr × Nat × Int32), pm_c159 pc = some a → pm_dec prog_7_method_1_code pc a.1 a.2.1 a.2.2 := pm_nd_ok (pm_decs (by decide +kernel)) (pm_decs (by decide +kernel))
set_option maxRecDepth 20000 in
theorem om_159 : pm_okM pm_m159 := ⟨by decide +kernel, by decide +kernel, by decide +kernel, fun _ => ⟨rfl, rfl⟩, by decide, rfl, fun pc i tgt cv h => dc_159 pc (i, tgt, cv) h⟩
set_option maxRecDepth 20000 in
theorem dc_160 : ∀ (pc : Nat) (a : Instr × Nat × Int32), pm_c160 pc = some a → pm_dec prog_7_method_2_code pc a.1 a.2.1 a.2.2 := pm_decs (by decide +kernel)
set_option maxRecDepth 20000 in
theorem om_160 : pm_okM pm_m160 := ⟨by decide +kernel, by decide +kernel, by decide +kernel, fun h => absurd h (by decide), by decide, rfl, fun pc i tgt cv h => dc_160 pc (i, tgt, cv) h⟩
set_option maxRecDepth 20000 in
theorem dc_161 : ∀ (pc : Nat) (a : Instr × Nat × Int32), pm_c161 pc = some a → pm_dec prog_7_method_3_code pc a.1 a.2.1 a.2.2 := pm_nd_ok (pm_decs (by decide +kernel)) (pm_decs (by decide +kernel))
set_option maxRecDepth 20000 in
theorem om_161 : pm_okM pm_m161 := ⟨by decide +kernel, by decide +kernel, by decide +kernel, fun h => absurd h (by decide), by decide, rfl, fun pc i tgt cv h => dc_161 pc (i, tgt, cv) h⟩
set_option maxRecDepth 20000 in
theorem dc_162 : ∀ (pc : Nat) (a : Instr × Nat × Int32), pm_c162 pc = some a → pm_dec prog_7_method_4_code pc a.1 a.2.1 a.2.2 := pm_nd_ok (pm_nd_ok (pm_decs (by decide +kernel)) (pm_nd_ok (pm_decs (by decide +kernel)) (pm_decs (by decide +kernel)))) (pm_nd_ok (pm_nd_ok (pm_decs (by decide +kernel)) (pm_decs (by decide +kernel))) (pm_nd_ok (pm_decs (by decide +kernel)) (pm_decs (by decide +kernel))))
set_option maxRecDepth 20000 in
theorem om_162 : pm_okM pm_m162 := ⟨by decide +kernel, by decide +kernel, by decide +kernel, fun h => absurd h (by decide), by decide, rfl, fun pc i tgt cv h => dc_162 pc (i, tgt, cv) h⟩
set_option maxRecDepth 20000 in
theorem dc_163 : ∀ (pc : Nat) (a : Instr × Nat × Int32), pm_c163 pc = some a → pm_dec prog_7_method_5_code pc a.1 a.2.1 a.2.2 := pm_nd_ok (pm_nd_ok (pm_decs (by decide +kernel)) (pm_nd_ok (pm_decs (by decide +kernel)) (pm_decs (by decide +kernel)))) (pm_nd_ok (pm_decs (by decide +kernel)) (pm_nd_ok (pm_decs (by decide +kernel)) (pm_decs (by decide +kernel))))
set_option maxRecDepth 20000 in
theorem om_163 : pm_okM pm_m163 := ⟨by decide +kernel, by decide +kernel, by decide +kernel, fun h => absurd h (by decide), by decide, rfl, fun pc i tgt cv h => dc_163 pc (i, tgt, cv) h⟩
set_option maxRecDepth 20000 in
theorem dc_164 : ∀ (pc : Nat) (a : Instr × Nat × Int32), pm_c164 pc = some a → pm_dec prog_8_method_1_code pc a.1 a.2.1 a.2.2 := pm_nd_ok (pm_decs (by decide +kernel)) (pm_decs (by decide +kernel))
set_option maxRecDepth 20000 in
theorem om_164 : pm_okM pm_m164 := ⟨by decide +kernel, by decide +kernel, by decide +kernel, fun _ => ⟨rfl, rfl⟩, by decide, rfl, fun pc i tgt cv h => dc_164 pc (i, tgt, cv) h⟩
set_option maxRecDepth 20000 in
theorem dc_165 : ∀ (pc : Nat) (a : Instr × Nat × Int32), pm_c165 pc = some a → pm_dec prog_8_method_2_code pc a.1 a.2.1 a.2.2 := pm_nd_ok (pm_decs (by decide +kernel)) (pm_decs (by decide +kernel))
set_option maxRecDepth 20000 in
theorem om_165 : pm_okM pm_m165 := ⟨by decide +kernel, by decide +kernel, by decide +kernel, fun h => absurd h (by decide), by decide, rfl, fun pc i tgt cv h => dc_165 pc (i, tgt, cv) h⟩
set_option maxRecDepth 20000 in
theorem dc_166 : ∀ (pc : Nat) (a : Instr × Nat × Int32), pm_c166 pc = some a → pm_dec prog_8_method_3_code pc a.1 a.2.1 a.2.2 := pm_decs (by decide +kernel)
set_option maxRecDepth 20000 in
theorem om_166 : pm_okM pm_m166 := ⟨by decide +kernel, by decide +kernel, by decide +kernel, fun h => absurd h (by decide), by decide, rfl, fun pc i tgt cv h => dc_166 pc (i, tgt, cv) h⟩
set_option maxRecDepth 20000 in
theorem dc_167 : ∀ (pc : Nat) (a : Instr × Nat × Int32), pm_c167 pc = some a → pm_dec prog_8_method_4_code pc a.1 a.2.1 a.2.2 := pm_decs (by decide +kernel)
set_option maxRecDepth 20000 in
theorem om_167 : pm_okM pm_m167 := ⟨by decide +kernel, by decide +kernel, by decide +kernel, fun h => absurd h (by decide), by decide, rfl, fun pc i tgt cv h => dc_167 pc (i, tgt, cv) h⟩
set_option maxRecDepth 20000 in
theorem dc_168 : ∀ (pc : Nat) (a : Instr × Nat × Int32), pm_c168 pc = some a → pm_dec prog_8_method_5_code pc a.1 a.2.1 a.2.2 := pm_nd_ok (pm_nd_ok (pm_decs (by decide +kernel)) (pm_nd_ok (pm_decs (by decide +kernel)) (pm_decs (by decide +kernel)))) (pm_nd_ok (pm_nd_ok (pm_decs (by decide +kernel)) (pm_decs (by decide +kernel))) (pm_nd_ok (pm_decs (by decide +kernel)) (pm_decs (by decide +kernel))))
set_option maxRecDepth 20000 in
theorem om_168 : pm_okM pm_m168 := ⟨by decide +kernel, by decide +kernel, by decide +kernel, fun h => absurd h (by decide), by decide, rfl, fun pc i tgt cv h => dc_168 pc (i, tgt, cv) h⟩
set_option maxRecDepth 20000 in
theorem dc_169 : ∀ (pc : Nat) (a : Instr × Nat × Int32), pm_c169 pc = some a → pm_dec prog_8_method_6_code pc a.1 a.2.1 a.2.2 := pm_nd_ok (pm_nd_ok (pm_decs (by decide +kernel)) (pm_decs (by decide +kernel))) (pm_nd_ok (pm_decs (by decide +kernel)) (pm_decs (by decide +kernel)))
set_option maxRecDepth 20000 in
theorem om_169 : pm_okM pm_m169 := ⟨by decide +kernel, by decide +kernel, by decide +kernel, fun h => absurd h (by decide), by decide, rfl, fun pc i tgt cv h => dc_169 pc (i, tgt, cv) h⟩
set_option maxRecDepth 20000 in
theorem dc_170 : ∀ (pc : Nat) (a : Instr × Nat × Int32), pm_c170 pc = some a → pm_dec prog_8_method_7_code pc a.1 a.2.1 a.2.2 := pm_nd_ok (pm_decs (by decide +kernel)) (pm_nd_ok (pm_decs (by decide +kernel)) (pm_decs (by decide +kernel)))
set_option maxRecDepth 20000 in
theorem om_170 : pm_okM pm_m170 := ⟨by decide +kernel, by decide +kernel, by decide +kernel, fun h => absurd h (by decide), by decide, rfl, fun pc i tgt cv h => dc_170 pc (i, tgt, cv) h⟩
set_option maxRecDepth 20000 in
theorem dc_171 : ∀ (pc : Nat) (a : Instr × Nat × Int32), pm_c171 pc = some a → pm_dec prog_8_method_8_code pc a.1 a.2.1 a.2.2 := pm_nd_ok (pm_decs (by decide +kernel)) (pm_nd_ok (pm_decs (by decide +kernel)) (pm_decs (by decide +kernel)))
set_option maxRecDepth 20000 in
theorem om_171 : pm_okM pm_m171 := ⟨by decide +kernel, by decide +kernel, by decide +kernel, fun h => absurd h (by decide), by decide, rfl, fun pc i tgt cv h => dc_171 pc (i, tgt, cv) h⟩
set_option maxRecDepth 20000 in
theorem dc_172 : ∀ (pc : Nat) (a : Instr × Nat × Int32), pm_c172 pc = some a → pm_dec prog_8_method_9_code pc a.1 a.2.1 a.2.2 := pm_nd_ok (pm_nd_ok (pm_nd_ok (pm_decs (by decide +kernel)) (pm_decs (by decide +kernel))) (pm_nd_ok (pm_decs (by decide +kernel)) (pm_decs (by decide +kernel)))) (pm_nd_ok (pm_nd_ok (pm_decs (by decide +kernel)) (pm_decs (by decide +kernel))) (pm_nd_ok (pm_decs (by decide +kernel)) (pm_decs (by decide +kernel))))
set_option maxRecDepth 20000 in
theorem om_172 : pm_okM pm_m172 := ⟨by decide +kernel, by decide +kernel, by decide +kernel, fun h => absurd h (by decide), by decide, rfl, fun pc i tgt cv h => dc_172 pc (i, tgt, cv) h⟩
set_option maxRecDepth 20000 in
theorem dc_173 : ∀ (pc : Nat) (a : Instr × Nat × Int32), pm_c173 pc = some a → pm_dec prog_8_method_10_code pc a.1 a.2.1 a.2.2 := pm_nd_ok (pm_nd_ok (pm_nd_ok (pm_decs (by decide +kernel)) (pm_decs (by decide +kernel))) (pm_nd_ok (pm_decs (by decide +kernel)) (pm_decs (by decide +kernel)))) (pm_nd_ok (pm_nd_ok (pm_decs (by decide +kernel)) (pm_decs (by decide +kernel))) (pm_nd_ok (pm_decs (by decide +kernel)) (pm_decs (by decide +kernel))))
set_option maxRecDepth 20000 in
theorem om_173 : pm_okM pm_m173 := ⟨by decide +kernel, by decide +kernel, by decide +kernel, fun h => absurd h (by decide), by decide, rfl, fun pc i tgt cv h => dc_173 pc (i, tgt, cv) h⟩
set_option maxRecDepth 20000 in
theorem dc_174 : ∀ (pc : Nat) (a : Instr × Nat × Int32), pm_c174 pc = some a → pm_dec prog_8_method_11_code pc a.1 a.2.1 a.2.2 := pm_nd_ok (pm_nd_ok (pm_nd_ok (pm_nd_ok (pm_decs (by decide +kernel)) (pm_decs (by decide +kernel))) (pm_nd_ok (pm_decs (by decide +kernel)) (pm_decs (by decide +kernel)))) (pm_nd_ok (pm_nd_ok (pm_decs (by decide +kernel)) (pm_decs (by decide +kernel))) (pm_nd_ok (pm_decs (by decide +kernel)) (pm_decs (by decide +kernel))))) (pm_nd_ok (pm_nd_ok (pm_nd_ok (pm_decs (by decide +kernel)) (pm_decs (by decide +kernel))) (pm_nd_ok (pm_decs (by decide +kernel)) (pm_decs (by decide +kernel)))) (pm_nd_ok (pm_nd_ok (pm_decs (by decide +kernel)) (pm_decs (by decide +kernel))) (pm_nd_ok (pm_decs (by decide +kernel)) (pm_decs (by decide +kernel)))))
set_option maxRecDepth 20000 in
theorem om_174 : pm_okM pm_m174 := ⟨by decide +kernel, by decide +kernel, by decide +kernel, fun h => absurd h (by decide), by decide, rfl, fun pc i tgt cv h => dc_174 pc (i, tgt, cv) h⟩
set_option maxRecDepth 20000 in
theorem dc_175 : ∀ (pc : Nat) (a : Instr × Nat × Int32), pm_c175 pc = some a → pm_dec prog_8_method_12_code pc a.1 a.2.1 a.2.2 := pm_nd_ok (pm_nd_ok (pm_decs (by decide +kernel)) (pm_decs (by decide +kernel))) (pm_nd_ok (pm_decs (by decide +kernel)) (pm_decs (by decide +kernel)))
set_option maxRecDepth 20000 in
theorem om_175 : pm_okM pm_m175 := ⟨by decide +kernel, by decide +kernel, by decide +kernel, fun h => absurd h (by decide), by decide, rfl, fun pc i tgt cv h => dc_175 pc (i, tgt, cv) h⟩
set_option maxRecDepth 20000 in
theorem dc_176 : ∀ (pc : Nat) (a : Instr × Nat × Int32), pm_c176 pc = some a → pm_dec prog_8_method_13_code pc a.1 a.2.1 a.2.2 := pm_nd_ok (pm_nd_ok (pm_decs (by decide +kernel)) (pm_decs (by decide +kernel))) (pm_nd_ok (pm_decs (by decide +kernel)) (pm_decs (by decide +kernel)))
set_option maxRecDepth 20000 in
theorem om_176 : pm_okM pm_m176 := ⟨by decide +kernel, by decide +kernel, by decide +kernel, fun h => absurd h (by decide), by decide, rfl, fun pc i tgt cv h => dc_176 pc (i, tgt, cv) h⟩
set_option maxRecDepth 20000 in
theorem dc_177 : ∀ (pc : Nat) (a : Instr × Nat × Int32), pm_c177 pc = some a → pm_dec prog_9_method_1_code pc a.1 a.2.1 a.2.2 := pm_nd_ok (pm_nd_ok (pm_decs (by decide +kernel)) (pm_decs (by decide +kernel))) (pm_nd_ok (pm_decs (by decide +kernel)) (pm_decs (by decide +kernel)))
set_option maxRecDepth 20000 in
theorem om_177 : pm_okM pm_m177 := ⟨by decide +kernel, by decide +kernel, by decide +kernel, fun _ => ⟨rfl, rfl⟩, by decide, rfl, fun pc i tgt cv h => dc_177 pc (i, tgt, cv) h⟩
set_option maxRecDepth 20000 in
theorem dc_178 : ∀ (pc : Nat) (a : Instr × Nat × Int32), pm_c178 pc = some a → pm_dec prog_9_method_2_code pc a.1 a.2.1 a.2.2 := pm_decs (by decide +kernel)
set_option maxRecDepth 20000 in
theorem om_178 : pm_okM pm_m178 := ⟨by decide +kernel, by decide +kernel, by decide +kernel, fun h => absurd h (by decide), by decide, rfl, fun pc i tgt cv h => dc_178 pc (i, tgt, cv) h⟩
set_option maxRecDepth 20000 in
theorem dc_179 : ∀ (pc : Nat) (a : Instr × Nat × Int32), pm_c179 pc = some a → pm_dec prog_9_method_3_code pc a.1 a.2.1 a.2.2 := pm_nd_ok (pm_nd_ok (pm_nd_ok (pm_decs (by decide +kernel)) (pm_decs (by decide +kernel))) (pm_nd_ok (pm_decs (by decide +kernel)) (pm_decs (by decide +kernel)))) (pm_nd_ok (pm_nd_ok (pm_decs (by decide +kernel)) (pm_decs (by decide +kernel))) (pm_nd_ok (pm_decs (by decide +kernel)) (pm_decs (by decide +kernel))))
set_option maxRecDepth 20000 in
theorem om_179 : pm_okM pm_m179 := ⟨by decide +kernel, by decide +kernel, by decide +kernel, fun h => absurd h (by decide), by decide, rfl, fun pc i tgt cv h => dc_179 pc (i, tgt, cv) h⟩
set_option maxRecDepth 20000 in
theorem dc_180 : ∀ (pc : Nat) (a : Instr × Nat × Int32), pm_c180 pc = some a → pm_dec prog_9_method_4_code pc a.1 a.2.1 a.2.2 := pm_nd_ok (pm_decs (by decide +kernel)) (pm_decs (by decide +kernel))
set_option maxRecDepth 20000 in
theorem om_180 : pm_okM pm_m180 := ⟨by decide +kernel, by decide +kernel, by decide +kernel, fun h => absurd h (by decide), by decide, rfl, fun pc i tgt cv h => dc_180 pc (i, tgt, cv) h⟩
set_option maxRecDepth 20000 in
theorem dc_181 : ∀ (pc : Nat) (a : Instr × Nat × Int32), pm_c181 pc = some a → pm_dec prog_9_method_5_code pc a.1 a.2.1 a.2.2 := pm_nd_ok (pm_decs (by decide +kernel)) (pm_decs (by decide +kernel))
set_option maxRecDepth 20000 in
theorem om_181 : pm_okM pm_m181 := ⟨by decide +kernel, by decide +kernel, by decide +kernel, fun h => absurd h (by decide), by decide, rfl, fun pc i tgt cv h => dc_181 pc (i, tgt, cv) h⟩
set_option maxRecDepth 20000 in
theorem dc_182 : ∀ (pc : Nat) (a : Instr × Nat × Int32), pm_c182 pc = some a → pm_dec prog_9_method_6_code pc a.1 a.2.1 a.2.2 := pm_nd_ok (pm_nd_ok (pm_decs (by decide +kernel)) (pm_decs (by decide +kernel))) (pm_nd_ok (pm_decs (by decide +kernel)) (pm_nd_ok (pm_decs (by decide +kernel)) (pm_decs (by decide +kernel))))
set_option maxRecDepth 20000 in
theorem om_182 : pm_okM pm_m182 := ⟨by decide +kernel, by decide +kernel, by decide +kernel, fun h => absurd h (by decide), by decide, rfl, fun pc i tgt cv h => dc_182 pc (i, tgt, cv) h⟩
set_option maxRecDepth 20000 in
theorem dc_183 : ∀ (pc : Nat) (a : Instr × Nat × Int32), pm_c183 pc = some a → pm_dec prog_9_method_7_code pc a.1 a.2.1 a.2.2 := pm_nd_ok (pm_nd_ok (pm_nd_ok (pm_decs (by decide +kernel)) (pm_decs (by decide +kernel))) (pm_nd_ok (pm_decs (by decide +kernel)) (pm_decs (by decide +kernel)))) (pm_nd_ok (pm_nd_ok (pm_decs (by decide +kernel)) (pm_decs (by decide +kernel))) (pm_nd_ok (pm_decs (by decide +kernel)) (pm_decs (by decide +kernel))))
set_option maxRecDepth 20000 in
theorem om_183 : pm_okM pm_m183 := ⟨by decide +kernel, by decide +kernel, by decide +kernel, fun h => absurd h (by decide), by decide, rfl, fun pc i tgt cv h => dc_183 pc (i, tgt, cv) h⟩
set_option maxRecDepth 20000 in
theorem dc_184 : ∀ (pc : Nat) (a : Instr × Nat × Int32), pm_c184 pc = some a → pm_dec prog_9_method_8_code pc a.1 a.2.1 a.2.2 := pm_nd_ok (pm_decs (by decide +kernel)) (pm_nd_ok (pm_decs (by decide +kernel)) (pm_decs (by decide +kernel)))
set_option maxRecDepth 20000 in
theorem om_184 : pm_okM pm_m184 := ⟨by decide +kernel, by decide +kernel, by decide +kernel, fun h => absurd h (by decide), by decide, rfl, fun pc i tgt cv h => dc_184 pc (i, tgt, cv) h⟩
set_option maxRecDepth 20000 in
theorem dc_185 : ∀ (pc : Nat) (a : Instr × Nat × Int32), pm_c185 pc = some a → pm_dec prog_9_method_9_code pc a.1 a.2.1 a.2.2 := pm_nd_ok (pm_decs (by decide +kernel)) (pm_nd_ok (pm_decs (by decide +kernel)) (pm_decs (by decide +kernel)))
set_option maxRecDepth 20000 in
theorem om_185 : pm_okM pm_m185 := ⟨by decide +kernel, by decide +kernel, by decide +kernel, fun h => absurd h (by decide), by decide, rfl, fun pc i tgt cv h => dc_185 pc (i, tgt, cv) h⟩
set_option maxRecDepth 20000 in
theorem dc_186 : ∀ (pc : Nat) (a : Instr × Nat × Int32), pm_c186 pc = some a → pm_dec prog_10_method_1_code pc a.1 a.2.1 a.2.2 := pm_nd_ok (pm_nd_ok (pm_decs (by decide +kernel)) (pm_decs (by decide +kernel))) (pm_nd_ok (pm_decs (by decide +kernel)) (pm_decs (by decide +kernel)))
set_option maxRecDepth 20000 in
theorem om_186 : pm_okM pm_m186 := ⟨by decide +kernel, by decide +kernel, by decide +kernel, fun _ => ⟨rfl, rfl⟩, by decide, rfl, fun pc i tgt cv h => dc_186 pc (i, tgt, cv) h⟩
set_option maxRecDepth 20000 in
theorem dc_187 : ∀ (pc : Nat) (a : Instr × Nat × Int32), pm_c187 pc = some a → pm_dec prog_10_method_2_code pc a.1 a.2.1 a.2.2 := pm_nd_ok (pm_decs (by decide +kernel)) (pm_decs (by decide +kernel))
set_option maxRecDepth 20000 in
theorem om_187 : pm_okM pm_m187 := ⟨by decide +kernel, by decide +kernel, by decide +kernel, fun h => absurd h (by decide), by decide, rfl, fun pc i tgt cv h => dc_187 pc (i, tgt, cv) h⟩
set_option maxRecDepth 20000 in
theorem dc_188 : ∀ (pc : Nat) (a : Instr × Nat × Int32), pm_c188 pc = some a → pm_dec prog_10_method_3_code pc a.1 a.2.1 a.2.2 := pm_nd_ok (pm_decs (by decide +kernel)) (pm_decs (by decide +kernel))
set_option maxRecDepth 20000 in
theorem om_188 : pm_okM pm_m188 := ⟨by decide +kernel, by decide +kernel, by decide +kernel, fun h => absurd h (by decide), by decide, rfl, fun pc i tgt cv h => dc_188 pc (i, tgt, cv) h⟩
set_option maxRecDepth 20000 in
theorem dc_189 : ∀ (pc : Nat) (a : Instr × Nat × Int32), pm_c189 pc = some a → pm_dec prog_10_method_4_code pc a.1 a.2.1 a.2.2 := pm_nd_ok (pm_nd_ok (pm_decs (by decide +kernel)) (pm_decs (by decide +kernel))) (pm_nd_ok (pm_decs (by decide +kernel)) (pm_decs (by decide +kernel)))
set_option maxRecDepth 20000 in
theorem om_189 : pm_okM pm_m189 := ⟨by decide +kernel, by decide +kernel, by decide +kernel, fun h => absurd h (by decide), by decide, rfl, fun pc i tgt cv h => dc_189 pc (i, tgt, cv) h⟩
set_option maxRecDepth 20000 in
theorem dc_190 : ∀ (pc : Nat) (a : Instr × Nat × Int32), pm_c190 pc = some a → pm_dec prog_10_method_5_code pc a.1 a.2.1 a.2.2 := pm_nd_ok (pm_decs (by decide +kernel)) (pm_decs (by decide +kernel))
set_option maxRecDepth 20000 in
theorem om_190 : pm_okM pm_m190 := ⟨by decide +kernel, by decide +kernel, by decide +kernel, fun h => absurd h (by decide), by decide, rfl, fun pc i tgt cv h => dc_190 pc (i, tgt, cv) h⟩
set_option maxRecDepth 20000 in
theorem dc_191 : ∀ (pc : Nat) (a : Instr × Nat × Int32), pm_c191 pc = some a → pm_dec prog_10_method_6_code pc a.1 a.2.1 a.2.2 := pm_nd_ok (pm_nd_ok (pm_decs (by decide +kernel)) (pm_decs (by decide +kernel))) (pm_nd_ok (pm_decs (by decide +kernel)) (pm_decs (by decide +kernel)))
set_option maxRecDepth 20000 in
theorem om_191 : pm_okM pm_m191 := ⟨by decide +kernel, by decide +kernel, by decide +kernel, fun h => absurd h (by decide), by decide, rfl, fun pc i tgt cv h => dc_191 pc (i, tgt, cv) h⟩
set_option maxRecDepth 20000 in
theorem dc_192 : ∀ (pc : Nat) (a : Instr × Nat × Int32), pm_c192 pc = some a → pm_dec prog_10_method_7_code pc a.1 a.2.1 a.2.2 := pm_decs (by decide +kernel)
set_option maxRecDepth 20000 in
theorem om_192 : pm_okM pm_m192 := ⟨by decide +kernel, by decide +kernel, by decide +kernel, fun h => absurd h (by decide), by decide, rfl, fun pc i tgt cv h => dc_192 pc (i, tgt, cv) h⟩
set_option maxRecDepth 20000 in
theorem dc_193 : ∀ (pc : Nat) (a : Instr × Nat × Int32), pm_c193 pc = some a → pm_dec prog_10_method_8_code pc a.1 a.2.1 a.2.2 := pm_nd_ok (pm_nd_ok (pm_decs (by decide +kernel)) (pm_decs (by decide +kernel))) (pm_nd_ok (pm_decs (by decide +kernel)) (pm_nd_ok (pm_decs (by decide +kernel)) (pm_decs (by decide +kernel))))
set_option maxRecDepth 20000 in
theorem om_193 : pm_okM pm_m193 := ⟨by decide +kernel, by decide +kernel, by decide +kernel, fun h => absurd h (by decide), by decide, rfl, fun pc i tgt cv h => dc_193 pc (i, tgt, cv) h⟩
set_option maxRecDepth 20000 in
theorem dc_194 : ∀ (pc : Nat) (a : Instr × Nat × Int32), pm_c194 pc = some a → pm_dec prog_10_method_9_code pc a.1 a.2.1 a.2.2 := pm_nd_ok (pm_nd_ok (pm_nd_ok (pm_nd_ok (pm_decs (by decide +kernel)) (pm_nd_ok (pm_decs (by decide +kernel)) (pm_decs (by decide +kernel)))) (pm_nd_ok (pm_nd_ok (pm_decs (by decide +kernel)) (pm_decs (by decide +kernel))) (pm_nd_ok (pm_decs (by decide +kernel)) (pm_decs (by decide +kernel))))) (pm_nd_ok (pm_nd_ok (pm_nd_ok (pm_decs (by decide +kernel)) (pm_decs (by decide +kernel))) (pm_nd_ok (pm_decs (by decide +kernel)) (pm_decs (by decide +kernel)))) (pm_nd_ok (pm_nd_ok (pm_decs (by decide +kernel)) (pm_decs (by decide +kernel))) (pm_nd_ok (pm_decs (by decide +kernel)) (pm_decs (by decide +kernel)))))) (pm_nd_ok (pm_nd_ok (pm_nd_ok (pm_nd_ok (pm_decs (by decide +kernel)) (pm_decs (by decide +kernel))) (pm_nd_ok (pm_decs (by decide +kernel)) (pm_decs (by decide +kernel)))) (pm_nd_ok (pm_nd_ok (pm_decs (by decide +kernel)) (pm_decs (by decide +kernel))) (pm_nd_ok (pm_decs (by decide +kernel)) (pm_decs (by decide +kernel))))) (pm_nd_ok (pm_nd_ok (pm_nd_ok (pm_decs (by decide +kernel)) (pm_decs (by decide +kernel))) (pm_nd_ok (pm_decs (by decide +kernel)) (pm_decs (by decide +kernel)))) (pm_nd_ok (pm_nd_ok (pm_decs (by decide +kernel)) (pm_decs (by decide +kernel))) (pm_nd_ok (pm_decs (by decide +kernel)) (pm_decs (by decide +kernel))))))
set_option maxRecDepth 20000 in
theorem om_194 : pm_okM pm_m194 := ⟨by decide +kernel, by decide +kernel, by decide +kernel, fun h => absurd h (by decide), by decide, rfl, fun pc i tgt cv h => dc_194 pc (i, tgt, cv) h⟩
set_option maxRecDepth 20000 in
theorem dc_195 : ∀ (pc : Nat) (a : Instr × Nat × Int32), pm_c195 pc = some a → pm_dec prog_10_method_10_code pc a.1 a.2.1 a.2.2 := pm_nd_ok (pm_nd_ok (pm_nd_ok (pm_decs (by decide +kernel)) (pm_decs (by decide +kernel))) (pm_nd_ok (pm_decs (by decide +kernel)) (pm_decs (by decide +kernel)))) (pm_nd_ok (pm_nd_ok (pm_decs (by decide +kernel)) (pm_decs (by decide +kernel))) (pm_nd_ok (pm_decs (by decide +kernel)) (pm_decs (by decide +kernel))))
set_option maxRecDepth 20000 in
theorem om_195 : pm_okM pm_m195 := ⟨by decide +kernel, by decide +kernel, by decide +kernel, fun h => absurd h (by decide), by decide, rfl, fun pc i tgt cv h => dc_195 pc (i, tgt, cv) h⟩
set_option maxRecDepth 20000 in
theorem dc_196 : ∀ (pc : Nat) (a : Instr × Nat × Int32), pm_c196 pc = some a → pm_dec prog_11_method_1_code pc a.1 a.2.1 a.2.2 := pm_nd_ok (pm_decs (by decide +kernel)) (pm_decs (by decide +kernel))
set_option maxRecDepth 20000 in
theorem om_196 : pm_okM pm_m196 := ⟨by decide +kernel, by decide +kernel, by decide +kernel, fun _ => ⟨rfl, rfl⟩, by decide, rfl, fun pc i tgt cv h => dc_196 pc (i, tgt, cv) h⟩
set_option maxRecDepth 20000 in
theorem dc_197 : ∀ (pc : Nat) (a : Instr × Nat × Int32), pm_c197 pc = some a → pm_dec prog_11_method_2_code pc a.1 a.2.1 a.2.2 := pm_nd_ok (pm_nd_ok (pm_nd_ok (pm_nd_ok (pm_decs (by decide +kernel)) (pm_decs (by decide +kernel))) (pm_nd_ok (pm_decs (by decide +kernel)) (pm_decs (by decide +kernel)))) (pm_nd_ok (pm_nd_ok (pm_decs (by decide +kernel)) (pm_decs (by decide +kernel))) (pm_nd_ok (pm_decs (by decide +kernel)) (pm_decs (by decide +kernel))))) (pm_nd_ok (pm_nd_ok (pm_nd_ok (pm_decs (by decide +kernel)) (pm_decs (by decide +kernel))) (pm_nd_ok (pm_decs (by decide +kernel)) (pm_decs (by decide +kernel)))) (pm_nd_ok (pm_nd_ok (pm_decs (by decide +kernel)) (pm_decs (by decide +kernel))) (pm_nd_ok (pm_decs (by decide +kernel)) (pm_decs (by decide +kernel)))))
set_option maxRecDepth 20000 in
theorem om_197 : pm_okM pm_m197 := ⟨by decide +kernel, by decide +kernel, by decide +kernel, fun h => absurd h (by decide), by decide, rfl, fun pc i tgt cv h => dc_197 pc (i, tgt, cv) h⟩
set_option maxRecDepth 20000 in
theorem dc_198 : ∀ (pc : Nat) (a : Instr × Nat × Int32), pm_c198 pc = some a → pm_dec prog_11_method_3_code pc a.1 a.2.1 a.2.2 := pm_nd_ok (pm_decs (by decide +kernel)) (pm_decs (by decide +kernel))
set_option maxRecDepth 20000 in
theorem om_198 : pm_okM pm_m198 := ⟨by decide +kernel, by decide +kernel, by decide +kernel, fun h => absurd h (by decide), by decide, rfl, fun pc i tgt cv h => dc_198 pc (i, tgt, cv) h⟩
set_option maxRecDepth 20000 in
theorem dc_199 : ∀ (pc : Nat) (a : Instr × Nat × Int32), pm_c199 pc = some a → pm_dec prog_11_method_4_code pc a.1 a.2.1 a.2.2 := pm_decs (by decide +kernel)
set_option maxRecDepth 20000 in
theorem om_199 : pm_okM pm_m199 := ⟨by decide +kernel, by decide +kernel, by decide +kernel, fun h => absurd h (by decide), by decide, rfl, fun pc i tgt cv h => dc_199 pc (i, tgt, cv) h⟩
set_option maxRecDepth 20000 in
theorem dc_200 : ∀ (pc : Nat) (a : Instr × Nat × Int32), pm_c200 pc = some a → pm_dec prog_11_method_5_code pc a.1 a.2.1 a.2.2 := pm_decs (by decide +kernel)
set_option maxRecDepth 20000 in
theorem om_200 : pm_okM pm_m200 := ⟨by decide +kernel, by decide +kernel, by decide +kernel, fun h => absurd h (by decide), by decide, rfl, fun pc i tgt cv h => dc_200 pc (i, tgt, cv) h⟩
set_option maxRecDepth 20000 in
theorem dc_201 : ∀ (pc : Nat) (a : Instr × Nat × Int32), pm_c201 pc = some a → pm_dec prog_11_method_6_code pc a.1 a.2.1 a.2.2 := pm_nd_ok (pm_nd_ok (pm_nd_ok (pm_nd_ok (pm_decs (by decide +kernel)) (pm_decs (by decide +kernel))) (pm_nd_ok (pm_decs (by decide +kernel)) (pm_decs (by decide +kernel)))) (pm_nd_ok (pm_nd_ok (pm_decs (by decide +kernel)) (pm_decs (by decide +kernel))) (pm_nd_ok (pm_decs (by decide +kernel)) (pm_decs (by decide +kernel))))) (pm_nd_ok (pm_nd_ok (pm_nd_ok (pm_decs (by decide +kernel)) (pm_decs (by decide +kernel))) (pm_nd_ok (pm_decs (by decide +kernel)) (pm_decs (by decide +kernel)))) (pm_nd_ok (pm_nd_ok (pm_decs (by decide +kernel)) (pm_decs (by decide +kernel))) (pm_nd_ok (pm_decs (by decide +kernel)) (pm_decs (by decide +kernel)))))
set_option maxRecDepth 20000 in
theorem om_201 : pm_okM pm_m201 := ⟨by decide +kernel, by decide +kernel, by decide +kernel, fun h => absurd h (by decide), by decide, rfl, fun pc i tgt cv h => dc_201 pc (i, tgt, cv) h⟩
set_option maxRecDepth 20000 in
theorem dc_202 : ∀ (pc : Nat) (a : Instr × Nat × Int32), pm_c202 pc = some a → pm_dec prog_11_method_7_code pc a.1 a.2.1 a.2.2 := pm_nd_ok (pm_nd_ok (pm_nd_ok (pm_nd_ok (pm_decs (by decide +kernel)) (pm_decs (by decide +kernel))) (pm_nd_ok (pm_decs (by decide +kernel)) (pm_decs (by decide +kernel)))) (pm_nd_ok (pm_nd_ok (pm_decs (by decide +kernel)) (pm_decs (by decide +kernel))) (pm_nd_ok (pm_decs (by decide +kernel)) (pm_decs (by decide +kernel))))) (pm_nd_ok (pm_nd_ok (pm_nd_ok (pm_decs (by decide +kernel)) (pm_decs (by decide +kernel))) (pm_nd_ok (pm_decs (by decide +kernel)) (pm_decs (by decide +kernel)))) (pm_nd_ok (pm_nd_ok (pm_decs (by decide +kernel)) (pm_decs (by decide +kernel))) (pm_nd_ok (pm_decs (by decide +kernel)) (pm_decs (by decide +kernel)))))
set_option maxRecDepth 20000 in
theorem om_202 : pm_okM pm_m202 := ⟨by decide +kernel, by decide +kernel, by decide +kernel, fun h => absurd h (by decide), by decide, rfl, fun pc i tgt cv h => dc_202 pc (i, tgt, cv) h⟩
set_option maxRecDepth 20000 in
theorem dc_203 : ∀ (pc : Nat) (a : Instr × Nat × Int32), pm_c203 pc = some a → pm_dec prog_11_method_8_code pc a.1 a.2.1 a.2.2 := pm_nd_ok (pm_nd_ok (pm_nd_ok (pm_nd_ok (pm_decs (by decide +kernel)) (pm_decs (by decide +kernel))) (pm_nd_ok (pm_decs (by decide +kernel)) (pm_decs (by decide +kernel)))) (pm_nd_ok (pm_nd_ok (pm_decs (by decide +kernel)) (pm_decs (by decide +kernel))) (pm_nd_ok (pm_decs (by decide +kernel)) (pm_decs (by decide +kernel))))) (pm_nd_ok (pm_nd_ok (pm_nd_ok (pm_decs (by decide +kernel)) (pm_decs (by decide +kernel))) (pm_nd_ok (pm_decs (by decide +kernel)) (pm_decs (by decide +kernel)))) (pm_nd_ok (pm_nd_ok (pm_decs (by decide +kernel)) (pm_decs (by decide +kernel))) (pm_nd_ok (pm_decs (by decide +kernel)) (pm_decs (by decide +kernel)))))
set_option maxRecDepth 20000 in
theorem om_203 : pm_okM pm_m203 := ⟨by decide +kernel, by decide +kernel, by decide +kernel, fun h => absurd h (by decide), by decide, rfl, fun pc i tgt cv h => dc_203 pc (i, tgt, cv) h⟩
set_option maxRecDepth 20000 in
theorem dc_204 : ∀ (pc : Nat) (a : Instr × Nat × Int32), pm_c204 pc = some a → pm_dec prog_11_method_9_code pc a.1 a.2.1 a.2.2 := pm_nd_ok (pm_decs (by decide +kernel)) (pm_decs (by decide +kernel))
set_option maxRecDepth 20000 in
theorem om_204 : pm_okM pm_m204 := ⟨by decide +kernel, by decide +kernel, by decide +kernel, fun h => absurd h (by decide), by decide, rfl, fun pc i tgt cv h => dc_204 pc (i, tgt, cv) h⟩
set_option maxRecDepth 20000 in
theorem dc_205 : ∀ (pc : Nat) (a : Instr × Nat × Int32), pm_c205 pc = some a → pm_dec prog_11_method_10_code pc a.1 a.2.1 a.2.2 := pm_nd_ok (pm_decs (by decide +kernel)) (pm_decs (by decide +kernel))
set_option maxRecDepth 20000 in
theorem om_205 : pm_okM pm_m205 := ⟨by decide +kernel, by decide +kernel, by decide +kernel, fun h => absurd h (by decide), by decide, rfl, fun pc i tgt cv h => dc_205 pc (i, tgt, cv) h⟩
set_option maxRecDepth 20000 in
theorem dc_206 : ∀ (pc : Nat) (a : Instr × Nat × Int32), pm_c206 pc = some a → pm_dec prog_11_method_11_code pc a.1 a.2.1 a.2.2 := pm_nd_ok (pm_decs (by decide +kernel)) (pm_decs (by decide +kernel))
set_option maxRecDepth 20000 in
theorem om_206 : pm_okM pm_m206 := ⟨by decide +kernel, by decide +kernel, by decide +kernel, fun h => absurd h (by decide), by decide, rfl, fun pc i tgt cv h => dc_206 pc (i, tgt, cv) h⟩
set_option maxRecDepth 20000 in
theorem dc_207 : ∀ (pc : Nat) (a : Instr × Nat × Int32), pm_c207 pc = some a → pm_dec prog_12_method_1_code pc a.1 a.2.1 a.2.2 := pm_nd_ok (pm_decs (by decide +kernel)) (pm_decs (by decide +kernel))
set_option maxRecDepth 20000 in
theorem om_207 : pm_okM pm_m207 := ⟨by decide +kernel, by decide +kernel, by decide +kernel, fun _ => ⟨rfl, rfl⟩, by decide, rfl, fun pc i tgt cv h => dc_207 pc (i, tgt, cv) h⟩
set_option maxRecDepth 20000 in
theorem dc_208 : ∀ (pc : Nat) (a : Instr × Nat × Int32), pm_c208 pc = some a → pm_dec prog_12_method_2_code pc a.1 a.2.1 a.2.2 := pm_nd_ok (pm_decs (by decide +kernel)) (pm_decs (by decide +kernel))
set_option maxRecDepth 20000 in
theorem om_208 : pm_okM pm_m208 := ⟨by decide +kernel, by decide +kernel, by decide +kernel, fun h => absurd h (by decide), by decide, rfl, fun pc i tgt cv h => dc_208 pc (i, tgt, cv) h⟩
set_option maxRecDepth 20000 in
theorem dc_209 : ∀ (pc : Nat) (a : Instr × Nat × Int32), pm_c209 pc = some a → pm_dec prog_12_method_3_code pc a.1 a.2.1 a.2.2 := pm_nd_ok (pm_nd_ok (pm_decs (by decide +kernel)) (pm_decs (by decide +kernel))) (pm_nd_ok (pm_decs (by decide +kernel)) (pm_nd_ok (pm_decs (by decide +kernel)) (pm_decs (by decide +kernel))))
set_option maxRecDepth 20000 in
theorem om_209 : pm_okM pm_m209 := ⟨by decide +kernel, by decide +kernel, by decide +kernel, fun h => absurd h (by decide), by decide, rfl, fun pc i tgt cv h => dc_209 pc (i, tgt, cv) h⟩
set_option maxRecDepth 20000 in
theorem dc_210 : ∀ (pc : Nat) (a : Instr × Nat × Int32), pm_c210 pc = some a → pm_dec prog_12_method_4_code pc a.1 a.2.1 a.2.2 := pm_nd_ok (pm_nd_ok (pm_nd_ok (pm_nd_ok (pm_decs (by decide +kernel)) (pm_decs (by decide +kernel))) (pm_nd_ok (pm_decs (by decide +kernel)) (pm_decs (by decide +kernel)))) (pm_nd_ok (pm_nd_ok (pm_decs (by decide +kernel)) (pm_decs (by decide +kernel))) (pm_nd_ok (pm_decs (by decide +kernel)) (pm_decs (by decide +kernel))))) (pm_nd_ok (pm_nd_ok (pm_nd_ok (pm_decs (by decide +kernel)) (pm_decs (by decide +kernel))) (pm_nd_ok (pm_decs (by decide +kernel)) (pm_decs (by decide +kernel)))) (pm_nd_ok (pm_nd_ok (pm_decs (by decide +kernel)) (pm_decs (by decide +kernel))) (pm_nd_ok (pm_decs (by decide +kernel)) (pm_decs (by decide +kernel)))))
set_option maxRecDepth 20000 in
theorem om_210 : pm_okM pm_m210 := ⟨by decide +kernel, by decide +kernel, by decide +kernel, fun h => absurd h (by decide), by decide, rfl, fun pc i tgt cv h => dc_210 pc (i, tgt, cv) h⟩
set_option maxRecDepth 20000 in
theorem dc_211 : ∀ (pc : Nat) (a : Instr × Nat × Int32), pm_c211 pc = some a → pm_dec prog_12_method_5_code pc a.1 a.2.1 a.2.2 := pm_nd_ok (pm_nd_ok (pm_nd_ok (pm_nd_ok (pm_decs (by decide +kernel)) (pm_decs (by decide +kernel))) (pm_nd_ok (pm_decs (by decide +kernel)) (pm_decs (by decide +kernel)))) (pm_nd_ok (pm_nd_ok (pm_decs (by decide +kernel)) (pm_decs (by decide +kernel))) (pm_nd_ok (pm_decs (by decide +kernel)) (pm_decs (by decide +kernel))))) (pm_nd_ok (pm_nd_ok (pm_nd_ok (pm_decs (by decide +kernel)) (pm_decs (by decide +kernel))) (pm_nd_ok (pm_decs (by decide +kernel)) (pm_decs (by decide +kernel)))) (pm_nd_ok (pm_nd_ok (pm_decs (by decide +kernel)) (pm_decs (by decide +kernel))) (pm_nd_ok (pm_decs (by decide +kernel)) (pm_decs (by decide +kernel)))))
set_option maxRecDepth 20000 in
theorem om_211 : pm_okM pm_m211 := ⟨by decide +kernel, by decide +kernel, by decide +kernel, fun h => absurd h (by decide), by decide, rfl, fun pc i tgt cv h => dc_211 pc (i, tgt, cv) h⟩
set_option maxRecDepth 20000 in
theorem dc_212 : ∀ (pc : Nat) (a : Instr × Nat × Int32), pm_c212 pc = some a → pm_dec prog_12_method_6_code pc a.1 a.2.1 a.2.2 := pm_nd_ok (pm_nd_ok (pm_nd_ok (pm_nd_ok (pm_decs (by decide +kernel)) (pm_decs (by decide +kernel))) (pm_nd_ok (pm_decs (by decide +kernel)) (pm_decs (by decide +kernel)))) (pm_nd_ok (pm_nd_ok (pm_decs (by decide +kernel)) (pm_decs (by decide +kernel))) (pm_nd_ok (pm_decs (by decide +kernel)) (pm_decs (by decide +kernel))))) (pm_nd_ok (pm_nd_ok (pm_nd_ok (pm_decs (by decide +kernel)) (pm_decs (by decide +kernel))) (pm_nd_ok (pm_decs (by decide +kernel)) (pm_decs (by decide +kernel)))) (pm_nd_ok (pm_nd_ok (pm_decs (by decide +kernel)) (pm_decs (by decide +kernel))) (pm_nd_ok (pm_decs (by decide +kernel)) (pm_decs (by decide +kernel)))))
set_option maxRecDepth 20000 in
theorem om_212 : pm_okM pm_m212 := ⟨by decide +kernel, by decide +kernel, by decide +kernel, fun h => absurd h (by decide), by decide, rfl, fun pc i tgt cv h => dc_212 pc (i, tgt, cv) h⟩
set_option maxRecDepth 20000 in
theorem dc_213 : ∀ (pc : Nat) (a : Instr × Nat × Int32), pm_c213 pc = some a → pm_dec prog_12_method_7_code pc a.1 a.2.1 a.2.2 := pm_nd_ok (pm_nd_ok (pm_nd_ok (pm_nd_ok (pm_decs (by decide +kernel)) (pm_decs (by decide +kernel))) (pm_nd_ok (pm_decs (by decide +kernel)) (pm_decs (by decide +kernel)))) (pm_nd_ok (pm_nd_ok (pm_decs (by decide +kernel)) (pm_decs (by decide +kernel))) (pm_nd_ok (pm_decs (by decide +kernel)) (pm_decs (by decide +kernel))))) (pm_nd_ok (pm_nd_ok (pm_nd_ok (pm_decs (by decide +kernel)) (pm_decs (by decide +kernel))) (pm_nd_ok (pm_decs (by decide +kernel)) (pm_decs (by decide +kernel)))) (pm_nd_ok (pm_nd_ok (pm_decs (by decide +kernel)) (pm_decs (by decide +kernel))) (pm_nd_ok (pm_decs (by decide +kernel)) (pm_decs (by decide +kernel)))))
set_option maxRecDepth 20000 in
theorem om_213 : pm_okM pm_m213 := ⟨by decide +kernel, by decide +kernel, by decide +kernel, fun h => absurd h (by decide), by decide, rfl, fun pc i tgt cv h => dc_213 pc (i, tgt, cv) h⟩
set_option maxRecDepth 20000 in
theorem dc_214 : ∀ (pc : Nat) (a : Instr × Nat × Int32), pm_c214 pc = some a → pm_dec code pc a.1 a.2.1 a.2.2 := pm_nd_ok (pm_nd_ok (pm_nd_ok (pm_nd_ok (pm_nd_ok (pm_decs (by decide +kernel)) (pm_decs (by decide +kernel))) (pm_nd_ok (pm_decs (by decide +kernel)) (pm_decs (by decide +kernel)))) (pm_nd_ok (pm_nd_ok (pm_decs (by decide +kernel)) (pm_decs (by decide +kernel))) (pm_nd_ok (pm_decs (by decide +kernel)) (pm_decs (by decide +kernel))))) (pm_nd_ok (pm_nd_ok (pm_nd_ok (pm_decs (by decide +kernel)) (pm_decs (by decide +kernel))) (pm_nd_ok (pm_decs (by decide +kernel)) (pm_decs (by decide +kernel)))) (pm_nd_ok (pm_nd_ok (pm_decs (by decide +kernel)) (pm_decs (by decide +kernel))) (pm_nd_ok (pm_decs (by decide +kernel)) (pm_decs (by decide +kernel)))))) (pm_nd_ok (pm_nd_ok (pm_nd_ok (pm_nd_ok (pm_decs (by decide +kernel)) (pm_decs (by decide +kernel))) (pm_nd_ok (pm_decs (by decide +kernel)) (pm_decs (by decide +kernel)))) (pm_nd_ok (pm_nd_ok (pm_decs (by decide +kernel)) (pm_decs (by decide +kernel))) (pm_nd_ok (pm_decs (by decide +kernel)) (pm_decs (by decide +kernel))))) (pm_nd_ok (pm_nd_ok (pm_nd_ok (pm_decs (by decide +kernel)) (pm_decs (by decide +kernel))) (pm_nd_ok (pm_decs (by decide +kernel)) (pm_decs (by decide +kernel)))) (pm_nd_ok (pm_nd_ok (pm_decs (by decide +kernel)) (pm_decs (by decide +kernel))) (pm_nd_ok (pm_decs (by decide +kernel)) (pm_decs (by decide +kernel))))))
set_option maxRecDepth 20000 in
theorem om_214 : pm_okM pm_m214 := ⟨by decide +kernel, by decide +kernel, by decide +kernel, fun h => absurd h (by decide), by decide, rfl, fun pc i tgt cv h => dc_214 pc (i, tgt, cv) h⟩
set_option maxRecDepth 20000 in
theorem dc_215 : ∀ (pc : Nat) (a : Instr × Nat × Int32), pm_c215 pc = some a → pm_dec prog_17_method_79_code pc a.1 a.2.1 a.2.2 := pm_decs (by decide +kernel)
set_option maxRecDepth 20000 in
theorem om_215 : pm_okM pm_m215 := ⟨by decide +kernel, by decide +kernel, by decide +kernel, fun h => absurd h (by decide), by decide, rfl, fun pc i tgt cv h => dc_215 pc (i, tgt, cv) h⟩
set_option maxRecDepth 20000 in
theorem dc_216 : ∀ (pc : Nat) (a : Instr × Nat × Int32), pm_c216 pc = some a → pm_dec prog_17_method_80_code pc a.1 a.2.1 a.2.2 := pm_nd_ok (pm_nd_ok (pm_decs (by decide +kernel)) (pm_decs (by decide +kernel))) (pm_nd_ok (pm_decs (by decide +kernel)) (pm_decs (by decide +kernel)))
set_option maxRecDepth 20000 in
theorem om_216 : pm_okM pm_m216 := ⟨by decide +kernel, by decide +kernel, by decide +kernel, fun h => absurd h (by decide), by decide, rfl, fun pc i tgt cv h => dc_216 pc (i, tgt, cv) h⟩
set_option maxRecDepth 20000 in
theorem dc_217 : ∀ (pc : Nat) (a : Instr × Nat × Int32), pm_c217 pc = some a → pm_dec prog_17_method_154_code pc a.1 a.2.1 a.2.2 := pm_nd_ok (pm_decs (by decide +kernel)) (pm_decs (by decide +kernel))
set_option maxRecDepth 20000 in
theorem om_217 : pm_okM pm_m217 := ⟨by decide +kernel, by decide +kernel, by decide +kernel, fun h => absurd h (by decide), by decide, rfl, fun pc i tgt cv h => dc_217 pc (i, tgt, cv) h⟩
set_option maxRecDepth 20000 in
theorem dc_218 : ∀ (pc : Nat) (a : Instr × Nat × Int32), pm_c218 pc = some a → pm_dec prog_17_method_54_code pc a.1 a.2.1 a.2.2 := pm_nd_ok (pm_decs (by decide +kernel)) (pm_decs (by decide +kernel))
set_option maxRecDepth 20000 in
theorem om_218 : pm_okM pm_m218 := ⟨by decide +kernel, by decide +kernel, by decide +kernel, fun h => absurd h (by decide), by decide, rfl, fun pc i tgt cv h => dc_218 pc (i, tgt, cv) h⟩
set_option maxRecDepth 20000 in
theorem dc_219 : ∀ (pc : Nat) (a : Instr × Nat × Int32), pm_c219 pc = some a → pm_dec prog_17_method_152_code pc a.1 a.2.1 a.2.2 := pm_nd_ok (pm_decs (by decide +kernel)) (pm_decs (by decide +kernel))
set_option maxRecDepth 20000 in
theorem om_219 : pm_okM pm_m219 := ⟨by decide +kernel, by decide +kernel, by decide +kernel, fun h => absurd h (by decide), by decide, rfl, fun pc i tgt cv h => dc_219 pc (i, tgt, cv) h⟩
set_option maxRecDepth 20000 in
theorem dc_220 : ∀ (pc : Nat) (a : Instr × Nat × Int32), pm_c220 pc = some a → pm_dec prog_18_method_22_code pc a.1 a.2.1 a.2.2 := pm_nd_ok (pm_nd_ok (pm_decs (by decide +kernel)) (pm_decs (by decide +kernel))) (pm_nd_ok (pm_decs (by decide +kernel)) (pm_nd_ok (pm_decs (by decide +kernel)) (pm_decs (by decide +kernel))))
set_option maxRecDepth 20000 in
theorem om_220 : pm_okM pm_m220 := ⟨by decide +kernel, by decide +kernel, by decide +kernel, fun h => absurd h (by decide), by decide, rfl, fun pc i tgt cv h => dc_220 pc (i, tgt, cv) h⟩
set_option maxRecDepth 20000 in
theorem dc_221 : ∀ (pc : Nat) (a : Instr × Nat × Int32), pm_c221 pc = some a → pm_dec prog_18_method_4_code pc a.1 a.2.1 a.2.2 := pm_nd_ok (pm_decs (by decide +kernel)) (pm_decs (by decide +kernel))
set_option maxRecDepth 20000 in
theorem om_221 : pm_okM pm_m221 := ⟨by decide +kernel, by decide +kernel, by decide +kernel, fun h => absurd h (by decide), by decide, rfl, fun pc i tgt cv h => dc_221 pc (i, tgt, cv) h⟩
set_option maxRecDepth 20000 in
theorem dc_222 : ∀ (pc : Nat) (a : Instr × Nat × Int32), pm_c222 pc = some a → pm_dec prog_18_method_23_code pc a.1 a.2.1 a.2.2 := pm_nd_ok (pm_nd_ok (pm_decs (by decide +kernel)) (pm_decs (by decide +kernel))) (pm_nd_ok (pm_decs (by decide +kernel)) (pm_decs (by decide +kernel)))
set_option maxRecDepth 20000 in
theorem om_222 : pm_okM pm_m222 := ⟨by decide +kernel, by decide +kernel, by decide +kernel, fun h => absurd h (by decide), by decide, rfl, fun pc i tgt cv h => dc_222 pc (i, tgt, cv) h⟩
set_option maxRecDepth 20000 in
theorem dc_223 : ∀ (pc : Nat) (a : Instr × Nat × Int32), pm_c223 pc = some a → pm_dec prog_20_method_103_code pc a.1 a.2.1 a.2.2 := pm_nd_ok (pm_nd_ok (pm_decs (by decide +kernel)) (pm_decs (by decide +kernel))) (pm_nd_ok (pm_decs (by decide +kernel)) (pm_decs (by decide +kernel)))
set_option maxRecDepth 20000 in
theorem om_223 : pm_okM pm_m223 := ⟨by decide +kernel, by decide +kernel, by decide +kernel, fun h => absurd h (by decide), by decide, rfl, fun pc i tgt cv h => dc_223 pc (i, tgt, cv) h⟩
set_option maxRecDepth 20000 in
theorem oc_0_1 : pm_okcp 0 (1, 4, 0, 0, 0) := ⟨fun _ => gw_of (tw_1 (List.mem_of_getElem? (i := 26) rfl)) rfl, fun h => absurd h (by decide), fun h => absurd h (by decide)⟩
set_option maxRecDepth 20000 in
theorem oc_0_7 : pm_okcp 0 (7, 1, 10, 0, 0) := ⟨pm_R10, pm_F10, 4, rfl, gw_of (tw_1 (List.mem_of_getElem? (i := 29) rfl)) rfl, gn_10, gi_10⟩
set_option maxRecDepth 20000 in
theorem oc_0_9 : pm_okcp 0 (9, 2, 196, 0, 4) := ⟨pm_m196, rfl, by decide +kernel, by decide, fun h => absurd h (by decide), fun _ => ⟨"ArmExpander", nw_of (tw_1 (List.mem_of_getElem? (i := 31) rfl)) rfl⟩, fun h => absurd h (by decide), fun _ => ⟨gm_196, rfl⟩, fun h => absurd h (by decide), gc_196, gi_10⟩
set_option maxRecDepth 20000 in
theorem oc_0_10 : pm_okcp 0 (10, 0, 0, 0, 0) := ⟨pm_R0, pm_F0, 6, rfl, by decide, rfl, fun _ => rfl, gw_of (tw_2 (List.mem_of_getElem? (i := 52) rfl)) rfl⟩
set_option maxRecDepth 20000 in
theorem oc_0_16 : pm_okcp 0 (16, 1, 3, 0, 0) := ⟨pm_R3, pm_F3, 8, rfl, gw_of (tw_1 (List.mem_of_getElem? (i := 49) rfl)) rfl, gn_3, gi_3⟩
set_option maxRecDepth 20000 in
theorem oc_0_18 : pm_okcp 0 (18, 2, 126, 0, 4) := ⟨pm_m126, rfl, by decide +kernel, by decide, fun h => absurd h (by decide), fun _ => ⟨"ArmExpander", nw_of (tw_1 (List.mem_of_getElem? (i := 51) rfl)) rfl⟩, fun h => absurd h (by decide), fun _ => ⟨gm_126, rfl⟩, fun h => absurd h (by decide), gc_126, gi_3⟩
set_option maxRecDepth 20000 in
theorem oc_0_19 : pm_okcp 0 (19, 0, 0, 1, 0) := ⟨pm_R0, pm_F0, 6, rfl, by decide, rfl, fun _ => rfl, gw_of (tw_2 (List.mem_of_getElem? (i := 53) rfl)) rfl⟩
set_option maxRecDepth 20000 in
theorem oc_0_23 : pm_okcp 0 (23, 1, 1, 0, 0) := ⟨pm_R1, pm_F1, 1, rfl, gw_of (tw_1 (List.mem_of_getElem? (i := 96) rfl)) rfl, gn_1, gi_1⟩
set_option maxRecDepth 20000 in
theorem oc_0_25 : pm_okcp 0 (25, 2, 89, 0, 4) := ⟨pm_m89, rfl, by decide +kernel, by decide, fun h => absurd h (by decide), fun _ => ⟨"ArmExpander", nw_of (tw_1 (List.mem_of_getElem? (i := 98) rfl)) rfl⟩, fun h => absurd h (by decide), fun _ => ⟨gm_89, rfl⟩, fun h => absurd h (by decide), gc_89, gi_1⟩
set_option maxRecDepth 20000 in
theorem oc_0_26 : pm_okcp 0 (26, 0, 0, 2, 0) := ⟨pm_R0, pm_F0, 6, rfl, by decide, rfl, fun _ => rfl, gw_of (tw_2 (List.mem_of_getElem? (i := 54) rfl)) rfl⟩
set_option maxRecDepth 20000 in
theorem oc_0_30 : pm_okcp 0 (30, 1, 4, 0, 0) := ⟨pm_R4, pm_F4, 7, rfl, gw_of (tw_1 (List.mem_of_getElem? (i := 128) rfl)) rfl, gn_4, gi_4⟩
set_option maxRecDepth 20000 in
theorem oc_0_32 : pm_okcp 0 (32, 2, 135, 0, 4) := ⟨pm_m135, rfl, by decide +kernel, by decide, fun h => absurd h (by decide), fun _ => ⟨"ArmExpander", nw_of (tw_1 (List.mem_of_getElem? (i := 130) rfl)) rfl⟩, fun h => absurd h (by decide), fun _ => ⟨gm_135, rfl⟩, fun h => absurd h (by decide), gc_135, gi_4⟩
set_option maxRecDepth 20000 in
theorem oc_0_33 : pm_okcp 0 (33, 0, 0, 3, 0) := ⟨pm_R0, pm_F0, 6, rfl, by decide, rfl, fun _ => rfl, gw_of (tw_2 (List.mem_of_getElem? (i := 55) rfl)) rfl⟩
set_option maxRecDepth 20000 in
theorem oc_0_37 : pm_okcp 0 (37, 1, 2, 0, 0) := ⟨pm_R2, pm_F2, 8, rfl, gw_of (tw_2 (List.mem_of_getElem? (i := 20) rfl)) rfl, gn_2, gi_2⟩
set_option maxRecDepth 20000 in
theorem oc_0_39 : pm_okcp 0 (39, 0, 0, 4, 0) := ⟨pm_R0, pm_F0, 6, rfl, by decide, rfl, fun _ => rfl, gw_of (tw_2 (List.mem_of_getElem? (i := 56) rfl)) rfl⟩
set_option maxRecDepth 20000 in
theorem oc_0_43 : pm_okcp 0 (43, 2, 100, 0, 4) := ⟨pm_m100, rfl, by decide +kernel, by decide, fun h => absurd h (by decide), fun _ => ⟨"ArmExpander", nw_of (tw_2 (List.mem_of_getElem? (i := 23) rfl)) rfl⟩, fun h => absurd h (by decide), fun _ => ⟨gm_100, rfl⟩, fun h => absurd h (by decide), gc_100, gi_2⟩
set_option maxRecDepth 20000 in
theorem oc_0_44 : pm_okcp 0 (44, 2, 197, 2, 0) := ⟨pm_m197, rfl, by decide +kernel, by decide, fun _ => gw_of (tw_2 (List.mem_of_getElem? (i := 75) rfl)) rfl, fun h => absurd h (by decide), fun _ => ⟨gm_197, gs_197, fun h => absurd h (by decide), fun _ => ⟨pm_F10, 4, rfl⟩⟩, fun h => absurd h (by decide), fun h => absurd h (by decide), gc_197, gi_10⟩
set_option maxRecDepth 20000 in
theorem oc_0_48 : pm_okcp 0 (48, 0, 0, 5, 0) := ⟨pm_R0, pm_F0, 6, rfl, by decide, rfl, fun _ => rfl, gw_of (tw_2 (List.mem_of_getElem? (i := 57) rfl)) rfl⟩
set_option maxRecDepth 20000 in
theorem oc_0_52 : pm_okcp 0 (52, 2, 127, 2, 0) := ⟨pm_m127, rfl, by decide +kernel, by decide, fun _ => gw_of (tw_2 (List.mem_of_getElem? (i := 86) rfl)) rfl, fun h => absurd h (by decide), fun _ => ⟨gm_127, gs_127, fun h => absurd h (by decide), fun _ => ⟨pm_F3, 8, rfl⟩⟩, fun h => absurd h (by decide), fun h => absurd h (by decide), gc_127, gi_3⟩
set_option maxRecDepth 20000 in
theorem oc_0_56 : pm_okcp 0 (56, 2, 198, 0, 0) := ⟨pm_m198, rfl, by decide +kernel, by decide, fun _ => gw_of (tw_3 (List.mem_of_getElem? (i := 66) rfl)) rfl, fun h => absurd h (by decide), fun _ => ⟨gm_198, gs_198, fun h => absurd h (by decide), fun _ => ⟨pm_F10, 4, rfl⟩⟩, fun h => absurd h (by decide), fun h => absurd h (by decide), gc_198, gi_10⟩
set_option maxRecDepth 20000 in
theorem oc_0_59 : pm_okcp 0 (59, 2, 90, 1, 0) := ⟨pm_m90, rfl, by decide +kernel, by decide, fun _ => gw_of (tw_3 (List.mem_of_getElem? (i := 70) rfl)) rfl, fun h => absurd h (by decide), fun _ => ⟨gm_90, gs_90, fun h => absurd h (by decide), fun _ => ⟨pm_F1, 1, rfl⟩⟩, fun h => absurd h (by decide), fun h => absurd h (by decide), gc_90, gi_1⟩
set_option maxRecDepth 20000 in
theorem oc_0_63 : pm_okcp 0 (63, 2, 139, 1, 0) := ⟨pm_m139, rfl, by decide +kernel, by decide, fun _ => gw_of (tw_3 (List.mem_of_getElem? (i := 197) rfl)) rfl, fun h => absurd h (by decide), fun _ => ⟨gm_139, gs_139, fun h => absurd h (by decide), fun _ => ⟨pm_F4, 7, rfl⟩⟩, fun h => absurd h (by decide), fun h => absurd h (by decide), gc_139, gi_4⟩
set_option maxRecDepth 20000 in
theorem oc_0_66 : pm_okcp 0 (66, 2, 142, 2, 0) := ⟨pm_m142, rfl, by decide +kernel, by decide, fun _ => gw_of (tw_3 (List.mem_of_getElem? (i := 226) rfl)) rfl, fun h => absurd h (by decide), fun _ => ⟨gm_142, gs_142, fun h => absurd h (by decide), fun _ => ⟨pm_F4, 7, rfl⟩⟩, fun h => absurd h (by decide), fun h => absurd h (by decide), gc_142, gi_4⟩
set_option maxRecDepth 20000 in
theorem oc_0_70 : pm_okcp 0 (70, 2, 108, 0, 0) := ⟨pm_m108, rfl, by decide +kernel, by decide, fun _ => gw_of (tw_4 (List.mem_of_getElem? (i := 200) rfl)) rfl, fun h => absurd h (by decide), fun _ => ⟨gm_108, gs_108, fun h => absurd h (by decide), fun _ => ⟨pm_F2, 8, rfl⟩⟩, fun h => absurd h (by decide), fun h => absurd h (by decide), gc_108, gi_2⟩
set_option maxRecDepth 20000 in
theorem oc_0_74 : pm_okcp 0 (74, 2, 136, 0, 0) := ⟨pm_m136, rfl, by decide +kernel, by decide, fun _ => gw_of (tw_4 (List.mem_of_getElem? (i := 205) rfl)) rfl, fun h => absurd h (by decide), fun _ => ⟨gm_136, gs_136, fun h => absurd h (by decide), fun _ => ⟨pm_F4, 7, rfl⟩⟩, fun h => absurd h (by decide), fun h => absurd h (by decide), gc_136, gi_4⟩
set_option maxRecDepth 20000 in
theorem oc_0_78 : pm_okcp 0 (78, 2, 170, 1, 0) := ⟨pm_m170, rfl, by decide +kernel, by decide, fun _ => gw_of (tw_4 (List.mem_of_getElem? (i := 209) rfl)) rfl, fun h => absurd h (by decide), fun _ => ⟨gm_170, gs_170, fun h => absurd h (by decide), fun _ => ⟨pm_F7, 4, rfl⟩⟩, fun h => absurd h (by decide), fun h => absurd h (by decide), gc_170, gi_7⟩
set_option maxRecDepth 20000 in
theorem oc_0_84 : pm_okcp 0 (84, 2, 171, 1, 0) := ⟨pm_m171, rfl, by decide +kernel, by decide, fun _ => gw_of (tw_4 (List.mem_of_getElem? (i := 214) rfl)) rfl, fun h => absurd h (by decide), fun _ => ⟨gm_171, gs_171, fun h => absurd h (by decide), fun _ => ⟨pm_F7, 4, rfl⟩⟩, fun h => absurd h (by decide), fun h => absurd h (by decide), gc_171, gi_7⟩
set_option maxRecDepth 20000 in
theorem oc_0_87 : pm_okcp 0 (87, 2, 174, 1, 0) := ⟨pm_m174, rfl, by decide +kernel, by decide, fun _ => gw_of (tw_4 (List.mem_of_getElem? (i := 219) rfl)) rfl, fun h => absurd h (by decide), fun _ => ⟨gm_174, gs_174, fun h => absurd h (by decide), fun _ => ⟨pm_F7, 4, rfl⟩⟩, fun h => absurd h (by decide), fun h => absurd h (by decide), gc_174, gi_7⟩
set_option maxRecDepth 20000 in
theorem oc_0_90 : pm_okcp 0 (90, 2, 137, 0, 0) := ⟨pm_m137, rfl, by decide +kernel, by decide, fun _ => gw_of (tw_4 (List.mem_of_getElem? (i := 235) rfl)) rfl, fun h => absurd h (by decide), fun _ => ⟨gm_137, gs_137, fun h => absurd h (by decide), fun _ => ⟨pm_F4, 7, rfl⟩⟩, fun h => absurd h (by decide), fun h => absurd h (by decide), gc_137, gi_4⟩
set_option maxRecDepth 20000 in
theorem oc_0_93 : pm_okcp 0 (93, 2, 138, 1, 0) := ⟨pm_m138, rfl, by decide +kernel, by decide, fun _ => gw_of (tw_5 (List.mem_of_getElem? (i := 3) rfl)) rfl, fun h => absurd h (by decide), fun _ => ⟨gm_138, gs_138, fun h => absurd h (by decide), fun _ => ⟨pm_F4, 7, rfl⟩⟩, fun h => absurd h (by decide), fun h => absurd h (by decide), gc_138, gi_4⟩
set_option maxRecDepth 20000 in
theorem op_0 : ∀ (idx : Nat) (e : Nat × Nat × Nat × Nat), pm_p0 idx = some e → pm_okcp 0 (idx, e) := pm_nd_ok (pm_nd_ok (pm_nd_ok (pm_lks (List.forall_mem_cons.mpr ⟨oc_0_1, List.forall_mem_cons.mpr ⟨oc_0_7, List.forall_mem_cons.mpr ⟨oc_0_9, fun _ h => absurd h List.not_mem_nil⟩⟩⟩)) (pm_lks (List.forall_mem_cons.mpr ⟨oc_0_10, List.forall_mem_cons.mpr ⟨oc_0_16, List.forall_mem_cons.mpr ⟨oc_0_18, List.forall_mem_cons.mpr ⟨oc_0_19, fun _ h => absurd h List.not_mem_nil⟩⟩⟩⟩))) (pm_nd_ok (pm_lks (List.forall_mem_cons.mpr ⟨oc_0_23, List.forall_mem_cons.mpr ⟨oc_0_25, List.forall_mem_cons.mpr ⟨oc_0_26, List.forall_mem_cons.mpr ⟨oc_0_30, fun _ h => absurd h List.not_mem_nil⟩⟩⟩⟩)) (pm_lks (List.forall_mem_cons.mpr ⟨oc_0_32, List.forall_mem_cons.mpr ⟨oc_0_33, List.forall_mem_cons.mpr ⟨oc_0_37, List.forall_mem_cons.mpr ⟨oc_0_39, fun _ h => absurd h List.not_mem_nil⟩⟩⟩⟩)))) (pm_nd_ok (pm_nd_ok (pm_lks (List.forall_mem_cons.mpr ⟨oc_0_43, List.forall_mem_cons.mpr ⟨oc_0_44, List.forall_mem_cons.mpr ⟨oc_0_48, fun _ h => absurd h List.not_mem_nil⟩⟩⟩)) (pm_lks (List.forall_mem_cons.mpr ⟨oc_0_52, List.forall_mem_cons.mpr ⟨oc_0_56, List.forall_mem_cons.mpr ⟨oc_0_59, List.forall_mem_cons.mpr ⟨oc_0_63, fun _ h => absurd h List.not_mem_nil⟩⟩⟩⟩))) (pm_nd_ok (pm_lks (List.forall_mem_cons.mpr ⟨oc_0_66, List.forall_mem_cons.mpr ⟨oc_0_70, List.forall_mem_cons.mpr ⟨oc_0_74, List.forall_mem_cons.mpr ⟨oc_0_78, fun _ h => absurd h List.not_mem_nil⟩⟩⟩⟩)) (pm_lks (List.forall_mem_cons.mpr ⟨oc_0_84, List.forall_mem_cons.mpr ⟨oc_0_87, List.forall_mem_cons.mpr ⟨oc_0_90, List.forall_mem_cons.mpr ⟨oc_0_93, fun _ h => absurd h List.not_mem_nil⟩⟩⟩⟩))))
set_option maxRecDepth 20000 in
theorem oc_1_3 : pm_okcp 1 (3, 4, 0, 0, 0) := ⟨fun _ => gw_of (tw_1 (List.mem_of_getElem? (i := 101) rfl)) rfl, fun h => absurd h (by decide), fun h => absurd h (by decide)⟩
set_option maxRecDepth 20000 in
theorem oc_1_9 : pm_okcp 1 (9, 1, 9, 0, 0) := ⟨pm_R9, pm_F9, 5, rfl, gw_of (tw_1 (List.mem_of_getElem? (i := 102) rfl)) rfl, gn_9, gi_9⟩
set_option maxRecDepth 20000 in
theorem oc_1_11 : pm_okcp 1 (11, 2, 186, 0, 4) := ⟨pm_m186, rfl, by decide +kernel, by decide, fun h => absurd h (by decide), fun _ => ⟨"ArmExpander", nw_of (tw_1 (List.mem_of_getElem? (i := 104) rfl)) rfl⟩, fun h => absurd h (by decide), fun _ => ⟨gm_186, rfl⟩, fun h => absurd h (by decide), gc_186, gi_9⟩
set_option maxRecDepth 20000 in
theorem oc_1_12 : pm_okcp 1 (12, 0, 1, 0, 0) := ⟨pm_R1, pm_F1, 1, rfl, by decide, rfl, fun _ => rfl, gw_of (tw_1 (List.mem_of_getElem? (i := 124) rfl)) rfl⟩
set_option maxRecDepth 20000 in
theorem oc_1_18 : pm_okcp 1 (18, 2, 108, 0, 0) := ⟨pm_m108, rfl, by decide +kernel, by decide, fun _ => gw_of (tw_3 (List.mem_of_getElem? (i := 74) rfl)) rfl, fun h => absurd h (by decide), fun _ => ⟨gm_108, gs_108, fun h => absurd h (by decide), fun _ => ⟨pm_F2, 8, rfl⟩⟩, fun h => absurd h (by decide), fun h => absurd h (by decide), gc_108, gi_2⟩
set_option maxRecDepth 20000 in
theorem oc_1_24 : pm_okcp 1 (24, 2, 91, 2, 0) := ⟨pm_m91, rfl, by decide +kernel, by decide, fun _ => gw_of (tw_3 (List.mem_of_getElem? (i := 75) rfl)) rfl, fun h => absurd h (by decide), fun _ => ⟨gm_91, gs_91, fun h => absurd h (by decide), fun _ => ⟨pm_F1, 1, rfl⟩⟩, fun h => absurd h (by decide), fun h => absurd h (by decide), gc_91, gi_1⟩
set_option maxRecDepth 20000 in
theorem oc_1_28 : pm_okcp 1 (28, 2, 92, 2, 2) := ⟨pm_m92, rfl, by decide +kernel, by decide, fun _ => gw_of (tw_3 (List.mem_of_getElem? (i := 79) rfl)) rfl, fun h => absurd h (by decide), fun h => absurd h (by decide), fun h => absurd h (by decide), fun _ => gt_92, gc_92, gi_1⟩
set_option maxRecDepth 20000 in
theorem oc_1_32 : pm_okcp 1 (32, 2, 93, 2, 2) := ⟨pm_m93, rfl, by decide +kernel, by decide, fun _ => gw_of (tw_3 (List.mem_of_getElem? (i := 102) rfl)) rfl, fun h => absurd h (by decide), fun h => absurd h (by decide), fun h => absurd h (by decide), fun _ => gt_93, gc_93, gi_1⟩
set_option maxRecDepth 20000 in
theorem oc_1_35 : pm_okcp 1 (35, 2, 95, 2, 0) := ⟨pm_m95, rfl, by decide +kernel, by decide, fun _ => gw_of (tw_3 (List.mem_of_getElem? (i := 124) rfl)) rfl, fun h => absurd h (by decide), fun _ => ⟨gm_95, gs_95, fun h => absurd h (by decide), fun _ => ⟨pm_F1, 1, rfl⟩⟩, fun h => absurd h (by decide), fun h => absurd h (by decide), gc_95, gi_1⟩
set_option maxRecDepth 20000 in
theorem oc_1_38 : pm_okcp 1 (38, 2, 97, 2, 2) := ⟨pm_m97, rfl, by decide +kernel, by decide, fun _ => gw_of (tw_3 (List.mem_of_getElem? (i := 172) rfl)) rfl, fun h => absurd h (by decide), fun h => absurd h (by decide), fun h => absurd h (by decide), fun _ => gt_97, gc_97, gi_1⟩
set_option maxRecDepth 20000 in
theorem oc_1_41 : pm_okcp 1 (41, 2, 98, 2, 2) := ⟨pm_m98, rfl, by decide +kernel, by decide, fun _ => gw_of (tw_3 (List.mem_of_getElem? (i := 186) rfl)) rfl, fun h => absurd h (by decide), fun h => absurd h (by decide), fun h => absurd h (by decide), fun _ => gt_98, gc_98, gi_1⟩
set_option maxRecDepth 20000 in
theorem oc_1_44 : pm_okcp 1 (44, 2, 112, 1, 0) := ⟨pm_m112, rfl, by decide +kernel, by decide, fun _ => gw_of (tw_3 (List.mem_of_getElem? (i := 82) rfl)) rfl, fun h => absurd h (by decide), fun _ => ⟨gm_112, gs_112, fun h => absurd h (by decide), fun _ => ⟨pm_F2, 8, rfl⟩⟩, fun h => absurd h (by decide), fun h => absurd h (by decide), gc_112, gi_2⟩
set_option maxRecDepth 20000 in
theorem oc_1_48 : pm_okcp 1 (48, 2, 111, 1, 0) := ⟨pm_m111, rfl, by decide +kernel, by decide, fun _ => gw_of (tw_3 (List.mem_of_getElem? (i := 86) rfl)) rfl, fun h => absurd h (by decide), fun _ => ⟨gm_111, gs_111, fun h => absurd h (by decide), fun _ => ⟨pm_F2, 8, rfl⟩⟩, fun h => absurd h (by decide), fun h => absurd h (by decide), gc_111, gi_2⟩
set_option maxRecDepth 20000 in
theorem oc_1_51 : pm_okcp 1 (51, 2, 115, 1, 0) := ⟨pm_m115, rfl, by decide +kernel, by decide, fun _ => gw_of (tw_3 (List.mem_of_getElem? (i := 90) rfl)) rfl, fun h => absurd h (by decide), fun _ => ⟨gm_115, gs_115, fun h => absurd h (by decide), fun _ => ⟨pm_F2, 8, rfl⟩⟩, fun h => absurd h (by decide), fun h => absurd h (by decide), gc_115, gi_2⟩
set_option maxRecDepth 20000 in
theorem oc_1_55 : pm_okcp 1 (55, 2, 109, 1, 0) := ⟨pm_m109, rfl, by decide +kernel, by decide, fun _ => gw_of (tw_3 (List.mem_of_getElem? (i := 94) rfl)) rfl, fun h => absurd h (by decide), fun _ => ⟨gm_109, gs_109, fun h => absurd h (by decide), fun _ => ⟨pm_F2, 8, rfl⟩⟩, fun h => absurd h (by decide), fun h => absurd h (by decide), gc_109, gi_2⟩
set_option maxRecDepth 20000 in
theorem oc_1_58 : pm_okcp 1 (58, 2, 125, 2, 0) := ⟨pm_m125, rfl, by decide +kernel, by decide, fun _ => gw_of (tw_3 (List.mem_of_getElem? (i := 98) rfl)) rfl, fun h => absurd h (by decide), fun _ => ⟨gm_125, gs_125, fun h => absurd h (by decide), fun _ => ⟨pm_F2, 8, rfl⟩⟩, fun h => absurd h (by decide), fun h => absurd h (by decide), gc_125, gi_2⟩
set_option maxRecDepth 20000 in
theorem oc_1_62 : pm_okcp 1 (62, 2, 116, 1, 0) := ⟨pm_m116, rfl, by decide +kernel, by decide, fun _ => gw_of (tw_3 (List.mem_of_getElem? (i := 105) rfl)) rfl, fun h => absurd h (by decide), fun _ => ⟨gm_116, gs_116, fun h => absurd h (by decide), fun _ => ⟨pm_F2, 8, rfl⟩⟩, fun h => absurd h (by decide), fun h => absurd h (by decide), gc_116, gi_2⟩
set_option maxRecDepth 20000 in
theorem oc_1_65 : pm_okcp 1 (65, 2, 94, 2, 2) := ⟨pm_m94, rfl, by decide +kernel, by decide, fun _ => gw_of (tw_3 (List.mem_of_getElem? (i := 109) rfl)) rfl, fun h => absurd h (by decide), fun h => absurd h (by decide), fun h => absurd h (by decide), fun _ => gt_94, gc_94, gi_1⟩
set_option maxRecDepth 20000 in
theorem oc_1_68 : pm_okcp 1 (68, 2, 110, 1, 0) := ⟨pm_m110, rfl, by decide +kernel, by decide, fun _ => gw_of (tw_3 (List.mem_of_getElem? (i := 112) rfl)) rfl, fun h => absurd h (by decide), fun _ => ⟨gm_110, gs_110, fun h => absurd h (by decide), fun _ => ⟨pm_F2, 8, rfl⟩⟩, fun h => absurd h (by decide), fun h => absurd h (by decide), gc_110, gi_2⟩
set_option maxRecDepth 20000 in
theorem oc_1_71 : pm_okcp 1 (71, 2, 118, 1, 0) := ⟨pm_m118, rfl, by decide +kernel, by decide, fun _ => gw_of (tw_3 (List.mem_of_getElem? (i := 116) rfl)) rfl, fun h => absurd h (by decide), fun _ => ⟨gm_118, gs_118, fun h => absurd h (by decide), fun _ => ⟨pm_F2, 8, rfl⟩⟩, fun h => absurd h (by decide), fun h => absurd h (by decide), gc_118, gi_2⟩
set_option maxRecDepth 20000 in
theorem oc_1_74 : pm_okcp 1 (74, 2, 119, 1, 0) := ⟨pm_m119, rfl, by decide +kernel, by decide, fun _ => gw_of (tw_3 (List.mem_of_getElem? (i := 120) rfl)) rfl, fun h => absurd h (by decide), fun _ => ⟨gm_119, gs_119, fun h => absurd h (by decide), fun _ => ⟨pm_F2, 8, rfl⟩⟩, fun h => absurd h (by decide), fun h => absurd h (by decide), gc_119, gi_2⟩
set_option maxRecDepth 20000 in
theorem oc_1_77 : pm_okcp 1 (77, 2, 96, 3, 0) := ⟨pm_m96, rfl, by decide +kernel, by decide, fun _ => gw_of (tw_3 (List.mem_of_getElem? (i := 128) rfl)) rfl, fun h => absurd h (by decide), fun _ => ⟨gm_96, gs_96, fun h => absurd h (by decide), fun _ => ⟨pm_F1, 1, rfl⟩⟩, fun h => absurd h (by decide), fun h => absurd h (by decide), gc_96, gi_1⟩
set_option maxRecDepth 20000 in
theorem oc_1_81 : pm_okcp 1 (81, 2, 187, 1, 0) := ⟨pm_m187, rfl, by decide +kernel, by decide, fun _ => gw_of (tw_3 (List.mem_of_getElem? (i := 132) rfl)) rfl, fun h => absurd h (by decide), fun _ => ⟨gm_187, gs_187, fun h => absurd h (by decide), fun _ => ⟨pm_F9, 5, rfl⟩⟩, fun h => absurd h (by decide), fun h => absurd h (by decide), gc_187, gi_9⟩
set_option maxRecDepth 20000 in
theorem oc_1_85 : pm_okcp 1 (85, 2, 190, 0, 0) := ⟨pm_m190, rfl, by decide +kernel, by decide, fun _ => gw_of (tw_3 (List.mem_of_getElem? (i := 139) rfl)) rfl, fun h => absurd h (by decide), fun _ => ⟨gm_190, gs_190, fun h => absurd h (by decide), fun _ => ⟨pm_F9, 5, rfl⟩⟩, fun h => absurd h (by decide), fun h => absurd h (by decide), gc_190, gi_9⟩
set_option maxRecDepth 20000 in
theorem oc_1_88 : pm_okcp 1 (88, 2, 192, 1, 0) := ⟨pm_m192, rfl, by decide +kernel, by decide, fun _ => gw_of (tw_3 (List.mem_of_getElem? (i := 143) rfl)) rfl, fun h => absurd h (by decide), fun _ => ⟨gm_192, gs_192, fun h => absurd h (by decide), fun _ => ⟨pm_F9, 5, rfl⟩⟩, fun h => absurd h (by decide), fun h => absurd h (by decide), gc_192, gi_9⟩
set_option maxRecDepth 20000 in
theorem oc_1_92 : pm_okcp 1 (92, 2, 188, 1, 0) := ⟨pm_m188, rfl, by decide +kernel, by decide, fun _ => gw_of (tw_3 (List.mem_of_getElem? (i := 167) rfl)) rfl, fun h => absurd h (by decide), fun _ => ⟨gm_188, gs_188, fun h => absurd h (by decide), fun _ => ⟨pm_F9, 5, rfl⟩⟩, fun h => absurd h (by decide), fun h => absurd h (by decide), gc_188, gi_9⟩
set_option maxRecDepth 20000 in
theorem oc_1_95 : pm_okcp 1 (95, 2, 14, 1, 5) := ⟨pm_m14, rfl, by decide +kernel, by decide, fun h => absurd h (by decide), fun _ => ⟨"ArmExpander", nw_of (tw_3 (List.mem_of_getElem? (i := 171) rfl)) rfl⟩, fun h => absurd h (by decide), fun h => absurd h (by decide), fun _ => gt_14, gc_14, gi_0⟩
set_option maxRecDepth 20000 in
theorem oc_1_98 : pm_okcp 1 (98, 2, 114, 1, 0) := ⟨pm_m114, rfl, by decide +kernel, by decide, fun _ => gw_of (tw_3 (List.mem_of_getElem? (i := 175) rfl)) rfl, fun h => absurd h (by decide), fun _ => ⟨gm_114, gs_114, fun h => absurd h (by decide), fun _ => ⟨pm_F2, 8, rfl⟩⟩, fun h => absurd h (by decide), fun h => absurd h (by decide), gc_114, gi_2⟩
set_option maxRecDepth 20000 in
theorem oc_1_101 : pm_okcp 1 (101, 2, 113, 1, 0) := ⟨pm_m113, rfl, by decide +kernel, by decide, fun _ => gw_of (tw_3 (List.mem_of_getElem? (i := 181) rfl)) rfl, fun h => absurd h (by decide), fun _ => ⟨gm_113, gs_113, fun h => absurd h (by decide), fun _ => ⟨pm_F2, 8, rfl⟩⟩, fun h => absurd h (by decide), fun h => absurd h (by decide), gc_113, gi_2⟩
set_option maxRecDepth 20000 in
theorem oc_1_104 : pm_okcp 1 (104, 2, 122, 1, 0) := ⟨pm_m122, rfl, by decide +kernel, by decide, fun _ => gw_of (tw_3 (List.mem_of_getElem? (i := 185) rfl)) rfl, fun h => absurd h (by decide), fun _ => ⟨gm_122, gs_122, fun h => absurd h (by decide), fun _ => ⟨pm_F2, 8, rfl⟩⟩, fun h => absurd h (by decide), fun h => absurd h (by decide), gc_122, gi_2⟩
set_option maxRecDepth 20000 in
theorem oc_1_107 : pm_okcp 1 (107, 2, 99, 2, 2) := ⟨pm_m99, rfl, by decide +kernel, by decide, fun _ => gw_of (tw_3 (List.mem_of_getElem? (i := 189) rfl)) rfl, fun h => absurd h (by decide), fun h => absurd h (by decide), fun h => absurd h (by decide), fun _ => gt_99, gc_99, gi_1⟩
set_option maxRecDepth 20000 in
theorem op_1 : ∀ (idx : Nat) (e : Nat × Nat × Nat × Nat), pm_p1 idx = some e → pm_okcp 1 (idx, e) := pm_nd_ok (pm_nd_ok (pm_nd_ok (pm_lks (List.forall_mem_cons.mpr ⟨oc_1_3, List.forall_mem_cons.mpr ⟨oc_1_9, List.forall_mem_cons.mpr ⟨oc_1_11, fun _ h => absurd h List.not_mem_nil⟩⟩⟩)) (pm_lks (List.forall_mem_cons.mpr ⟨oc_1_12, List.forall_mem_cons.mpr ⟨oc_1_18, List.forall_mem_cons.mpr ⟨oc_1_24, List.forall_mem_cons.mpr ⟨oc_1_28, fun _ h => absurd h List.not_mem_nil⟩⟩⟩⟩))) (pm_nd_ok (pm_lks (List.forall_mem_cons.mpr ⟨oc_1_32, List.forall_mem_cons.mpr ⟨oc_1_35, List.forall_mem_cons.mpr ⟨oc_1_38, List.forall_mem_cons.mpr ⟨oc_1_41, fun _ h => absurd h List.not_mem_nil⟩⟩⟩⟩)) (pm_lks (List.forall_mem_cons.mpr ⟨oc_1_44, List.forall_mem_cons.mpr ⟨oc_1_48, List.forall_mem_cons.mpr ⟨oc_1_51, List.forall_mem_cons.mpr ⟨oc_1_55, fun _ h => absurd h List.not_mem_nil⟩⟩⟩⟩)))) (pm_nd_ok (pm_nd_ok (pm_lks (List.forall_mem_cons.mpr ⟨oc_1_58, List.forall_mem_cons.mpr ⟨oc_1_62, List.forall_mem_cons.mpr ⟨oc_1_65, List.forall_mem_cons.mpr ⟨oc_1_68, fun _ h => absurd h List.not_mem_nil⟩⟩⟩⟩)) (pm_lks (List.forall_mem_cons.mpr ⟨oc_1_71, List.forall_mem_cons.mpr ⟨oc_1_74, List.forall_mem_cons.mpr ⟨oc_1_77, List.forall_mem_cons.mpr ⟨oc_1_81, fun _ h => absurd h List.not_mem_nil⟩⟩⟩⟩))) (pm_nd_ok (pm_lks (List.forall_mem_cons.mpr ⟨oc_1_85, List.forall_mem_cons.mpr ⟨oc_1_88, List.forall_mem_cons.mpr ⟨oc_1_92, List.forall_mem_cons.mpr ⟨oc_1_95, fun _ h => absurd h List.not_mem_nil⟩⟩⟩⟩)) (pm_lks (List.forall_mem_cons.mpr ⟨oc_1_98, List.forall_mem_cons.mpr ⟨oc_1_101, List.forall_mem_cons.mpr ⟨oc_1_104, List.forall_mem_cons.mpr ⟨oc_1_107, fun _ h => absurd h List.not_mem_nil⟩⟩⟩⟩))))
set_option maxRecDepth 20000 in
theorem oc_2_3 : pm_okcp 2 (3, 4, 0, 0, 0) := ⟨fun _ => gw_of (tw_2 (List.mem_of_getElem? (i := 26) rfl)) rfl, fun h => absurd h (by decide), fun h => absurd h (by decide)⟩
set_option maxRecDepth 20000 in
theorem oc_2_9 : pm_okcp 2 (9, 0, 2, 0, 0) := ⟨pm_R2, pm_F2, 8, rfl, by decide, rfl, fun _ => rfl, gw_of (tw_2 (List.mem_of_getElem? (i := 27) rfl)) rfl⟩
set_option maxRecDepth 20000 in
theorem oc_2_15 : pm_okcp 2 (15, 0, 2, 1, 0) := ⟨pm_R2, pm_F2, 8, rfl, by decide, rfl, fun _ => rfl, gw_of (tw_2 (List.mem_of_getElem? (i := 28) rfl)) rfl⟩
set_option maxRecDepth 20000 in
theorem oc_2_18 : pm_okcp 2 (18, 0, 2, 2, 0) := ⟨pm_R2, pm_F2, 8, rfl, by decide, rfl, fun _ => rfl, gw_of (tw_2 (List.mem_of_getElem? (i := 29) rfl)) rfl⟩
set_option maxRecDepth 20000 in
theorem oc_2_21 : pm_okcp 2 (21, 0, 2, 3, 0) := ⟨pm_R2, pm_F2, 8, rfl, by decide, rfl, fun _ => rfl, gw_of (tw_2 (List.mem_of_getElem? (i := 30) rfl)) rfl⟩
set_option maxRecDepth 20000 in
theorem oc_2_24 : pm_okcp 2 (24, 0, 2, 4, 0) := ⟨pm_R2, pm_F2, 8, rfl, by decide, rfl, fun _ => rfl, gw_of (tw_2 (List.mem_of_getElem? (i := 31) rfl)) rfl⟩
set_option maxRecDepth 20000 in
theorem oc_2_27 : pm_okcp 2 (27, 0, 2, 5, 0) := ⟨pm_R2, pm_F2, 8, rfl, by decide, rfl, fun _ => rfl, gw_of (tw_2 (List.mem_of_getElem? (i := 32) rfl)) rfl⟩
set_option maxRecDepth 20000 in
theorem oc_2_30 : pm_okcp 2 (30, 0, 2, 6, 0) := ⟨pm_R2, pm_F2, 8, rfl, by decide, rfl, fun _ => rfl, gw_of (tw_2 (List.mem_of_getElem? (i := 33) rfl)) rfl⟩
set_option maxRecDepth 20000 in
theorem oc_2_34 : pm_okcp 2 (34, 0, 2, 7, 0) := ⟨pm_R2, pm_F2, 8, rfl, by decide, rfl, fun _ => rfl, gw_of (tw_2 (List.mem_of_getElem? (i := 34) rfl)) rfl⟩
set_option maxRecDepth 20000 in
theorem oc_2_37 : pm_okcp 2 (37, 2, 112, 1, 0) := ⟨pm_m112, rfl, by decide +kernel, by decide, fun _ => gw_of (tw_3 (List.mem_of_getElem? (i := 179) rfl)) rfl, fun h => absurd h (by decide), fun _ => ⟨gm_112, gs_112, fun h => absurd h (by decide), fun _ => ⟨pm_F2, 8, rfl⟩⟩, fun h => absurd h (by decide), fun h => absurd h (by decide), gc_112, gi_2⟩
set_option maxRecDepth 20000 in
theorem oc_2_41 : pm_okcp 2 (41, 2, 110, 1, 0) := ⟨pm_m110, rfl, by decide +kernel, by decide, fun _ => gw_of (tw_3 (List.mem_of_getElem? (i := 180) rfl)) rfl, fun h => absurd h (by decide), fun _ => ⟨gm_110, gs_110, fun h => absurd h (by decide), fun _ => ⟨pm_F2, 8, rfl⟩⟩, fun h => absurd h (by decide), fun h => absurd h (by decide), gc_110, gi_2⟩
set_option maxRecDepth 20000 in
theorem oc_2_44 : pm_okcp 2 (44, 2, 121, 1, 0) := ⟨pm_m121, rfl, by decide +kernel, by decide, fun _ => gw_of (tw_3 (List.mem_of_getElem? (i := 5) rfl)) rfl, fun h => absurd h (by decide), fun _ => ⟨gm_121, gs_121, fun h => absurd h (by decide), fun _ => ⟨pm_F2, 8, rfl⟩⟩, fun h => absurd h (by decide), fun h => absurd h (by decide), gc_121, gi_2⟩
set_option maxRecDepth 20000 in
theorem op_2 : ∀ (idx : Nat) (e : Nat × Nat × Nat × Nat), pm_p2 idx = some e → pm_okcp 2 (idx, e) := pm_nd_ok (pm_lks (List.forall_mem_cons.mpr ⟨oc_2_3, List.forall_mem_cons.mpr ⟨oc_2_9, List.forall_mem_cons.mpr ⟨oc_2_15, List.forall_mem_cons.mpr ⟨oc_2_18, List.forall_mem_cons.mpr ⟨oc_2_21, List.forall_mem_cons.mpr ⟨oc_2_24, fun _ h => absurd h List.not_mem_nil⟩⟩⟩⟩⟩⟩)) (pm_lks (List.forall_mem_cons.mpr ⟨oc_2_27, List.forall_mem_cons.mpr ⟨oc_2_30, List.forall_mem_cons.mpr ⟨oc_2_34, List.forall_mem_cons.mpr ⟨oc_2_37, List.forall_mem_cons.mpr ⟨oc_2_41, List.forall_mem_cons.mpr ⟨oc_2_44, fun _ h => absurd h List.not_mem_nil⟩⟩⟩⟩⟩⟩))
set_option maxRecDepth 20000 in
theorem oc_3_3 : pm_okcp 3 (3, 4, 0, 0, 0) := ⟨fun _ => gw_of (tw_1 (List.mem_of_getElem? (i := 54) rfl)) rfl, fun h => absurd h (by decide), fun h => absurd h (by decide)⟩
set_option maxRecDepth 20000 in
theorem oc_3_9 : pm_okcp 3 (9, 1, 6, 0, 0) := ⟨pm_R6, pm_F6, 3, rfl, gw_of (tw_1 (List.mem_of_getElem? (i := 55) rfl)) rfl, gn_6, gi_6⟩
set_option maxRecDepth 20000 in
theorem oc_3_11 : pm_okcp 3 (11, 2, 159, 0, 4) := ⟨pm_m159, rfl, by decide +kernel, by decide, fun h => absurd h (by decide), fun _ => ⟨"ArmExpander", nw_of (tw_1 (List.mem_of_getElem? (i := 57) rfl)) rfl⟩, fun h => absurd h (by decide), fun _ => ⟨gm_159, rfl⟩, fun h => absurd h (by decide), gc_159, gi_6⟩
set_option maxRecDepth 20000 in
theorem oc_3_12 : pm_okcp 3 (12, 0, 3, 0, 0) := ⟨pm_R3, pm_F3, 8, rfl, by decide, rfl, fun _ => rfl, gw_of (tw_1 (List.mem_of_getElem? (i := 71) rfl)) rfl⟩
set_option maxRecDepth 20000 in
theorem oc_3_18 : pm_okcp 3 (18, 0, 3, 1, 0) := ⟨pm_R3, pm_F3, 8, rfl, by decide, rfl, fun _ => rfl, gw_of (tw_1 (List.mem_of_getElem? (i := 72) rfl)) rfl⟩
set_option maxRecDepth 20000 in
theorem oc_3_22 : pm_okcp 3 (22, 2, 101, 0, 0) := ⟨pm_m101, rfl, by decide +kernel, by decide, fun _ => gw_of (tw_2 (List.mem_of_getElem? (i := 90) rfl)) rfl, fun h => absurd h (by decide), fun _ => ⟨gm_101, gs_101, fun h => absurd h (by decide), fun _ => ⟨pm_F2, 8, rfl⟩⟩, fun h => absurd h (by decide), fun h => absurd h (by decide), gc_101, gi_2⟩
set_option maxRecDepth 20000 in
theorem oc_3_27 : pm_okcp 3 (27, 2, 160, 0, 0) := ⟨pm_m160, rfl, by decide +kernel, by decide, fun _ => gw_of (tw_2 (List.mem_of_getElem? (i := 94) rfl)) rfl, fun h => absurd h (by decide), fun _ => ⟨gm_160, gs_160, fun h => absurd h (by decide), fun _ => ⟨pm_F6, 3, rfl⟩⟩, fun h => absurd h (by decide), fun h => absurd h (by decide), gc_160, gi_6⟩
set_option maxRecDepth 20000 in
theorem oc_3_28 : pm_okcp 3 (28, 0, 3, 2, 0) := ⟨pm_R3, pm_F3, 8, rfl, by decide, rfl, fun _ => rfl, gw_of (tw_1 (List.mem_of_getElem? (i := 73) rfl)) rfl⟩
set_option maxRecDepth 20000 in
theorem oc_3_32 : pm_okcp 3 (32, 0, 3, 6, 0) := ⟨pm_R3, pm_F3, 8, rfl, by decide, rfl, fun _ => rfl, gw_of (tw_1 (List.mem_of_getElem? (i := 77) rfl)) rfl⟩
set_option maxRecDepth 20000 in
theorem oc_3_35 : pm_okcp 3 (35, 2, 201, 0, 0) := ⟨pm_m201, rfl, by decide +kernel, by decide, fun _ => gw_of (tw_2 (List.mem_of_getElem? (i := 98) rfl)) rfl, fun h => absurd h (by decide), fun _ => ⟨gm_201, gs_201, fun h => absurd h (by decide), fun _ => ⟨pm_F10, 4, rfl⟩⟩, fun h => absurd h (by decide), fun h => absurd h (by decide), gc_201, gi_10⟩
set_option maxRecDepth 20000 in
theorem oc_3_41 : pm_okcp 3 (41, 2, 128, 2, 0) := ⟨pm_m128, rfl, by decide +kernel, by decide, fun _ => gw_of (tw_2 (List.mem_of_getElem? (i := 203) rfl)) rfl, fun h => absurd h (by decide), fun _ => ⟨gm_128, gs_128, fun h => absurd h (by decide), fun _ => ⟨pm_F3, 8, rfl⟩⟩, fun h => absurd h (by decide), fun h => absurd h (by decide), gc_128, gi_3⟩
set_option maxRecDepth 20000 in
theorem oc_3_45 : pm_okcp 3 (45, 2, 200, 0, 0) := ⟨pm_m200, rfl, by decide +kernel, by decide, fun _ => gw_of (tw_3 (List.mem_of_getElem? (i := 58) rfl)) rfl, fun h => absurd h (by decide), fun _ => ⟨gm_200, gs_200, fun h => absurd h (by decide), fun _ => ⟨pm_F10, 4, rfl⟩⟩, fun h => absurd h (by decide), fun h => absurd h (by decide), gc_200, gi_10⟩
set_option maxRecDepth 20000 in
theorem oc_3_48 : pm_okcp 3 (48, 2, 199, 0, 0) := ⟨pm_m199, rfl, by decide +kernel, by decide, fun _ => gw_of (tw_3 (List.mem_of_getElem? (i := 62) rfl)) rfl, fun h => absurd h (by decide), fun _ => ⟨gm_199, gs_199, fun h => absurd h (by decide), fun _ => ⟨pm_F10, 4, rfl⟩⟩, fun h => absurd h (by decide), fun h => absurd h (by decide), gc_199, gi_10⟩
set_option maxRecDepth 20000 in
theorem oc_3_51 : pm_okcp 3 (51, 0, 3, 3, 0) := ⟨pm_R3, pm_F3, 8, rfl, by decide, rfl, fun _ => rfl, gw_of (tw_1 (List.mem_of_getElem? (i := 74) rfl)) rfl⟩
set_option maxRecDepth 20000 in
theorem oc_3_54 : pm_okcp 3 (54, 2, 102, 2, 0) := ⟨pm_m102, rfl, by decide +kernel, by decide, fun _ => gw_of (tw_2 (List.mem_of_getElem? (i := 207) rfl)) rfl, fun h => absurd h (by decide), fun _ => ⟨gm_102, gs_102, fun h => absurd h (by decide), fun _ => ⟨pm_F2, 8, rfl⟩⟩, fun h => absurd h (by decide), fun h => absurd h (by decide), gc_102, gi_2⟩
set_option maxRecDepth 20000 in
theorem oc_3_58 : pm_okcp 3 (58, 2, 11, 1, 5) := ⟨pm_m11, rfl, by decide +kernel, by decide, fun h => absurd h (by decide), fun _ => ⟨"ArmExpander", nw_of (tw_2 (List.mem_of_getElem? (i := 211) rfl)) rfl⟩, fun h => absurd h (by decide), fun h => absurd h (by decide), fun _ => gt_11, gc_11, gi_0⟩
set_option maxRecDepth 20000 in
theorem oc_3_62 : pm_okcp 3 (62, 2, 129, 2, 0) := ⟨pm_m129, rfl, by decide +kernel, by decide, fun _ => gw_of (tw_2 (List.mem_of_getElem? (i := 214) rfl)) rfl, fun h => absurd h (by decide), fun _ => ⟨gm_129, gs_129, fun h => absurd h (by decide), fun _ => ⟨pm_F3, 8, rfl⟩⟩, fun h => absurd h (by decide), fun h => absurd h (by decide), gc_129, gi_3⟩
set_option maxRecDepth 20000 in
theorem oc_3_66 : pm_okcp 3 (66, 2, 130, 1, 0) := ⟨pm_m130, rfl, by decide +kernel, by decide, fun _ => gw_of (tw_2 (List.mem_of_getElem? (i := 218) rfl)) rfl, fun h => absurd h (by decide), fun _ => ⟨gm_130, gs_130, fun h => absurd h (by decide), fun _ => ⟨pm_F3, 8, rfl⟩⟩, fun h => absurd h (by decide), fun h => absurd h (by decide), gc_130, gi_3⟩
set_option maxRecDepth 20000 in
theorem oc_3_69 : pm_okcp 3 (69, 0, 3, 4, 0) := ⟨pm_R3, pm_F3, 8, rfl, by decide, rfl, fun _ => rfl, gw_of (tw_1 (List.mem_of_getElem? (i := 75) rfl)) rfl⟩
set_option maxRecDepth 20000 in
theorem oc_3_73 : pm_okcp 3 (73, 2, 162, 2, 0) := ⟨pm_m162, rfl, by decide +kernel, by decide, fun _ => gw_of (tw_2 (List.mem_of_getElem? (i := 226) rfl)) rfl, fun h => absurd h (by decide), fun _ => ⟨gm_162, gs_162, fun h => absurd h (by decide), fun _ => ⟨pm_F6, 3, rfl⟩⟩, fun h => absurd h (by decide), fun h => absurd h (by decide), gc_162, gi_6⟩
set_option maxRecDepth 20000 in
theorem oc_3_76 : pm_okcp 3 (76, 2, 108, 0, 0) := ⟨pm_m108, rfl, by decide +kernel, by decide, fun _ => gw_of (tw_2 (List.mem_of_getElem? (i := 233) rfl)) rfl, fun h => absurd h (by decide), fun _ => ⟨gm_108, gs_108, fun h => absurd h (by decide), fun _ => ⟨pm_F2, 8, rfl⟩⟩, fun h => absurd h (by decide), fun h => absurd h (by decide), gc_108, gi_2⟩
set_option maxRecDepth 20000 in
theorem oc_3_79 : pm_okcp 3 (79, 2, 133, 1, 0) := ⟨pm_m133, rfl, by decide +kernel, by decide, fun _ => gw_of (tw_2 (List.mem_of_getElem? (i := 237) rfl)) rfl, fun h => absurd h (by decide), fun _ => ⟨gm_133, gs_133, fun h => absurd h (by decide), fun _ => ⟨pm_F3, 8, rfl⟩⟩, fun h => absurd h (by decide), fun h => absurd h (by decide), gc_133, gi_3⟩
set_option maxRecDepth 20000 in
theorem oc_3_82 : pm_okcp 3 (82, 2, 16, 1, 5) := ⟨pm_m16, rfl, by decide +kernel, by decide, fun h => absurd h (by decide), fun _ => ⟨"ArmExpander", nw_of (tw_3 (List.mem_of_getElem? (i := 13) rfl)) rfl⟩, fun h => absurd h (by decide), fun h => absurd h (by decide), fun _ => gt_16, gc_16, gi_0⟩
set_option maxRecDepth 20000 in
theorem oc_3_85 : pm_okcp 3 (85, 2, 134, 1, 0) := ⟨pm_m134, rfl, by decide +kernel, by decide, fun _ => gw_of (tw_3 (List.mem_of_getElem? (i := 16) rfl)) rfl, fun h => absurd h (by decide), fun _ => ⟨gm_134, gs_134, fun h => absurd h (by decide), fun _ => ⟨pm_F3, 8, rfl⟩⟩, fun h => absurd h (by decide), fun h => absurd h (by decide), gc_134, gi_3⟩
set_option maxRecDepth 20000 in
theorem oc_3_88 : pm_okcp 3 (88, 0, 3, 7, 0) := ⟨pm_R3, pm_F3, 8, rfl, by decide, rfl, fun _ => rfl, gw_of (tw_1 (List.mem_of_getElem? (i := 78) rfl)) rfl⟩
set_option maxRecDepth 20000 in
theorem oc_3_91 : pm_okcp 3 (91, 2, 105, 2, 0) := ⟨pm_m105, rfl, by decide +kernel, by decide, fun _ => gw_of (tw_3 (List.mem_of_getElem? (i := 23) rfl)) rfl, fun h => absurd h (by decide), fun _ => ⟨gm_105, gs_105, fun h => absurd h (by decide), fun _ => ⟨pm_F2, 8, rfl⟩⟩, fun h => absurd h (by decide), fun h => absurd h (by decide), gc_105, gi_2⟩
set_option maxRecDepth 20000 in
theorem oc_3_94 : pm_okcp 3 (94, 2, 131, 1, 0) := ⟨pm_m131, rfl, by decide +kernel, by decide, fun _ => gw_of (tw_3 (List.mem_of_getElem? (i := 33) rfl)) rfl, fun h => absurd h (by decide), fun _ => ⟨gm_131, gs_131, fun h => absurd h (by decide), fun _ => ⟨pm_F3, 8, rfl⟩⟩, fun h => absurd h (by decide), fun h => absurd h (by decide), gc_131, gi_3⟩
set_option maxRecDepth 20000 in
theorem oc_3_97 : pm_okcp 3 (97, 0, 3, 5, 0) := ⟨pm_R3, pm_F3, 8, rfl, by decide, rfl, fun _ => rfl, gw_of (tw_1 (List.mem_of_getElem? (i := 76) rfl)) rfl⟩
set_option maxRecDepth 20000 in
theorem oc_3_100 : pm_okcp 3 (100, 2, 103, 1, 0) := ⟨pm_m103, rfl, by decide +kernel, by decide, fun _ => gw_of (tw_2 (List.mem_of_getElem? (i := 222) rfl)) rfl, fun h => absurd h (by decide), fun _ => ⟨gm_103, gs_103, fun h => absurd h (by decide), fun _ => ⟨pm_F2, 8, rfl⟩⟩, fun h => absurd h (by decide), fun h => absurd h (by decide), gc_103, gi_2⟩
set_option maxRecDepth 20000 in
theorem oc_3_104 : pm_okcp 3 (104, 2, 13, 1, 5) := ⟨pm_m13, rfl, by decide +kernel, by decide, fun h => absurd h (by decide), fun _ => ⟨"ArmExpander", nw_of (tw_3 (List.mem_of_getElem? (i := 27) rfl)) rfl⟩, fun h => absurd h (by decide), fun h => absurd h (by decide), fun _ => gt_13, gc_13, gi_0⟩
set_option maxRecDepth 20000 in
theorem oc_3_107 : pm_okcp 3 (107, 2, 14, 1, 5) := ⟨pm_m14, rfl, by decide +kernel, by decide, fun h => absurd h (by decide), fun _ => ⟨"ArmExpander", nw_of (tw_3 (List.mem_of_getElem? (i := 30) rfl)) rfl⟩, fun h => absurd h (by decide), fun h => absurd h (by decide), fun _ => gt_14, gc_14, gi_0⟩
set_option maxRecDepth 20000 in
theorem oc_3_110 : pm_okcp 3 (110, 2, 132, 1, 0) := ⟨pm_m132, rfl, by decide +kernel, by decide, fun _ => gw_of (tw_3 (List.mem_of_getElem? (i := 37) rfl)) rfl, fun h => absurd h (by decide), fun _ => ⟨gm_132, gs_132, fun h => absurd h (by decide), fun _ => ⟨pm_F3, 8, rfl⟩⟩, fun h => absurd h (by decide), fun h => absurd h (by decide), gc_132, gi_3⟩
set_option maxRecDepth 20000 in
theorem oc_3_113 : pm_okcp 3 (113, 2, 163, 1, 0) := ⟨pm_m163, rfl, by decide +kernel, by decide, fun _ => gw_of (tw_3 (List.mem_of_getElem? (i := 41) rfl)) rfl, fun h => absurd h (by decide), fun _ => ⟨gm_163, gs_163, fun h => absurd h (by decide), fun _ => ⟨pm_F6, 3, rfl⟩⟩, fun h => absurd h (by decide), fun h => absurd h (by decide), gc_163, gi_6⟩
set_option maxRecDepth 20000 in
theorem oc_3_117 : pm_okcp 3 (117, 2, 104, 2, 0) := ⟨pm_m104, rfl, by decide +kernel, by decide, fun _ => gw_of (tw_3 (List.mem_of_getElem? (i := 45) rfl)) rfl, fun h => absurd h (by decide), fun _ => ⟨gm_104, gs_104, fun h => absurd h (by decide), fun _ => ⟨pm_F2, 8, rfl⟩⟩, fun h => absurd h (by decide), fun h => absurd h (by decide), gc_104, gi_2⟩
set_option maxRecDepth 20000 in
theorem oc_3_120 : pm_okcp 3 (120, 2, 161, 0, 0) := ⟨pm_m161, rfl, by decide +kernel, by decide, fun _ => gw_of (tw_3 (List.mem_of_getElem? (i := 49) rfl)) rfl, fun h => absurd h (by decide), fun _ => ⟨gm_161, gs_161, fun h => absurd h (by decide), fun _ => ⟨pm_F6, 3, rfl⟩⟩, fun h => absurd h (by decide), fun h => absurd h (by decide), gc_161, gi_6⟩
set_option maxRecDepth 20000 in
theorem oc_3_124 : pm_okcp 3 (124, 2, 117, 1, 0) := ⟨pm_m117, rfl, by decide +kernel, by decide, fun _ => gw_of (tw_3 (List.mem_of_getElem? (i := 53) rfl)) rfl, fun h => absurd h (by decide), fun _ => ⟨gm_117, gs_117, fun h => absurd h (by decide), fun _ => ⟨pm_F2, 8, rfl⟩⟩, fun h => absurd h (by decide), fun h => absurd h (by decide), gc_117, gi_2⟩
set_option maxRecDepth 20000 in
theorem oc_3_127 : pm_okcp 3 (127, 2, 121, 1, 0) := ⟨pm_m121, rfl, by decide +kernel, by decide, fun _ => gw_of (tw_3 (List.mem_of_getElem? (i := 57) rfl)) rfl, fun h => absurd h (by decide), fun _ => ⟨gm_121, gs_121, fun h => absurd h (by decide), fun _ => ⟨pm_F2, 8, rfl⟩⟩, fun h => absurd h (by decide), fun h => absurd h (by decide), gc_121, gi_2⟩
set_option maxRecDepth 20000 in
theorem oc_3_130 : pm_okcp 3 (130, 2, 122, 1, 0) := ⟨pm_m122, rfl, by decide +kernel, by decide, fun _ => gw_of (tw_3 (List.mem_of_getElem? (i := 1) rfl)) rfl, fun h => absurd h (by decide), fun _ => ⟨gm_122, gs_122, fun h => absurd h (by decide), fun _ => ⟨pm_F2, 8, rfl⟩⟩, fun h => absurd h (by decide), fun h => absurd h (by decide), gc_122, gi_2⟩
set_option maxRecDepth 20000 in
theorem oc_3_133 : pm_okcp 3 (133, 2, 106, 2, 0) := ⟨pm_m106, rfl, by decide +kernel, by decide, fun _ => gw_of (tw_3 (List.mem_of_getElem? (i := 9) rfl)) rfl, fun h => absurd h (by decide), fun _ => ⟨gm_106, gs_106, fun h => absurd h (by decide), fun _ => ⟨pm_F2, 8, rfl⟩⟩, fun h => absurd h (by decide), fun h => absurd h (by decide), gc_106, gi_2⟩
set_option maxRecDepth 20000 in
theorem oc_3_136 : pm_okcp 3 (136, 2, 15, 1, 5) := ⟨pm_m15, rfl, by decide +kernel, by decide, fun h => absurd h (by decide), fun _ => ⟨"ArmExpander", nw_of (tw_3 (List.mem_of_getElem? (i := 20) rfl)) rfl⟩, fun h => absurd h (by decide), fun h => absurd h (by decide), fun _ => gt_15, gc_15, gi_0⟩
set_option maxRecDepth 20000 in
theorem op_3 : ∀ (idx : Nat) (e : Nat × Nat × Nat × Nat), pm_p3 idx = some e → pm_okcp 3 (idx, e) := pm_nd_ok (pm_nd_ok (pm_nd_ok (pm_lks (List.forall_mem_cons.mpr ⟨oc_3_3, List.forall_mem_cons.mpr ⟨oc_3_9, List.forall_mem_cons.mpr ⟨oc_3_11, List.forall_mem_cons.mpr ⟨oc_3_12, List.forall_mem_cons.mpr ⟨oc_3_18, fun _ h => absurd h List.not_mem_nil⟩⟩⟩⟩⟩)) (pm_lks (List.forall_mem_cons.mpr ⟨oc_3_22, List.forall_mem_cons.mpr ⟨oc_3_27, List.forall_mem_cons.mpr ⟨oc_3_28, List.forall_mem_cons.mpr ⟨oc_3_32, List.forall_mem_cons.mpr ⟨oc_3_35, fun _ h => absurd h List.not_mem_nil⟩⟩⟩⟩⟩))) (pm_nd_ok (pm_lks (List.forall_mem_cons.mpr ⟨oc_3_41, List.forall_mem_cons.mpr ⟨oc_3_45, List.forall_mem_cons.mpr ⟨oc_3_48, List.forall_mem_cons.mpr ⟨oc_3_51, List.forall_mem_cons.mpr ⟨oc_3_54, fun _ h => absurd h List.not_mem_nil⟩⟩⟩⟩⟩)) (pm_lks (List.forall_mem_cons.mpr ⟨oc_3_58, List.forall_mem_cons.mpr ⟨oc_3_62, List.forall_mem_cons.mpr ⟨oc_3_66, List.forall_mem_cons.mpr ⟨oc_3_69, List.forall_mem_cons.mpr ⟨oc_3_73, fun _ h => absurd h List.not_mem_nil⟩⟩⟩⟩⟩)))) (pm_nd_ok (pm_nd_ok (pm_lks (List.forall_mem_cons.mpr ⟨oc_3_76, List.forall_mem_cons.mpr ⟨oc_3_79, List.forall_mem_cons.mpr ⟨oc_3_82, List.forall_mem_cons.mpr ⟨oc_3_85, List.forall_mem_cons.mpr ⟨oc_3_88, fun _ h => absurd h List.not_mem_nil⟩⟩⟩⟩⟩)) (pm_lks (List.forall_mem_cons.mpr ⟨oc_3_91, List.forall_mem_cons.mpr ⟨oc_3_94, List.forall_mem_cons.mpr ⟨oc_3_97, List.forall_mem_cons.mpr ⟨oc_3_100, List.forall_mem_cons.mpr ⟨oc_3_104, fun _ h => absurd h List.not_mem_nil⟩⟩⟩⟩⟩))) (pm_nd_ok (pm_lks (List.forall_mem_cons.mpr ⟨oc_3_107, List.forall_mem_cons.mpr ⟨oc_3_110, List.forall_mem_cons.mpr ⟨oc_3_113, List.forall_mem_cons.mpr ⟨oc_3_117, List.forall_mem_cons.mpr ⟨oc_3_120, fun _ h => absurd h List.not_mem_nil⟩⟩⟩⟩⟩)) (pm_lks (List.forall_mem_cons.mpr ⟨oc_3_124, List.forall_mem_cons.mpr ⟨oc_3_127, List.forall_mem_cons.mpr ⟨oc_3_130, List.forall_mem_cons.mpr ⟨oc_3_133, List.forall_mem_cons.mpr ⟨oc_3_136, fun _ h => absurd h List.not_mem_nil⟩⟩⟩⟩⟩))))
set_option maxRecDepth 20000 in
theorem oc_4_3 : pm_okcp 4 (3, 4, 0, 0, 0) := ⟨fun _ => gw_of (tw_1 (List.mem_of_getElem? (i := 133) rfl)) rfl, fun h => absurd h (by decide), fun h => absurd h (by decide)⟩
set_option maxRecDepth 20000 in
theorem oc_4_9 : pm_okcp 4 (9, 1, 6, 0, 0) := ⟨pm_R6, pm_F6, 3, rfl, gw_of (tw_1 (List.mem_of_getElem? (i := 134) rfl)) rfl, gn_6, gi_6⟩
set_option maxRecDepth 20000 in
theorem oc_4_11 : pm_okcp 4 (11, 2, 159, 0, 4) := ⟨pm_m159, rfl, by decide +kernel, by decide, fun h => absurd h (by decide), fun _ => ⟨"ArmExpander", nw_of (tw_1 (List.mem_of_getElem? (i := 135) rfl)) rfl⟩, fun h => absurd h (by decide), fun _ => ⟨gm_159, rfl⟩, fun h => absurd h (by decide), gc_159, gi_6⟩
set_option maxRecDepth 20000 in
theorem oc_4_12 : pm_okcp 4 (12, 0, 4, 0, 0) := ⟨pm_R4, pm_F4, 7, rfl, by decide, rfl, fun _ => rfl, gw_of (tw_1 (List.mem_of_getElem? (i := 238) rfl)) rfl⟩
set_option maxRecDepth 20000 in
theorem oc_4_18 : pm_okcp 4 (18, 1, 5, 0, 0) := ⟨pm_R5, pm_F5, 7, rfl, gw_of (tw_1 (List.mem_of_getElem? (i := 136) rfl)) rfl, gn_5, gi_5⟩
set_option maxRecDepth 20000 in
theorem oc_4_20 : pm_okcp 4 (20, 2, 147, 0, 4) := ⟨pm_m147, rfl, by decide +kernel, by decide, fun h => absurd h (by decide), fun _ => ⟨"ArmExpander", nw_of (tw_1 (List.mem_of_getElem? (i := 138) rfl)) rfl⟩, fun h => absurd h (by decide), fun _ => ⟨gm_147, rfl⟩, fun h => absurd h (by decide), gc_147, gi_5⟩
set_option maxRecDepth 20000 in
theorem oc_4_21 : pm_okcp 4 (21, 0, 4, 1, 0) := ⟨pm_R4, pm_F4, 7, rfl, by decide, rfl, fun _ => rfl, gw_of (tw_1 (List.mem_of_getElem? (i := 239) rfl)) rfl⟩
set_option maxRecDepth 20000 in
theorem oc_4_25 : pm_okcp 4 (25, 1, 11, 0, 0) := ⟨pm_R11, pm_F11, 7, rfl, gw_of (tw_1 (List.mem_of_getElem? (i := 191) rfl)) rfl, gn_11, gi_11⟩
set_option maxRecDepth 20000 in
theorem oc_4_27 : pm_okcp 4 (27, 2, 207, 0, 4) := ⟨pm_m207, rfl, by decide +kernel, by decide, fun h => absurd h (by decide), fun _ => ⟨"ArmExpander", nw_of (tw_1 (List.mem_of_getElem? (i := 193) rfl)) rfl⟩, fun h => absurd h (by decide), fun _ => ⟨gm_207, rfl⟩, fun h => absurd h (by decide), gc_207, gi_11⟩
set_option maxRecDepth 20000 in
theorem oc_4_28 : pm_okcp 4 (28, 0, 4, 2, 0) := ⟨pm_R4, pm_F4, 7, rfl, by decide, rfl, fun _ => rfl, gw_of (tw_2 (List.mem_of_getElem? (i := 0) rfl)) rfl⟩
set_option maxRecDepth 20000 in
theorem oc_4_32 : pm_okcp 4 (32, 0, 4, 3, 0) := ⟨pm_R4, pm_F4, 7, rfl, by decide, rfl, fun _ => rfl, gw_of (tw_2 (List.mem_of_getElem? (i := 1) rfl)) rfl⟩
set_option maxRecDepth 20000 in
theorem oc_4_36 : pm_okcp 4 (36, 1, 7, 0, 0) := ⟨pm_R7, pm_F7, 4, rfl, gw_of (tw_1 (List.mem_of_getElem? (i := 219) rfl)) rfl, gn_7, gi_7⟩
set_option maxRecDepth 20000 in
theorem oc_4_38 : pm_okcp 4 (38, 2, 164, 0, 4) := ⟨pm_m164, rfl, by decide +kernel, by decide, fun h => absurd h (by decide), fun _ => ⟨"ArmExpander", nw_of (tw_1 (List.mem_of_getElem? (i := 221) rfl)) rfl⟩, fun h => absurd h (by decide), fun _ => ⟨gm_164, rfl⟩, fun h => absurd h (by decide), gc_164, gi_7⟩
set_option maxRecDepth 20000 in
theorem oc_4_39 : pm_okcp 4 (39, 0, 4, 4, 0) := ⟨pm_R4, pm_F4, 7, rfl, by decide, rfl, fun _ => rfl, gw_of (tw_2 (List.mem_of_getElem? (i := 2) rfl)) rfl⟩
set_option maxRecDepth 20000 in
theorem oc_4_43 : pm_okcp 4 (43, 0, 4, 5, 0) := ⟨pm_R4, pm_F4, 7, rfl, by decide, rfl, fun _ => rfl, gw_of (tw_2 (List.mem_of_getElem? (i := 3) rfl)) rfl⟩
set_option maxRecDepth 20000 in
theorem oc_4_46 : pm_okcp 4 (46, 0, 4, 6, 0) := ⟨pm_R4, pm_F4, 7, rfl, by decide, rfl, fun _ => rfl, gw_of (tw_2 (List.mem_of_getElem? (i := 4) rfl)) rfl⟩
set_option maxRecDepth 20000 in
theorem oc_4_50 : pm_okcp 4 (50, 2, 165, 0, 0) := ⟨pm_m165, rfl, by decide +kernel, by decide, fun _ => gw_of (tw_3 (List.mem_of_getElem? (i := 201) rfl)) rfl, fun h => absurd h (by decide), fun _ => ⟨gm_165, gs_165, fun h => absurd h (by decide), fun _ => ⟨pm_F7, 4, rfl⟩⟩, fun h => absurd h (by decide), fun h => absurd h (by decide), gc_165, gi_7⟩
set_option maxRecDepth 20000 in
theorem oc_4_53 : pm_okcp 4 (53, 2, 160, 0, 0) := ⟨pm_m160, rfl, by decide +kernel, by decide, fun _ => gw_of (tw_3 (List.mem_of_getElem? (i := 205) rfl)) rfl, fun h => absurd h (by decide), fun _ => ⟨gm_160, gs_160, fun h => absurd h (by decide), fun _ => ⟨pm_F6, 3, rfl⟩⟩, fun h => absurd h (by decide), fun h => absurd h (by decide), gc_160, gi_6⟩
set_option maxRecDepth 20000 in
theorem oc_4_54 : pm_okcp 4 (54, 2, 140, 1, 0) := ⟨pm_m140, rfl, by decide +kernel, by decide, fun _ => gw_of (tw_3 (List.mem_of_getElem? (i := 206) rfl)) rfl, fun h => absurd h (by decide), fun _ => ⟨gm_140, gs_140, fun h => absurd h (by decide), fun _ => ⟨pm_F4, 7, rfl⟩⟩, fun h => absurd h (by decide), fun h => absurd h (by decide), gc_140, gi_4⟩
set_option maxRecDepth 20000 in
theorem oc_4_58 : pm_okcp 4 (58, 2, 201, 0, 0) := ⟨pm_m201, rfl, by decide +kernel, by decide, fun _ => gw_of (tw_3 (List.mem_of_getElem? (i := 210) rfl)) rfl, fun h => absurd h (by decide), fun _ => ⟨gm_201, gs_201, fun h => absurd h (by decide), fun _ => ⟨pm_F10, 4, rfl⟩⟩, fun h => absurd h (by decide), fun h => absurd h (by decide), gc_201, gi_10⟩
set_option maxRecDepth 20000 in
theorem oc_4_64 : pm_okcp 4 (64, 2, 141, 2, 0) := ⟨pm_m141, rfl, by decide +kernel, by decide, fun _ => gw_of (tw_3 (List.mem_of_getElem? (i := 211) rfl)) rfl, fun h => absurd h (by decide), fun _ => ⟨gm_141, gs_141, fun h => absurd h (by decide), fun _ => ⟨pm_F4, 7, rfl⟩⟩, fun h => absurd h (by decide), fun h => absurd h (by decide), gc_141, gi_4⟩
set_option maxRecDepth 20000 in
theorem oc_4_68 : pm_okcp 4 (68, 2, 200, 0, 0) := ⟨pm_m200, rfl, by decide +kernel, by decide, fun _ => gw_of (tw_3 (List.mem_of_getElem? (i := 219) rfl)) rfl, fun h => absurd h (by decide), fun _ => ⟨gm_200, gs_200, fun h => absurd h (by decide), fun _ => ⟨pm_F10, 4, rfl⟩⟩, fun h => absurd h (by decide), fun h => absurd h (by decide), gc_200, gi_10⟩
set_option maxRecDepth 20000 in
theorem oc_4_71 : pm_okcp 4 (71, 2, 168, 2, 0) := ⟨pm_m168, rfl, by decide +kernel, by decide, fun _ => gw_of (tw_3 (List.mem_of_getElem? (i := 220) rfl)) rfl, fun h => absurd h (by decide), fun _ => ⟨gm_168, gs_168, fun h => absurd h (by decide), fun _ => ⟨pm_F7, 4, rfl⟩⟩, fun h => absurd h (by decide), fun h => absurd h (by decide), gc_168, gi_7⟩
set_option maxRecDepth 20000 in
theorem oc_4_75 : pm_okcp 4 (75, 2, 161, 0, 0) := ⟨pm_m161, rfl, by decide +kernel, by decide, fun _ => gw_of (tw_3 (List.mem_of_getElem? (i := 224) rfl)) rfl, fun h => absurd h (by decide), fun _ => ⟨gm_161, gs_161, fun h => absurd h (by decide), fun _ => ⟨pm_F6, 3, rfl⟩⟩, fun h => absurd h (by decide), fun h => absurd h (by decide), gc_161, gi_6⟩
set_option maxRecDepth 20000 in
theorem oc_4_79 : pm_okcp 4 (79, 2, 199, 0, 0) := ⟨pm_m199, rfl, by decide +kernel, by decide, fun _ => gw_of (tw_3 (List.mem_of_getElem? (i := 225) rfl)) rfl, fun h => absurd h (by decide), fun _ => ⟨gm_199, gs_199, fun h => absurd h (by decide), fun _ => ⟨pm_F10, 4, rfl⟩⟩, fun h => absurd h (by decide), fun h => absurd h (by decide), gc_199, gi_10⟩
set_option maxRecDepth 20000 in
theorem oc_4_82 : pm_okcp 4 (82, 2, 13, 1, 5) := ⟨pm_m13, rfl, by decide +kernel, by decide, fun h => absurd h (by decide), fun _ => ⟨"ArmExpander", nw_of (tw_3 (List.mem_of_getElem? (i := 215) rfl)) rfl⟩, fun h => absurd h (by decide), fun h => absurd h (by decide), fun _ => gt_13, gc_13, gi_0⟩
set_option maxRecDepth 20000 in
theorem oc_4_86 : pm_okcp 4 (86, 2, 162, 2, 0) := ⟨pm_m162, rfl, by decide +kernel, by decide, fun _ => gw_of (tw_3 (List.mem_of_getElem? (i := 216) rfl)) rfl, fun h => absurd h (by decide), fun _ => ⟨gm_162, gs_162, fun h => absurd h (by decide), fun _ => ⟨pm_F6, 3, rfl⟩⟩, fun h => absurd h (by decide), fun h => absurd h (by decide), gc_162, gi_6⟩
set_option maxRecDepth 20000 in
theorem oc_4_89 : pm_okcp 4 (89, 2, 14, 1, 5) := ⟨pm_m14, rfl, by decide +kernel, by decide, fun h => absurd h (by decide), fun _ => ⟨"ArmExpander", nw_of (tw_3 (List.mem_of_getElem? (i := 217) rfl)) rfl⟩, fun h => absurd h (by decide), fun h => absurd h (by decide), fun _ => gt_14, gc_14, gi_0⟩
set_option maxRecDepth 20000 in
theorem oc_4_92 : pm_okcp 4 (92, 2, 163, 1, 0) := ⟨pm_m163, rfl, by decide +kernel, by decide, fun _ => gw_of (tw_3 (List.mem_of_getElem? (i := 218) rfl)) rfl, fun h => absurd h (by decide), fun _ => ⟨gm_163, gs_163, fun h => absurd h (by decide), fun _ => ⟨pm_F6, 3, rfl⟩⟩, fun h => absurd h (by decide), fun h => absurd h (by decide), gc_163, gi_6⟩
set_option maxRecDepth 20000 in
theorem oc_4_96 : pm_okcp 4 (96, 2, 173, 1, 0) := ⟨pm_m173, rfl, by decide +kernel, by decide, fun _ => gw_of (tw_3 (List.mem_of_getElem? (i := 230) rfl)) rfl, fun h => absurd h (by decide), fun _ => ⟨gm_173, gs_173, fun h => absurd h (by decide), fun _ => ⟨pm_F7, 4, rfl⟩⟩, fun h => absurd h (by decide), fun h => absurd h (by decide), gc_173, gi_7⟩
set_option maxRecDepth 20000 in
theorem oc_4_99 : pm_okcp 4 (99, 2, 170, 1, 0) := ⟨pm_m170, rfl, by decide +kernel, by decide, fun _ => gw_of (tw_3 (List.mem_of_getElem? (i := 237) rfl)) rfl, fun h => absurd h (by decide), fun _ => ⟨gm_170, gs_170, fun h => absurd h (by decide), fun _ => ⟨pm_F7, 4, rfl⟩⟩, fun h => absurd h (by decide), fun h => absurd h (by decide), gc_170, gi_7⟩
set_option maxRecDepth 20000 in
theorem oc_4_102 : pm_okcp 4 (102, 2, 143, 3, 2) := ⟨pm_m143, rfl, by decide +kernel, by decide, fun _ => gw_of (tw_4 (List.mem_of_getElem? (i := 1) rfl)) rfl, fun h => absurd h (by decide), fun h => absurd h (by decide), fun h => absurd h (by decide), fun _ => gt_143, gc_143, gi_4⟩
set_option maxRecDepth 20000 in
theorem oc_4_106 : pm_okcp 4 (106, 2, 172, 1, 0) := ⟨pm_m172, rfl, by decide +kernel, by decide, fun _ => gw_of (tw_4 (List.mem_of_getElem? (i := 9) rfl)) rfl, fun h => absurd h (by decide), fun _ => ⟨gm_172, gs_172, fun h => absurd h (by decide), fun _ => ⟨pm_F7, 4, rfl⟩⟩, fun h => absurd h (by decide), fun h => absurd h (by decide), gc_172, gi_7⟩
set_option maxRecDepth 20000 in
theorem oc_4_109 : pm_okcp 4 (109, 2, 145, 3, 0) := ⟨pm_m145, rfl, by decide +kernel, by decide, fun _ => gw_of (tw_4 (List.mem_of_getElem? (i := 14) rfl)) rfl, fun h => absurd h (by decide), fun _ => ⟨gm_145, gs_145, fun h => absurd h (by decide), fun _ => ⟨pm_F4, 7, rfl⟩⟩, fun h => absurd h (by decide), fun h => absurd h (by decide), gc_145, gi_4⟩
set_option maxRecDepth 20000 in
theorem oc_4_113 : pm_okcp 4 (113, 2, 144, 4, 0) := ⟨pm_m144, rfl, by decide +kernel, by decide, fun _ => gw_of (tw_4 (List.mem_of_getElem? (i := 105) rfl)) rfl, fun h => absurd h (by decide), fun _ => ⟨gm_144, gs_144, fun h => absurd h (by decide), fun _ => ⟨pm_F4, 7, rfl⟩⟩, fun h => absurd h (by decide), fun h => absurd h (by decide), gc_144, gi_4⟩
set_option maxRecDepth 20000 in
theorem oc_4_117 : pm_okcp 4 (117, 2, 166, 0, 0) := ⟨pm_m166, rfl, by decide +kernel, by decide, fun _ => gw_of (tw_4 (List.mem_of_getElem? (i := 180) rfl)) rfl, fun h => absurd h (by decide), fun _ => ⟨gm_166, gs_166, fun h => absurd h (by decide), fun _ => ⟨pm_F7, 4, rfl⟩⟩, fun h => absurd h (by decide), fun h => absurd h (by decide), gc_166, gi_7⟩
set_option maxRecDepth 20000 in
theorem oc_4_120 : pm_okcp 4 (120, 4, 2, 0, 0) := ⟨fun h => absurd h (by decide), fun h => absurd h (by decide), fun _ => gw_of (tw_4 (List.mem_of_getElem? (i := 4) rfl)) rfl⟩
set_option maxRecDepth 20000 in
theorem oc_4_126 : pm_okcp 4 (126, 2, 107, 0, 0) := ⟨pm_m107, rfl, by decide +kernel, by decide, fun _ => gw_of (tw_4 (List.mem_of_getElem? (i := 5) rfl)) rfl, fun h => absurd h (by decide), fun _ => ⟨gm_107, gs_107, fun h => absurd h (by decide), fun _ => ⟨pm_F2, 8, rfl⟩⟩, fun h => absurd h (by decide), fun h => absurd h (by decide), gc_107, gi_2⟩
set_option maxRecDepth 20000 in
theorem oc_4_131 : pm_okcp 4 (131, 2, 169, 3, 0) := ⟨pm_m169, rfl, by decide +kernel, by decide, fun _ => gw_of (tw_4 (List.mem_of_getElem? (i := 109) rfl)) rfl, fun h => absurd h (by decide), fun _ => ⟨gm_169, gs_169, fun h => absurd h (by decide), fun _ => ⟨pm_F7, 4, rfl⟩⟩, fun h => absurd h (by decide), fun h => absurd h (by decide), gc_169, gi_7⟩
set_option maxRecDepth 20000 in
theorem oc_4_135 : pm_okcp 4 (135, 2, 148, 0, 0) := ⟨pm_m148, rfl, by decide +kernel, by decide, fun _ => gw_of (tw_4 (List.mem_of_getElem? (i := 119) rfl)) rfl, fun h => absurd h (by decide), fun _ => ⟨gm_148, gs_148, fun h => absurd h (by decide), fun _ => ⟨pm_F5, 7, rfl⟩⟩, fun h => absurd h (by decide), fun h => absurd h (by decide), gc_148, gi_5⟩
set_option maxRecDepth 20000 in
theorem oc_4_139 : pm_okcp 4 (139, 2, 208, 3, 0) := ⟨pm_m208, rfl, by decide +kernel, by decide, fun _ => gw_of (tw_4 (List.mem_of_getElem? (i := 123) rfl)) rfl, fun h => absurd h (by decide), fun _ => ⟨gm_208, gs_208, fun h => absurd h (by decide), fun _ => ⟨pm_F11, 7, rfl⟩⟩, fun h => absurd h (by decide), fun h => absurd h (by decide), gc_208, gi_11⟩
set_option maxRecDepth 20000 in
theorem oc_4_143 : pm_okcp 4 (143, 2, 209, 3, 0) := ⟨pm_m209, rfl, by decide +kernel, by decide, fun _ => gw_of (tw_4 (List.mem_of_getElem? (i := 127) rfl)) rfl, fun h => absurd h (by decide), fun _ => ⟨gm_209, gs_209, fun h => absurd h (by decide), fun _ => ⟨pm_F11, 7, rfl⟩⟩, fun h => absurd h (by decide), fun h => absurd h (by decide), gc_209, gi_11⟩
set_option maxRecDepth 20000 in
theorem oc_4_147 : pm_okcp 4 (147, 2, 167, 0, 0) := ⟨pm_m167, rfl, by decide +kernel, by decide, fun _ => gw_of (tw_4 (List.mem_of_getElem? (i := 184) rfl)) rfl, fun h => absurd h (by decide), fun _ => ⟨gm_167, gs_167, fun h => absurd h (by decide), fun _ => ⟨pm_F7, 4, rfl⟩⟩, fun h => absurd h (by decide), fun h => absurd h (by decide), gc_167, gi_7⟩
set_option maxRecDepth 20000 in
theorem oc_4_150 : pm_okcp 4 (150, 2, 146, 0, 0) := ⟨pm_m146, rfl, by decide +kernel, by decide, fun _ => gw_of (tw_4 (List.mem_of_getElem? (i := 188) rfl)) rfl, fun h => absurd h (by decide), fun _ => ⟨gm_146, gs_146, fun h => absurd h (by decide), fun _ => ⟨pm_F4, 7, rfl⟩⟩, fun h => absurd h (by decide), fun h => absurd h (by decide), gc_146, gi_4⟩
set_option maxRecDepth 20000 in
theorem oc_4_153 : pm_okcp 4 (153, 2, 108, 0, 0) := ⟨pm_m108, rfl, by decide +kernel, by decide, fun _ => gw_of (tw_4 (List.mem_of_getElem? (i := 18) rfl)) rfl, fun h => absurd h (by decide), fun _ => ⟨gm_108, gs_108, fun h => absurd h (by decide), fun _ => ⟨pm_F2, 8, rfl⟩⟩, fun h => absurd h (by decide), fun h => absurd h (by decide), gc_108, gi_2⟩
set_option maxRecDepth 20000 in
theorem oc_4_156 : pm_okcp 4 (156, 2, 149, 5, 0) := ⟨pm_m149, rfl, by decide +kernel, by decide, fun _ => gw_of (tw_4 (List.mem_of_getElem? (i := 19) rfl)) rfl, fun h => absurd h (by decide), fun _ => ⟨gm_149, gs_149, fun h => absurd h (by decide), fun _ => ⟨pm_F5, 7, rfl⟩⟩, fun h => absurd h (by decide), fun h => absurd h (by decide), gc_149, gi_5⟩
set_option maxRecDepth 20000 in
theorem op_4 : ∀ (idx : Nat) (e : Nat × Nat × Nat × Nat), pm_p4 idx = some e → pm_okcp 4 (idx, e) := pm_nd_ok (pm_nd_ok (pm_nd_ok (pm_lks (List.forall_mem_cons.mpr ⟨oc_4_3, List.forall_mem_cons.mpr ⟨oc_4_9, List.forall_mem_cons.mpr ⟨oc_4_11, List.forall_mem_cons.mpr ⟨oc_4_12, List.forall_mem_cons.mpr ⟨oc_4_18, fun _ h => absurd h List.not_mem_nil⟩⟩⟩⟩⟩)) (pm_lks (List.forall_mem_cons.mpr ⟨oc_4_20, List.forall_mem_cons.mpr ⟨oc_4_21, List.forall_mem_cons.mpr ⟨oc_4_25, List.forall_mem_cons.mpr ⟨oc_4_27, List.forall_mem_cons.mpr ⟨oc_4_28, List.forall_mem_cons.mpr ⟨oc_4_32, fun _ h => absurd h List.not_mem_nil⟩⟩⟩⟩⟩⟩))) (pm_nd_ok (pm_lks (List.forall_mem_cons.mpr ⟨oc_4_36, List.forall_mem_cons.mpr ⟨oc_4_38, List.forall_mem_cons.mpr ⟨oc_4_39, List.forall_mem_cons.mpr ⟨oc_4_43, List.forall_mem_cons.mpr ⟨oc_4_46, List.forall_mem_cons.mpr ⟨oc_4_50, fun _ h => absurd h List.not_mem_nil⟩⟩⟩⟩⟩⟩)) (pm_lks (List.forall_mem_cons.mpr ⟨oc_4_53, List.forall_mem_cons.mpr ⟨oc_4_54, List.forall_mem_cons.mpr ⟨oc_4_58, List.forall_mem_cons.mpr ⟨oc_4_64, List.forall_mem_cons.mpr ⟨oc_4_68, List.forall_mem_cons.mpr ⟨oc_4_71, fun _ h => absurd h List.not_mem_nil⟩⟩⟩⟩⟩⟩)))) (pm_nd_ok (pm_nd_ok (pm_lks (List.forall_mem_cons.mpr ⟨oc_4_75, List.forall_mem_cons.mpr ⟨oc_4_79, List.forall_mem_cons.mpr ⟨oc_4_82, List.forall_mem_cons.mpr ⟨oc_4_86, List.forall_mem_cons.mpr ⟨oc_4_89, fun _ h => absurd h List.not_mem_nil⟩⟩⟩⟩⟩)) (pm_lks (List.forall_mem_cons.mpr ⟨oc_4_92, List.forall_mem_cons.mpr ⟨oc_4_96, List.forall_mem_cons.mpr ⟨oc_4_99, List.forall_mem_cons.mpr ⟨oc_4_102, List.forall_mem_cons.mpr ⟨oc_4_106, List.forall_mem_cons.mpr ⟨oc_4_109, fun _ h => absurd h List.not_mem_nil⟩⟩⟩⟩⟩⟩))) (pm_nd_ok (pm_lks (List.forall_mem_cons.mpr ⟨oc_4_113, List.forall_mem_cons.mpr ⟨oc_4_117, List.forall_mem_cons.mpr ⟨oc_4_120, List.forall_mem_cons.mpr ⟨oc_4_126, List.forall_mem_cons.mpr ⟨oc_4_131, List.forall_mem_cons.mpr ⟨oc_4_135, fun _ h => absurd h List.not_mem_nil⟩⟩⟩⟩⟩⟩)) (pm_lks (List.forall_mem_cons.mpr ⟨oc_4_139, List.forall_mem_cons.mpr ⟨oc_4_143, List.forall_mem_cons.mpr ⟨oc_4_147, List.forall_mem_cons.mpr ⟨oc_4_150, List.forall_mem_cons.mpr ⟨oc_4_153, List.forall_mem_cons.mpr ⟨oc_4_156, fun _ h => absurd h List.not_mem_nil⟩⟩⟩⟩⟩⟩))))
set_option maxRecDepth 20000 in
theorem oc_5_3 : pm_okcp 5 (3, 4, 0, 0, 0) := ⟨fun _ => gw_of (tw_1 (List.mem_of_getElem? (i := 141) rfl)) rfl, fun h => absurd h (by decide), fun h => absurd h (by decide)⟩
set_option maxRecDepth 20000 in
theorem oc_5_9 : pm_okcp 5 (9, 1, 8, 0, 0) := ⟨pm_R8, pm_F8, 6, rfl, gw_of (tw_1 (List.mem_of_getElem? (i := 142) rfl)) rfl, gn_8, gi_8⟩
set_option maxRecDepth 20000 in
theorem oc_5_11 : pm_okcp 5 (11, 2, 177, 0, 4) := ⟨pm_m177, rfl, by decide +kernel, by decide, fun h => absurd h (by decide), fun _ => ⟨"ArmExpander", nw_of (tw_1 (List.mem_of_getElem? (i := 144) rfl)) rfl⟩, fun h => absurd h (by decide), fun _ => ⟨gm_177, rfl⟩, fun h => absurd h (by decide), gc_177, gi_8⟩
set_option maxRecDepth 20000 in
theorem oc_5_12 : pm_okcp 5 (12, 0, 5, 0, 0) := ⟨pm_R5, pm_F5, 7, rfl, by decide, rfl, fun _ => rfl, gw_of (tw_1 (List.mem_of_getElem? (i := 169) rfl)) rfl⟩
set_option maxRecDepth 20000 in
theorem oc_5_18 : pm_okcp 5 (18, 1, 9, 0, 0) := ⟨pm_R9, pm_F9, 5, rfl, gw_of (tw_1 (List.mem_of_getElem? (i := 167) rfl)) rfl, gn_9, gi_9⟩
set_option maxRecDepth 20000 in
theorem oc_5_20 : pm_okcp 5 (20, 2, 186, 0, 4) := ⟨pm_m186, rfl, by decide +kernel, by decide, fun h => absurd h (by decide), fun _ => ⟨"ArmExpander", nw_of (tw_1 (List.mem_of_getElem? (i := 168) rfl)) rfl⟩, fun h => absurd h (by decide), fun _ => ⟨gm_186, rfl⟩, fun h => absurd h (by decide), gc_186, gi_9⟩
set_option maxRecDepth 20000 in
theorem oc_5_21 : pm_okcp 5 (21, 0, 5, 1, 0) := ⟨pm_R5, pm_F5, 7, rfl, by decide, rfl, fun _ => rfl, gw_of (tw_1 (List.mem_of_getElem? (i := 170) rfl)) rfl⟩
set_option maxRecDepth 20000 in
theorem oc_5_25 : pm_okcp 5 (25, 0, 5, 2, 0) := ⟨pm_R5, pm_F5, 7, rfl, by decide, rfl, fun _ => rfl, gw_of (tw_1 (List.mem_of_getElem? (i := 171) rfl)) rfl⟩
set_option maxRecDepth 20000 in
theorem oc_5_28 : pm_okcp 5 (28, 0, 5, 3, 0) := ⟨pm_R5, pm_F5, 7, rfl, by decide, rfl, fun _ => rfl, gw_of (tw_1 (List.mem_of_getElem? (i := 172) rfl)) rfl⟩
set_option maxRecDepth 20000 in
theorem oc_5_32 : pm_okcp 5 (32, 2, 111, 1, 0) := ⟨pm_m111, rfl, by decide +kernel, by decide, fun _ => gw_of (tw_4 (List.mem_of_getElem? (i := 23) rfl)) rfl, fun h => absurd h (by decide), fun _ => ⟨gm_111, gs_111, fun h => absurd h (by decide), fun _ => ⟨pm_F2, 8, rfl⟩⟩, fun h => absurd h (by decide), fun h => absurd h (by decide), gc_111, gi_2⟩
set_option maxRecDepth 20000 in
theorem oc_5_38 : pm_okcp 5 (38, 0, 5, 4, 0) := ⟨pm_R5, pm_F5, 7, rfl, by decide, rfl, fun _ => rfl, gw_of (tw_1 (List.mem_of_getElem? (i := 173) rfl)) rfl⟩
set_option maxRecDepth 20000 in
theorem oc_5_42 : pm_okcp 5 (42, 2, 112, 1, 0) := ⟨pm_m112, rfl, by decide +kernel, by decide, fun _ => gw_of (tw_4 (List.mem_of_getElem? (i := 24) rfl)) rfl, fun h => absurd h (by decide), fun _ => ⟨gm_112, gs_112, fun h => absurd h (by decide), fun _ => ⟨pm_F2, 8, rfl⟩⟩, fun h => absurd h (by decide), fun h => absurd h (by decide), gc_112, gi_2⟩
set_option maxRecDepth 20000 in
theorem oc_5_45 : pm_okcp 5 (45, 0, 5, 5, 0) := ⟨pm_R5, pm_F5, 7, rfl, by decide, rfl, fun _ => rfl, gw_of (tw_1 (List.mem_of_getElem? (i := 174) rfl)) rfl⟩
set_option maxRecDepth 20000 in
theorem oc_5_48 : pm_okcp 5 (48, 0, 5, 6, 0) := ⟨pm_R5, pm_F5, 7, rfl, by decide, rfl, fun _ => rfl, gw_of (tw_1 (List.mem_of_getElem? (i := 175) rfl)) rfl⟩
set_option maxRecDepth 20000 in
theorem oc_5_52 : pm_okcp 5 (52, 2, 178, 0, 0) := ⟨pm_m178, rfl, by decide +kernel, by decide, fun _ => gw_of (tw_4 (List.mem_of_getElem? (i := 25) rfl)) rfl, fun h => absurd h (by decide), fun _ => ⟨gm_178, gs_178, fun h => absurd h (by decide), fun _ => ⟨pm_F8, 6, rfl⟩⟩, fun h => absurd h (by decide), fun h => absurd h (by decide), gc_178, gi_8⟩
set_option maxRecDepth 20000 in
theorem oc_5_55 : pm_okcp 5 (55, 2, 187, 1, 0) := ⟨pm_m187, rfl, by decide +kernel, by decide, fun _ => gw_of (tw_4 (List.mem_of_getElem? (i := 29) rfl)) rfl, fun h => absurd h (by decide), fun _ => ⟨gm_187, gs_187, fun h => absurd h (by decide), fun _ => ⟨pm_F9, 5, rfl⟩⟩, fun h => absurd h (by decide), fun h => absurd h (by decide), gc_187, gi_9⟩
set_option maxRecDepth 20000 in
theorem oc_5_58 : pm_okcp 5 (58, 2, 190, 0, 0) := ⟨pm_m190, rfl, by decide +kernel, by decide, fun _ => gw_of (tw_4 (List.mem_of_getElem? (i := 30) rfl)) rfl, fun h => absurd h (by decide), fun _ => ⟨gm_190, gs_190, fun h => absurd h (by decide), fun _ => ⟨pm_F9, 5, rfl⟩⟩, fun h => absurd h (by decide), fun h => absurd h (by decide), gc_190, gi_9⟩
set_option maxRecDepth 20000 in
theorem oc_5_61 : pm_okcp 5 (61, 2, 192, 1, 0) := ⟨pm_m192, rfl, by decide +kernel, by decide, fun _ => gw_of (tw_4 (List.mem_of_getElem? (i := 31) rfl)) rfl, fun h => absurd h (by decide), fun _ => ⟨gm_192, gs_192, fun h => absurd h (by decide), fun _ => ⟨pm_F9, 5, rfl⟩⟩, fun h => absurd h (by decide), fun h => absurd h (by decide), gc_192, gi_9⟩
set_option maxRecDepth 20000 in
theorem oc_5_65 : pm_okcp 5 (65, 2, 170, 1, 0) := ⟨pm_m170, rfl, by decide +kernel, by decide, fun _ => gw_of (tw_4 (List.mem_of_getElem? (i := 32) rfl)) rfl, fun h => absurd h (by decide), fun _ => ⟨gm_170, gs_170, fun h => absurd h (by decide), fun _ => ⟨pm_F7, 4, rfl⟩⟩, fun h => absurd h (by decide), fun h => absurd h (by decide), gc_170, gi_7⟩
set_option maxRecDepth 20000 in
theorem oc_5_70 : pm_okcp 5 (70, 2, 151, 1, 0) := ⟨pm_m151, rfl, by decide +kernel, by decide, fun _ => gw_of (tw_4 (List.mem_of_getElem? (i := 33) rfl)) rfl, fun h => absurd h (by decide), fun _ => ⟨gm_151, gs_151, fun h => absurd h (by decide), fun _ => ⟨pm_F5, 7, rfl⟩⟩, fun h => absurd h (by decide), fun h => absurd h (by decide), gc_151, gi_5⟩
set_option maxRecDepth 20000 in
theorem oc_5_73 : pm_okcp 5 (73, 2, 109, 1, 0) := ⟨pm_m109, rfl, by decide +kernel, by decide, fun _ => gw_of (tw_4 (List.mem_of_getElem? (i := 38) rfl)) rfl, fun h => absurd h (by decide), fun _ => ⟨gm_109, gs_109, fun h => absurd h (by decide), fun _ => ⟨pm_F2, 8, rfl⟩⟩, fun h => absurd h (by decide), fun h => absurd h (by decide), gc_109, gi_2⟩
set_option maxRecDepth 20000 in
theorem oc_5_74 : pm_okcp 5 (74, 2, 153, 2, 0) := ⟨pm_m153, rfl, by decide +kernel, by decide, fun _ => gw_of (tw_4 (List.mem_of_getElem? (i := 48) rfl)) rfl, fun h => absurd h (by decide), fun _ => ⟨gm_153, gs_153, fun h => absurd h (by decide), fun _ => ⟨pm_F5, 7, rfl⟩⟩, fun h => absurd h (by decide), fun h => absurd h (by decide), gc_153, gi_5⟩
set_option maxRecDepth 20000 in
theorem oc_5_78 : pm_okcp 5 (78, 2, 155, 1, 0) := ⟨pm_m155, rfl, by decide +kernel, by decide, fun _ => gw_of (tw_4 (List.mem_of_getElem? (i := 62) rfl)) rfl, fun h => absurd h (by decide), fun _ => ⟨gm_155, gs_155, fun h => absurd h (by decide), fun _ => ⟨pm_F5, 7, rfl⟩⟩, fun h => absurd h (by decide), fun h => absurd h (by decide), gc_155, gi_5⟩
set_option maxRecDepth 20000 in
theorem oc_5_81 : pm_okcp 5 (81, 2, 154, 3, 0) := ⟨pm_m154, rfl, by decide +kernel, by decide, fun _ => gw_of (tw_4 (List.mem_of_getElem? (i := 84) rfl)) rfl, fun h => absurd h (by decide), fun _ => ⟨gm_154, gs_154, fun h => absurd h (by decide), fun _ => ⟨pm_F5, 7, rfl⟩⟩, fun h => absurd h (by decide), fun h => absurd h (by decide), gc_154, gi_5⟩
set_option maxRecDepth 20000 in
theorem oc_5_85 : pm_okcp 5 (85, 2, 150, 0, 0) := ⟨pm_m150, rfl, by decide +kernel, by decide, fun _ => gw_of (tw_4 (List.mem_of_getElem? (i := 97) rfl)) rfl, fun h => absurd h (by decide), fun _ => ⟨gm_150, gs_150, fun h => absurd h (by decide), fun _ => ⟨pm_F5, 7, rfl⟩⟩, fun h => absurd h (by decide), fun h => absurd h (by decide), gc_150, gi_5⟩
set_option maxRecDepth 20000 in
theorem oc_5_89 : pm_okcp 5 (89, 2, 189, 2, 0) := ⟨pm_m189, rfl, by decide +kernel, by decide, fun _ => gw_of (tw_4 (List.mem_of_getElem? (i := 92) rfl)) rfl, fun h => absurd h (by decide), fun _ => ⟨gm_189, gs_189, fun h => absurd h (by decide), fun _ => ⟨pm_F9, 5, rfl⟩⟩, fun h => absurd h (by decide), fun h => absurd h (by decide), gc_189, gi_9⟩
set_option maxRecDepth 20000 in
theorem oc_5_92 : pm_okcp 5 (92, 2, 180, 2, 0) := ⟨pm_m180, rfl, by decide +kernel, by decide, fun _ => gw_of (tw_4 (List.mem_of_getElem? (i := 101) rfl)) rfl, fun h => absurd h (by decide), fun _ => ⟨gm_180, gs_180, fun h => absurd h (by decide), fun _ => ⟨pm_F8, 6, rfl⟩⟩, fun h => absurd h (by decide), fun h => absurd h (by decide), gc_180, gi_8⟩
set_option maxRecDepth 20000 in
theorem oc_5_96 : pm_okcp 5 (96, 2, 188, 1, 0) := ⟨pm_m188, rfl, by decide +kernel, by decide, fun _ => gw_of (tw_4 (List.mem_of_getElem? (i := 37) rfl)) rfl, fun h => absurd h (by decide), fun _ => ⟨gm_188, gs_188, fun h => absurd h (by decide), fun _ => ⟨pm_F9, 5, rfl⟩⟩, fun h => absurd h (by decide), fun h => absurd h (by decide), gc_188, gi_9⟩
set_option maxRecDepth 20000 in
theorem oc_5_99 : pm_okcp 5 (99, 2, 115, 1, 0) := ⟨pm_m115, rfl, by decide +kernel, by decide, fun _ => gw_of (tw_4 (List.mem_of_getElem? (i := 39) rfl)) rfl, fun h => absurd h (by decide), fun _ => ⟨gm_115, gs_115, fun h => absurd h (by decide), fun _ => ⟨pm_F2, 8, rfl⟩⟩, fun h => absurd h (by decide), fun h => absurd h (by decide), gc_115, gi_2⟩
set_option maxRecDepth 20000 in
theorem oc_5_103 : pm_okcp 5 (103, 2, 152, 2, 2) := ⟨pm_m152, rfl, by decide +kernel, by decide, fun _ => gw_of (tw_4 (List.mem_of_getElem? (i := 40) rfl)) rfl, fun h => absurd h (by decide), fun h => absurd h (by decide), fun h => absurd h (by decide), fun _ => gt_152, gc_152, gi_5⟩
set_option maxRecDepth 20000 in
theorem oc_5_107 : pm_okcp 5 (107, 2, 11, 1, 5) := ⟨pm_m11, rfl, by decide +kernel, by decide, fun h => absurd h (by decide), fun _ => ⟨"ArmExpander", nw_of (tw_4 (List.mem_of_getElem? (i := 43) rfl)) rfl⟩, fun h => absurd h (by decide), fun h => absurd h (by decide), fun _ => gt_11, gc_11, gi_0⟩
set_option maxRecDepth 20000 in
theorem oc_5_110 : pm_okcp 5 (110, 2, 12, 1, 5) := ⟨pm_m12, rfl, by decide +kernel, by decide, fun h => absurd h (by decide), fun _ => ⟨"ArmExpander", nw_of (tw_4 (List.mem_of_getElem? (i := 44) rfl)) rfl⟩, fun h => absurd h (by decide), fun h => absurd h (by decide), fun _ => gt_12, gc_12, gi_0⟩
set_option maxRecDepth 20000 in
theorem oc_5_113 : pm_okcp 5 (113, 2, 14, 1, 5) := ⟨pm_m14, rfl, by decide +kernel, by decide, fun h => absurd h (by decide), fun _ => ⟨"ArmExpander", nw_of (tw_4 (List.mem_of_getElem? (i := 47) rfl)) rfl⟩, fun h => absurd h (by decide), fun h => absurd h (by decide), fun _ => gt_14, gc_14, gi_0⟩
set_option maxRecDepth 20000 in
theorem oc_5_116 : pm_okcp 5 (116, 2, 157, 2, 0) := ⟨pm_m157, rfl, by decide +kernel, by decide, fun _ => gw_of (tw_4 (List.mem_of_getElem? (i := 52) rfl)) rfl, fun h => absurd h (by decide), fun _ => ⟨gm_157, gs_157, fun h => absurd h (by decide), fun _ => ⟨pm_F5, 7, rfl⟩⟩, fun h => absurd h (by decide), fun h => absurd h (by decide), gc_157, gi_5⟩
set_option maxRecDepth 20000 in
theorem oc_5_119 : pm_okcp 5 (119, 2, 13, 1, 5) := ⟨pm_m13, rfl, by decide +kernel, by decide, fun h => absurd h (by decide), fun _ => ⟨"ArmExpander", nw_of (tw_4 (List.mem_of_getElem? (i := 60) rfl)) rfl⟩, fun h => absurd h (by decide), fun h => absurd h (by decide), fun _ => gt_13, gc_13, gi_0⟩
set_option maxRecDepth 20000 in
theorem oc_5_122 : pm_okcp 5 (122, 2, 172, 1, 0) := ⟨pm_m172, rfl, by decide +kernel, by decide, fun _ => gw_of (tw_4 (List.mem_of_getElem? (i := 61) rfl)) rfl, fun h => absurd h (by decide), fun _ => ⟨gm_172, gs_172, fun h => absurd h (by decide), fun _ => ⟨pm_F7, 4, rfl⟩⟩, fun h => absurd h (by decide), fun h => absurd h (by decide), gc_172, gi_7⟩
set_option maxRecDepth 20000 in
theorem oc_5_125 : pm_okcp 5 (125, 2, 124, 1, 0) := ⟨pm_m124, rfl, by decide +kernel, by decide, fun _ => gw_of (tw_4 (List.mem_of_getElem? (i := 88) rfl)) rfl, fun h => absurd h (by decide), fun _ => ⟨gm_124, gs_124, fun h => absurd h (by decide), fun _ => ⟨pm_F2, 8, rfl⟩⟩, fun h => absurd h (by decide), fun h => absurd h (by decide), gc_124, gi_2⟩
set_option maxRecDepth 20000 in
theorem oc_5_128 : pm_okcp 5 (128, 2, 179, 4, 0) := ⟨pm_m179, rfl, by decide +kernel, by decide, fun _ => gw_of (tw_4 (List.mem_of_getElem? (i := 93) rfl)) rfl, fun h => absurd h (by decide), fun _ => ⟨gm_179, gs_179, fun h => absurd h (by decide), fun _ => ⟨pm_F8, 6, rfl⟩⟩, fun h => absurd h (by decide), fun h => absurd h (by decide), gc_179, gi_8⟩
set_option maxRecDepth 20000 in
theorem oc_5_132 : pm_okcp 5 (132, 2, 191, 2, 0) := ⟨pm_m191, rfl, by decide +kernel, by decide, fun _ => gw_of (tw_4 (List.mem_of_getElem? (i := 66) rfl)) rfl, fun h => absurd h (by decide), fun _ => ⟨gm_191, gs_191, fun h => absurd h (by decide), fun _ => ⟨pm_F9, 5, rfl⟩⟩, fun h => absurd h (by decide), fun h => absurd h (by decide), gc_191, gi_9⟩
set_option maxRecDepth 20000 in
theorem oc_5_136 : pm_okcp 5 (136, 2, 156, 0, 0) := ⟨pm_m156, rfl, by decide +kernel, by decide, fun _ => gw_of (tw_4 (List.mem_of_getElem? (i := 80) rfl)) rfl, fun h => absurd h (by decide), fun _ => ⟨gm_156, gs_156, fun h => absurd h (by decide), fun _ => ⟨pm_F5, 7, rfl⟩⟩, fun h => absurd h (by decide), fun h => absurd h (by decide), gc_156, gi_5⟩
set_option maxRecDepth 20000 in
theorem oc_5_139 : pm_okcp 5 (139, 2, 117, 1, 0) := ⟨pm_m117, rfl, by decide +kernel, by decide, fun _ => gw_of (tw_4 (List.mem_of_getElem? (i := 75) rfl)) rfl, fun h => absurd h (by decide), fun _ => ⟨gm_117, gs_117, fun h => absurd h (by decide), fun _ => ⟨pm_F2, 8, rfl⟩⟩, fun h => absurd h (by decide), fun h => absurd h (by decide), gc_117, gi_2⟩
set_option maxRecDepth 20000 in
theorem oc_5_142 : pm_okcp 5 (142, 2, 193, 1, 0) := ⟨pm_m193, rfl, by decide +kernel, by decide, fun _ => gw_of (tw_4 (List.mem_of_getElem? (i := 76) rfl)) rfl, fun h => absurd h (by decide), fun _ => ⟨gm_193, gs_193, fun h => absurd h (by decide), fun _ => ⟨pm_F9, 5, rfl⟩⟩, fun h => absurd h (by decide), fun h => absurd h (by decide), gc_193, gi_9⟩
set_option maxRecDepth 20000 in
theorem oc_5_145 : pm_okcp 5 (145, 2, 158, 2, 0) := ⟨pm_m158, rfl, by decide +kernel, by decide, fun _ => gw_of (tw_4 (List.mem_of_getElem? (i := 56) rfl)) rfl, fun h => absurd h (by decide), fun _ => ⟨gm_158, gs_158, fun h => absurd h (by decide), fun _ => ⟨pm_F5, 7, rfl⟩⟩, fun h => absurd h (by decide), fun h => absurd h (by decide), gc_158, gi_5⟩
set_option maxRecDepth 20000 in
theorem op_5 : ∀ (idx : Nat) (e : Nat × Nat × Nat × Nat), pm_p5 idx = some e → pm_okcp 5 (idx, e) := pm_nd_ok (pm_nd_ok (pm_nd_ok (pm_lks (List.forall_mem_cons.mpr ⟨oc_5_3, List.forall_mem_cons.mpr ⟨oc_5_9, List.forall_mem_cons.mpr ⟨oc_5_11, List.forall_mem_cons.mpr ⟨oc_5_12, List.forall_mem_cons.mpr ⟨oc_5_18, fun _ h => absurd h List.not_mem_nil⟩⟩⟩⟩⟩)) (pm_lks (List.forall_mem_cons.mpr ⟨oc_5_20, List.forall_mem_cons.mpr ⟨oc_5_21, List.forall_mem_cons.mpr ⟨oc_5_25, List.forall_mem_cons.mpr ⟨oc_5_28, List.forall_mem_cons.mpr ⟨oc_5_32, fun _ h => absurd h List.not_mem_nil⟩⟩⟩⟩⟩))) (pm_nd_ok (pm_lks (List.forall_mem_cons.mpr ⟨oc_5_38, List.forall_mem_cons.mpr ⟨oc_5_42, List.forall_mem_cons.mpr ⟨oc_5_45, List.forall_mem_cons.mpr ⟨oc_5_48, List.forall_mem_cons.mpr ⟨oc_5_52, fun _ h => absurd h List.not_mem_nil⟩⟩⟩⟩⟩)) (pm_lks (List.forall_mem_cons.mpr ⟨oc_5_55, List.forall_mem_cons.mpr ⟨oc_5_58, List.forall_mem_cons.mpr ⟨oc_5_61, List.forall_mem_cons.mpr ⟨oc_5_65, List.forall_mem_cons.mpr ⟨oc_5_70, List.forall_mem_cons.mpr ⟨oc_5_73, fun _ h => absurd h List.not_mem_nil⟩⟩⟩⟩⟩⟩)))) (pm_nd_ok (pm_nd_ok (pm_lks (List.forall_mem_cons.mpr ⟨oc_5_74, List.forall_mem_cons.mpr ⟨oc_5_78, List.forall_mem_cons.mpr ⟨oc_5_81, List.forall_mem_cons.mpr ⟨oc_5_85, List.forall_mem_cons.mpr ⟨oc_5_89, fun _ h => absurd h List.not_mem_nil⟩⟩⟩⟩⟩)) (pm_lks (List.forall_mem_cons.mpr ⟨oc_5_92, List.forall_mem_cons.mpr ⟨oc_5_96, List.forall_mem_cons.mpr ⟨oc_5_99, List.forall_mem_cons.mpr ⟨oc_5_103, List.forall_mem_cons.mpr ⟨oc_5_107, List.forall_mem_cons.mpr ⟨oc_5_110, fun _ h => absurd h List.not_mem_nil⟩⟩⟩⟩⟩⟩))) (pm_nd_ok (pm_lks (List.forall_mem_cons.mpr ⟨oc_5_113, List.forall_mem_cons.mpr ⟨oc_5_116, List.forall_mem_cons.mpr ⟨oc_5_119, List.forall_mem_cons.mpr ⟨oc_5_122, List.forall_mem_cons.mpr ⟨oc_5_125, fun _ h => absurd h List.not_mem_nil⟩⟩⟩⟩⟩)) (pm_lks (List.forall_mem_cons.mpr ⟨oc_5_128, List.forall_mem_cons.mpr ⟨oc_5_132, List.forall_mem_cons.mpr ⟨oc_5_136, List.forall_mem_cons.mpr ⟨oc_5_139, List.forall_mem_cons.mpr ⟨oc_5_142, List.forall_mem_cons.mpr ⟨oc_5_145, fun _ h => absurd h List.not_mem_nil⟩⟩⟩⟩⟩⟩))))
set_option maxRecDepth 20000 in
theorem oc_6_3 : pm_okcp 6 (3, 4, 0, 0, 0) := ⟨fun _ => gw_of (tw_1 (List.mem_of_getElem? (i := 60) rfl)) rfl, fun h => absurd h (by decide), fun h => absurd h (by decide)⟩
set_option maxRecDepth 20000 in
theorem oc_6_9 : pm_okcp 6 (9, 0, 6, 0, 0) := ⟨pm_R6, pm_F6, 3, rfl, by decide, rfl, fun _ => rfl, gw_of (tw_1 (List.mem_of_getElem? (i := 61) rfl)) rfl⟩
set_option maxRecDepth 20000 in
theorem oc_6_15 : pm_okcp 6 (15, 0, 6, 1, 0) := ⟨pm_R6, pm_F6, 3, rfl, by decide, rfl, fun _ => rfl, gw_of (tw_1 (List.mem_of_getElem? (i := 62) rfl)) rfl⟩
set_option maxRecDepth 20000 in
theorem oc_6_18 : pm_okcp 6 (18, 0, 6, 2, 0) := ⟨pm_R6, pm_F6, 3, rfl, by decide, rfl, fun _ => rfl, gw_of (tw_1 (List.mem_of_getElem? (i := 63) rfl)) rfl⟩
set_option maxRecDepth 20000 in
theorem oc_6_22 : pm_okcp 6 (22, 2, 17, 1, 5) := ⟨pm_m17, rfl, by decide +kernel, by decide, fun h => absurd h (by decide), fun _ => ⟨"ArmExpander", nw_of (tw_2 (List.mem_of_getElem? (i := 230) rfl)) rfl⟩, fun h => absurd h (by decide), fun h => absurd h (by decide), fun _ => gt_17, gc_17, gi_0⟩
set_option maxRecDepth 20000 in
theorem op_6 : ∀ (idx : Nat) (e : Nat × Nat × Nat × Nat), pm_p6 idx = some e → pm_okcp 6 (idx, e) := pm_lks (List.forall_mem_cons.mpr ⟨oc_6_3, List.forall_mem_cons.mpr ⟨oc_6_9, List.forall_mem_cons.mpr ⟨oc_6_15, List.forall_mem_cons.mpr ⟨oc_6_18, List.forall_mem_cons.mpr ⟨oc_6_22, fun _ h => absurd h List.not_mem_nil⟩⟩⟩⟩⟩)
set_option maxRecDepth 20000 in
theorem oc_7_3 : pm_okcp 7 (3, 4, 0, 0, 0) := ⟨fun _ => gw_of (tw_1 (List.mem_of_getElem? (i := 224) rfl)) rfl, fun h => absurd h (by decide), fun h => absurd h (by decide)⟩
set_option maxRecDepth 20000 in
theorem oc_7_9 : pm_okcp 7 (9, 0, 7, 0, 0) := ⟨pm_R7, pm_F7, 4, rfl, by decide, rfl, fun _ => rfl, gw_of (tw_1 (List.mem_of_getElem? (i := 225) rfl)) rfl⟩
set_option maxRecDepth 20000 in
theorem oc_7_15 : pm_okcp 7 (15, 0, 7, 1, 0) := ⟨pm_R7, pm_F7, 4, rfl, by decide, rfl, fun _ => rfl, gw_of (tw_1 (List.mem_of_getElem? (i := 226) rfl)) rfl⟩
set_option maxRecDepth 20000 in
theorem oc_7_18 : pm_okcp 7 (18, 0, 7, 2, 0) := ⟨pm_R7, pm_F7, 4, rfl, by decide, rfl, fun _ => rfl, gw_of (tw_1 (List.mem_of_getElem? (i := 227) rfl)) rfl⟩
set_option maxRecDepth 20000 in
theorem oc_7_22 : pm_okcp 7 (22, 0, 7, 3, 0) := ⟨pm_R7, pm_F7, 4, rfl, by decide, rfl, fun _ => rfl, gw_of (tw_1 (List.mem_of_getElem? (i := 228) rfl)) rfl⟩
set_option maxRecDepth 20000 in
theorem oc_7_26 : pm_okcp 7 (26, 2, 170, 1, 0) := ⟨pm_m170, rfl, by decide +kernel, by decide, fun _ => gw_of (tw_4 (List.mem_of_getElem? (i := 113) rfl)) rfl, fun h => absurd h (by decide), fun _ => ⟨gm_170, gs_170, fun h => absurd h (by decide), fun _ => ⟨pm_F7, 4, rfl⟩⟩, fun h => absurd h (by decide), fun h => absurd h (by decide), gc_170, gi_7⟩
set_option maxRecDepth 20000 in
theorem oc_7_30 : pm_okcp 7 (30, 2, 171, 1, 0) := ⟨pm_m171, rfl, by decide +kernel, by decide, fun _ => gw_of (tw_4 (List.mem_of_getElem? (i := 114) rfl)) rfl, fun h => absurd h (by decide), fun _ => ⟨gm_171, gs_171, fun h => absurd h (by decide), fun _ => ⟨pm_F7, 4, rfl⟩⟩, fun h => absurd h (by decide), fun h => absurd h (by decide), gc_171, gi_7⟩
set_option maxRecDepth 20000 in
theorem oc_7_33 : pm_okcp 7 (33, 2, 168, 2, 0) := ⟨pm_m168, rfl, by decide +kernel, by decide, fun _ => gw_of (tw_4 (List.mem_of_getElem? (i := 118) rfl)) rfl, fun h => absurd h (by decide), fun _ => ⟨gm_168, gs_168, fun h => absurd h (by decide), fun _ => ⟨pm_F7, 4, rfl⟩⟩, fun h => absurd h (by decide), fun h => absurd h (by decide), gc_168, gi_7⟩
set_option maxRecDepth 20000 in
theorem oc_7_37 : pm_okcp 7 (37, 4, 1, 0, 0) := ⟨fun h => absurd h (by decide), fun _ => gw_of (tw_3 (List.mem_of_getElem? (i := 234) rfl)) rfl, fun h => absurd h (by decide)⟩
set_option maxRecDepth 20000 in
theorem oc_7_43 : pm_okcp 7 (43, 2, 13, 1, 5) := ⟨pm_m13, rfl, by decide +kernel, by decide, fun h => absurd h (by decide), fun _ => ⟨"ArmExpander", nw_of (tw_3 (List.mem_of_getElem? (i := 236) rfl)) rfl⟩, fun h => absurd h (by decide), fun h => absurd h (by decide), fun _ => gt_13, gc_13, gi_0⟩
set_option maxRecDepth 20000 in
theorem oc_7_47 : pm_okcp 7 (47, 2, 14, 1, 5) := ⟨pm_m14, rfl, by decide +kernel, by decide, fun h => absurd h (by decide), fun _ => ⟨"ArmExpander", nw_of (tw_4 (List.mem_of_getElem? (i := 13) rfl)) rfl⟩, fun h => absurd h (by decide), fun h => absurd h (by decide), fun _ => gt_14, gc_14, gi_0⟩
set_option maxRecDepth 20000 in
theorem oc_7_50 : pm_okcp 7 (50, 2, 11, 1, 5) := ⟨pm_m11, rfl, by decide +kernel, by decide, fun h => absurd h (by decide), fun _ => ⟨"ArmExpander", nw_of (tw_3 (List.mem_of_getElem? (i := 235) rfl)) rfl⟩, fun h => absurd h (by decide), fun h => absurd h (by decide), fun _ => gt_11, gc_11, gi_0⟩
set_option maxRecDepth 20000 in
theorem oc_7_53 : pm_okcp 7 (53, 2, 175, 1, 0) := ⟨pm_m175, rfl, by decide +kernel, by decide, fun _ => gw_of (tw_4 (List.mem_of_getElem? (i := 223) rfl)) rfl, fun h => absurd h (by decide), fun _ => ⟨gm_175, gs_175, fun h => absurd h (by decide), fun _ => ⟨pm_F7, 4, rfl⟩⟩, fun h => absurd h (by decide), fun h => absurd h (by decide), gc_175, gi_7⟩
set_option maxRecDepth 20000 in
theorem oc_7_56 : pm_okcp 7 (56, 2, 176, 2, 0) := ⟨pm_m176, rfl, by decide +kernel, by decide, fun _ => gw_of (tw_4 (List.mem_of_getElem? (i := 227) rfl)) rfl, fun h => absurd h (by decide), fun _ => ⟨gm_176, gs_176, fun h => absurd h (by decide), fun _ => ⟨pm_F7, 4, rfl⟩⟩, fun h => absurd h (by decide), fun h => absurd h (by decide), gc_176, gi_7⟩
set_option maxRecDepth 20000 in
theorem op_7 : ∀ (idx : Nat) (e : Nat × Nat × Nat × Nat), pm_p7 idx = some e → pm_okcp 7 (idx, e) := pm_nd_ok (pm_nd_ok (pm_lks (List.forall_mem_cons.mpr ⟨oc_7_3, List.forall_mem_cons.mpr ⟨oc_7_9, List.forall_mem_cons.mpr ⟨oc_7_15, fun _ h => absurd h List.not_mem_nil⟩⟩⟩)) (pm_lks (List.forall_mem_cons.mpr ⟨oc_7_18, List.forall_mem_cons.mpr ⟨oc_7_22, List.forall_mem_cons.mpr ⟨oc_7_26, List.forall_mem_cons.mpr ⟨oc_7_30, fun _ h => absurd h List.not_mem_nil⟩⟩⟩⟩))) (pm_nd_ok (pm_lks (List.forall_mem_cons.mpr ⟨oc_7_33, List.forall_mem_cons.mpr ⟨oc_7_37, List.forall_mem_cons.mpr ⟨oc_7_43, fun _ h => absurd h List.not_mem_nil⟩⟩⟩)) (pm_lks (List.forall_mem_cons.mpr ⟨oc_7_47, List.forall_mem_cons.mpr ⟨oc_7_50, List.forall_mem_cons.mpr ⟨oc_7_53, List.forall_mem_cons.mpr ⟨oc_7_56, fun _ h => absurd h List.not_mem_nil⟩⟩⟩⟩)))
set_option maxRecDepth 20000 in
theorem oc_8_3 : pm_okcp 8 (3, 4, 0, 0, 0) := ⟨fun _ => gw_of (tw_1 (List.mem_of_getElem? (i := 147) rfl)) rfl, fun h => absurd h (by decide), fun h => absurd h (by decide)⟩
set_option maxRecDepth 20000 in
theorem oc_8_9 : pm_okcp 8 (9, 0, 8, 0, 0) := ⟨pm_R8, pm_F8, 6, rfl, by decide, rfl, fun _ => rfl, gw_of (tw_1 (List.mem_of_getElem? (i := 148) rfl)) rfl⟩
set_option maxRecDepth 20000 in
theorem oc_8_15 : pm_okcp 8 (15, 0, 8, 1, 0) := ⟨pm_R8, pm_F8, 6, rfl, by decide, rfl, fun _ => rfl, gw_of (tw_1 (List.mem_of_getElem? (i := 149) rfl)) rfl⟩
set_option maxRecDepth 20000 in
theorem oc_8_18 : pm_okcp 8 (18, 0, 8, 2, 0) := ⟨pm_R8, pm_F8, 6, rfl, by decide, rfl, fun _ => rfl, gw_of (tw_1 (List.mem_of_getElem? (i := 150) rfl)) rfl⟩
set_option maxRecDepth 20000 in
theorem oc_8_21 : pm_okcp 8 (21, 0, 8, 3, 0) := ⟨pm_R8, pm_F8, 6, rfl, by decide, rfl, fun _ => rfl, gw_of (tw_1 (List.mem_of_getElem? (i := 151) rfl)) rfl⟩
set_option maxRecDepth 20000 in
theorem oc_8_24 : pm_okcp 8 (24, 0, 8, 4, 0) := ⟨pm_R8, pm_F8, 6, rfl, by decide, rfl, fun _ => rfl, gw_of (tw_1 (List.mem_of_getElem? (i := 152) rfl)) rfl⟩
set_option maxRecDepth 20000 in
theorem oc_8_27 : pm_okcp 8 (27, 0, 8, 5, 0) := ⟨pm_R8, pm_F8, 6, rfl, by decide, rfl, fun _ => rfl, gw_of (tw_1 (List.mem_of_getElem? (i := 153) rfl)) rfl⟩
set_option maxRecDepth 20000 in
theorem op_8 : ∀ (idx : Nat) (e : Nat × Nat × Nat × Nat), pm_p8 idx = some e → pm_okcp 8 (idx, e) := pm_nd_ok (pm_lks (List.forall_mem_cons.mpr ⟨oc_8_3, List.forall_mem_cons.mpr ⟨oc_8_9, List.forall_mem_cons.mpr ⟨oc_8_15, fun _ h => absurd h List.not_mem_nil⟩⟩⟩)) (pm_lks (List.forall_mem_cons.mpr ⟨oc_8_18, List.forall_mem_cons.mpr ⟨oc_8_21, List.forall_mem_cons.mpr ⟨oc_8_24, List.forall_mem_cons.mpr ⟨oc_8_27, fun _ h => absurd h List.not_mem_nil⟩⟩⟩⟩))
set_option maxRecDepth 20000 in
theorem oc_9_3 : pm_okcp 9 (3, 4, 0, 0, 0) := ⟨fun _ => gw_of (tw_1 (List.mem_of_getElem? (i := 107) rfl)) rfl, fun h => absurd h (by decide), fun h => absurd h (by decide)⟩
set_option maxRecDepth 20000 in
theorem oc_9_9 : pm_okcp 9 (9, 0, 9, 0, 0) := ⟨pm_R9, pm_F9, 5, rfl, by decide, rfl, fun _ => rfl, gw_of (tw_1 (List.mem_of_getElem? (i := 108) rfl)) rfl⟩
set_option maxRecDepth 20000 in
theorem oc_9_15 : pm_okcp 9 (15, 0, 9, 1, 0) := ⟨pm_R9, pm_F9, 5, rfl, by decide, rfl, fun _ => rfl, gw_of (tw_1 (List.mem_of_getElem? (i := 109) rfl)) rfl⟩
set_option maxRecDepth 20000 in
theorem oc_9_18 : pm_okcp 9 (18, 0, 9, 2, 0) := ⟨pm_R9, pm_F9, 5, rfl, by decide, rfl, fun _ => rfl, gw_of (tw_1 (List.mem_of_getElem? (i := 110) rfl)) rfl⟩
set_option maxRecDepth 20000 in
theorem oc_9_21 : pm_okcp 9 (21, 0, 9, 4, 0) := ⟨pm_R9, pm_F9, 5, rfl, by decide, rfl, fun _ => rfl, gw_of (tw_1 (List.mem_of_getElem? (i := 112) rfl)) rfl⟩
set_option maxRecDepth 20000 in
theorem oc_9_25 : pm_okcp 9 (25, 2, 223, 2, 2) := ⟨pm_m223, rfl, by decide +kernel, by decide, fun _ => gw_of (tw_3 (List.mem_of_getElem? (i := 136) rfl)) rfl, fun h => absurd h (by decide), fun h => absurd h (by decide), fun h => absurd h (by decide), fun _ => gt_223, gc_223, gi_15⟩
set_option maxRecDepth 20000 in
theorem oc_9_31 : pm_okcp 9 (31, 0, 9, 3, 0) := ⟨pm_R9, pm_F9, 5, rfl, by decide, rfl, fun _ => rfl, gw_of (tw_1 (List.mem_of_getElem? (i := 111) rfl)) rfl⟩
set_option maxRecDepth 20000 in
theorem oc_9_35 : pm_okcp 9 (35, 2, 189, 2, 0) := ⟨pm_m189, rfl, by decide +kernel, by decide, fun _ => gw_of (tw_4 (List.mem_of_getElem? (i := 70) rfl)) rfl, fun h => absurd h (by decide), fun _ => ⟨gm_189, gs_189, fun h => absurd h (by decide), fun _ => ⟨pm_F9, 5, rfl⟩⟩, fun h => absurd h (by decide), fun h => absurd h (by decide), gc_189, gi_9⟩
set_option maxRecDepth 20000 in
theorem oc_9_39 : pm_okcp 9 (39, 2, 188, 1, 0) := ⟨pm_m188, rfl, by decide +kernel, by decide, fun _ => gw_of (tw_4 (List.mem_of_getElem? (i := 74) rfl)) rfl, fun h => absurd h (by decide), fun _ => ⟨gm_188, gs_188, fun h => absurd h (by decide), fun _ => ⟨pm_F9, 5, rfl⟩⟩, fun h => absurd h (by decide), fun h => absurd h (by decide), gc_188, gi_9⟩
set_option maxRecDepth 20000 in
theorem oc_9_43 : pm_okcp 9 (43, 2, 194, 2, 0) := ⟨pm_m194, rfl, by decide +kernel, by decide, fun _ => gw_of (tw_3 (List.mem_of_getElem? (i := 147) rfl)) rfl, fun h => absurd h (by decide), fun _ => ⟨gm_194, gs_194, fun h => absurd h (by decide), fun _ => ⟨pm_F9, 5, rfl⟩⟩, fun h => absurd h (by decide), fun h => absurd h (by decide), gc_194, gi_9⟩
set_option maxRecDepth 20000 in
theorem oc_9_47 : pm_okcp 9 (47, 2, 123, 1, 0) := ⟨pm_m123, rfl, by decide +kernel, by decide, fun _ => gw_of (tw_3 (List.mem_of_getElem? (i := 163) rfl)) rfl, fun h => absurd h (by decide), fun _ => ⟨gm_123, gs_123, fun h => absurd h (by decide), fun _ => ⟨pm_F2, 8, rfl⟩⟩, fun h => absurd h (by decide), fun h => absurd h (by decide), gc_123, gi_2⟩
set_option maxRecDepth 20000 in
theorem oc_9_52 : pm_okcp 9 (52, 2, 117, 1, 0) := ⟨pm_m117, rfl, by decide +kernel, by decide, fun _ => gw_of (tw_3 (List.mem_of_getElem? (i := 151) rfl)) rfl, fun h => absurd h (by decide), fun _ => ⟨gm_117, gs_117, fun h => absurd h (by decide), fun _ => ⟨pm_F2, 8, rfl⟩⟩, fun h => absurd h (by decide), fun h => absurd h (by decide), gc_117, gi_2⟩
set_option maxRecDepth 20000 in
theorem oc_9_55 : pm_okcp 9 (55, 2, 116, 1, 0) := ⟨pm_m116, rfl, by decide +kernel, by decide, fun _ => gw_of (tw_3 (List.mem_of_getElem? (i := 152) rfl)) rfl, fun h => absurd h (by decide), fun _ => ⟨gm_116, gs_116, fun h => absurd h (by decide), fun _ => ⟨pm_F2, 8, rfl⟩⟩, fun h => absurd h (by decide), fun h => absurd h (by decide), gc_116, gi_2⟩
set_option maxRecDepth 20000 in
theorem oc_9_59 : pm_okcp 9 (59, 2, 195, 1, 0) := ⟨pm_m195, rfl, by decide +kernel, by decide, fun _ => gw_of (tw_3 (List.mem_of_getElem? (i := 153) rfl)) rfl, fun h => absurd h (by decide), fun _ => ⟨gm_195, gs_195, fun h => absurd h (by decide), fun _ => ⟨pm_F9, 5, rfl⟩⟩, fun h => absurd h (by decide), fun h => absurd h (by decide), gc_195, gi_9⟩
set_option maxRecDepth 20000 in
theorem oc_9_63 : pm_okcp 9 (63, 2, 118, 1, 0) := ⟨pm_m118, rfl, by decide +kernel, by decide, fun _ => gw_of (tw_3 (List.mem_of_getElem? (i := 157) rfl)) rfl, fun h => absurd h (by decide), fun _ => ⟨gm_118, gs_118, fun h => absurd h (by decide), fun _ => ⟨pm_F2, 8, rfl⟩⟩, fun h => absurd h (by decide), fun h => absurd h (by decide), gc_118, gi_2⟩
set_option maxRecDepth 20000 in
theorem oc_9_66 : pm_okcp 9 (66, 2, 119, 1, 0) := ⟨pm_m119, rfl, by decide +kernel, by decide, fun _ => gw_of (tw_3 (List.mem_of_getElem? (i := 158) rfl)) rfl, fun h => absurd h (by decide), fun _ => ⟨gm_119, gs_119, fun h => absurd h (by decide), fun _ => ⟨pm_F2, 8, rfl⟩⟩, fun h => absurd h (by decide), fun h => absurd h (by decide), gc_119, gi_2⟩
set_option maxRecDepth 20000 in
theorem oc_9_69 : pm_okcp 9 (69, 2, 120, 1, 0) := ⟨pm_m120, rfl, by decide +kernel, by decide, fun _ => gw_of (tw_3 (List.mem_of_getElem? (i := 159) rfl)) rfl, fun h => absurd h (by decide), fun _ => ⟨gm_120, gs_120, fun h => absurd h (by decide), fun _ => ⟨pm_F2, 8, rfl⟩⟩, fun h => absurd h (by decide), fun h => absurd h (by decide), gc_120, gi_2⟩
set_option maxRecDepth 20000 in
theorem op_9 : ∀ (idx : Nat) (e : Nat × Nat × Nat × Nat), pm_p9 idx = some e → pm_okcp 9 (idx, e) := pm_nd_ok (pm_nd_ok (pm_lks (List.forall_mem_cons.mpr ⟨oc_9_3, List.forall_mem_cons.mpr ⟨oc_9_9, List.forall_mem_cons.mpr ⟨oc_9_15, List.forall_mem_cons.mpr ⟨oc_9_18, fun _ h => absurd h List.not_mem_nil⟩⟩⟩⟩)) (pm_lks (List.forall_mem_cons.mpr ⟨oc_9_21, List.forall_mem_cons.mpr ⟨oc_9_25, List.forall_mem_cons.mpr ⟨oc_9_31, List.forall_mem_cons.mpr ⟨oc_9_35, fun _ h => absurd h List.not_mem_nil⟩⟩⟩⟩))) (pm_nd_ok (pm_lks (List.forall_mem_cons.mpr ⟨oc_9_39, List.forall_mem_cons.mpr ⟨oc_9_43, List.forall_mem_cons.mpr ⟨oc_9_47, List.forall_mem_cons.mpr ⟨oc_9_52, fun _ h => absurd h List.not_mem_nil⟩⟩⟩⟩)) (pm_lks (List.forall_mem_cons.mpr ⟨oc_9_55, List.forall_mem_cons.mpr ⟨oc_9_59, List.forall_mem_cons.mpr ⟨oc_9_63, List.forall_mem_cons.mpr ⟨oc_9_66, List.forall_mem_cons.mpr ⟨oc_9_69, fun _ h => absurd h List.not_mem_nil⟩⟩⟩⟩⟩)))
set_option maxRecDepth 20000 in
theorem oc_10_3 : pm_okcp 10 (3, 4, 0, 0, 0) := ⟨fun _ => gw_of (tw_1 (List.mem_of_getElem? (i := 34) rfl)) rfl, fun h => absurd h (by decide), fun h => absurd h (by decide)⟩
set_option maxRecDepth 20000 in
theorem oc_10_9 : pm_okcp 10 (9, 0, 10, 0, 0) := ⟨pm_R10, pm_F10, 4, rfl, by decide, rfl, fun _ => rfl, gw_of (tw_1 (List.mem_of_getElem? (i := 35) rfl)) rfl⟩
set_option maxRecDepth 20000 in
theorem oc_10_15 : pm_okcp 10 (15, 0, 10, 1, 0) := ⟨pm_R10, pm_F10, 4, rfl, by decide, rfl, fun _ => rfl, gw_of (tw_1 (List.mem_of_getElem? (i := 36) rfl)) rfl⟩
set_option maxRecDepth 20000 in
theorem oc_10_19 : pm_okcp 10 (19, 2, 204, 2, 2) := ⟨pm_m204, rfl, by decide +kernel, by decide, fun _ => gw_of (tw_2 (List.mem_of_getElem? (i := 79) rfl)) rfl, fun h => absurd h (by decide), fun h => absurd h (by decide), fun h => absurd h (by decide), fun _ => gt_204, gc_204, gi_10⟩
set_option maxRecDepth 20000 in
theorem oc_10_23 : pm_okcp 10 (23, 0, 10, 2, 0) := ⟨pm_R10, pm_F10, 4, rfl, by decide, rfl, fun _ => rfl, gw_of (tw_1 (List.mem_of_getElem? (i := 37) rfl)) rfl⟩
set_option maxRecDepth 20000 in
theorem oc_10_26 : pm_okcp 10 (26, 0, 10, 3, 0) := ⟨pm_R10, pm_F10, 4, rfl, by decide, rfl, fun _ => rfl, gw_of (tw_1 (List.mem_of_getElem? (i := 38) rfl)) rfl⟩
set_option maxRecDepth 20000 in
theorem oc_10_29 : pm_okcp 10 (29, 2, 205, 1, 2) := ⟨pm_m205, rfl, by decide +kernel, by decide, fun _ => gw_of (tw_2 (List.mem_of_getElem? (i := 102) rfl)) rfl, fun h => absurd h (by decide), fun h => absurd h (by decide), fun h => absurd h (by decide), fun _ => gt_205, gc_205, gi_10⟩
set_option maxRecDepth 20000 in
theorem oc_10_33 : pm_okcp 10 (33, 2, 202, 0, 0) := ⟨pm_m202, rfl, by decide +kernel, by decide, fun _ => gw_of (tw_2 (List.mem_of_getElem? (i := 105) rfl)) rfl, fun h => absurd h (by decide), fun _ => ⟨gm_202, gs_202, fun h => absurd h (by decide), fun _ => ⟨pm_F10, 4, rfl⟩⟩, fun h => absurd h (by decide), fun h => absurd h (by decide), gc_202, gi_10⟩
set_option maxRecDepth 20000 in
theorem oc_10_37 : pm_okcp 10 (37, 2, 206, 1, 2) := ⟨pm_m206, rfl, by decide +kernel, by decide, fun _ => gw_of (tw_2 (List.mem_of_getElem? (i := 109) rfl)) rfl, fun h => absurd h (by decide), fun h => absurd h (by decide), fun h => absurd h (by decide), fun _ => gt_206, gc_206, gi_10⟩
set_option maxRecDepth 20000 in
theorem oc_10_40 : pm_okcp 10 (40, 2, 203, 0, 0) := ⟨pm_m203, rfl, by decide +kernel, by decide, fun _ => gw_of (tw_2 (List.mem_of_getElem? (i := 112) rfl)) rfl, fun h => absurd h (by decide), fun _ => ⟨gm_203, gs_203, fun h => absurd h (by decide), fun _ => ⟨pm_F10, 4, rfl⟩⟩, fun h => absurd h (by decide), fun h => absurd h (by decide), gc_203, gi_10⟩
set_option maxRecDepth 20000 in
theorem oc_10_43 : pm_okcp 10 (43, 7, 0, 0, 0) := ⟨rfl, rfl⟩
set_option maxRecDepth 20000 in
theorem oc_10_45 : pm_okcp 10 (45, 2, 215, 1, 0) := ⟨pm_m215, rfl, by decide +kernel, by decide, fun _ => gw_of (tw_2 (List.mem_of_getElem? (i := 117) rfl)) rfl, fun h => absurd h (by decide), fun _ => ⟨gm_215, gs_215, fun _ => rfl, fun h => absurd rfl h⟩, fun h => absurd h (by decide), fun h => absurd h (by decide), gc_215, gi_100⟩
set_option maxRecDepth 20000 in
theorem op_10 : ∀ (idx : Nat) (e : Nat × Nat × Nat × Nat), pm_p10 idx = some e → pm_okcp 10 (idx, e) := pm_nd_ok (pm_lks (List.forall_mem_cons.mpr ⟨oc_10_3, List.forall_mem_cons.mpr ⟨oc_10_9, List.forall_mem_cons.mpr ⟨oc_10_15, List.forall_mem_cons.mpr ⟨oc_10_19, List.forall_mem_cons.mpr ⟨oc_10_23, List.forall_mem_cons.mpr ⟨oc_10_26, fun _ h => absurd h List.not_mem_nil⟩⟩⟩⟩⟩⟩)) (pm_lks (List.forall_mem_cons.mpr ⟨oc_10_29, List.forall_mem_cons.mpr ⟨oc_10_33, List.forall_mem_cons.mpr ⟨oc_10_37, List.forall_mem_cons.mpr ⟨oc_10_40, List.forall_mem_cons.mpr ⟨oc_10_43, List.forall_mem_cons.mpr ⟨oc_10_45, fun _ h => absurd h List.not_mem_nil⟩⟩⟩⟩⟩⟩))
set_option maxRecDepth 20000 in
theorem oc_11_3 : pm_okcp 11 (3, 4, 0, 0, 0) := ⟨fun _ => gw_of (tw_1 (List.mem_of_getElem? (i := 196) rfl)) rfl, fun h => absurd h (by decide), fun h => absurd h (by decide)⟩
set_option maxRecDepth 20000 in
theorem oc_11_9 : pm_okcp 11 (9, 0, 11, 0, 0) := ⟨pm_R11, pm_F11, 7, rfl, by decide, rfl, fun _ => rfl, gw_of (tw_1 (List.mem_of_getElem? (i := 197) rfl)) rfl⟩
set_option maxRecDepth 20000 in
theorem oc_11_15 : pm_okcp 11 (15, 0, 11, 4, 0) := ⟨pm_R11, pm_F11, 7, rfl, by decide, rfl, fun _ => rfl, gw_of (tw_1 (List.mem_of_getElem? (i := 201) rfl)) rfl⟩
set_option maxRecDepth 20000 in
theorem oc_11_19 : pm_okcp 11 (19, 0, 11, 5, 0) := ⟨pm_R11, pm_F11, 7, rfl, by decide, rfl, fun _ => rfl, gw_of (tw_1 (List.mem_of_getElem? (i := 202) rfl)) rfl⟩
set_option maxRecDepth 20000 in
theorem oc_11_23 : pm_okcp 11 (23, 0, 11, 6, 0) := ⟨pm_R11, pm_F11, 7, rfl, by decide, rfl, fun _ => rfl, gw_of (tw_1 (List.mem_of_getElem? (i := 203) rfl)) rfl⟩
set_option maxRecDepth 20000 in
theorem oc_11_26 : pm_okcp 11 (26, 0, 11, 1, 0) := ⟨pm_R11, pm_F11, 7, rfl, by decide, rfl, fun _ => rfl, gw_of (tw_1 (List.mem_of_getElem? (i := 198) rfl)) rfl⟩
set_option maxRecDepth 20000 in
theorem oc_11_30 : pm_okcp 11 (30, 0, 11, 2, 0) := ⟨pm_R11, pm_F11, 7, rfl, by decide, rfl, fun _ => rfl, gw_of (tw_1 (List.mem_of_getElem? (i := 199) rfl)) rfl⟩
set_option maxRecDepth 20000 in
theorem oc_11_34 : pm_okcp 11 (34, 0, 11, 3, 0) := ⟨pm_R11, pm_F11, 7, rfl, by decide, rfl, fun _ => rfl, gw_of (tw_1 (List.mem_of_getElem? (i := 200) rfl)) rfl⟩
set_option maxRecDepth 20000 in
theorem oc_11_37 : pm_okcp 11 (37, 2, 223, 2, 2) := ⟨pm_m223, rfl, by decide +kernel, by decide, fun _ => gw_of (tw_4 (List.mem_of_getElem? (i := 131) rfl)) rfl, fun h => absurd h (by decide), fun h => absurd h (by decide), fun h => absurd h (by decide), fun _ => gt_223, gc_223, gi_15⟩
set_option maxRecDepth 20000 in
theorem oc_11_43 : pm_okcp 11 (43, 2, 113, 1, 0) := ⟨pm_m113, rfl, by decide +kernel, by decide, fun _ => gw_of (tw_4 (List.mem_of_getElem? (i := 132) rfl)) rfl, fun h => absurd h (by decide), fun _ => ⟨gm_113, gs_113, fun h => absurd h (by decide), fun _ => ⟨pm_F2, 8, rfl⟩⟩, fun h => absurd h (by decide), fun h => absurd h (by decide), gc_113, gi_2⟩
set_option maxRecDepth 20000 in
theorem oc_11_49 : pm_okcp 11 (49, 2, 114, 1, 0) := ⟨pm_m114, rfl, by decide +kernel, by decide, fun _ => gw_of (tw_4 (List.mem_of_getElem? (i := 133) rfl)) rfl, fun h => absurd h (by decide), fun _ => ⟨gm_114, gs_114, fun h => absurd h (by decide), fun _ => ⟨pm_F2, 8, rfl⟩⟩, fun h => absurd h (by decide), fun h => absurd h (by decide), gc_114, gi_2⟩
set_option maxRecDepth 20000 in
theorem oc_11_52 : pm_okcp 11 (52, 2, 210, 3, 0) := ⟨pm_m210, rfl, by decide +kernel, by decide, fun _ => gw_of (tw_4 (List.mem_of_getElem? (i := 134) rfl)) rfl, fun h => absurd h (by decide), fun _ => ⟨gm_210, gs_210, fun h => absurd h (by decide), fun _ => ⟨pm_F11, 7, rfl⟩⟩, fun h => absurd h (by decide), fun h => absurd h (by decide), gc_210, gi_11⟩
set_option maxRecDepth 20000 in
theorem oc_11_56 : pm_okcp 11 (56, 2, 116, 1, 0) := ⟨pm_m116, rfl, by decide +kernel, by decide, fun _ => gw_of (tw_4 (List.mem_of_getElem? (i := 138) rfl)) rfl, fun h => absurd h (by decide), fun _ => ⟨gm_116, gs_116, fun h => absurd h (by decide), fun _ => ⟨pm_F2, 8, rfl⟩⟩, fun h => absurd h (by decide), fun h => absurd h (by decide), gc_116, gi_2⟩
set_option maxRecDepth 20000 in
theorem oc_11_60 : pm_okcp 11 (60, 2, 211, 2, 0) := ⟨pm_m211, rfl, by decide +kernel, by decide, fun _ => gw_of (tw_4 (List.mem_of_getElem? (i := 139) rfl)) rfl, fun h => absurd h (by decide), fun _ => ⟨gm_211, gs_211, fun h => absurd h (by decide), fun _ => ⟨pm_F11, 7, rfl⟩⟩, fun h => absurd h (by decide), fun h => absurd h (by decide), gc_211, gi_11⟩
set_option maxRecDepth 20000 in
theorem oc_11_64 : pm_okcp 11 (64, 2, 119, 1, 0) := ⟨pm_m119, rfl, by decide +kernel, by decide, fun _ => gw_of (tw_4 (List.mem_of_getElem? (i := 162) rfl)) rfl, fun h => absurd h (by decide), fun _ => ⟨gm_119, gs_119, fun h => absurd h (by decide), fun _ => ⟨pm_F2, 8, rfl⟩⟩, fun h => absurd h (by decide), fun h => absurd h (by decide), gc_119, gi_2⟩
set_option maxRecDepth 20000 in
theorem oc_11_67 : pm_okcp 11 (67, 2, 115, 1, 0) := ⟨pm_m115, rfl, by decide +kernel, by decide, fun _ => gw_of (tw_4 (List.mem_of_getElem? (i := 148) rfl)) rfl, fun h => absurd h (by decide), fun _ => ⟨gm_115, gs_115, fun h => absurd h (by decide), fun _ => ⟨pm_F2, 8, rfl⟩⟩, fun h => absurd h (by decide), fun h => absurd h (by decide), gc_115, gi_2⟩
set_option maxRecDepth 20000 in
theorem oc_11_70 : pm_okcp 11 (70, 2, 109, 1, 0) := ⟨pm_m109, rfl, by decide +kernel, by decide, fun _ => gw_of (tw_4 (List.mem_of_getElem? (i := 149) rfl)) rfl, fun h => absurd h (by decide), fun _ => ⟨gm_109, gs_109, fun h => absurd h (by decide), fun _ => ⟨pm_F2, 8, rfl⟩⟩, fun h => absurd h (by decide), fun h => absurd h (by decide), gc_109, gi_2⟩
set_option maxRecDepth 20000 in
theorem oc_11_73 : pm_okcp 11 (73, 2, 125, 2, 0) := ⟨pm_m125, rfl, by decide +kernel, by decide, fun _ => gw_of (tw_4 (List.mem_of_getElem? (i := 150) rfl)) rfl, fun h => absurd h (by decide), fun _ => ⟨gm_125, gs_125, fun h => absurd h (by decide), fun _ => ⟨pm_F2, 8, rfl⟩⟩, fun h => absurd h (by decide), fun h => absurd h (by decide), gc_125, gi_2⟩
set_option maxRecDepth 20000 in
theorem oc_11_77 : pm_okcp 11 (77, 2, 213, 1, 0) := ⟨pm_m213, rfl, by decide +kernel, by decide, fun _ => gw_of (tw_4 (List.mem_of_getElem? (i := 163) rfl)) rfl, fun h => absurd h (by decide), fun _ => ⟨gm_213, gs_213, fun h => absurd h (by decide), fun _ => ⟨pm_F11, 7, rfl⟩⟩, fun h => absurd h (by decide), fun h => absurd h (by decide), gc_213, gi_11⟩
set_option maxRecDepth 20000 in
theorem oc_11_81 : pm_okcp 11 (81, 2, 168, 2, 0) := ⟨pm_m168, rfl, by decide +kernel, by decide, fun _ => gw_of (tw_4 (List.mem_of_getElem? (i := 161) rfl)) rfl, fun h => absurd h (by decide), fun _ => ⟨gm_168, gs_168, fun h => absurd h (by decide), fun _ => ⟨pm_F7, 4, rfl⟩⟩, fun h => absurd h (by decide), fun h => absurd h (by decide), gc_168, gi_7⟩
set_option maxRecDepth 20000 in
theorem oc_11_87 : pm_okcp 11 (87, 2, 212, 2, 0) := ⟨pm_m212, rfl, by decide +kernel, by decide, fun _ => gw_of (tw_4 (List.mem_of_getElem? (i := 143) rfl)) rfl, fun h => absurd h (by decide), fun _ => ⟨gm_212, gs_212, fun h => absurd h (by decide), fun _ => ⟨pm_F11, 7, rfl⟩⟩, fun h => absurd h (by decide), fun h => absurd h (by decide), gc_212, gi_11⟩
set_option maxRecDepth 20000 in
theorem oc_11_90 : pm_okcp 11 (90, 2, 120, 1, 0) := ⟨pm_m120, rfl, by decide +kernel, by decide, fun _ => gw_of (tw_4 (List.mem_of_getElem? (i := 160) rfl)) rfl, fun h => absurd h (by decide), fun _ => ⟨gm_120, gs_120, fun h => absurd h (by decide), fun _ => ⟨pm_F2, 8, rfl⟩⟩, fun h => absurd h (by decide), fun h => absurd h (by decide), gc_120, gi_2⟩
set_option maxRecDepth 20000 in
theorem oc_11_93 : pm_okcp 11 (93, 2, 110, 1, 0) := ⟨pm_m110, rfl, by decide +kernel, by decide, fun _ => gw_of (tw_4 (List.mem_of_getElem? (i := 147) rfl)) rfl, fun h => absurd h (by decide), fun _ => ⟨gm_110, gs_110, fun h => absurd h (by decide), fun _ => ⟨pm_F2, 8, rfl⟩⟩, fun h => absurd h (by decide), fun h => absurd h (by decide), gc_110, gi_2⟩
set_option maxRecDepth 20000 in
theorem oc_11_96 : pm_okcp 11 (96, 2, 124, 1, 0) := ⟨pm_m124, rfl, by decide +kernel, by decide, fun _ => gw_of (tw_4 (List.mem_of_getElem? (i := 151) rfl)) rfl, fun h => absurd h (by decide), fun _ => ⟨gm_124, gs_124, fun h => absurd h (by decide), fun _ => ⟨pm_F2, 8, rfl⟩⟩, fun h => absurd h (by decide), fun h => absurd h (by decide), gc_124, gi_2⟩
set_option maxRecDepth 20000 in
theorem oc_11_99 : pm_okcp 11 (99, 2, 181, 1, 0) := ⟨pm_m181, rfl, by decide +kernel, by decide, fun _ => gw_of (tw_4 (List.mem_of_getElem? (i := 152) rfl)) rfl, fun h => absurd h (by decide), fun _ => ⟨gm_181, gs_181, fun h => absurd h (by decide), fun _ => ⟨pm_F8, 6, rfl⟩⟩, fun h => absurd h (by decide), fun h => absurd h (by decide), gc_181, gi_8⟩
set_option maxRecDepth 20000 in
theorem oc_11_103 : pm_okcp 11 (103, 2, 182, 2, 0) := ⟨pm_m182, rfl, by decide +kernel, by decide, fun _ => gw_of (tw_4 (List.mem_of_getElem? (i := 156) rfl)) rfl, fun h => absurd h (by decide), fun _ => ⟨gm_182, gs_182, fun h => absurd h (by decide), fun _ => ⟨pm_F8, 6, rfl⟩⟩, fun h => absurd h (by decide), fun h => absurd h (by decide), gc_182, gi_8⟩
set_option maxRecDepth 20000 in
theorem oc_11_106 : pm_okcp 11 (106, 2, 183, 3, 0) := ⟨pm_m183, rfl, by decide +kernel, by decide, fun _ => gw_of (tw_4 (List.mem_of_getElem? (i := 167) rfl)) rfl, fun h => absurd h (by decide), fun _ => ⟨gm_183, gs_183, fun h => absurd h (by decide), fun _ => ⟨pm_F8, 6, rfl⟩⟩, fun h => absurd h (by decide), fun h => absurd h (by decide), gc_183, gi_8⟩
set_option maxRecDepth 20000 in
theorem oc_11_110 : pm_okcp 11 (110, 2, 184, 1, 0) := ⟨pm_m184, rfl, by decide +kernel, by decide, fun _ => gw_of (tw_4 (List.mem_of_getElem? (i := 171) rfl)) rfl, fun h => absurd h (by decide), fun _ => ⟨gm_184, gs_184, fun h => absurd h (by decide), fun _ => ⟨pm_F8, 6, rfl⟩⟩, fun h => absurd h (by decide), fun h => absurd h (by decide), gc_184, gi_8⟩
set_option maxRecDepth 20000 in
theorem oc_11_113 : pm_okcp 11 (113, 2, 185, 1, 0) := ⟨pm_m185, rfl, by decide +kernel, by decide, fun _ => gw_of (tw_4 (List.mem_of_getElem? (i := 175) rfl)) rfl, fun h => absurd h (by decide), fun _ => ⟨gm_185, gs_185, fun h => absurd h (by decide), fun _ => ⟨pm_F8, 6, rfl⟩⟩, fun h => absurd h (by decide), fun h => absurd h (by decide), gc_185, gi_8⟩
set_option maxRecDepth 20000 in
theorem oc_11_116 : pm_okcp 11 (116, 2, 169, 3, 0) := ⟨pm_m169, rfl, by decide +kernel, by decide, fun _ => gw_of (tw_4 (List.mem_of_getElem? (i := 179) rfl)) rfl, fun h => absurd h (by decide), fun _ => ⟨gm_169, gs_169, fun h => absurd h (by decide), fun _ => ⟨pm_F7, 4, rfl⟩⟩, fun h => absurd h (by decide), fun h => absurd h (by decide), gc_169, gi_7⟩
set_option maxRecDepth 20000 in
theorem op_11 : ∀ (idx : Nat) (e : Nat × Nat × Nat × Nat), pm_p11 idx = some e → pm_okcp 11 (idx, e) := pm_nd_ok (pm_nd_ok (pm_nd_ok (pm_lks (List.forall_mem_cons.mpr ⟨oc_11_3, List.forall_mem_cons.mpr ⟨oc_11_9, List.forall_mem_cons.mpr ⟨oc_11_15, fun _ h => absurd h List.not_mem_nil⟩⟩⟩)) (pm_lks (List.forall_mem_cons.mpr ⟨oc_11_19, List.forall_mem_cons.mpr ⟨oc_11_23, List.forall_mem_cons.mpr ⟨oc_11_26, List.forall_mem_cons.mpr ⟨oc_11_30, fun _ h => absurd h List.not_mem_nil⟩⟩⟩⟩))) (pm_nd_ok (pm_lks (List.forall_mem_cons.mpr ⟨oc_11_34, List.forall_mem_cons.mpr ⟨oc_11_37, List.forall_mem_cons.mpr ⟨oc_11_43, List.forall_mem_cons.mpr ⟨oc_11_49, fun _ h => absurd h List.not_mem_nil⟩⟩⟩⟩)) (pm_lks (List.forall_mem_cons.mpr ⟨oc_11_52, List.forall_mem_cons.mpr ⟨oc_11_56, List.forall_mem_cons.mpr ⟨oc_11_60, List.forall_mem_cons.mpr ⟨oc_11_64, fun _ h => absurd h List.not_mem_nil⟩⟩⟩⟩)))) (pm_nd_ok (pm_nd_ok (pm_lks (List.forall_mem_cons.mpr ⟨oc_11_67, List.forall_mem_cons.mpr ⟨oc_11_70, List.forall_mem_cons.mpr ⟨oc_11_73, fun _ h => absurd h List.not_mem_nil⟩⟩⟩)) (pm_lks (List.forall_mem_cons.mpr ⟨oc_11_77, List.forall_mem_cons.mpr ⟨oc_11_81, List.forall_mem_cons.mpr ⟨oc_11_87, List.forall_mem_cons.mpr ⟨oc_11_90, fun _ h => absurd h List.not_mem_nil⟩⟩⟩⟩))) (pm_nd_ok (pm_lks (List.forall_mem_cons.mpr ⟨oc_11_93, List.forall_mem_cons.mpr ⟨oc_11_96, List.forall_mem_cons.mpr ⟨oc_11_99, List.forall_mem_cons.mpr ⟨oc_11_103, fun _ h => absurd h List.not_mem_nil⟩⟩⟩⟩)) (pm_lks (List.forall_mem_cons.mpr ⟨oc_11_106, List.forall_mem_cons.mpr ⟨oc_11_110, List.forall_mem_cons.mpr ⟨oc_11_113, List.forall_mem_cons.mpr ⟨oc_11_116, fun _ h => absurd h List.not_mem_nil⟩⟩⟩⟩))))
set_option maxRecDepth 20000 in
theorem oc_12_1 : pm_okcp 12 (1, 4, 0, 0, 0) := ⟨fun _ => gw_of (tw_5 (List.mem_of_getElem? (i := 12) rfl)) rfl, fun h => absurd h (by decide), fun h => absurd h (by decide)⟩
set_option maxRecDepth 20000 in
theorem oc_12_7 : pm_okcp 12 (7, 0, 12, 0, 0) := ⟨pm_R12, pm_F12, 65, rfl, by decide, rfl, fun _ => rfl, gw_of (tw_5 (List.mem_of_getElem? (i := 13) rfl)) rfl⟩
set_option maxRecDepth 20000 in
theorem oc_12_13 : pm_okcp 12 (13, 0, 12, 2, 0) := ⟨pm_R12, pm_F12, 65, rfl, by decide, rfl, fun _ => rfl, gw_of (tw_5 (List.mem_of_getElem? (i := 15) rfl)) rfl⟩
set_option maxRecDepth 20000 in
theorem oc_12_16 : pm_okcp 12 (16, 0, 12, 10, 0) := ⟨pm_R12, pm_F12, 65, rfl, by decide, rfl, fun _ => rfl, gw_of (tw_5 (List.mem_of_getElem? (i := 23) rfl)) rfl⟩
set_option maxRecDepth 20000 in
theorem oc_12_19 : pm_okcp 12 (19, 0, 12, 11, 0) := ⟨pm_R12, pm_F12, 65, rfl, by decide, rfl, fun _ => rfl, gw_of (tw_5 (List.mem_of_getElem? (i := 24) rfl)) rfl⟩
set_option maxRecDepth 20000 in
theorem oc_12_22 : pm_okcp 12 (22, 0, 12, 12, 0) := ⟨pm_R12, pm_F12, 65, rfl, by decide, rfl, fun _ => rfl, gw_of (tw_5 (List.mem_of_getElem? (i := 25) rfl)) rfl⟩
set_option maxRecDepth 20000 in
theorem oc_12_25 : pm_okcp 12 (25, 0, 12, 13, 0) := ⟨pm_R12, pm_F12, 65, rfl, by decide, rfl, fun _ => rfl, gw_of (tw_5 (List.mem_of_getElem? (i := 26) rfl)) rfl⟩
set_option maxRecDepth 20000 in
theorem oc_12_28 : pm_okcp 12 (28, 0, 12, 14, 0) := ⟨pm_R12, pm_F12, 65, rfl, by decide, rfl, fun _ => rfl, gw_of (tw_5 (List.mem_of_getElem? (i := 27) rfl)) rfl⟩
set_option maxRecDepth 20000 in
theorem oc_12_31 : pm_okcp 12 (31, 0, 12, 15, 0) := ⟨pm_R12, pm_F12, 65, rfl, by decide, rfl, fun _ => rfl, gw_of (tw_5 (List.mem_of_getElem? (i := 28) rfl)) rfl⟩
set_option maxRecDepth 20000 in
theorem oc_12_34 : pm_okcp 12 (34, 0, 12, 16, 0) := ⟨pm_R12, pm_F12, 65, rfl, by decide, rfl, fun _ => rfl, gw_of (tw_5 (List.mem_of_getElem? (i := 29) rfl)) rfl⟩
set_option maxRecDepth 20000 in
theorem oc_12_37 : pm_okcp 12 (37, 0, 12, 17, 0) := ⟨pm_R12, pm_F12, 65, rfl, by decide, rfl, fun _ => rfl, gw_of (tw_5 (List.mem_of_getElem? (i := 30) rfl)) rfl⟩
set_option maxRecDepth 20000 in
theorem oc_12_40 : pm_okcp 12 (40, 0, 12, 18, 0) := ⟨pm_R12, pm_F12, 65, rfl, by decide, rfl, fun _ => rfl, gw_of (tw_5 (List.mem_of_getElem? (i := 31) rfl)) rfl⟩
set_option maxRecDepth 20000 in
theorem oc_12_43 : pm_okcp 12 (43, 0, 12, 19, 0) := ⟨pm_R12, pm_F12, 65, rfl, by decide, rfl, fun _ => rfl, gw_of (tw_5 (List.mem_of_getElem? (i := 32) rfl)) rfl⟩
set_option maxRecDepth 20000 in
theorem oc_12_46 : pm_okcp 12 (46, 0, 12, 20, 0) := ⟨pm_R12, pm_F12, 65, rfl, by decide, rfl, fun _ => rfl, gw_of (tw_5 (List.mem_of_getElem? (i := 33) rfl)) rfl⟩
set_option maxRecDepth 20000 in
theorem oc_12_49 : pm_okcp 12 (49, 0, 12, 21, 0) := ⟨pm_R12, pm_F12, 65, rfl, by decide, rfl, fun _ => rfl, gw_of (tw_5 (List.mem_of_getElem? (i := 34) rfl)) rfl⟩
set_option maxRecDepth 20000 in
theorem oc_12_52 : pm_okcp 12 (52, 0, 12, 22, 0) := ⟨pm_R12, pm_F12, 65, rfl, by decide, rfl, fun _ => rfl, gw_of (tw_5 (List.mem_of_getElem? (i := 35) rfl)) rfl⟩
set_option maxRecDepth 20000 in
theorem oc_12_55 : pm_okcp 12 (55, 0, 12, 23, 0) := ⟨pm_R12, pm_F12, 65, rfl, by decide, rfl, fun _ => rfl, gw_of (tw_5 (List.mem_of_getElem? (i := 36) rfl)) rfl⟩
set_option maxRecDepth 20000 in
theorem oc_12_58 : pm_okcp 12 (58, 0, 12, 24, 0) := ⟨pm_R12, pm_F12, 65, rfl, by decide, rfl, fun _ => rfl, gw_of (tw_5 (List.mem_of_getElem? (i := 37) rfl)) rfl⟩
set_option maxRecDepth 20000 in
theorem oc_12_61 : pm_okcp 12 (61, 0, 12, 25, 0) := ⟨pm_R12, pm_F12, 65, rfl, by decide, rfl, fun _ => rfl, gw_of (tw_5 (List.mem_of_getElem? (i := 38) rfl)) rfl⟩
set_option maxRecDepth 20000 in
theorem oc_12_64 : pm_okcp 12 (64, 0, 12, 26, 0) := ⟨pm_R12, pm_F12, 65, rfl, by decide, rfl, fun _ => rfl, gw_of (tw_5 (List.mem_of_getElem? (i := 39) rfl)) rfl⟩
set_option maxRecDepth 20000 in
theorem oc_12_67 : pm_okcp 12 (67, 0, 12, 28, 0) := ⟨pm_R12, pm_F12, 65, rfl, by decide, rfl, fun _ => rfl, gw_of (tw_5 (List.mem_of_getElem? (i := 41) rfl)) rfl⟩
set_option maxRecDepth 20000 in
theorem oc_12_70 : pm_okcp 12 (70, 0, 12, 29, 0) := ⟨pm_R12, pm_F12, 65, rfl, by decide, rfl, fun _ => rfl, gw_of (tw_5 (List.mem_of_getElem? (i := 42) rfl)) rfl⟩
set_option maxRecDepth 20000 in
theorem oc_12_73 : pm_okcp 12 (73, 0, 12, 35, 0) := ⟨pm_R12, pm_F12, 65, rfl, by decide, rfl, fun _ => rfl, gw_of (tw_5 (List.mem_of_getElem? (i := 48) rfl)) rfl⟩
set_option maxRecDepth 20000 in
theorem oc_12_76 : pm_okcp 12 (76, 0, 12, 36, 0) := ⟨pm_R12, pm_F12, 65, rfl, by decide, rfl, fun _ => rfl, gw_of (tw_5 (List.mem_of_getElem? (i := 49) rfl)) rfl⟩
set_option maxRecDepth 20000 in
theorem oc_12_79 : pm_okcp 12 (79, 0, 12, 39, 0) := ⟨pm_R12, pm_F12, 65, rfl, by decide, rfl, fun _ => rfl, gw_of (tw_5 (List.mem_of_getElem? (i := 52) rfl)) rfl⟩
set_option maxRecDepth 20000 in
theorem oc_12_82 : pm_okcp 12 (82, 0, 12, 41, 0) := ⟨pm_R12, pm_F12, 65, rfl, by decide, rfl, fun _ => rfl, gw_of (tw_5 (List.mem_of_getElem? (i := 54) rfl)) rfl⟩
set_option maxRecDepth 20000 in
theorem oc_12_85 : pm_okcp 12 (85, 0, 12, 42, 0) := ⟨pm_R12, pm_F12, 65, rfl, by decide, rfl, fun _ => rfl, gw_of (tw_5 (List.mem_of_getElem? (i := 55) rfl)) rfl⟩
set_option maxRecDepth 20000 in
theorem oc_12_88 : pm_okcp 12 (88, 0, 12, 43, 0) := ⟨pm_R12, pm_F12, 65, rfl, by decide, rfl, fun _ => rfl, gw_of (tw_5 (List.mem_of_getElem? (i := 56) rfl)) rfl⟩
set_option maxRecDepth 20000 in
theorem oc_12_91 : pm_okcp 12 (91, 0, 12, 44, 0) := ⟨pm_R12, pm_F12, 65, rfl, by decide, rfl, fun _ => rfl, gw_of (tw_5 (List.mem_of_getElem? (i := 57) rfl)) rfl⟩
set_option maxRecDepth 20000 in
theorem oc_12_95 : pm_okcp 12 (95, 0, 12, 45, 0) := ⟨pm_R12, pm_F12, 65, rfl, by decide, rfl, fun _ => rfl, gw_of (tw_5 (List.mem_of_getElem? (i := 58) rfl)) rfl⟩
set_option maxRecDepth 20000 in
theorem oc_12_98 : pm_okcp 12 (98, 0, 12, 46, 0) := ⟨pm_R12, pm_F12, 65, rfl, by decide, rfl, fun _ => rfl, gw_of (tw_5 (List.mem_of_getElem? (i := 59) rfl)) rfl⟩
set_option maxRecDepth 20000 in
theorem oc_12_101 : pm_okcp 12 (101, 0, 12, 47, 0) := ⟨pm_R12, pm_F12, 65, rfl, by decide, rfl, fun _ => rfl, gw_of (tw_5 (List.mem_of_getElem? (i := 60) rfl)) rfl⟩
set_option maxRecDepth 20000 in
theorem oc_12_104 : pm_okcp 12 (104, 0, 12, 48, 0) := ⟨pm_R12, pm_F12, 65, rfl, by decide, rfl, fun _ => rfl, gw_of (tw_5 (List.mem_of_getElem? (i := 61) rfl)) rfl⟩
set_option maxRecDepth 20000 in
theorem oc_12_107 : pm_okcp 12 (107, 0, 12, 49, 0) := ⟨pm_R12, pm_F12, 65, rfl, by decide, rfl, fun _ => rfl, gw_of (tw_5 (List.mem_of_getElem? (i := 62) rfl)) rfl⟩
set_option maxRecDepth 20000 in
theorem oc_12_110 : pm_okcp 12 (110, 0, 12, 50, 0) := ⟨pm_R12, pm_F12, 65, rfl, by decide, rfl, fun _ => rfl, gw_of (tw_5 (List.mem_of_getElem? (i := 63) rfl)) rfl⟩
set_option maxRecDepth 20000 in
theorem oc_12_113 : pm_okcp 12 (113, 0, 12, 51, 0) := ⟨pm_R12, pm_F12, 65, rfl, by decide, rfl, fun _ => rfl, gw_of (tw_5 (List.mem_of_getElem? (i := 64) rfl)) rfl⟩
set_option maxRecDepth 20000 in
theorem oc_12_116 : pm_okcp 12 (116, 0, 12, 53, 0) := ⟨pm_R12, pm_F12, 65, rfl, by decide, rfl, fun _ => rfl, gw_of (tw_5 (List.mem_of_getElem? (i := 66) rfl)) rfl⟩
set_option maxRecDepth 20000 in
theorem oc_12_119 : pm_okcp 12 (119, 0, 12, 54, 0) := ⟨pm_R12, pm_F12, 65, rfl, by decide, rfl, fun _ => rfl, gw_of (tw_5 (List.mem_of_getElem? (i := 67) rfl)) rfl⟩
set_option maxRecDepth 20000 in
theorem oc_12_122 : pm_okcp 12 (122, 0, 12, 55, 0) := ⟨pm_R12, pm_F12, 65, rfl, by decide, rfl, fun _ => rfl, gw_of (tw_5 (List.mem_of_getElem? (i := 68) rfl)) rfl⟩
set_option maxRecDepth 20000 in
theorem oc_12_125 : pm_okcp 12 (125, 0, 12, 57, 0) := ⟨pm_R12, pm_F12, 65, rfl, by decide, rfl, fun _ => rfl, gw_of (tw_5 (List.mem_of_getElem? (i := 70) rfl)) rfl⟩
set_option maxRecDepth 20000 in
theorem oc_12_128 : pm_okcp 12 (128, 0, 12, 58, 0) := ⟨pm_R12, pm_F12, 65, rfl, by decide, rfl, fun _ => rfl, gw_of (tw_5 (List.mem_of_getElem? (i := 71) rfl)) rfl⟩
set_option maxRecDepth 20000 in
theorem oc_12_131 : pm_okcp 12 (131, 0, 12, 59, 0) := ⟨pm_R12, pm_F12, 65, rfl, by decide, rfl, fun _ => rfl, gw_of (tw_5 (List.mem_of_getElem? (i := 72) rfl)) rfl⟩
set_option maxRecDepth 20000 in
theorem oc_12_134 : pm_okcp 12 (134, 0, 12, 60, 0) := ⟨pm_R12, pm_F12, 65, rfl, by decide, rfl, fun _ => rfl, gw_of (tw_5 (List.mem_of_getElem? (i := 73) rfl)) rfl⟩
set_option maxRecDepth 20000 in
theorem oc_12_137 : pm_okcp 12 (137, 0, 12, 61, 0) := ⟨pm_R12, pm_F12, 65, rfl, by decide, rfl, fun _ => rfl, gw_of (tw_5 (List.mem_of_getElem? (i := 74) rfl)) rfl⟩
set_option maxRecDepth 20000 in
theorem oc_12_140 : pm_okcp 12 (140, 0, 12, 63, 0) := ⟨pm_R12, pm_F12, 65, rfl, by decide, rfl, fun _ => rfl, gw_of (tw_5 (List.mem_of_getElem? (i := 76) rfl)) rfl⟩
set_option maxRecDepth 20000 in
theorem oc_12_143 : pm_okcp 12 (143, 0, 12, 64, 0) := ⟨pm_R12, pm_F12, 65, rfl, by decide, rfl, fun _ => rfl, gw_of (tw_5 (List.mem_of_getElem? (i := 77) rfl)) rfl⟩
set_option maxRecDepth 20000 in
theorem oc_12_146 : pm_okcp 12 (146, 2, 19, 3, 2) := ⟨pm_m19, rfl, by decide +kernel, by decide, fun _ => gw_of (tw_5 (List.mem_of_getElem? (i := 214) rfl)) rfl, fun h => absurd h (by decide), fun h => absurd h (by decide), fun h => absurd h (by decide), fun _ => gt_19, gc_19, gi_12⟩
set_option maxRecDepth 20000 in
theorem oc_12_150 : pm_okcp 12 (150, 0, 12, 1, 0) := ⟨pm_R12, pm_F12, 65, rfl, by decide, rfl, fun _ => rfl, gw_of (tw_5 (List.mem_of_getElem? (i := 14) rfl)) rfl⟩
set_option maxRecDepth 20000 in
theorem oc_12_154 : pm_okcp 12 (154, 0, 12, 7, 0) := ⟨pm_R12, pm_F12, 65, rfl, by decide, rfl, fun _ => rfl, gw_of (tw_5 (List.mem_of_getElem? (i := 20) rfl)) rfl⟩
set_option maxRecDepth 20000 in
theorem oc_12_157 : pm_okcp 12 (157, 0, 12, 3, 0) := ⟨pm_R12, pm_F12, 65, rfl, by decide, rfl, fun _ => rfl, gw_of (tw_5 (List.mem_of_getElem? (i := 16) rfl)) rfl⟩
set_option maxRecDepth 20000 in
theorem oc_12_160 : pm_okcp 12 (160, 0, 12, 6, 0) := ⟨pm_R12, pm_F12, 65, rfl, by decide, rfl, fun _ => rfl, gw_of (tw_5 (List.mem_of_getElem? (i := 19) rfl)) rfl⟩
set_option maxRecDepth 20000 in
theorem oc_12_163 : pm_okcp 12 (163, 2, 25, 1, 2) := ⟨pm_m25, rfl, by decide +kernel, by decide, fun _ => gw_of (tw_5 (List.mem_of_getElem? (i := 229) rfl)) rfl, fun h => absurd h (by decide), fun h => absurd h (by decide), fun h => absurd h (by decide), fun _ => gt_25, gc_25, gi_12⟩
set_option maxRecDepth 20000 in
theorem oc_12_167 : pm_okcp 12 (167, 2, 26, 1, 2) := ⟨pm_m26, rfl, by decide +kernel, by decide, fun _ => gw_of (tw_5 (List.mem_of_getElem? (i := 232) rfl)) rfl, fun h => absurd h (by decide), fun h => absurd h (by decide), fun h => absurd h (by decide), fun _ => gt_26, gc_26, gi_12⟩
set_option maxRecDepth 20000 in
theorem oc_12_170 : pm_okcp 12 (170, 0, 12, 5, 0) := ⟨pm_R12, pm_F12, 65, rfl, by decide, rfl, fun _ => rfl, gw_of (tw_5 (List.mem_of_getElem? (i := 18) rfl)) rfl⟩
set_option maxRecDepth 20000 in
theorem oc_12_173 : pm_okcp 12 (173, 0, 12, 4, 0) := ⟨pm_R12, pm_F12, 65, rfl, by decide, rfl, fun _ => rfl, gw_of (tw_5 (List.mem_of_getElem? (i := 17) rfl)) rfl⟩
set_option maxRecDepth 20000 in
theorem oc_12_176 : pm_okcp 12 (176, 2, 21, 1, 2) := ⟨pm_m21, rfl, by decide +kernel, by decide, fun _ => gw_of (tw_5 (List.mem_of_getElem? (i := 235) rfl)) rfl, fun h => absurd h (by decide), fun h => absurd h (by decide), fun h => absurd h (by decide), fun _ => gt_21, gc_21, gi_12⟩
set_option maxRecDepth 20000 in
theorem oc_12_179 : pm_okcp 12 (179, 2, 22, 1, 2) := ⟨pm_m22, rfl, by decide +kernel, by decide, fun _ => gw_of (tw_5 (List.mem_of_getElem? (i := 238) rfl)) rfl, fun h => absurd h (by decide), fun h => absurd h (by decide), fun h => absurd h (by decide), fun _ => gt_22, gc_22, gi_12⟩
set_option maxRecDepth 20000 in
theorem oc_12_182 : pm_okcp 12 (182, 2, 24, 1, 2) := ⟨pm_m24, rfl, by decide +kernel, by decide, fun _ => gw_of (tw_6 (List.mem_of_getElem? (i := 1) rfl)) rfl, fun h => absurd h (by decide), fun h => absurd h (by decide), fun h => absurd h (by decide), fun _ => gt_24, gc_24, gi_12⟩
set_option maxRecDepth 20000 in
theorem oc_12_185 : pm_okcp 12 (185, 0, 12, 8, 0) := ⟨pm_R12, pm_F12, 65, rfl, by decide, rfl, fun _ => rfl, gw_of (tw_5 (List.mem_of_getElem? (i := 21) rfl)) rfl⟩
set_option maxRecDepth 20000 in
theorem oc_12_188 : pm_okcp 12 (188, 2, 29, 0, 0) := ⟨pm_m29, rfl, by decide +kernel, by decide, fun _ => gw_of (tw_6 (List.mem_of_getElem? (i := 12) rfl)) rfl, fun h => absurd h (by decide), fun _ => ⟨gm_29, gs_29, fun h => absurd h (by decide), fun _ => ⟨pm_F12, 65, rfl⟩⟩, fun h => absurd h (by decide), fun h => absurd h (by decide), gc_29, gi_12⟩
set_option maxRecDepth 20000 in
theorem oc_12_192 : pm_okcp 12 (192, 2, 28, 0, 0) := ⟨pm_m28, rfl, by decide +kernel, by decide, fun _ => gw_of (tw_5 (List.mem_of_getElem? (i := 225) rfl)) rfl, fun h => absurd h (by decide), fun _ => ⟨gm_28, gs_28, fun h => absurd h (by decide), fun _ => ⟨pm_F12, 65, rfl⟩⟩, fun h => absurd h (by decide), fun h => absurd h (by decide), gc_28, gi_12⟩
set_option maxRecDepth 20000 in
theorem oc_12_195 : pm_okcp 12 (195, 2, 34, 1, 0) := ⟨pm_m34, rfl, by decide +kernel, by decide, fun _ => gw_of (tw_6 (List.mem_of_getElem? (i := 65) rfl)) rfl, fun h => absurd h (by decide), fun _ => ⟨gm_34, gs_34, fun h => absurd h (by decide), fun _ => ⟨pm_F12, 65, rfl⟩⟩, fun h => absurd h (by decide), fun h => absurd h (by decide), gc_34, gi_12⟩
set_option maxRecDepth 20000 in
theorem oc_12_198 : pm_okcp 12 (198, 2, 45, 2, 0) := ⟨pm_m45, rfl, by decide +kernel, by decide, fun _ => gw_of (tw_6 (List.mem_of_getElem? (i := 4) rfl)) rfl, fun h => absurd h (by decide), fun _ => ⟨gm_45, gs_45, fun h => absurd h (by decide), fun _ => ⟨pm_F12, 65, rfl⟩⟩, fun h => absurd h (by decide), fun h => absurd h (by decide), gc_45, gi_12⟩
set_option maxRecDepth 20000 in
theorem oc_12_202 : pm_okcp 12 (202, 0, 12, 32, 0) := ⟨pm_R12, pm_F12, 65, rfl, by decide, rfl, fun _ => rfl, gw_of (tw_5 (List.mem_of_getElem? (i := 45) rfl)) rfl⟩
set_option maxRecDepth 20000 in
theorem oc_12_205 : pm_okcp 12 (205, 0, 12, 30, 0) := ⟨pm_R12, pm_F12, 65, rfl, by decide, rfl, fun _ => rfl, gw_of (tw_5 (List.mem_of_getElem? (i := 43) rfl)) rfl⟩
set_option maxRecDepth 20000 in
theorem oc_12_208 : pm_okcp 12 (208, 0, 12, 31, 0) := ⟨pm_R12, pm_F12, 65, rfl, by decide, rfl, fun _ => rfl, gw_of (tw_5 (List.mem_of_getElem? (i := 44) rfl)) rfl⟩
set_option maxRecDepth 20000 in
theorem oc_12_211 : pm_okcp 12 (211, 0, 12, 27, 0) := ⟨pm_R12, pm_F12, 65, rfl, by decide, rfl, fun _ => rfl, gw_of (tw_5 (List.mem_of_getElem? (i := 40) rfl)) rfl⟩
set_option maxRecDepth 20000 in
theorem oc_12_214 : pm_okcp 12 (214, 2, 31, 1, 0) := ⟨pm_m31, rfl, by decide +kernel, by decide, fun _ => gw_of (tw_6 (List.mem_of_getElem? (i := 16) rfl)) rfl, fun h => absurd h (by decide), fun _ => ⟨gm_31, gs_31, fun h => absurd h (by decide), fun _ => ⟨pm_F12, 65, rfl⟩⟩, fun h => absurd h (by decide), fun h => absurd h (by decide), gc_31, gi_12⟩
set_option maxRecDepth 20000 in
theorem oc_12_217 : pm_okcp 12 (217, 2, 30, 1, 0) := ⟨pm_m30, rfl, by decide +kernel, by decide, fun _ => gw_of (tw_6 (List.mem_of_getElem? (i := 8) rfl)) rfl, fun h => absurd h (by decide), fun _ => ⟨gm_30, gs_30, fun h => absurd h (by decide), fun _ => ⟨pm_F12, 65, rfl⟩⟩, fun h => absurd h (by decide), fun h => absurd h (by decide), gc_30, gi_12⟩
set_option maxRecDepth 20000 in
theorem oc_12_221 : pm_okcp 12 (221, 2, 27, 3, 2) := ⟨pm_m27, rfl, by decide +kernel, by decide, fun _ => gw_of (tw_6 (List.mem_of_getElem? (i := 54) rfl)) rfl, fun h => absurd h (by decide), fun h => absurd h (by decide), fun h => absurd h (by decide), fun _ => gt_27, gc_27, gi_12⟩
set_option maxRecDepth 20000 in
theorem oc_12_225 : pm_okcp 12 (225, 2, 36, 2, 0) := ⟨pm_m36, rfl, by decide +kernel, by decide, fun _ => gw_of (tw_6 (List.mem_of_getElem? (i := 35) rfl)) rfl, fun h => absurd h (by decide), fun _ => ⟨gm_36, gs_36, fun h => absurd h (by decide), fun _ => ⟨pm_F12, 65, rfl⟩⟩, fun h => absurd h (by decide), fun h => absurd h (by decide), gc_36, gi_12⟩
set_option maxRecDepth 20000 in
theorem oc_12_229 : pm_okcp 12 (229, 2, 41, 1, 2) := ⟨pm_m41, rfl, by decide +kernel, by decide, fun _ => gw_of (tw_6 (List.mem_of_getElem? (i := 51) rfl)) rfl, fun h => absurd h (by decide), fun h => absurd h (by decide), fun h => absurd h (by decide), fun _ => gt_41, gc_41, gi_12⟩
set_option maxRecDepth 20000 in
theorem oc_12_233 : pm_okcp 12 (233, 2, 35, 3, 0) := ⟨pm_m35, rfl, by decide +kernel, by decide, fun _ => gw_of (tw_6 (List.mem_of_getElem? (i := 31) rfl)) rfl, fun h => absurd h (by decide), fun _ => ⟨gm_35, gs_35, fun h => absurd h (by decide), fun _ => ⟨pm_F12, 65, rfl⟩⟩, fun h => absurd h (by decide), fun h => absurd h (by decide), gc_35, gi_12⟩
set_option maxRecDepth 20000 in
theorem oc_12_237 : pm_okcp 12 (237, 0, 12, 33, 0) := ⟨pm_R12, pm_F12, 65, rfl, by decide, rfl, fun _ => rfl, gw_of (tw_5 (List.mem_of_getElem? (i := 46) rfl)) rfl⟩
set_option maxRecDepth 20000 in
theorem oc_12_240 : pm_okcp 12 (240, 2, 37, 1, 0) := ⟨pm_m37, rfl, by decide +kernel, by decide, fun _ => gw_of (tw_6 (List.mem_of_getElem? (i := 57) rfl)) rfl, fun h => absurd h (by decide), fun _ => ⟨gm_37, gs_37, fun h => absurd h (by decide), fun _ => ⟨pm_F12, 65, rfl⟩⟩, fun h => absurd h (by decide), fun h => absurd h (by decide), gc_37, gi_12⟩
set_option maxRecDepth 20000 in
theorem oc_12_243 : pm_okcp 12 (243, 2, 38, 1, 0) := ⟨pm_m38, rfl, by decide +kernel, by decide, fun _ => gw_of (tw_6 (List.mem_of_getElem? (i := 61) rfl)) rfl, fun h => absurd h (by decide), fun _ => ⟨gm_38, gs_38, fun h => absurd h (by decide), fun _ => ⟨pm_F12, 65, rfl⟩⟩, fun h => absurd h (by decide), fun h => absurd h (by decide), gc_38, gi_12⟩
set_option maxRecDepth 20000 in
theorem oc_12_247 : pm_okcp 12 (247, 2, 39, 0, 0) := ⟨pm_m39, rfl, by decide +kernel, by decide, fun _ => gw_of (tw_6 (List.mem_of_getElem? (i := 39) rfl)) rfl, fun h => absurd h (by decide), fun _ => ⟨gm_39, gs_39, fun h => absurd h (by decide), fun _ => ⟨pm_F12, 65, rfl⟩⟩, fun h => absurd h (by decide), fun h => absurd h (by decide), gc_39, gi_12⟩
set_option maxRecDepth 20000 in
theorem oc_12_250 : pm_okcp 12 (250, 2, 40, 0, 0) := ⟨pm_m40, rfl, by decide +kernel, by decide, fun _ => gw_of (tw_6 (List.mem_of_getElem? (i := 43) rfl)) rfl, fun h => absurd h (by decide), fun _ => ⟨gm_40, gs_40, fun h => absurd h (by decide), fun _ => ⟨pm_F12, 65, rfl⟩⟩, fun h => absurd h (by decide), fun h => absurd h (by decide), gc_40, gi_12⟩
set_option maxRecDepth 20000 in
theorem oc_12_254 : pm_okcp 12 (254, 2, 23, 1, 2) := ⟨pm_m23, rfl, by decide +kernel, by decide, fun _ => gw_of (tw_6 (List.mem_of_getElem? (i := 24) rfl)) rfl, fun h => absurd h (by decide), fun h => absurd h (by decide), fun h => absurd h (by decide), fun _ => gt_23, gc_23, gi_12⟩
set_option maxRecDepth 20000 in
theorem oc_12_257 : pm_okcp 12 (257, 2, 43, 1, 0) := ⟨pm_m43, rfl, by decide +kernel, by decide, fun _ => gw_of (tw_6 (List.mem_of_getElem? (i := 27) rfl)) rfl, fun h => absurd h (by decide), fun _ => ⟨gm_43, gs_43, fun h => absurd h (by decide), fun _ => ⟨pm_F12, 65, rfl⟩⟩, fun h => absurd h (by decide), fun h => absurd h (by decide), gc_43, gi_12⟩
set_option maxRecDepth 20000 in
theorem oc_12_260 : pm_okcp 12 (260, 2, 42, 1, 0) := ⟨pm_m42, rfl, by decide +kernel, by decide, fun _ => gw_of (tw_6 (List.mem_of_getElem? (i := 47) rfl)) rfl, fun h => absurd h (by decide), fun _ => ⟨gm_42, gs_42, fun h => absurd h (by decide), fun _ => ⟨pm_F12, 65, rfl⟩⟩, fun h => absurd h (by decide), fun h => absurd h (by decide), gc_42, gi_12⟩
set_option maxRecDepth 20000 in
theorem oc_12_263 : pm_okcp 12 (263, 2, 44, 1, 0) := ⟨pm_m44, rfl, by decide +kernel, by decide, fun _ => gw_of (tw_6 (List.mem_of_getElem? (i := 20) rfl)) rfl, fun h => absurd h (by decide), fun _ => ⟨gm_44, gs_44, fun h => absurd h (by decide), fun _ => ⟨pm_F12, 65, rfl⟩⟩, fun h => absurd h (by decide), fun h => absurd h (by decide), gc_44, gi_12⟩
set_option maxRecDepth 20000 in
theorem oc_12_266 : pm_okcp 12 (266, 2, 46, 1, 0) := ⟨pm_m46, rfl, by decide +kernel, by decide, fun _ => gw_of (tw_6 (List.mem_of_getElem? (i := 73) rfl)) rfl, fun h => absurd h (by decide), fun _ => ⟨gm_46, gs_46, fun h => absurd h (by decide), fun _ => ⟨pm_F12, 65, rfl⟩⟩, fun h => absurd h (by decide), fun h => absurd h (by decide), gc_46, gi_12⟩
set_option maxRecDepth 20000 in
theorem oc_12_269 : pm_okcp 12 (269, 6, 511, 0, 0) := gw_of (tw_6 (List.mem_of_getElem? (i := 172) rfl)) rfl
set_option maxRecDepth 20000 in
theorem oc_12_271 : pm_okcp 12 (271, 2, 50, 0, 0) := ⟨pm_m50, rfl, by decide +kernel, by decide, fun _ => gw_of (tw_6 (List.mem_of_getElem? (i := 85) rfl)) rfl, fun h => absurd h (by decide), fun _ => ⟨gm_50, gs_50, fun h => absurd h (by decide), fun _ => ⟨pm_F12, 65, rfl⟩⟩, fun h => absurd h (by decide), fun h => absurd h (by decide), gc_50, gi_12⟩
set_option maxRecDepth 20000 in
theorem oc_12_274 : pm_okcp 12 (274, 2, 49, 3, 0) := ⟨pm_m49, rfl, by decide +kernel, by decide, fun _ => gw_of (tw_6 (List.mem_of_getElem? (i := 89) rfl)) rfl, fun h => absurd h (by decide), fun _ => ⟨gm_49, gs_49, fun h => absurd h (by decide), fun _ => ⟨pm_F12, 65, rfl⟩⟩, fun h => absurd h (by decide), fun h => absurd h (by decide), gc_49, gi_12⟩
set_option maxRecDepth 20000 in
theorem oc_12_277 : pm_okcp 12 (277, 2, 53, 1, 0) := ⟨pm_m53, rfl, by decide +kernel, by decide, fun _ => gw_of (tw_6 (List.mem_of_getElem? (i := 93) rfl)) rfl, fun h => absurd h (by decide), fun _ => ⟨gm_53, gs_53, fun h => absurd h (by decide), fun _ => ⟨pm_F12, 65, rfl⟩⟩, fun h => absurd h (by decide), fun h => absurd h (by decide), gc_53, gi_12⟩
set_option maxRecDepth 20000 in
theorem oc_12_280 : pm_okcp 12 (280, 2, 56, 2, 2) := ⟨pm_m56, rfl, by decide +kernel, by decide, fun _ => gw_of (tw_6 (List.mem_of_getElem? (i := 101) rfl)) rfl, fun h => absurd h (by decide), fun h => absurd h (by decide), fun h => absurd h (by decide), fun _ => gt_56, gc_56, gi_12⟩
set_option maxRecDepth 20000 in
theorem oc_12_284 : pm_okcp 12 (284, 2, 55, 1, 0) := ⟨pm_m55, rfl, by decide +kernel, by decide, fun _ => gw_of (tw_6 (List.mem_of_getElem? (i := 104) rfl)) rfl, fun h => absurd h (by decide), fun _ => ⟨gm_55, gs_55, fun h => absurd h (by decide), fun _ => ⟨pm_F12, 65, rfl⟩⟩, fun h => absurd h (by decide), fun h => absurd h (by decide), gc_55, gi_12⟩
set_option maxRecDepth 20000 in
theorem oc_12_287 : pm_okcp 12 (287, 2, 32, 0, 0) := ⟨pm_m32, rfl, by decide +kernel, by decide, fun _ => gw_of (tw_5 (List.mem_of_getElem? (i := 221) rfl)) rfl, fun h => absurd h (by decide), fun _ => ⟨gm_32, gs_32, fun h => absurd h (by decide), fun _ => ⟨pm_F12, 65, rfl⟩⟩, fun h => absurd h (by decide), fun h => absurd h (by decide), gc_32, gi_12⟩
set_option maxRecDepth 20000 in
theorem oc_12_290 : pm_okcp 12 (290, 2, 47, 0, 0) := ⟨pm_m47, rfl, by decide +kernel, by decide, fun _ => gw_of (tw_6 (List.mem_of_getElem? (i := 69) rfl)) rfl, fun h => absurd h (by decide), fun _ => ⟨gm_47, gs_47, fun h => absurd h (by decide), fun _ => ⟨pm_F12, 65, rfl⟩⟩, fun h => absurd h (by decide), fun h => absurd h (by decide), gc_47, gi_12⟩
set_option maxRecDepth 20000 in
theorem oc_12_293 : pm_okcp 12 (293, 2, 48, 0, 0) := ⟨pm_m48, rfl, by decide +kernel, by decide, fun _ => gw_of (tw_6 (List.mem_of_getElem? (i := 77) rfl)) rfl, fun h => absurd h (by decide), fun _ => ⟨gm_48, gs_48, fun h => absurd h (by decide), fun _ => ⟨pm_F12, 65, rfl⟩⟩, fun h => absurd h (by decide), fun h => absurd h (by decide), gc_48, gi_12⟩
set_option maxRecDepth 20000 in
theorem oc_12_296 : pm_okcp 12 (296, 2, 54, 0, 0) := ⟨pm_m54, rfl, by decide +kernel, by decide, fun _ => gw_of (tw_6 (List.mem_of_getElem? (i := 81) rfl)) rfl, fun h => absurd h (by decide), fun _ => ⟨gm_54, gs_54, fun h => absurd h (by decide), fun _ => ⟨pm_F12, 65, rfl⟩⟩, fun h => absurd h (by decide), fun h => absurd h (by decide), gc_54, gi_12⟩
set_option maxRecDepth 20000 in
theorem oc_12_299 : pm_okcp 12 (299, 2, 57, 0, 0) := ⟨pm_m57, rfl, by decide +kernel, by decide, fun _ => gw_of (tw_6 (List.mem_of_getElem? (i := 97) rfl)) rfl, fun h => absurd h (by decide), fun _ => ⟨gm_57, gs_57, fun h => absurd h (by decide), fun _ => ⟨pm_F12, 65, rfl⟩⟩, fun h => absurd h (by decide), fun h => absurd h (by decide), gc_57, gi_12⟩
set_option maxRecDepth 20000 in
theorem oc_12_302 : pm_okcp 12 (302, 0, 12, 9, 0) := ⟨pm_R12, pm_F12, 65, rfl, by decide, rfl, fun _ => rfl, gw_of (tw_5 (List.mem_of_getElem? (i := 22) rfl)) rfl⟩
set_option maxRecDepth 20000 in
theorem oc_12_305 : pm_okcp 12 (305, 2, 61, 1, 0) := ⟨pm_m61, rfl, by decide +kernel, by decide, fun _ => gw_of (tw_6 (List.mem_of_getElem? (i := 132) rfl)) rfl, fun h => absurd h (by decide), fun _ => ⟨gm_61, gs_61, fun h => absurd h (by decide), fun _ => ⟨pm_F12, 65, rfl⟩⟩, fun h => absurd h (by decide), fun h => absurd h (by decide), gc_61, gi_12⟩
set_option maxRecDepth 20000 in
theorem oc_12_308 : pm_okcp 12 (308, 2, 62, 2, 0) := ⟨pm_m62, rfl, by decide +kernel, by decide, fun _ => gw_of (tw_6 (List.mem_of_getElem? (i := 164) rfl)) rfl, fun h => absurd h (by decide), fun _ => ⟨gm_62, gs_62, fun h => absurd h (by decide), fun _ => ⟨pm_F12, 65, rfl⟩⟩, fun h => absurd h (by decide), fun h => absurd h (by decide), gc_62, gi_12⟩
set_option maxRecDepth 20000 in
theorem oc_12_311 : pm_okcp 12 (311, 2, 63, 2, 0) := ⟨pm_m63, rfl, by decide +kernel, by decide, fun _ => gw_of (tw_6 (List.mem_of_getElem? (i := 160) rfl)) rfl, fun h => absurd h (by decide), fun _ => ⟨gm_63, gs_63, fun h => absurd h (by decide), fun _ => ⟨pm_F12, 65, rfl⟩⟩, fun h => absurd h (by decide), fun h => absurd h (by decide), gc_63, gi_12⟩
set_option maxRecDepth 20000 in
theorem oc_12_314 : pm_okcp 12 (314, 2, 64, 2, 0) := ⟨pm_m64, rfl, by decide +kernel, by decide, fun _ => gw_of (tw_6 (List.mem_of_getElem? (i := 152) rfl)) rfl, fun h => absurd h (by decide), fun _ => ⟨gm_64, gs_64, fun h => absurd h (by decide), fun _ => ⟨pm_F12, 65, rfl⟩⟩, fun h => absurd h (by decide), fun h => absurd h (by decide), gc_64, gi_12⟩
set_option maxRecDepth 20000 in
theorem oc_12_317 : pm_okcp 12 (317, 2, 65, 3, 0) := ⟨pm_m65, rfl, by decide +kernel, by decide, fun _ => gw_of (tw_6 (List.mem_of_getElem? (i := 156) rfl)) rfl, fun h => absurd h (by decide), fun _ => ⟨gm_65, gs_65, fun h => absurd h (by decide), fun _ => ⟨pm_F12, 65, rfl⟩⟩, fun h => absurd h (by decide), fun h => absurd h (by decide), gc_65, gi_12⟩
set_option maxRecDepth 20000 in
theorem oc_12_320 : pm_okcp 12 (320, 0, 12, 40, 0) := ⟨pm_R12, pm_F12, 65, rfl, by decide, rfl, fun _ => rfl, gw_of (tw_5 (List.mem_of_getElem? (i := 53) rfl)) rfl⟩
set_option maxRecDepth 20000 in
theorem oc_12_323 : pm_okcp 12 (323, 2, 51, 1, 0) := ⟨pm_m51, rfl, by decide +kernel, by decide, fun _ => gw_of (tw_6 (List.mem_of_getElem? (i := 144) rfl)) rfl, fun h => absurd h (by decide), fun _ => ⟨gm_51, gs_51, fun h => absurd h (by decide), fun _ => ⟨pm_F12, 65, rfl⟩⟩, fun h => absurd h (by decide), fun h => absurd h (by decide), gc_51, gi_12⟩
set_option maxRecDepth 20000 in
theorem oc_12_326 : pm_okcp 12 (326, 2, 66, 2, 0) := ⟨pm_m66, rfl, by decide +kernel, by decide, fun _ => gw_of (tw_6 (List.mem_of_getElem? (i := 148) rfl)) rfl, fun h => absurd h (by decide), fun _ => ⟨gm_66, gs_66, fun h => absurd h (by decide), fun _ => ⟨pm_F12, 65, rfl⟩⟩, fun h => absurd h (by decide), fun h => absurd h (by decide), gc_66, gi_12⟩
set_option maxRecDepth 20000 in
theorem oc_12_329 : pm_okcp 12 (329, 2, 52, 2, 0) := ⟨pm_m52, rfl, by decide +kernel, by decide, fun _ => gw_of (tw_6 (List.mem_of_getElem? (i := 168) rfl)) rfl, fun h => absurd h (by decide), fun _ => ⟨gm_52, gs_52, fun h => absurd h (by decide), fun _ => ⟨pm_F12, 65, rfl⟩⟩, fun h => absurd h (by decide), fun h => absurd h (by decide), gc_52, gi_12⟩
set_option maxRecDepth 20000 in
theorem oc_12_332 : pm_okcp 12 (332, 0, 12, 52, 0) := ⟨pm_R12, pm_F12, 65, rfl, by decide, rfl, fun _ => rfl, gw_of (tw_5 (List.mem_of_getElem? (i := 65) rfl)) rfl⟩
set_option maxRecDepth 20000 in
theorem oc_12_335 : pm_okcp 12 (335, 2, 68, 2, 0) := ⟨pm_m68, rfl, by decide +kernel, by decide, fun _ => gw_of (tw_6 (List.mem_of_getElem? (i := 185) rfl)) rfl, fun h => absurd h (by decide), fun _ => ⟨gm_68, gs_68, fun h => absurd h (by decide), fun _ => ⟨pm_F12, 65, rfl⟩⟩, fun h => absurd h (by decide), fun h => absurd h (by decide), gc_68, gi_12⟩
set_option maxRecDepth 20000 in
theorem oc_12_338 : pm_okcp 12 (338, 2, 70, 1, 0) := ⟨pm_m70, rfl, by decide +kernel, by decide, fun _ => gw_of (tw_6 (List.mem_of_getElem? (i := 181) rfl)) rfl, fun h => absurd h (by decide), fun _ => ⟨gm_70, gs_70, fun h => absurd h (by decide), fun _ => ⟨pm_F12, 65, rfl⟩⟩, fun h => absurd h (by decide), fun h => absurd h (by decide), gc_70, gi_12⟩
set_option maxRecDepth 20000 in
theorem oc_12_341 : pm_okcp 12 (341, 2, 69, 2, 0) := ⟨pm_m69, rfl, by decide +kernel, by decide, fun _ => gw_of (tw_6 (List.mem_of_getElem? (i := 193) rfl)) rfl, fun h => absurd h (by decide), fun _ => ⟨gm_69, gs_69, fun h => absurd h (by decide), fun _ => ⟨pm_F12, 65, rfl⟩⟩, fun h => absurd h (by decide), fun h => absurd h (by decide), gc_69, gi_12⟩
set_option maxRecDepth 20000 in
theorem oc_12_344 : pm_okcp 12 (344, 0, 12, 56, 0) := ⟨pm_R12, pm_F12, 65, rfl, by decide, rfl, fun _ => rfl, gw_of (tw_5 (List.mem_of_getElem? (i := 69) rfl)) rfl⟩
set_option maxRecDepth 20000 in
theorem oc_12_347 : pm_okcp 12 (347, 2, 71, 2, 0) := ⟨pm_m71, rfl, by decide +kernel, by decide, fun _ => gw_of (tw_6 (List.mem_of_getElem? (i := 177) rfl)) rfl, fun h => absurd h (by decide), fun _ => ⟨gm_71, gs_71, fun h => absurd h (by decide), fun _ => ⟨pm_F12, 65, rfl⟩⟩, fun h => absurd h (by decide), fun h => absurd h (by decide), gc_71, gi_12⟩
set_option maxRecDepth 20000 in
theorem oc_12_350 : pm_okcp 12 (350, 2, 72, 1, 0) := ⟨pm_m72, rfl, by decide +kernel, by decide, fun _ => gw_of (tw_6 (List.mem_of_getElem? (i := 189) rfl)) rfl, fun h => absurd h (by decide), fun _ => ⟨gm_72, gs_72, fun h => absurd h (by decide), fun _ => ⟨pm_F12, 65, rfl⟩⟩, fun h => absurd h (by decide), fun h => absurd h (by decide), gc_72, gi_12⟩
set_option maxRecDepth 20000 in
theorem oc_12_353 : pm_okcp 12 (353, 0, 12, 62, 0) := ⟨pm_R12, pm_F12, 65, rfl, by decide, rfl, fun _ => rfl, gw_of (tw_5 (List.mem_of_getElem? (i := 75) rfl)) rfl⟩
set_option maxRecDepth 20000 in
theorem oc_12_356 : pm_okcp 12 (356, 2, 74, 2, 0) := ⟨pm_m74, rfl, by decide +kernel, by decide, fun _ => gw_of (tw_6 (List.mem_of_getElem? (i := 201) rfl)) rfl, fun h => absurd h (by decide), fun _ => ⟨gm_74, gs_74, fun h => absurd h (by decide), fun _ => ⟨pm_F12, 65, rfl⟩⟩, fun h => absurd h (by decide), fun h => absurd h (by decide), gc_74, gi_12⟩
set_option maxRecDepth 20000 in
theorem oc_12_359 : pm_okcp 12 (359, 2, 75, 4, 0) := ⟨pm_m75, rfl, by decide +kernel, by decide, fun _ => gw_of (tw_6 (List.mem_of_getElem? (i := 205) rfl)) rfl, fun h => absurd h (by decide), fun _ => ⟨gm_75, gs_75, fun h => absurd h (by decide), fun _ => ⟨pm_F12, 65, rfl⟩⟩, fun h => absurd h (by decide), fun h => absurd h (by decide), gc_75, gi_12⟩
set_option maxRecDepth 20000 in
theorem oc_12_363 : pm_okcp 12 (363, 2, 76, 2, 0) := ⟨pm_m76, rfl, by decide +kernel, by decide, fun _ => gw_of (tw_6 (List.mem_of_getElem? (i := 209) rfl)) rfl, fun h => absurd h (by decide), fun _ => ⟨gm_76, gs_76, fun h => absurd h (by decide), fun _ => ⟨pm_F12, 65, rfl⟩⟩, fun h => absurd h (by decide), fun h => absurd h (by decide), gc_76, gi_12⟩
set_option maxRecDepth 20000 in
theorem oc_12_366 : pm_okcp 12 (366, 0, 12, 34, 0) := ⟨pm_R12, pm_F12, 65, rfl, by decide, rfl, fun _ => rfl, gw_of (tw_5 (List.mem_of_getElem? (i := 47) rfl)) rfl⟩
set_option maxRecDepth 20000 in
theorem oc_12_369 : pm_okcp 12 (369, 2, 33, 2, 0) := ⟨pm_m33, rfl, by decide +kernel, by decide, fun _ => gw_of (tw_6 (List.mem_of_getElem? (i := 136) rfl)) rfl, fun h => absurd h (by decide), fun _ => ⟨gm_33, gs_33, fun h => absurd h (by decide), fun _ => ⟨pm_F12, 65, rfl⟩⟩, fun h => absurd h (by decide), fun h => absurd h (by decide), gc_33, gi_12⟩
set_option maxRecDepth 20000 in
theorem oc_12_372 : pm_okcp 12 (372, 2, 67, 2, 0) := ⟨pm_m67, rfl, by decide +kernel, by decide, fun _ => gw_of (tw_6 (List.mem_of_getElem? (i := 140) rfl)) rfl, fun h => absurd h (by decide), fun _ => ⟨gm_67, gs_67, fun h => absurd h (by decide), fun _ => ⟨pm_F12, 65, rfl⟩⟩, fun h => absurd h (by decide), fun h => absurd h (by decide), gc_67, gi_12⟩
set_option maxRecDepth 20000 in
theorem oc_12_375 : pm_okcp 12 (375, 0, 12, 38, 0) := ⟨pm_R12, pm_F12, 65, rfl, by decide, rfl, fun _ => rfl, gw_of (tw_5 (List.mem_of_getElem? (i := 51) rfl)) rfl⟩
set_option maxRecDepth 20000 in
theorem oc_12_378 : pm_okcp 12 (378, 2, 73, 0, 0) := ⟨pm_m73, rfl, by decide +kernel, by decide, fun _ => gw_of (tw_6 (List.mem_of_getElem? (i := 173) rfl)) rfl, fun h => absurd h (by decide), fun _ => ⟨gm_73, gs_73, fun h => absurd h (by decide), fun _ => ⟨pm_F12, 65, rfl⟩⟩, fun h => absurd h (by decide), fun h => absurd h (by decide), gc_73, gi_12⟩
set_option maxRecDepth 20000 in
theorem oc_12_381 : pm_okcp 12 (381, 2, 77, 1, 0) := ⟨pm_m77, rfl, by decide +kernel, by decide, fun _ => gw_of (tw_6 (List.mem_of_getElem? (i := 197) rfl)) rfl, fun h => absurd h (by decide), fun _ => ⟨gm_77, gs_77, fun h => absurd h (by decide), fun _ => ⟨pm_F12, 65, rfl⟩⟩, fun h => absurd h (by decide), fun h => absurd h (by decide), gc_77, gi_12⟩
set_option maxRecDepth 20000 in
theorem oc_12_384 : pm_okcp 12 (384, 2, 80, 2, 0) := ⟨pm_m80, rfl, by decide +kernel, by decide, fun _ => gw_of (tw_6 (List.mem_of_getElem? (i := 213) rfl)) rfl, fun h => absurd h (by decide), fun _ => ⟨gm_80, gs_80, fun h => absurd h (by decide), fun _ => ⟨pm_F12, 65, rfl⟩⟩, fun h => absurd h (by decide), fun h => absurd h (by decide), gc_80, gi_12⟩
set_option maxRecDepth 20000 in
theorem oc_12_387 : pm_okcp 12 (387, 0, 12, 37, 0) := ⟨pm_R12, pm_F12, 65, rfl, by decide, rfl, fun _ => rfl, gw_of (tw_5 (List.mem_of_getElem? (i := 50) rfl)) rfl⟩
set_option maxRecDepth 20000 in
theorem oc_12_390 : pm_okcp 12 (390, 2, 78, 0, 0) := ⟨pm_m78, rfl, by decide +kernel, by decide, fun _ => gw_of (tw_6 (List.mem_of_getElem? (i := 120) rfl)) rfl, fun h => absurd h (by decide), fun _ => ⟨gm_78, gs_78, fun h => absurd h (by decide), fun _ => ⟨pm_F12, 65, rfl⟩⟩, fun h => absurd h (by decide), fun h => absurd h (by decide), gc_78, gi_12⟩
set_option maxRecDepth 20000 in
theorem oc_12_393 : pm_okcp 12 (393, 2, 79, 1, 0) := ⟨pm_m79, rfl, by decide +kernel, by decide, fun _ => gw_of (tw_6 (List.mem_of_getElem? (i := 124) rfl)) rfl, fun h => absurd h (by decide), fun _ => ⟨gm_79, gs_79, fun h => absurd h (by decide), fun _ => ⟨pm_F12, 65, rfl⟩⟩, fun h => absurd h (by decide), fun h => absurd h (by decide), gc_79, gi_12⟩
set_option maxRecDepth 20000 in
theorem oc_12_396 : pm_okcp 12 (396, 2, 81, 1, 0) := ⟨pm_m81, rfl, by decide +kernel, by decide, fun _ => gw_of (tw_6 (List.mem_of_getElem? (i := 128) rfl)) rfl, fun h => absurd h (by decide), fun _ => ⟨gm_81, gs_81, fun h => absurd h (by decide), fun _ => ⟨pm_F12, 65, rfl⟩⟩, fun h => absurd h (by decide), fun h => absurd h (by decide), gc_81, gi_12⟩
set_option maxRecDepth 20000 in
theorem oc_12_399 : pm_okcp 12 (399, 2, 85, 1, 0) := ⟨pm_m85, rfl, by decide +kernel, by decide, fun _ => gw_of (tw_6 (List.mem_of_getElem? (i := 229) rfl)) rfl, fun h => absurd h (by decide), fun _ => ⟨gm_85, gs_85, fun h => absurd h (by decide), fun _ => ⟨pm_F12, 65, rfl⟩⟩, fun h => absurd h (by decide), fun h => absurd h (by decide), gc_85, gi_12⟩
set_option maxRecDepth 20000 in
theorem op_12 : ∀ (idx : Nat) (e : Nat × Nat × Nat × Nat), pm_p12 idx = some e → pm_okcp 12 (idx, e) := pm_nd_ok (pm_nd_ok (pm_nd_ok (pm_nd_ok (pm_nd_ok (pm_lks (List.forall_mem_cons.mpr ⟨oc_12_1, List.forall_mem_cons.mpr ⟨oc_12_7, List.forall_mem_cons.mpr ⟨oc_12_13, fun _ h => absurd h List.not_mem_nil⟩⟩⟩)) (pm_lks (List.forall_mem_cons.mpr ⟨oc_12_16, List.forall_mem_cons.mpr ⟨oc_12_19, List.forall_mem_cons.mpr ⟨oc_12_22, List.forall_mem_cons.mpr ⟨oc_12_25, fun _ h => absurd h List.not_mem_nil⟩⟩⟩⟩))) (pm_nd_ok (pm_lks (List.forall_mem_cons.mpr ⟨oc_12_28, List.forall_mem_cons.mpr ⟨oc_12_31, List.forall_mem_cons.mpr ⟨oc_12_34, List.forall_mem_cons.mpr ⟨oc_12_37, fun _ h => absurd h List.not_mem_nil⟩⟩⟩⟩)) (pm_lks (List.forall_mem_cons.mpr ⟨oc_12_40, List.forall_mem_cons.mpr ⟨oc_12_43, List.forall_mem_cons.mpr ⟨oc_12_46, List.forall_mem_cons.mpr ⟨oc_12_49, fun _ h => absurd h List.not_mem_nil⟩⟩⟩⟩)))) (pm_nd_ok (pm_nd_ok (pm_lks (List.forall_mem_cons.mpr ⟨oc_12_52, List.forall_mem_cons.mpr ⟨oc_12_55, List.forall_mem_cons.mpr ⟨oc_12_58, List.forall_mem_cons.mpr ⟨oc_12_61, fun _ h => absurd h List.not_mem_nil⟩⟩⟩⟩)) (pm_lks (List.forall_mem_cons.mpr ⟨oc_12_64, List.forall_mem_cons.mpr ⟨oc_12_67, List.forall_mem_cons.mpr ⟨oc_12_70, List.forall_mem_cons.mpr ⟨oc_12_73, fun _ h => absurd h List.not_mem_nil⟩⟩⟩⟩))) (pm_nd_ok (pm_lks (List.forall_mem_cons.mpr ⟨oc_12_76, List.forall_mem_cons.mpr ⟨oc_12_79, List.forall_mem_cons.mpr ⟨oc_12_82, List.forall_mem_cons.mpr ⟨oc_12_85, fun _ h => absurd h List.not_mem_nil⟩⟩⟩⟩)) (pm_lks (List.forall_mem_cons.mpr ⟨oc_12_88, List.forall_mem_cons.mpr ⟨oc_12_91, List.forall_mem_cons.mpr ⟨oc_12_95, List.forall_mem_cons.mpr ⟨oc_12_98, fun _ h => absurd h List.not_mem_nil⟩⟩⟩⟩))))) (pm_nd_ok (pm_nd_ok (pm_nd_ok (pm_lks (List.forall_mem_cons.mpr ⟨oc_12_101, List.forall_mem_cons.mpr ⟨oc_12_104, List.forall_mem_cons.mpr ⟨oc_12_107, List.forall_mem_cons.mpr ⟨oc_12_110, fun _ h => absurd h List.not_mem_nil⟩⟩⟩⟩)) (pm_lks (List.forall_mem_cons.mpr ⟨oc_12_113, List.forall_mem_cons.mpr ⟨oc_12_116, List.forall_mem_cons.mpr ⟨oc_12_119, List.forall_mem_cons.mpr ⟨oc_12_122, fun _ h => absurd h List.not_mem_nil⟩⟩⟩⟩))) (pm_nd_ok (pm_lks (List.forall_mem_cons.mpr ⟨oc_12_125, List.forall_mem_cons.mpr ⟨oc_12_128, List.forall_mem_cons.mpr ⟨oc_12_131, List.forall_mem_cons.mpr ⟨oc_12_134, fun _ h => absurd h List.not_mem_nil⟩⟩⟩⟩)) (pm_lks (List.forall_mem_cons.mpr ⟨oc_12_137, List.forall_mem_cons.mpr ⟨oc_12_140, List.forall_mem_cons.mpr ⟨oc_12_143, List.forall_mem_cons.mpr ⟨oc_12_146, fun _ h => absurd h List.not_mem_nil⟩⟩⟩⟩)))) (pm_nd_ok (pm_nd_ok (pm_lks (List.forall_mem_cons.mpr ⟨oc_12_150, List.forall_mem_cons.mpr ⟨oc_12_154, List.forall_mem_cons.mpr ⟨oc_12_157, List.forall_mem_cons.mpr ⟨oc_12_160, fun _ h => absurd h List.not_mem_nil⟩⟩⟩⟩)) (pm_lks (List.forall_mem_cons.mpr ⟨oc_12_163, List.forall_mem_cons.mpr ⟨oc_12_167, List.forall_mem_cons.mpr ⟨oc_12_170, List.forall_mem_cons.mpr ⟨oc_12_173, fun _ h => absurd h List.not_mem_nil⟩⟩⟩⟩))) (pm_nd_ok (pm_lks (List.forall_mem_cons.mpr ⟨oc_12_176, List.forall_mem_cons.mpr ⟨oc_12_179, List.forall_mem_cons.mpr ⟨oc_12_182, List.forall_mem_cons.mpr ⟨oc_12_185, fun _ h => absurd h List.not_mem_nil⟩⟩⟩⟩)) (pm_lks (List.forall_mem_cons.mpr ⟨oc_12_188, List.forall_mem_cons.mpr ⟨oc_12_192, List.forall_mem_cons.mpr ⟨oc_12_195, List.forall_mem_cons.mpr ⟨oc_12_198, fun _ h => absurd h List.not_mem_nil⟩⟩⟩⟩)))))) (pm_nd_ok (pm_nd_ok (pm_nd_ok (pm_nd_ok (pm_lks (List.forall_mem_cons.mpr ⟨oc_12_202, List.forall_mem_cons.mpr ⟨oc_12_205, List.forall_mem_cons.mpr ⟨oc_12_208, List.forall_mem_cons.mpr ⟨oc_12_211, fun _ h => absurd h List.not_mem_nil⟩⟩⟩⟩)) (pm_lks (List.forall_mem_cons.mpr ⟨oc_12_214, List.forall_mem_cons.mpr ⟨oc_12_217, List.forall_mem_cons.mpr ⟨oc_12_221, List.forall_mem_cons.mpr ⟨oc_12_225, fun _ h => absurd h List.not_mem_nil⟩⟩⟩⟩))) (pm_nd_ok (pm_lks (List.forall_mem_cons.mpr ⟨oc_12_229, List.forall_mem_cons.mpr ⟨oc_12_233, List.forall_mem_cons.mpr ⟨oc_12_237, List.forall_mem_cons.mpr ⟨oc_12_240, fun _ h => absurd h List.not_mem_nil⟩⟩⟩⟩)) (pm_lks (List.forall_mem_cons.mpr ⟨oc_12_243, List.forall_mem_cons.mpr ⟨oc_12_247, List.forall_mem_cons.mpr ⟨oc_12_250, List.forall_mem_cons.mpr ⟨oc_12_254, fun _ h => absurd h List.not_mem_nil⟩⟩⟩⟩)))) (pm_nd_ok (pm_nd_ok (pm_lks (List.forall_mem_cons.mpr ⟨oc_12_257, List.forall_mem_cons.mpr ⟨oc_12_260, List.forall_mem_cons.mpr ⟨oc_12_263, List.forall_mem_cons.mpr ⟨oc_12_266, fun _ h => absurd h List.not_mem_nil⟩⟩⟩⟩)) (pm_lks (List.forall_mem_cons.mpr ⟨oc_12_269, List.forall_mem_cons.mpr ⟨oc_12_271, List.forall_mem_cons.mpr ⟨oc_12_274, List.forall_mem_cons.mpr ⟨oc_12_277, fun _ h => absurd h List.not_mem_nil⟩⟩⟩⟩))) (pm_nd_ok (pm_lks (List.forall_mem_cons.mpr ⟨oc_12_280, List.forall_mem_cons.mpr ⟨oc_12_284, List.forall_mem_cons.mpr ⟨oc_12_287, List.forall_mem_cons.mpr ⟨oc_12_290, fun _ h => absurd h List.not_mem_nil⟩⟩⟩⟩)) (pm_lks (List.forall_mem_cons.mpr ⟨oc_12_293, List.forall_mem_cons.mpr ⟨oc_12_296, List.forall_mem_cons.mpr ⟨oc_12_299, List.forall_mem_cons.mpr ⟨oc_12_302, fun _ h => absurd h List.not_mem_nil⟩⟩⟩⟩))))) (pm_nd_ok (pm_nd_ok (pm_nd_ok (pm_lks (List.forall_mem_cons.mpr ⟨oc_12_305, List.forall_mem_cons.mpr ⟨oc_12_308, List.forall_mem_cons.mpr ⟨oc_12_311, List.forall_mem_cons.mpr ⟨oc_12_314, fun _ h => absurd h List.not_mem_nil⟩⟩⟩⟩)) (pm_lks (List.forall_mem_cons.mpr ⟨oc_12_317, List.forall_mem_cons.mpr ⟨oc_12_320, List.forall_mem_cons.mpr ⟨oc_12_323, List.forall_mem_cons.mpr ⟨oc_12_326, fun _ h => absurd h List.not_mem_nil⟩⟩⟩⟩))) (pm_nd_ok (pm_lks (List.forall_mem_cons.mpr ⟨oc_12_329, List.forall_mem_cons.mpr ⟨oc_12_332, List.forall_mem_cons.mpr ⟨oc_12_335, List.forall_mem_cons.mpr ⟨oc_12_338, fun _ h => absurd h List.not_mem_nil⟩⟩⟩⟩)) (pm_lks (List.forall_mem_cons.mpr ⟨oc_12_341, List.forall_mem_cons.mpr ⟨oc_12_344, List.forall_mem_cons.mpr ⟨oc_12_347, List.forall_mem_cons.mpr ⟨oc_12_350, fun _ h => absurd h List.not_mem_nil⟩⟩⟩⟩)))) (pm_nd_ok (pm_nd_ok (pm_lks (List.forall_mem_cons.mpr ⟨oc_12_353, List.forall_mem_cons.mpr ⟨oc_12_356, List.forall_mem_cons.mpr ⟨oc_12_359, List.forall_mem_cons.mpr ⟨oc_12_363, fun _ h => absurd h List.not_mem_nil⟩⟩⟩⟩)) (pm_lks (List.forall_mem_cons.mpr ⟨oc_12_366, List.forall_mem_cons.mpr ⟨oc_12_369, List.forall_mem_cons.mpr ⟨oc_12_372, List.forall_mem_cons.mpr ⟨oc_12_375, fun _ h => absurd h List.not_mem_nil⟩⟩⟩⟩))) (pm_nd_ok (pm_lks (List.forall_mem_cons.mpr ⟨oc_12_378, List.forall_mem_cons.mpr ⟨oc_12_381, List.forall_mem_cons.mpr ⟨oc_12_384, List.forall_mem_cons.mpr ⟨oc_12_387, fun _ h => absurd h List.not_mem_nil⟩⟩⟩⟩)) (pm_lks (List.forall_mem_cons.mpr ⟨oc_12_390, List.forall_mem_cons.mpr ⟨oc_12_393, List.forall_mem_cons.mpr ⟨oc_12_396, List.forall_mem_cons.mpr ⟨oc_12_399, fun _ h => absurd h List.not_mem_nil⟩⟩⟩⟩))))))
set_option maxRecDepth 20000 in
theorem oc_13_7 : pm_okcp 13 (7, 1, 0, 0, 0) := ⟨pm_R0, pm_F0, 6, rfl, gw_of (tw_1 (List.mem_of_getElem? (i := 21) rfl)) rfl, gn_0, gi_0⟩
set_option maxRecDepth 20000 in
theorem oc_13_9 : pm_okcp 13 (9, 2, 0, 0, 1) := ⟨pm_m0, rfl, by decide +kernel, by decide, fun _ => gw_of (tw_1 (List.mem_of_getElem? (i := 23) rfl)) rfl, fun h => absurd h (by decide), fun h => absurd h (by decide), fun _ => ⟨gm_0, rfl⟩, fun h => absurd h (by decide), gc_0, gi_0⟩
set_option maxRecDepth 20000 in
theorem oc_13_10 : pm_okcp 13 (10, 1, 12, 0, 0) := ⟨pm_R12, pm_F12, 65, rfl, gw_of (tw_5 (List.mem_of_getElem? (i := 7) rfl)) rfl, gn_12, gi_12⟩
set_option maxRecDepth 20000 in
theorem oc_13_12 : pm_okcp 13 (12, 2, 18, 0, 1) := ⟨pm_m18, rfl, by decide +kernel, by decide, fun _ => gw_of (tw_5 (List.mem_of_getElem? (i := 9) rfl)) rfl, fun h => absurd h (by decide), fun h => absurd h (by decide), fun _ => ⟨gm_18, rfl⟩, fun h => absurd h (by decide), gc_18, gi_12⟩
set_option maxRecDepth 20000 in
theorem oc_13_13 : pm_okcp 13 (13, 2, 1, 2, 0) := ⟨pm_m1, rfl, by decide +kernel, by decide, fun _ => gw_of (tw_2 (List.mem_of_getElem? (i := 71) rfl)) rfl, fun h => absurd h (by decide), fun _ => ⟨gm_1, gs_1, fun h => absurd h (by decide), fun _ => ⟨pm_F0, 6, rfl⟩⟩, fun h => absurd h (by decide), fun h => absurd h (by decide), gc_1, gi_0⟩
set_option maxRecDepth 20000 in
theorem oc_13_17 : pm_okcp 13 (17, 2, 20, 2, 0) := ⟨pm_m20, rfl, by decide +kernel, by decide, fun _ => gw_of (tw_5 (List.mem_of_getElem? (i := 210) rfl)) rfl, fun h => absurd h (by decide), fun _ => ⟨gm_20, gs_20, fun h => absurd h (by decide), fun _ => ⟨pm_F12, 65, rfl⟩⟩, fun h => absurd h (by decide), fun h => absurd h (by decide), gc_20, gi_12⟩
set_option maxRecDepth 20000 in
theorem oc_13_18 : pm_okcp 13 (18, 2, 2, 0, 0) := ⟨pm_m2, rfl, by decide +kernel, by decide, fun _ => gw_of (tw_2 (List.mem_of_getElem? (i := 82) rfl)) rfl, fun h => absurd h (by decide), fun _ => ⟨gm_2, gs_2, fun h => absurd h (by decide), fun _ => ⟨pm_F0, 6, rfl⟩⟩, fun h => absurd h (by decide), fun h => absurd h (by decide), gc_2, gi_0⟩
set_option maxRecDepth 20000 in
theorem oc_13_22 : pm_okcp 13 (22, 2, 58, 0, 0) := ⟨pm_m58, rfl, by decide +kernel, by decide, fun _ => gw_of (tw_5 (List.mem_of_getElem? (i := 217) rfl)) rfl, fun h => absurd h (by decide), fun _ => ⟨gm_58, gs_58, fun h => absurd h (by decide), fun _ => ⟨pm_F12, 65, rfl⟩⟩, fun h => absurd h (by decide), fun h => absurd h (by decide), gc_58, gi_12⟩
set_option maxRecDepth 20000 in
theorem oc_13_23 : pm_okcp 13 (23, 2, 3, 0, 0) := ⟨pm_m3, rfl, by decide +kernel, by decide, fun _ => gw_of (tw_3 (List.mem_of_getElem? (i := 193) rfl)) rfl, fun h => absurd h (by decide), fun _ => ⟨gm_3, gs_3, fun h => absurd h (by decide), fun _ => ⟨pm_F0, 6, rfl⟩⟩, fun h => absurd h (by decide), fun h => absurd h (by decide), gc_3, gi_0⟩
set_option maxRecDepth 20000 in
theorem oc_13_26 : pm_okcp 13 (26, 2, 82, 0, 0) := ⟨pm_m82, rfl, by decide +kernel, by decide, fun _ => gw_of (tw_6 (List.mem_of_getElem? (i := 116) rfl)) rfl, fun h => absurd h (by decide), fun _ => ⟨gm_82, gs_82, fun h => absurd h (by decide), fun _ => ⟨pm_F12, 65, rfl⟩⟩, fun h => absurd h (by decide), fun h => absurd h (by decide), gc_82, gi_12⟩
set_option maxRecDepth 20000 in
theorem oc_13_27 : pm_okcp 13 (27, 2, 4, 0, 0) := ⟨pm_m4, rfl, by decide +kernel, by decide, fun _ => gw_of (tw_4 (List.mem_of_getElem? (i := 192) rfl)) rfl, fun h => absurd h (by decide), fun _ => ⟨gm_4, gs_4, fun h => absurd h (by decide), fun _ => ⟨pm_F0, 6, rfl⟩⟩, fun h => absurd h (by decide), fun h => absurd h (by decide), gc_4, gi_0⟩
set_option maxRecDepth 20000 in
theorem oc_13_30 : pm_okcp 13 (30, 2, 59, 0, 0) := ⟨pm_m59, rfl, by decide +kernel, by decide, fun _ => gw_of (tw_6 (List.mem_of_getElem? (i := 108) rfl)) rfl, fun h => absurd h (by decide), fun _ => ⟨gm_59, gs_59, fun h => absurd h (by decide), fun _ => ⟨pm_F12, 65, rfl⟩⟩, fun h => absurd h (by decide), fun h => absurd h (by decide), gc_59, gi_12⟩
set_option maxRecDepth 20000 in
theorem oc_13_31 : pm_okcp 13 (31, 2, 5, 1, 0) := ⟨pm_m5, rfl, by decide +kernel, by decide, fun _ => gw_of (tw_4 (List.mem_of_getElem? (i := 196) rfl)) rfl, fun h => absurd h (by decide), fun _ => ⟨gm_5, gs_5, fun h => absurd h (by decide), fun _ => ⟨pm_F0, 6, rfl⟩⟩, fun h => absurd h (by decide), fun h => absurd h (by decide), gc_5, gi_0⟩
set_option maxRecDepth 20000 in
theorem oc_13_35 : pm_okcp 13 (35, 2, 60, 1, 0) := ⟨pm_m60, rfl, by decide +kernel, by decide, fun _ => gw_of (tw_6 (List.mem_of_getElem? (i := 112) rfl)) rfl, fun h => absurd h (by decide), fun _ => ⟨gm_60, gs_60, fun h => absurd h (by decide), fun _ => ⟨pm_F12, 65, rfl⟩⟩, fun h => absurd h (by decide), fun h => absurd h (by decide), gc_60, gi_12⟩
set_option maxRecDepth 20000 in
theorem oc_13_36 : pm_okcp 13 (36, 2, 6, 1, 0) := ⟨pm_m6, rfl, by decide +kernel, by decide, fun _ => gw_of (tw_4 (List.mem_of_getElem? (i := 201) rfl)) rfl, fun h => absurd h (by decide), fun _ => ⟨gm_6, gs_6, fun h => absurd h (by decide), fun _ => ⟨pm_F0, 6, rfl⟩⟩, fun h => absurd h (by decide), fun h => absurd h (by decide), gc_6, gi_0⟩
set_option maxRecDepth 20000 in
theorem oc_13_39 : pm_okcp 13 (39, 2, 83, 1, 0) := ⟨pm_m83, rfl, by decide +kernel, by decide, fun _ => gw_of (tw_6 (List.mem_of_getElem? (i := 217) rfl)) rfl, fun h => absurd h (by decide), fun _ => ⟨gm_83, gs_83, fun h => absurd h (by decide), fun _ => ⟨pm_F12, 65, rfl⟩⟩, fun h => absurd h (by decide), fun h => absurd h (by decide), gc_83, gi_12⟩
set_option maxRecDepth 20000 in
theorem oc_13_40 : pm_okcp 13 (40, 2, 7, 1, 0) := ⟨pm_m7, rfl, by decide +kernel, by decide, fun _ => gw_of (tw_4 (List.mem_of_getElem? (i := 210) rfl)) rfl, fun h => absurd h (by decide), fun _ => ⟨gm_7, gs_7, fun h => absurd h (by decide), fun _ => ⟨pm_F0, 6, rfl⟩⟩, fun h => absurd h (by decide), fun h => absurd h (by decide), gc_7, gi_0⟩
set_option maxRecDepth 20000 in
theorem oc_13_43 : pm_okcp 13 (43, 2, 84, 1, 0) := ⟨pm_m84, rfl, by decide +kernel, by decide, fun _ => gw_of (tw_6 (List.mem_of_getElem? (i := 221) rfl)) rfl, fun h => absurd h (by decide), fun _ => ⟨gm_84, gs_84, fun h => absurd h (by decide), fun _ => ⟨pm_F12, 65, rfl⟩⟩, fun h => absurd h (by decide), fun h => absurd h (by decide), gc_84, gi_12⟩
set_option maxRecDepth 20000 in
theorem oc_13_44 : pm_okcp 13 (44, 2, 8, 1, 0) := ⟨pm_m8, rfl, by decide +kernel, by decide, fun _ => gw_of (tw_4 (List.mem_of_getElem? (i := 215) rfl)) rfl, fun h => absurd h (by decide), fun _ => ⟨gm_8, gs_8, fun h => absurd h (by decide), fun _ => ⟨pm_F0, 6, rfl⟩⟩, fun h => absurd h (by decide), fun h => absurd h (by decide), gc_8, gi_0⟩
set_option maxRecDepth 20000 in
theorem oc_13_47 : pm_okcp 13 (47, 2, 86, 1, 0) := ⟨pm_m86, rfl, by decide +kernel, by decide, fun _ => gw_of (tw_6 (List.mem_of_getElem? (i := 225) rfl)) rfl, fun h => absurd h (by decide), fun _ => ⟨gm_86, gs_86, fun h => absurd h (by decide), fun _ => ⟨pm_F12, 65, rfl⟩⟩, fun h => absurd h (by decide), fun h => absurd h (by decide), gc_86, gi_12⟩
set_option maxRecDepth 20000 in
theorem oc_13_48 : pm_okcp 13 (48, 2, 9, 0, 0) := ⟨pm_m9, rfl, by decide +kernel, by decide, fun _ => gw_of (tw_4 (List.mem_of_getElem? (i := 231) rfl)) rfl, fun h => absurd h (by decide), fun _ => ⟨gm_9, gs_9, fun h => absurd h (by decide), fun _ => ⟨pm_F0, 6, rfl⟩⟩, fun h => absurd h (by decide), fun h => absurd h (by decide), gc_9, gi_0⟩
set_option maxRecDepth 20000 in
theorem oc_13_51 : pm_okcp 13 (51, 2, 87, 0, 0) := ⟨pm_m87, rfl, by decide +kernel, by decide, fun _ => gw_of (tw_6 (List.mem_of_getElem? (i := 233) rfl)) rfl, fun h => absurd h (by decide), fun _ => ⟨gm_87, gs_87, fun h => absurd h (by decide), fun _ => ⟨pm_F12, 65, rfl⟩⟩, fun h => absurd h (by decide), fun h => absurd h (by decide), gc_87, gi_12⟩
set_option maxRecDepth 20000 in
theorem oc_13_52 : pm_okcp 13 (52, 2, 10, 1, 0) := ⟨pm_m10, rfl, by decide +kernel, by decide, fun _ => gw_of (tw_4 (List.mem_of_getElem? (i := 239) rfl)) rfl, fun h => absurd h (by decide), fun _ => ⟨gm_10, gs_10, fun h => absurd h (by decide), fun _ => ⟨pm_F0, 6, rfl⟩⟩, fun h => absurd h (by decide), fun h => absurd h (by decide), gc_10, gi_0⟩
set_option maxRecDepth 20000 in
theorem oc_13_55 : pm_okcp 13 (55, 2, 88, 1, 0) := ⟨pm_m88, rfl, by decide +kernel, by decide, fun _ => gw_of (tw_6 (List.mem_of_getElem? (i := 237) rfl)) rfl, fun h => absurd h (by decide), fun _ => ⟨gm_88, gs_88, fun h => absurd h (by decide), fun _ => ⟨pm_F12, 65, rfl⟩⟩, fun h => absurd h (by decide), fun h => absurd h (by decide), gc_88, gi_12⟩
set_option maxRecDepth 20000 in
theorem op_13 : ∀ (idx : Nat) (e : Nat × Nat × Nat × Nat), pm_p13 idx = some e → pm_okcp 13 (idx, e) := pm_nd_ok (pm_nd_ok (pm_lks (List.forall_mem_cons.mpr ⟨oc_13_7, List.forall_mem_cons.mpr ⟨oc_13_9, List.forall_mem_cons.mpr ⟨oc_13_10, List.forall_mem_cons.mpr ⟨oc_13_12, List.forall_mem_cons.mpr ⟨oc_13_13, List.forall_mem_cons.mpr ⟨oc_13_17, fun _ h => absurd h List.not_mem_nil⟩⟩⟩⟩⟩⟩)) (pm_lks (List.forall_mem_cons.mpr ⟨oc_13_18, List.forall_mem_cons.mpr ⟨oc_13_22, List.forall_mem_cons.mpr ⟨oc_13_23, List.forall_mem_cons.mpr ⟨oc_13_26, List.forall_mem_cons.mpr ⟨oc_13_27, List.forall_mem_cons.mpr ⟨oc_13_30, fun _ h => absurd h List.not_mem_nil⟩⟩⟩⟩⟩⟩))) (pm_nd_ok (pm_lks (List.forall_mem_cons.mpr ⟨oc_13_31, List.forall_mem_cons.mpr ⟨oc_13_35, List.forall_mem_cons.mpr ⟨oc_13_36, List.forall_mem_cons.mpr ⟨oc_13_39, List.forall_mem_cons.mpr ⟨oc_13_40, List.forall_mem_cons.mpr ⟨oc_13_43, fun _ h => absurd h List.not_mem_nil⟩⟩⟩⟩⟩⟩)) (pm_lks (List.forall_mem_cons.mpr ⟨oc_13_44, List.forall_mem_cons.mpr ⟨oc_13_47, List.forall_mem_cons.mpr ⟨oc_13_48, List.forall_mem_cons.mpr ⟨oc_13_51, List.forall_mem_cons.mpr ⟨oc_13_52, List.forall_mem_cons.mpr ⟨oc_13_55, fun _ h => absurd h List.not_mem_nil⟩⟩⟩⟩⟩⟩)))
set_option maxRecDepth 20000 in
theorem oc_14_38 : pm_okcp 14 (38, 4, 2, 0, 0) := ⟨fun h => absurd h (by decide), fun h => absurd h (by decide), fun _ => gw_of (tw_2 (List.mem_of_getElem? (i := 148) rfl)) rfl⟩
set_option maxRecDepth 20000 in
theorem oc_14_88 : pm_okcp 14 (88, 2, 221, 1, 2) := ⟨pm_m221, rfl, by decide +kernel, by decide, fun _ => gw_of (tw_2 (List.mem_of_getElem? (i := 142) rfl)) rfl, fun h => absurd h (by decide), fun h => absurd h (by decide), fun h => absurd h (by decide), fun _ => gt_221, gc_221, gi_14⟩
set_option maxRecDepth 20000 in
theorem oc_14_92 : pm_okcp 14 (92, 4, 1, 0, 0) := ⟨fun h => absurd h (by decide), fun _ => gw_of (tw_2 (List.mem_of_getElem? (i := 145) rfl)) rfl, fun h => absurd h (by decide)⟩
set_option maxRecDepth 20000 in
theorem oc_14_95 : pm_okcp 14 (95, 2, 222, 4, 2) := ⟨pm_m222, rfl, by decide +kernel, by decide, fun _ => gw_of (tw_2 (List.mem_of_getElem? (i := 151) rfl)) rfl, fun h => absurd h (by decide), fun h => absurd h (by decide), fun h => absurd h (by decide), fun _ => gt_222, gc_222, gi_14⟩
set_option maxRecDepth 20000 in
theorem op_14 : ∀ (idx : Nat) (e : Nat × Nat × Nat × Nat), pm_p14 idx = some e → pm_okcp 14 (idx, e) := pm_lks (List.forall_mem_cons.mpr ⟨oc_14_38, List.forall_mem_cons.mpr ⟨oc_14_88, List.forall_mem_cons.mpr ⟨oc_14_92, List.forall_mem_cons.mpr ⟨oc_14_95, fun _ h => absurd h List.not_mem_nil⟩⟩⟩⟩)
set_option maxRecDepth 20000 in
theorem op_15 : ∀ (idx : Nat) (e : Nat × Nat × Nat × Nat), pm_p15 idx = some e → pm_okcp 15 (idx, e) := pm_lks (fun _ h => absurd h List.not_mem_nil)
set_option maxRecDepth 20000 in
theorem oc_100_9 : pm_okcp 100 (9, 9, 1, 0, 0) := ⟨fun h => absurd h (by decide), fun _ => gw_of (tw_7 (List.mem_of_getElem? (i := 2) rfl)) rfl⟩
set_option maxRecDepth 20000 in
theorem oc_100_15 : pm_okcp 100 (15, 9, 0, 0, 0) := ⟨fun _ => gw_of (tw_7 (List.mem_of_getElem? (i := 1) rfl)) rfl, fun h => absurd h (by decide)⟩
set_option maxRecDepth 20000 in
theorem oc_100_38 : pm_okcp 100 (38, 8, 0, 0, 0) := gw_of (tw_2 (List.mem_of_getElem? (i := 129) rfl)) rfl
set_option maxRecDepth 20000 in
theorem oc_100_335 : pm_okcp 100 (335, 2, 219, 0, 0) := ⟨pm_m219, rfl, by decide +kernel, by decide, fun _ => gw_of (tw_2 (List.mem_of_getElem? (i := 135) rfl)) rfl, fun h => absurd h (by decide), fun _ => ⟨gm_219, gs_219, fun _ => rfl, fun h => absurd rfl h⟩, fun h => absurd h (by decide), fun h => absurd h (by decide), gc_219, gi_100⟩
set_option maxRecDepth 20000 in
theorem oc_100_492 : pm_okcp 100 (492, 2, 217, 0, 0) := ⟨pm_m217, rfl, by decide +kernel, by decide, fun _ => gw_of (tw_2 (List.mem_of_getElem? (i := 125) rfl)) rfl, fun h => absurd h (by decide), fun _ => ⟨gm_217, gs_217, fun _ => rfl, fun h => absurd rfl h⟩, fun h => absurd h (by decide), fun h => absurd h (by decide), gc_217, gi_100⟩
set_option maxRecDepth 20000 in
theorem oc_100_505 : pm_okcp 100 (505, 2, 218, 0, 0) := ⟨pm_m218, rfl, by decide +kernel, by decide, fun _ => gw_of (tw_2 (List.mem_of_getElem? (i := 131) rfl)) rfl, fun h => absurd h (by decide), fun _ => ⟨gm_218, gs_218, fun _ => rfl, fun h => absurd rfl h⟩, fun h => absurd h (by decide), fun h => absurd h (by decide), gc_218, gi_100⟩
set_option maxRecDepth 20000 in
theorem oc_100_633 : pm_okcp 100 (633, 2, 216, 2, 0) := ⟨pm_m216, rfl, by decide +kernel, by decide, fun _ => gw_of (tw_2 (List.mem_of_getElem? (i := 121) rfl)) rfl, fun h => absurd h (by decide), fun _ => ⟨gm_216, gs_216, fun _ => rfl, fun h => absurd rfl h⟩, fun h => absurd h (by decide), fun h => absurd h (by decide), gc_216, gi_100⟩
set_option maxRecDepth 20000 in
theorem oc_100_637 : pm_okcp 100 (637, 2, 220, 4, 2) := ⟨pm_m220, rfl, by decide +kernel, by decide, fun _ => gw_of (tw_2 (List.mem_of_getElem? (i := 139) rfl)) rfl, fun h => absurd h (by decide), fun h => absurd h (by decide), fun h => absurd h (by decide), fun _ => gt_220, gc_220, gi_14⟩
set_option maxRecDepth 20000 in
theorem op_100 : ∀ (idx : Nat) (e : Nat × Nat × Nat × Nat), pm_p100 idx = some e → pm_okcp 100 (idx, e) := pm_nd_ok (pm_lks (List.forall_mem_cons.mpr ⟨oc_100_9, List.forall_mem_cons.mpr ⟨oc_100_15, List.forall_mem_cons.mpr ⟨oc_100_38, List.forall_mem_cons.mpr ⟨oc_100_335, fun _ h => absurd h List.not_mem_nil⟩⟩⟩⟩)) (pm_lks (List.forall_mem_cons.mpr ⟨oc_100_492, List.forall_mem_cons.mpr ⟨oc_100_505, List.forall_mem_cons.mpr ⟨oc_100_633, List.forall_mem_cons.mpr ⟨oc_100_637, fun _ h => absurd h List.not_mem_nil⟩⟩⟩⟩))
set_option maxRecDepth 20000 in
theorem pm_mls : ∀ (y : Nat) (M : pm_M), pm_mt y = some M → pm_okM M := pm_nd_ok (pm_nd_ok (pm_nd_ok (pm_nd_ok (pm_nd_ok (pm_nd_ok (pm_lks (List.forall_mem_cons.mpr ⟨om_0, List.forall_mem_cons.mpr ⟨om_1, List.forall_mem_cons.mpr ⟨om_2, fun _ h => absurd h List.not_mem_nil⟩⟩⟩)) (pm_lks (List.forall_mem_cons.mpr ⟨om_3, List.forall_mem_cons.mpr ⟨om_4, List.forall_mem_cons.mpr ⟨om_5, List.forall_mem_cons.mpr ⟨om_6, fun _ h => absurd h List.not_mem_nil⟩⟩⟩⟩))) (pm_nd_ok (pm_lks (List.forall_mem_cons.mpr ⟨om_7, List.forall_mem_cons.mpr ⟨om_8, List.forall_mem_cons.mpr ⟨om_9, fun _ h => absurd h List.not_mem_nil⟩⟩⟩)) (pm_lks (List.forall_mem_cons.mpr ⟨om_10, List.forall_mem_cons.mpr ⟨om_11, List.forall_mem_cons.mpr ⟨om_12, List.forall_mem_cons.mpr ⟨om_13, fun _ h => absurd h List.not_mem_nil⟩⟩⟩⟩)))) (pm_nd_ok (pm_nd_ok (pm_lks (List.forall_mem_cons.mpr ⟨om_14, List.forall_mem_cons.mpr ⟨om_15, List.forall_mem_cons.mpr ⟨om_16, fun _ h => absurd h List.not_mem_nil⟩⟩⟩)) (pm_lks (List.forall_mem_cons.mpr ⟨om_17, List.forall_mem_cons.mpr ⟨om_18, List.forall_mem_cons.mpr ⟨om_19, List.forall_mem_cons.mpr ⟨om_20, fun _ h => absurd h List.not_mem_nil⟩⟩⟩⟩))) (pm_nd_ok (pm_lks (List.forall_mem_cons.mpr ⟨om_21, List.forall_mem_cons.mpr ⟨om_22, List.forall_mem_cons.mpr ⟨om_23, fun _ h => absurd h List.not_mem_nil⟩⟩⟩)) (pm_lks (List.forall_mem_cons.mpr ⟨om_24, List.forall_mem_cons.mpr ⟨om_25, List.forall_mem_cons.mpr ⟨om_26, List.forall_mem_cons.mpr ⟨om_27, fun _ h => absurd h List.not_mem_nil⟩⟩⟩⟩))))) (pm_nd_ok (pm_nd_ok (pm_nd_ok (pm_lks (List.forall_mem_cons.mpr ⟨om_28, List.forall_mem_cons.mpr ⟨om_29, List.forall_mem_cons.mpr ⟨om_30, fun _ h => absurd h List.not_mem_nil⟩⟩⟩)) (pm_lks (List.forall_mem_cons.mpr ⟨om_31, List.forall_mem_cons.mpr ⟨om_32, List.forall_mem_cons.mpr ⟨om_33, List.forall_mem_cons.mpr ⟨om_34, fun _ h => absurd h List.not_mem_nil⟩⟩⟩⟩))) (pm_nd_ok (pm_lks (List.forall_mem_cons.mpr ⟨om_35, List.forall_mem_cons.mpr ⟨om_36, List.forall_mem_cons.mpr ⟨om_37, fun _ h => absurd h List.not_mem_nil⟩⟩⟩)) (pm_lks (List.forall_mem_cons.mpr ⟨om_38, List.forall_mem_cons.mpr ⟨om_39, List.forall_mem_cons.mpr ⟨om_40, List.forall_mem_cons.mpr ⟨om_41, fun _ h => absurd h List.not_mem_nil⟩⟩⟩⟩)))) (pm_nd_ok (pm_nd_ok (pm_lks (List.forall_mem_cons.mpr ⟨om_42, List.forall_mem_cons.mpr ⟨om_43, List.forall_mem_cons.mpr ⟨om_44, fun _ h => absurd h List.not_mem_nil⟩⟩⟩)) (pm_lks (List.forall_mem_cons.mpr ⟨om_45, List.forall_mem_cons.mpr ⟨om_46, List.forall_mem_cons.mpr ⟨om_47, List.forall_mem_cons.mpr ⟨om_48, fun _ h => absurd h List.not_mem_nil⟩⟩⟩⟩))) (pm_nd_ok (pm_lks (List.forall_mem_cons.mpr ⟨om_49, List.forall_mem_cons.mpr ⟨om_50, List.forall_mem_cons.mpr ⟨om_51, fun _ h => absurd h List.not_mem_nil⟩⟩⟩)) (pm_lks (List.forall_mem_cons.mpr ⟨om_52, List.forall_mem_cons.mpr ⟨om_53, List.forall_mem_cons.mpr ⟨om_54, List.forall_mem_cons.mpr ⟨om_55, fun _ h => absurd h List.not_mem_nil⟩⟩⟩⟩)))))) (pm_nd_ok (pm_nd_ok (pm_nd_ok (pm_nd_ok (pm_lks (List.forall_mem_cons.mpr ⟨om_56, List.forall_mem_cons.mpr ⟨om_57, List.forall_mem_cons.mpr ⟨om_58, fun _ h => absurd h List.not_mem_nil⟩⟩⟩)) (pm_lks (List.forall_mem_cons.mpr ⟨om_59, List.forall_mem_cons.mpr ⟨om_60, List.forall_mem_cons.mpr ⟨om_61, List.forall_mem_cons.mpr ⟨om_62, fun _ h => absurd h List.not_mem_nil⟩⟩⟩⟩))) (pm_nd_ok (pm_lks (List.forall_mem_cons.mpr ⟨om_63, List.forall_mem_cons.mpr ⟨om_64, List.forall_mem_cons.mpr ⟨om_65, fun _ h => absurd h List.not_mem_nil⟩⟩⟩)) (pm_lks (List.forall_mem_cons.mpr ⟨om_66, List.forall_mem_cons.mpr ⟨om_67, List.forall_mem_cons.mpr ⟨om_68, List.forall_mem_cons.mpr ⟨om_69, fun _ h => absurd h List.not_mem_nil⟩⟩⟩⟩)))) (pm_nd_ok (pm_nd_ok (pm_lks (List.forall_mem_cons.mpr ⟨om_70, List.forall_mem_cons.mpr ⟨om_71, List.forall_mem_cons.mpr ⟨om_72, fun _ h => absurd h List.not_mem_nil⟩⟩⟩)) (pm_lks (List.forall_mem_cons.mpr ⟨om_73, List.forall_mem_cons.mpr ⟨om_74, List.forall_mem_cons.mpr ⟨om_75, List.forall_mem_cons.mpr ⟨om_76, fun _ h => absurd h List.not_mem_nil⟩⟩⟩⟩))) (pm_nd_ok (pm_lks (List.forall_mem_cons.mpr ⟨om_77, List.forall_mem_cons.mpr ⟨om_78, List.forall_mem_cons.mpr ⟨om_79, fun _ h => absurd h List.not_mem_nil⟩⟩⟩)) (pm_lks (List.forall_mem_cons.mpr ⟨om_80, List.forall_mem_cons.mpr ⟨om_81, List.forall_mem_cons.mpr ⟨om_82, List.forall_mem_cons.mpr ⟨om_83, fun _ h => absurd h List.not_mem_nil⟩⟩⟩⟩))))) (pm_nd_ok (pm_nd_ok (pm_nd_ok (pm_lks (List.forall_mem_cons.mpr ⟨om_84, List.forall_mem_cons.mpr ⟨om_85, List.forall_mem_cons.mpr ⟨om_86, fun _ h => absurd h List.not_mem_nil⟩⟩⟩)) (pm_lks (List.forall_mem_cons.mpr ⟨om_87, List.forall_mem_cons.mpr ⟨om_88, List.forall_mem_cons.mpr ⟨om_89, List.forall_mem_cons.mpr ⟨om_90, fun _ h => absurd h List.not_mem_nil⟩⟩⟩⟩))) (pm_nd_ok (pm_lks (List.forall_mem_cons.mpr ⟨om_91, List.forall_mem_cons.mpr ⟨om_92, List.forall_mem_cons.mpr ⟨om_93, fun _ h => absurd h List.not_mem_nil⟩⟩⟩)) (pm_lks (List.forall_mem_cons.mpr ⟨om_94, List.forall_mem_cons.mpr ⟨om_95, List.forall_mem_cons.mpr ⟨om_96, List.forall_mem_cons.mpr ⟨om_97, fun _ h => absurd h List.not_mem_nil⟩⟩⟩⟩)))) (pm_nd_ok (pm_nd_ok (pm_lks (List.forall_mem_cons.mpr ⟨om_98, List.forall_mem_cons.mpr ⟨om_99, List.forall_mem_cons.mpr ⟨om_100, fun _ h => absurd h List.not_mem_nil⟩⟩⟩)) (pm_lks (List.forall_mem_cons.mpr ⟨om_101, List.forall_mem_cons.mpr ⟨om_102, List.forall_mem_cons.mpr ⟨om_103, List.forall_mem_cons.mpr ⟨om_104, fun _ h => absurd h List.not_mem_nil⟩⟩⟩⟩))) (pm_nd_ok (pm_lks (List.forall_mem_cons.mpr ⟨om_105, List.forall_mem_cons.mpr ⟨om_106, List.forall_mem_cons.mpr ⟨om_107, fun _ h => absurd h List.not_mem_nil⟩⟩⟩)) (pm_lks (List.forall_mem_cons.mpr ⟨om_108, List.forall_mem_cons.mpr ⟨om_109, List.forall_mem_cons.mpr ⟨om_110, List.forall_mem_cons.mpr ⟨om_111, fun _ h => absurd h List.not_mem_nil⟩⟩⟩⟩))))))) (pm_nd_ok (pm_nd_ok (pm_nd_ok (pm_nd_ok (pm_nd_ok (pm_lks (List.forall_mem_cons.mpr ⟨om_112, List.forall_mem_cons.mpr ⟨om_113, List.forall_mem_cons.mpr ⟨om_114, fun _ h => absurd h List.not_mem_nil⟩⟩⟩)) (pm_lks (List.forall_mem_cons.mpr ⟨om_115, List.forall_mem_cons.mpr ⟨om_116, List.forall_mem_cons.mpr ⟨om_117, List.forall_mem_cons.mpr ⟨om_118, fun _ h => absurd h List.not_mem_nil⟩⟩⟩⟩))) (pm_nd_ok (pm_lks (List.forall_mem_cons.mpr ⟨om_119, List.forall_mem_cons.mpr ⟨om_120, List.forall_mem_cons.mpr ⟨om_121, fun _ h => absurd h List.not_mem_nil⟩⟩⟩)) (pm_lks (List.forall_mem_cons.mpr ⟨om_122, List.forall_mem_cons.mpr ⟨om_123, List.forall_mem_cons.mpr ⟨om_124, List.forall_mem_cons.mpr ⟨om_125, fun _ h => absurd h List.not_mem_nil⟩⟩⟩⟩)))) (pm_nd_ok (pm_nd_ok (pm_lks (List.forall_mem_cons.mpr ⟨om_126, List.forall_mem_cons.mpr ⟨om_127, List.forall_mem_cons.mpr ⟨om_128, fun _ h => absurd h List.not_mem_nil⟩⟩⟩)) (pm_lks (List.forall_mem_cons.mpr ⟨om_129, List.forall_mem_cons.mpr ⟨om_130, List.forall_mem_cons.mpr ⟨om_131, List.forall_mem_cons.mpr ⟨om_132, fun _ h => absurd h List.not_mem_nil⟩⟩⟩⟩))) (pm_nd_ok (pm_lks (List.forall_mem_cons.mpr ⟨om_133, List.forall_mem_cons.mpr ⟨om_134, List.forall_mem_cons.mpr ⟨om_135, fun _ h => absurd h List.not_mem_nil⟩⟩⟩)) (pm_lks (List.forall_mem_cons.mpr ⟨om_136, List.forall_mem_cons.mpr ⟨om_137, List.forall_mem_cons.mpr ⟨om_138, List.forall_mem_cons.mpr ⟨om_139, fun _ h => absurd h List.not_mem_nil⟩⟩⟩⟩))))) (pm_nd_ok (pm_nd_ok (pm_nd_ok (pm_lks (List.forall_mem_cons.mpr ⟨om_140, List.forall_mem_cons.mpr ⟨om_141, List.forall_mem_cons.mpr ⟨om_142, fun _ h => absurd h List.not_mem_nil⟩⟩⟩)) (pm_lks (List.forall_mem_cons.mpr ⟨om_143, List.forall_mem_cons.mpr ⟨om_144, List.forall_mem_cons.mpr ⟨om_145, List.forall_mem_cons.mpr ⟨om_146, fun _ h => absurd h List.not_mem_nil⟩⟩⟩⟩))) (pm_nd_ok (pm_lks (List.forall_mem_cons.mpr ⟨om_147, List.forall_mem_cons.mpr ⟨om_148, List.forall_mem_cons.mpr ⟨om_149, fun _ h => absurd h List.not_mem_nil⟩⟩⟩)) (pm_lks (List.forall_mem_cons.mpr ⟨om_150, List.forall_mem_cons.mpr ⟨om_151, List.forall_mem_cons.mpr ⟨om_152, List.forall_mem_cons.mpr ⟨om_153, fun _ h => absurd h List.not_mem_nil⟩⟩⟩⟩)))) (pm_nd_ok (pm_nd_ok (pm_lks (List.forall_mem_cons.mpr ⟨om_154, List.forall_mem_cons.mpr ⟨om_155, List.forall_mem_cons.mpr ⟨om_156, fun _ h => absurd h List.not_mem_nil⟩⟩⟩)) (pm_lks (List.forall_mem_cons.mpr ⟨om_157, List.forall_mem_cons.mpr ⟨om_158, List.forall_mem_cons.mpr ⟨om_159, List.forall_mem_cons.mpr ⟨om_160, fun _ h => absurd h List.not_mem_nil⟩⟩⟩⟩))) (pm_nd_ok (pm_lks (List.forall_mem_cons.mpr ⟨om_161, List.forall_mem_cons.mpr ⟨om_162, List.forall_mem_cons.mpr ⟨om_163, fun _ h => absurd h List.not_mem_nil⟩⟩⟩)) (pm_lks (List.forall_mem_cons.mpr ⟨om_164, List.forall_mem_cons.mpr ⟨om_165, List.forall_mem_cons.mpr ⟨om_166, List.forall_mem_cons.mpr ⟨om_167, fun _ h => absurd h List.not_mem_nil⟩⟩⟩⟩)))))) (pm_nd_ok (pm_nd_ok (pm_nd_ok (pm_nd_ok (pm_lks (List.forall_mem_cons.mpr ⟨om_168, List.forall_mem_cons.mpr ⟨om_169, List.forall_mem_cons.mpr ⟨om_170, fun _ h => absurd h List.not_mem_nil⟩⟩⟩)) (pm_lks (List.forall_mem_cons.mpr ⟨om_171, List.forall_mem_cons.mpr ⟨om_172, List.forall_mem_cons.mpr ⟨om_173, List.forall_mem_cons.mpr ⟨om_174, fun _ h => absurd h List.not_mem_nil⟩⟩⟩⟩))) (pm_nd_ok (pm_lks (List.forall_mem_cons.mpr ⟨om_175, List.forall_mem_cons.mpr ⟨om_176, List.forall_mem_cons.mpr ⟨om_177, fun _ h => absurd h List.not_mem_nil⟩⟩⟩)) (pm_lks (List.forall_mem_cons.mpr ⟨om_178, List.forall_mem_cons.mpr ⟨om_179, List.forall_mem_cons.mpr ⟨om_180, List.forall_mem_cons.mpr ⟨om_181, fun _ h => absurd h List.not_mem_nil⟩⟩⟩⟩)))) (pm_nd_ok (pm_nd_ok (pm_lks (List.forall_mem_cons.mpr ⟨om_182, List.forall_mem_cons.mpr ⟨om_183, List.forall_mem_cons.mpr ⟨om_184, fun _ h => absurd h List.not_mem_nil⟩⟩⟩)) (pm_lks (List.forall_mem_cons.mpr ⟨om_185, List.forall_mem_cons.mpr ⟨om_186, List.forall_mem_cons.mpr ⟨om_187, List.forall_mem_cons.mpr ⟨om_188, fun _ h => absurd h List.not_mem_nil⟩⟩⟩⟩))) (pm_nd_ok (pm_lks (List.forall_mem_cons.mpr ⟨om_189, List.forall_mem_cons.mpr ⟨om_190, List.forall_mem_cons.mpr ⟨om_191, fun _ h => absurd h List.not_mem_nil⟩⟩⟩)) (pm_lks (List.forall_mem_cons.mpr ⟨om_192, List.forall_mem_cons.mpr ⟨om_193, List.forall_mem_cons.mpr ⟨om_194, List.forall_mem_cons.mpr ⟨om_195, fun _ h => absurd h List.not_mem_nil⟩⟩⟩⟩))))) (pm_nd_ok (pm_nd_ok (pm_nd_ok (pm_lks (List.forall_mem_cons.mpr ⟨om_196, List.forall_mem_cons.mpr ⟨om_197, List.forall_mem_cons.mpr ⟨om_198, fun _ h => absurd h List.not_mem_nil⟩⟩⟩)) (pm_lks (List.forall_mem_cons.mpr ⟨om_199, List.forall_mem_cons.mpr ⟨om_200, List.forall_mem_cons.mpr ⟨om_201, List.forall_mem_cons.mpr ⟨om_202, fun _ h => absurd h List.not_mem_nil⟩⟩⟩⟩))) (pm_nd_ok (pm_lks (List.forall_mem_cons.mpr ⟨om_203, List.forall_mem_cons.mpr ⟨om_204, List.forall_mem_cons.mpr ⟨om_205, fun _ h => absurd h List.not_mem_nil⟩⟩⟩)) (pm_lks (List.forall_mem_cons.mpr ⟨om_206, List.forall_mem_cons.mpr ⟨om_207, List.forall_mem_cons.mpr ⟨om_208, List.forall_mem_cons.mpr ⟨om_209, fun _ h => absurd h List.not_mem_nil⟩⟩⟩⟩)))) (pm_nd_ok (pm_nd_ok (pm_lks (List.forall_mem_cons.mpr ⟨om_210, List.forall_mem_cons.mpr ⟨om_211, List.forall_mem_cons.mpr ⟨om_212, fun _ h => absurd h List.not_mem_nil⟩⟩⟩)) (pm_lks (List.forall_mem_cons.mpr ⟨om_213, List.forall_mem_cons.mpr ⟨om_214, List.forall_mem_cons.mpr ⟨om_215, List.forall_mem_cons.mpr ⟨om_216, fun _ h => absurd h List.not_mem_nil⟩⟩⟩⟩))) (pm_nd_ok (pm_lks (List.forall_mem_cons.mpr ⟨om_217, List.forall_mem_cons.mpr ⟨om_218, List.forall_mem_cons.mpr ⟨om_219, fun _ h => absurd h List.not_mem_nil⟩⟩⟩)) (pm_lks (List.forall_mem_cons.mpr ⟨om_220, List.forall_mem_cons.mpr ⟨om_221, List.forall_mem_cons.mpr ⟨om_222, List.forall_mem_cons.mpr ⟨om_223, fun _ h => absurd h List.not_mem_nil⟩⟩⟩⟩)))))))
theorem pm_cps {o idx : Nat} {e : Nat × Nat × Nat × Nat} (h : pm_cp o idx = some e) : pm_okcp o (idx, e) := by
  unfold pm_cp at h
  split at h
  · exact op_0 _ _ h
  · exact op_1 _ _ h
  · exact op_2 _ _ h
  · exact op_3 _ _ h
  · exact op_4 _ _ h
  · exact op_5 _ _ h
  · exact op_6 _ _ h
  · exact op_7 _ _ h
  · exact op_8 _ _ h
  · exact op_9 _ _ h
  · exact op_10 _ _ h
  · exact op_11 _ _ h
  · exact op_12 _ _ h
  · exact op_13 _ _ h
  · exact op_14 _ _ h
  · exact op_15 _ _ h
  · exact op_100 _ _ h
  · cases h
theorem pm_meth {y : Nat} {M : pm_M} (h : pmT.1 y = some M) : pm_okM M := pm_mls y M h
theorem pm_okOM : pm_OM pmT := fun y nm bs mL rt o ini ft h => by
  obtain ⟨h1, h2, h3, h4, h5, -, h6⟩ := pm_meth h
  exact ⟨h1, h2, h3, h4, h5, h6⟩
theorem pm_okOF : pm_OF pmT pm_cl pm_GW pm_NW := fun y nm bs mL rt o ini ft idx ci k ne h hc => by
  obtain ⟨-, -, -, -, -, h6, -⟩ := pm_meth h
  obtain ⟨C, Tf, N, g1, g2, g3, g4, g5⟩ := pm_cps (o := o) (idx := idx) hc
  have h6 : nm.cls = pm_cn o := h6
  exact ⟨C, Tf, N, g1, g2, g3, fun e => by rw [h6]; exact g4 e, Or.inl (by rw [h6]; exact g5)⟩
theorem pm_okON : pm_ON pmT pm_cl pm_GW := fun y nm bs mL rt o ini ft idx ci k ne h hc => by
  obtain ⟨-, -, -, -, -, h6, -⟩ := pm_meth h
  obtain ⟨C, Tf, N, g1, g2, g3, g4⟩ := pm_cps (o := o) (idx := idx) hc
  have h6 : nm.cls = pm_cn o := h6
  exact ⟨C, Tf, N, g1, by rw [h6]; exact g2, g3, g4⟩
theorem pm_okOI : pm_OI pmT pm_cl pm_GW pm_NW := fun y nm bs mL rt o ini ft idx z na md nm' bs' mL' rt' o' ini' ft' h hc hz => by
  obtain ⟨-, -, -, -, -, h6, -⟩ := pm_meth h
  obtain ⟨M, g0, g⟩ := pm_cps (o := o) (idx := idx) hc
  have h6 : nm.cls = pm_cn o := h6
  have hM : M = (nm', bs', mL', rt', o', ini', ft') := Option.some.inj (g0.symm.trans hz)
  subst hM
  rw [← h6] at g
  exact g
theorem pm_okOB : pm_OB pmT pm_GW := fun y nm bs mL rt o ini ft idx x k ne h hc => by
  obtain ⟨-, -, -, -, -, h6, -⟩ := pm_meth h
  obtain ⟨g0, g1, g2⟩ := pm_cps (o := o) (idx := idx) hc
  have h6 : nm.cls = pm_cn o := h6
  rw [← h6] at g0 g1 g2
  exact ⟨fun e => ⟨g0 e, go_i, go_c⟩, fun e => ⟨g1 e, gmax_s, g_math, gmax_c⟩, fun e => ⟨g2 e, gmin_s, g_math, gmin_c⟩⟩
theorem pm_okOL : pm_OL pmT pm_GW := fun y nm bs mL rt o ini ft idx x k ne h hc => by
  obtain ⟨-, -, -, -, -, h6, -⟩ := pm_meth h
  have g := pm_cps (o := o) (idx := idx) hc
  have h6 : nm.cls = pm_cn o := h6
  rw [h6]
  exact g
theorem pm_okOS : pm_OS pmT pm_GW "+*,;=:!?>$()[]{}" := fun y nm bs mL rt o ini ft idx x k ne h => by
  obtain ⟨-, -, -, -, -, h6, -⟩ := pm_meth h
  have h6 : nm.cls = pm_cn o := h6
  rw [h6]
  exact ⟨fun hc => pm_cps (o := o) (idx := idx) hc, fun hc => pm_cps (o := o) (idx := idx) hc, fun hc => pm_cps (o := o) (idx := idx) hc⟩
theorem pm_okOA : pm_OA pmT pm_cl "ArmExpander$Definition" := ⟨pm_F2, 8, rfl⟩
set_option maxRecDepth 20000 in
theorem pm_okOG : pm_OG pm_GW := ⟨fun w hw => good_of_word (List.mem_filter.mp hw).2, gw_of (tw_1 (List.mem_of_getElem? (i := 48) rfl)) rfl, gw_of (tw_5 (List.mem_of_getElem? (i := 209) rfl)) rfl⟩
theorem pm_okOW : pm_OW pm_NW := fun w hw => by
  have h := (List.mem_filter.mp hw).2
  cases w <;> first | (simp [pm_isN] at h; done) | exact ⟨rfl, fun s U hW hZ => va_Nw.warmM hW hZ⟩
def pm_isRB (ty : FieldType) : Bool := match ty with
  | .object _ => true
  | .array _ => true
  | _ => false
theorem pm_isRB_ok {ty : FieldType} (h : pm_isRB ty = true) : pm_isR ty := by
  cases ty <;> first | (cases h; done) | exact Or.inl ⟨_, rfl⟩ | exact Or.inr ⟨_, rfl⟩
def pm_codeB (c : Nat) (ty : FieldType) (fin : Bool) : Bool :=
  (decide (c = 0 ∧ ty = .int ∧ fin = false)) || (decide (c = 1 ∧ ty = .boolean ∧ fin = false)) || (decide (c = 2) && pm_isRB ty && decide (fin = false)) || (decide (c = 3) && pm_isRB ty && decide (fin = true))
theorem pm_codeB_ok {c : Nat} {ty : FieldType} {fin : Bool} (h : pm_codeB c ty fin = true) : pm_code c ty fin := by
  unfold pm_codeB at h
  simp only [Bool.or_eq_true, Bool.and_eq_true, decide_eq_true_eq] at h
  rcases h with ((⟨rfl, h1, h2⟩ | ⟨rfl, h1, h2⟩) | ⟨⟨rfl, h1⟩, h2⟩) | ⟨⟨rfl, h1⟩, h2⟩
  · exact ⟨fun _ => ⟨h1, h2⟩, fun z => by omega, fun z => by omega, fun z => by omega⟩
  · exact ⟨fun z => by omega, fun _ => ⟨h1, h2⟩, fun z => by omega, fun z => by omega⟩
  · exact ⟨fun z => by omega, fun z => by omega, fun _ => ⟨pm_isRB_ok h1, h2⟩, fun z => by omega⟩
  · exact ⟨fun z => by omega, fun z => by omega, fun z => by omega, fun _ => ⟨pm_isRB_ok h1, h2⟩⟩
set_option maxRecDepth 20000 in
theorem ok_c0 : (∀ w ∈ u_ws pm_R0 pm_F0 6, w ∈ pm_GW) ∧ (∀ a, a < 6 → ∀ b, b < 6 → a ≠ b → (pm_F0 a).2.1 ≠ (pm_F0 b).2.1) ∧ (∀ v ∈ pmT.2.2.2.1 0, v = .int 0 ∨ v = .null) ∧ (pmT.2.2.2.1 0).length = 6 ∧ ∃ ty : Nat → FieldType, (∀ k, k < 6 → parseFieldDescriptor (pm_F0 k).2.2.1 = some (ty k)) ∧ (∀ k, k < 6 → defaultValue (ty k) = vp_V (pmT.2.2.2.1 0) k) ∧ ∀ k, k < 6 → pm_code (pmT.2.2.1 0 k) (ty k) (pm_F0 k).2.2.2 := by
  refine ⟨List.forall_mem_cons.mpr ⟨gl_0_0, List.forall_mem_cons.mpr ⟨gl_0_1, List.forall_mem_cons.mpr ⟨gl_0_2, List.forall_mem_cons.mpr ⟨gl_0_3, List.forall_mem_cons.mpr ⟨gl_0_4, List.forall_mem_cons.mpr ⟨gl_0_5, fun _ h => absurd h List.not_mem_nil⟩⟩⟩⟩⟩⟩, by decide +kernel, by decide +kernel, rfl, pm_t0, by decide +kernel, by decide +kernel, ?_⟩
  intro k hk
  refine pm_codeB_ok ?_
  revert k
  decide +kernel
set_option maxRecDepth 20000 in
theorem ok_c1 : (∀ w ∈ u_ws pm_R1 pm_F1 1, w ∈ pm_GW) ∧ (∀ a, a < 1 → ∀ b, b < 1 → a ≠ b → (pm_F1 a).2.1 ≠ (pm_F1 b).2.1) ∧ (∀ v ∈ pmT.2.2.2.1 1, v = .int 0 ∨ v = .null) ∧ (pmT.2.2.2.1 1).length = 1 ∧ ∃ ty : Nat → FieldType, (∀ k, k < 1 → parseFieldDescriptor (pm_F1 k).2.2.1 = some (ty k)) ∧ (∀ k, k < 1 → defaultValue (ty k) = vp_V (pmT.2.2.2.1 1) k) ∧ ∀ k, k < 1 → pm_code (pmT.2.2.1 1 k) (ty k) (pm_F1 k).2.2.2 := by
  refine ⟨List.forall_mem_cons.mpr ⟨gl_1_0, fun _ h => absurd h List.not_mem_nil⟩, by decide +kernel, by decide +kernel, rfl, pm_t1, by decide +kernel, by decide +kernel, ?_⟩
  intro k hk
  refine pm_codeB_ok ?_
  revert k
  decide +kernel
set_option maxRecDepth 20000 in
theorem ok_c2 : (∀ w ∈ u_ws pm_R2 pm_F2 8, w ∈ pm_GW) ∧ (∀ a, a < 8 → ∀ b, b < 8 → a ≠ b → (pm_F2 a).2.1 ≠ (pm_F2 b).2.1) ∧ (∀ v ∈ pmT.2.2.2.1 2, v = .int 0 ∨ v = .null) ∧ (pmT.2.2.2.1 2).length = 8 ∧ ∃ ty : Nat → FieldType, (∀ k, k < 8 → parseFieldDescriptor (pm_F2 k).2.2.1 = some (ty k)) ∧ (∀ k, k < 8 → defaultValue (ty k) = vp_V (pmT.2.2.2.1 2) k) ∧ ∀ k, k < 8 → pm_code (pmT.2.2.1 2 k) (ty k) (pm_F2 k).2.2.2 := by
  refine ⟨List.forall_mem_cons.mpr ⟨gl_2_0, List.forall_mem_cons.mpr ⟨gl_2_1, List.forall_mem_cons.mpr ⟨gl_2_2, List.forall_mem_cons.mpr ⟨gl_2_3, List.forall_mem_cons.mpr ⟨gl_2_4, List.forall_mem_cons.mpr ⟨gl_2_5, List.forall_mem_cons.mpr ⟨gl_2_6, List.forall_mem_cons.mpr ⟨gl_2_7, fun _ h => absurd h List.not_mem_nil⟩⟩⟩⟩⟩⟩⟩⟩, by decide +kernel, by decide +kernel, rfl, pm_t2, by decide +kernel, by decide +kernel, ?_⟩
  intro k hk
  refine pm_codeB_ok ?_
  revert k
  decide +kernel
set_option maxRecDepth 20000 in
theorem ok_c3 : (∀ w ∈ u_ws pm_R3 pm_F3 8, w ∈ pm_GW) ∧ (∀ a, a < 8 → ∀ b, b < 8 → a ≠ b → (pm_F3 a).2.1 ≠ (pm_F3 b).2.1) ∧ (∀ v ∈ pmT.2.2.2.1 3, v = .int 0 ∨ v = .null) ∧ (pmT.2.2.2.1 3).length = 8 ∧ ∃ ty : Nat → FieldType, (∀ k, k < 8 → parseFieldDescriptor (pm_F3 k).2.2.1 = some (ty k)) ∧ (∀ k, k < 8 → defaultValue (ty k) = vp_V (pmT.2.2.2.1 3) k) ∧ ∀ k, k < 8 → pm_code (pmT.2.2.1 3 k) (ty k) (pm_F3 k).2.2.2 := by
  refine ⟨List.forall_mem_cons.mpr ⟨gl_3_0, List.forall_mem_cons.mpr ⟨gl_3_1, List.forall_mem_cons.mpr ⟨gl_3_2, List.forall_mem_cons.mpr ⟨gl_3_3, List.forall_mem_cons.mpr ⟨gl_3_4, List.forall_mem_cons.mpr ⟨gl_3_5, List.forall_mem_cons.mpr ⟨gl_3_6, List.forall_mem_cons.mpr ⟨gl_3_7, fun _ h => absurd h List.not_mem_nil⟩⟩⟩⟩⟩⟩⟩⟩, by decide +kernel, by decide +kernel, rfl, pm_t3, by decide +kernel, by decide +kernel, ?_⟩
  intro k hk
  refine pm_codeB_ok ?_
  revert k
  decide +kernel
set_option maxRecDepth 20000 in
theorem ok_c4 : (∀ w ∈ u_ws pm_R4 pm_F4 7, w ∈ pm_GW) ∧ (∀ a, a < 7 → ∀ b, b < 7 → a ≠ b → (pm_F4 a).2.1 ≠ (pm_F4 b).2.1) ∧ (∀ v ∈ pmT.2.2.2.1 4, v = .int 0 ∨ v = .null) ∧ (pmT.2.2.2.1 4).length = 7 ∧ ∃ ty : Nat → FieldType, (∀ k, k < 7 → parseFieldDescriptor (pm_F4 k).2.2.1 = some (ty k)) ∧ (∀ k, k < 7 → defaultValue (ty k) = vp_V (pmT.2.2.2.1 4) k) ∧ ∀ k, k < 7 → pm_code (pmT.2.2.1 4 k) (ty k) (pm_F4 k).2.2.2 := by
  refine ⟨List.forall_mem_cons.mpr ⟨gl_4_0, List.forall_mem_cons.mpr ⟨gl_4_1, List.forall_mem_cons.mpr ⟨gl_4_2, List.forall_mem_cons.mpr ⟨gl_4_3, List.forall_mem_cons.mpr ⟨gl_4_4, List.forall_mem_cons.mpr ⟨gl_4_5, List.forall_mem_cons.mpr ⟨gl_4_6, fun _ h => absurd h List.not_mem_nil⟩⟩⟩⟩⟩⟩⟩, by decide +kernel, by decide +kernel, rfl, pm_t4, by decide +kernel, by decide +kernel, ?_⟩
  intro k hk
  refine pm_codeB_ok ?_
  revert k
  decide +kernel
set_option maxRecDepth 20000 in
theorem ok_c5 : (∀ w ∈ u_ws pm_R5 pm_F5 7, w ∈ pm_GW) ∧ (∀ a, a < 7 → ∀ b, b < 7 → a ≠ b → (pm_F5 a).2.1 ≠ (pm_F5 b).2.1) ∧ (∀ v ∈ pmT.2.2.2.1 5, v = .int 0 ∨ v = .null) ∧ (pmT.2.2.2.1 5).length = 7 ∧ ∃ ty : Nat → FieldType, (∀ k, k < 7 → parseFieldDescriptor (pm_F5 k).2.2.1 = some (ty k)) ∧ (∀ k, k < 7 → defaultValue (ty k) = vp_V (pmT.2.2.2.1 5) k) ∧ ∀ k, k < 7 → pm_code (pmT.2.2.1 5 k) (ty k) (pm_F5 k).2.2.2 := by
  refine ⟨List.forall_mem_cons.mpr ⟨gl_5_0, List.forall_mem_cons.mpr ⟨gl_5_1, List.forall_mem_cons.mpr ⟨gl_5_2, List.forall_mem_cons.mpr ⟨gl_5_3, List.forall_mem_cons.mpr ⟨gl_5_4, List.forall_mem_cons.mpr ⟨gl_5_5, List.forall_mem_cons.mpr ⟨gl_5_6, fun _ h => absurd h List.not_mem_nil⟩⟩⟩⟩⟩⟩⟩, by decide +kernel, by decide +kernel, rfl, pm_t5, by decide +kernel, by decide +kernel, ?_⟩
  intro k hk
  refine pm_codeB_ok ?_
  revert k
  decide +kernel
set_option maxRecDepth 20000 in
theorem ok_c6 : (∀ w ∈ u_ws pm_R6 pm_F6 3, w ∈ pm_GW) ∧ (∀ a, a < 3 → ∀ b, b < 3 → a ≠ b → (pm_F6 a).2.1 ≠ (pm_F6 b).2.1) ∧ (∀ v ∈ pmT.2.2.2.1 6, v = .int 0 ∨ v = .null) ∧ (pmT.2.2.2.1 6).length = 3 ∧ ∃ ty : Nat → FieldType, (∀ k, k < 3 → parseFieldDescriptor (pm_F6 k).2.2.1 = some (ty k)) ∧ (∀ k, k < 3 → defaultValue (ty k) = vp_V (pmT.2.2.2.1 6) k) ∧ ∀ k, k < 3 → pm_code (pmT.2.2.1 6 k) (ty k) (pm_F6 k).2.2.2 := by
  refine ⟨List.forall_mem_cons.mpr ⟨gl_6_0, List.forall_mem_cons.mpr ⟨gl_6_1, List.forall_mem_cons.mpr ⟨gl_6_2, fun _ h => absurd h List.not_mem_nil⟩⟩⟩, by decide +kernel, by decide +kernel, rfl, pm_t6, by decide +kernel, by decide +kernel, ?_⟩
  intro k hk
  refine pm_codeB_ok ?_
  revert k
  decide +kernel
set_option maxRecDepth 20000 in
theorem ok_c7 : (∀ w ∈ u_ws pm_R7 pm_F7 4, w ∈ pm_GW) ∧ (∀ a, a < 4 → ∀ b, b < 4 → a ≠ b → (pm_F7 a).2.1 ≠ (pm_F7 b).2.1) ∧ (∀ v ∈ pmT.2.2.2.1 7, v = .int 0 ∨ v = .null) ∧ (pmT.2.2.2.1 7).length = 4 ∧ ∃ ty : Nat → FieldType, (∀ k, k < 4 → parseFieldDescriptor (pm_F7 k).2.2.1 = some (ty k)) ∧ (∀ k, k < 4 → defaultValue (ty k) = vp_V (pmT.2.2.2.1 7) k) ∧ ∀ k, k < 4 → pm_code (pmT.2.2.1 7 k) (ty k) (pm_F7 k).2.2.2 := by
  refine ⟨List.forall_mem_cons.mpr ⟨gl_7_0, List.forall_mem_cons.mpr ⟨gl_7_1, List.forall_mem_cons.mpr ⟨gl_7_2, List.forall_mem_cons.mpr ⟨gl_7_3, fun _ h => absurd h List.not_mem_nil⟩⟩⟩⟩, by decide +kernel, by decide +kernel, rfl, pm_t7, by decide +kernel, by decide +kernel, ?_⟩
  intro k hk
  refine pm_codeB_ok ?_
  revert k
  decide +kernel
set_option maxRecDepth 20000 in
theorem ok_c8 : (∀ w ∈ u_ws pm_R8 pm_F8 6, w ∈ pm_GW) ∧ (∀ a, a < 6 → ∀ b, b < 6 → a ≠ b → (pm_F8 a).2.1 ≠ (pm_F8 b).2.1) ∧ (∀ v ∈ pmT.2.2.2.1 8, v = .int 0 ∨ v = .null) ∧ (pmT.2.2.2.1 8).length = 6 ∧ ∃ ty : Nat → FieldType, (∀ k, k < 6 → parseFieldDescriptor (pm_F8 k).2.2.1 = some (ty k)) ∧ (∀ k, k < 6 → defaultValue (ty k) = vp_V (pmT.2.2.2.1 8) k) ∧ ∀ k, k < 6 → pm_code (pmT.2.2.1 8 k) (ty k) (pm_F8 k).2.2.2 := by
  refine ⟨List.forall_mem_cons.mpr ⟨gl_8_0, List.forall_mem_cons.mpr ⟨gl_8_1, List.forall_mem_cons.mpr ⟨gl_8_2, List.forall_mem_cons.mpr ⟨gl_8_3, List.forall_mem_cons.mpr ⟨gl_8_4, List.forall_mem_cons.mpr ⟨gl_8_5, fun _ h => absurd h List.not_mem_nil⟩⟩⟩⟩⟩⟩, by decide +kernel, by decide +kernel, rfl, pm_t8, by decide +kernel, by decide +kernel, ?_⟩
  intro k hk
  refine pm_codeB_ok ?_
  revert k
  decide +kernel
set_option maxRecDepth 20000 in
theorem ok_c9 : (∀ w ∈ u_ws pm_R9 pm_F9 5, w ∈ pm_GW) ∧ (∀ a, a < 5 → ∀ b, b < 5 → a ≠ b → (pm_F9 a).2.1 ≠ (pm_F9 b).2.1) ∧ (∀ v ∈ pmT.2.2.2.1 9, v = .int 0 ∨ v = .null) ∧ (pmT.2.2.2.1 9).length = 5 ∧ ∃ ty : Nat → FieldType, (∀ k, k < 5 → parseFieldDescriptor (pm_F9 k).2.2.1 = some (ty k)) ∧ (∀ k, k < 5 → defaultValue (ty k) = vp_V (pmT.2.2.2.1 9) k) ∧ ∀ k, k < 5 → pm_code (pmT.2.2.1 9 k) (ty k) (pm_F9 k).2.2.2 := by
  refine ⟨List.forall_mem_cons.mpr ⟨gl_9_0, List.forall_mem_cons.mpr ⟨gl_9_1, List.forall_mem_cons.mpr ⟨gl_9_2, List.forall_mem_cons.mpr ⟨gl_9_3, List.forall_mem_cons.mpr ⟨gl_9_4, fun _ h => absurd h List.not_mem_nil⟩⟩⟩⟩⟩, by decide +kernel, by decide +kernel, rfl, pm_t9, by decide +kernel, by decide +kernel, ?_⟩
  intro k hk
  refine pm_codeB_ok ?_
  revert k
  decide +kernel
set_option maxRecDepth 20000 in
theorem ok_c10 : (∀ w ∈ u_ws pm_R10 pm_F10 4, w ∈ pm_GW) ∧ (∀ a, a < 4 → ∀ b, b < 4 → a ≠ b → (pm_F10 a).2.1 ≠ (pm_F10 b).2.1) ∧ (∀ v ∈ pmT.2.2.2.1 10, v = .int 0 ∨ v = .null) ∧ (pmT.2.2.2.1 10).length = 4 ∧ ∃ ty : Nat → FieldType, (∀ k, k < 4 → parseFieldDescriptor (pm_F10 k).2.2.1 = some (ty k)) ∧ (∀ k, k < 4 → defaultValue (ty k) = vp_V (pmT.2.2.2.1 10) k) ∧ ∀ k, k < 4 → pm_code (pmT.2.2.1 10 k) (ty k) (pm_F10 k).2.2.2 := by
  refine ⟨List.forall_mem_cons.mpr ⟨gl_10_0, List.forall_mem_cons.mpr ⟨gl_10_1, List.forall_mem_cons.mpr ⟨gl_10_2, List.forall_mem_cons.mpr ⟨gl_10_3, fun _ h => absurd h List.not_mem_nil⟩⟩⟩⟩, by decide +kernel, by decide +kernel, rfl, pm_t10, by decide +kernel, by decide +kernel, ?_⟩
  intro k hk
  refine pm_codeB_ok ?_
  revert k
  decide +kernel
set_option maxRecDepth 20000 in
theorem ok_c11 : (∀ w ∈ u_ws pm_R11 pm_F11 7, w ∈ pm_GW) ∧ (∀ a, a < 7 → ∀ b, b < 7 → a ≠ b → (pm_F11 a).2.1 ≠ (pm_F11 b).2.1) ∧ (∀ v ∈ pmT.2.2.2.1 11, v = .int 0 ∨ v = .null) ∧ (pmT.2.2.2.1 11).length = 7 ∧ ∃ ty : Nat → FieldType, (∀ k, k < 7 → parseFieldDescriptor (pm_F11 k).2.2.1 = some (ty k)) ∧ (∀ k, k < 7 → defaultValue (ty k) = vp_V (pmT.2.2.2.1 11) k) ∧ ∀ k, k < 7 → pm_code (pmT.2.2.1 11 k) (ty k) (pm_F11 k).2.2.2 := by
  refine ⟨List.forall_mem_cons.mpr ⟨gl_11_0, List.forall_mem_cons.mpr ⟨gl_11_1, List.forall_mem_cons.mpr ⟨gl_11_2, List.forall_mem_cons.mpr ⟨gl_11_3, List.forall_mem_cons.mpr ⟨gl_11_4, List.forall_mem_cons.mpr ⟨gl_11_5, List.forall_mem_cons.mpr ⟨gl_11_6, fun _ h => absurd h List.not_mem_nil⟩⟩⟩⟩⟩⟩⟩, by decide +kernel, by decide +kernel, rfl, pm_t11, by decide +kernel, by decide +kernel, ?_⟩
  intro k hk
  refine pm_codeB_ok ?_
  revert k
  decide +kernel
set_option maxRecDepth 20000 in
theorem ok_c12 : (∀ w ∈ u_ws pm_R12 pm_F12 65, w ∈ pm_GW) ∧ (∀ a, a < 65 → ∀ b, b < 65 → a ≠ b → (pm_F12 a).2.1 ≠ (pm_F12 b).2.1) ∧ (∀ v ∈ pmT.2.2.2.1 12, v = .int 0 ∨ v = .null) ∧ (pmT.2.2.2.1 12).length = 65 ∧ ∃ ty : Nat → FieldType, (∀ k, k < 65 → parseFieldDescriptor (pm_F12 k).2.2.1 = some (ty k)) ∧ (∀ k, k < 65 → defaultValue (ty k) = vp_V (pmT.2.2.2.1 12) k) ∧ ∀ k, k < 65 → pm_code (pmT.2.2.1 12 k) (ty k) (pm_F12 k).2.2.2 := by
  refine ⟨List.forall_mem_cons.mpr ⟨gl_12_0, List.forall_mem_cons.mpr ⟨gl_12_1, List.forall_mem_cons.mpr ⟨gl_12_2, List.forall_mem_cons.mpr ⟨gl_12_3, List.forall_mem_cons.mpr ⟨gl_12_4, List.forall_mem_cons.mpr ⟨gl_12_5, List.forall_mem_cons.mpr ⟨gl_12_6, List.forall_mem_cons.mpr ⟨gl_12_7, List.forall_mem_cons.mpr ⟨gl_12_8, List.forall_mem_cons.mpr ⟨gl_12_9, List.forall_mem_cons.mpr ⟨gl_12_10, List.forall_mem_cons.mpr ⟨gl_12_11, List.forall_mem_cons.mpr ⟨gl_12_12, List.forall_mem_cons.mpr ⟨gl_12_13, List.forall_mem_cons.mpr ⟨gl_12_14, List.forall_mem_cons.mpr ⟨gl_12_15, List.forall_mem_cons.mpr ⟨gl_12_16, List.forall_mem_cons.mpr ⟨gl_12_17, List.forall_mem_cons.mpr ⟨gl_12_18, List.forall_mem_cons.mpr ⟨gl_12_19, List.forall_mem_cons.mpr ⟨gl_12_20, List.forall_mem_cons.mpr ⟨gl_12_21, List.forall_mem_cons.mpr ⟨gl_12_22, List.forall_mem_cons.mpr ⟨gl_12_23, List.forall_mem_cons.mpr ⟨gl_12_24, List.forall_mem_cons.mpr ⟨gl_12_25, List.forall_mem_cons.mpr ⟨gl_12_26, List.forall_mem_cons.mpr ⟨gl_12_27, List.forall_mem_cons.mpr ⟨gl_12_28, List.forall_mem_cons.mpr ⟨gl_12_29, List.forall_mem_cons.mpr ⟨gl_12_30, List.forall_mem_cons.mpr ⟨gl_12_31, List.forall_mem_cons.mpr ⟨gl_12_32, List.forall_mem_cons.mpr ⟨gl_12_33, List.forall_mem_cons.mpr ⟨gl_12_34, List.forall_mem_cons.mpr ⟨gl_12_35, List.forall_mem_cons.mpr ⟨gl_12_36, List.forall_mem_cons.mpr ⟨gl_12_37, List.forall_mem_cons.mpr ⟨gl_12_38, List.forall_mem_cons.mpr ⟨gl_12_39, List.forall_mem_cons.mpr ⟨gl_12_40, List.forall_mem_cons.mpr ⟨gl_12_41, List.forall_mem_cons.mpr ⟨gl_12_42, List.forall_mem_cons.mpr ⟨gl_12_43, List.forall_mem_cons.mpr ⟨gl_12_44, List.forall_mem_cons.mpr ⟨gl_12_45, List.forall_mem_cons.mpr ⟨gl_12_46, List.forall_mem_cons.mpr ⟨gl_12_47, List.forall_mem_cons.mpr ⟨gl_12_48, List.forall_mem_cons.mpr ⟨gl_12_49, List.forall_mem_cons.mpr ⟨gl_12_50, List.forall_mem_cons.mpr ⟨gl_12_51, List.forall_mem_cons.mpr ⟨gl_12_52, List.forall_mem_cons.mpr ⟨gl_12_53, List.forall_mem_cons.mpr ⟨gl_12_54, List.forall_mem_cons.mpr ⟨gl_12_55, List.forall_mem_cons.mpr ⟨gl_12_56, List.forall_mem_cons.mpr ⟨gl_12_57, List.forall_mem_cons.mpr ⟨gl_12_58, List.forall_mem_cons.mpr ⟨gl_12_59, List.forall_mem_cons.mpr ⟨gl_12_60, List.forall_mem_cons.mpr ⟨gl_12_61, List.forall_mem_cons.mpr ⟨gl_12_62, List.forall_mem_cons.mpr ⟨gl_12_63, List.forall_mem_cons.mpr ⟨gl_12_64, fun _ h => absurd h List.not_mem_nil⟩⟩⟩⟩⟩⟩⟩⟩⟩⟩⟩⟩⟩⟩⟩⟩⟩⟩⟩⟩⟩⟩⟩⟩⟩⟩⟩⟩⟩⟩⟩⟩⟩⟩⟩⟩⟩⟩⟩⟩⟩⟩⟩⟩⟩⟩⟩⟩⟩⟩⟩⟩⟩⟩⟩⟩⟩⟩⟩⟩⟩⟩⟩⟩⟩, by decide +kernel, by decide +kernel, rfl, pm_t12, by decide +kernel, by decide +kernel, ?_⟩
  intro k hk
  refine pm_codeB_ok ?_
  revert k
  decide +kernel
theorem pm_okOC : pm_OC pmT pm_cl pm_GW := fun ci C Tf N h => by
  have hlt : ci < 13 := (List.getElem?_eq_some_iff.mp h).1
  rcases (show ci = 0 ∨ ci = 1 ∨ ci = 2 ∨ ci = 3 ∨ ci = 4 ∨ ci = 5 ∨ ci = 6 ∨ ci = 7 ∨ ci = 8 ∨ ci = 9 ∨ ci = 10 ∨ ci = 11 ∨ ci = 12 by omega) with rfl | rfl | rfl | rfl | rfl | rfl | rfl | rfl | rfl | rfl | rfl | rfl | rfl
  · cases h; exact ok_c0
  · cases h; exact ok_c1
  · cases h; exact ok_c2
  · cases h; exact ok_c3
  · cases h; exact ok_c4
  · cases h; exact ok_c5
  · cases h; exact ok_c6
  · cases h; exact ok_c7
  · cases h; exact ok_c8
  · cases h; exact ok_c9
  · cases h; exact ok_c10
  · cases h; exact ok_c11
  · cases h; exact ok_c12
theorem mm_0 : pmT.1 0 = some (pm_y0, prog_1_method_1_code, 2, none, 0, true, pm_c0) := rfl
theorem mm_1 : pmT.1 1 = some (pm_y1, prog_1_method_2_code, 3, (some FieldType.boolean), 0, false, pm_c1) := rfl
theorem mm_2 : pmT.1 2 = some (pm_y2, prog_1_method_3_code, 4, (some FieldType.int), 0, false, pm_c2) := rfl
theorem mm_3 : pmT.1 3 = some (pm_y3, prog_1_method_4_code, 2, (some FieldType.int), 0, false, pm_c3) := rfl
theorem mm_4 : pmT.1 4 = some (pm_y4, prog_1_method_5_code, 1, (some FieldType.int), 0, false, pm_c4) := rfl
theorem mm_5 : pmT.1 5 = some (pm_y5, prog_1_method_6_code, 2, (some FieldType.int), 0, false, pm_c5) := rfl
theorem mm_6 : pmT.1 6 = some (pm_y6, prog_1_method_7_code, 2, (some FieldType.int), 0, false, pm_c6) := rfl
theorem mm_7 : pmT.1 7 = some (pm_y7, prog_1_method_8_code, 2, (some FieldType.int), 0, false, pm_c7) := rfl
theorem mm_8 : pmT.1 8 = some (pm_y8, prog_1_method_9_code, 2, (some FieldType.int), 0, false, pm_c8) := rfl
theorem mm_9 : pmT.1 9 = some (pm_y9, prog_1_method_10_code, 1, (some FieldType.int), 0, false, pm_c9) := rfl
theorem mm_10 : pmT.1 10 = some (pm_y10, prog_1_method_11_code, 2, (some FieldType.int), 0, false, pm_c10) := rfl
theorem mm_11 : pmT.1 11 = some (pm_y11, prog_1_method_12_code, 1, (some FieldType.boolean), 0, false, pm_c11) := rfl
theorem mm_12 : pmT.1 12 = some (pm_y12, prog_1_method_13_code, 1, (some FieldType.boolean), 0, false, pm_c12) := rfl
theorem mm_13 : pmT.1 13 = some (pm_y13, prog_1_method_14_code, 1, (some FieldType.boolean), 0, false, pm_c13) := rfl
theorem mm_14 : pmT.1 14 = some (pm_y14, prog_1_method_15_code, 1, (some FieldType.boolean), 0, false, pm_c14) := rfl
theorem mm_15 : pmT.1 15 = some (pm_y15, prog_1_method_16_code, 1, (some FieldType.boolean), 0, false, pm_c15) := rfl
theorem mm_16 : pmT.1 16 = some (pm_y16, prog_1_method_17_code, 1, (some FieldType.boolean), 0, false, pm_c16) := rfl
theorem mm_17 : pmT.1 17 = some (pm_y17, prog_1_method_18_code, 1, (some FieldType.int), 0, false, pm_c17) := rfl
theorem mm_18 : pmT.1 18 = some (pm_y18, prog_14_method_1_code, 1, none, 12, true, pm_c18) := rfl
theorem mm_19 : pmT.1 19 = some (pm_y19, prog_14_method_2_code, 3, (some FieldType.boolean), 12, false, pm_c19) := rfl
theorem mm_20 : pmT.1 20 = some (pm_y20, prog_14_method_3_code, 5, (some FieldType.boolean), 12, false, pm_c20) := rfl
theorem mm_21 : pmT.1 21 = some (pm_y21, prog_14_method_4_code, 1, (some FieldType.boolean), 12, false, pm_c21) := rfl
theorem mm_22 : pmT.1 22 = some (pm_y22, prog_14_method_5_code, 1, (some FieldType.boolean), 12, false, pm_c22) := rfl
theorem mm_23 : pmT.1 23 = some (pm_y23, prog_14_method_6_code, 1, (some FieldType.int), 12, false, pm_c23) := rfl
theorem mm_24 : pmT.1 24 = some (pm_y24, prog_14_method_7_code, 1, (some FieldType.boolean), 12, false, pm_c24) := rfl
theorem mm_25 : pmT.1 25 = some (pm_y25, prog_14_method_8_code, 1, (some FieldType.boolean), 12, false, pm_c25) := rfl
theorem mm_26 : pmT.1 26 = some (pm_y26, prog_14_method_9_code, 1, (some FieldType.boolean), 12, false, pm_c26) := rfl
theorem mm_27 : pmT.1 27 = some (pm_y27, prog_14_method_10_code, 3, (some FieldType.int), 12, false, pm_c27) := rfl
theorem mm_28 : pmT.1 28 = some (pm_y28, prog_14_method_11_code, 6, none, 12, false, pm_c28) := rfl
theorem mm_29 : pmT.1 29 = some (pm_y29, prog_14_method_12_code, 1, (some FieldType.boolean), 12, false, pm_c29) := rfl
theorem mm_30 : pmT.1 30 = some (pm_y30, prog_14_method_13_code, 2, (some FieldType.boolean), 12, false, pm_c30) := rfl
theorem mm_31 : pmT.1 31 = some (pm_y31, prog_14_method_14_code, 2, (some FieldType.boolean), 12, false, pm_c31) := rfl
theorem mm_32 : pmT.1 32 = some (pm_y32, prog_14_method_15_code, 2, none, 12, false, pm_c32) := rfl
theorem mm_33 : pmT.1 33 = some (pm_y33, prog_14_method_16_code, 4, none, 12, false, pm_c33) := rfl
theorem mm_34 : pmT.1 34 = some (pm_y34, prog_14_method_17_code, 2, (some FieldType.boolean), 12, false, pm_c34) := rfl
theorem mm_35 : pmT.1 35 = some (pm_y35, prog_14_method_18_code, 4, none, 12, false, pm_c35) := rfl
theorem mm_36 : pmT.1 36 = some (pm_y36, prog_14_method_19_code, 3, none, 12, false, pm_c36) := rfl
theorem mm_37 : pmT.1 37 = some (pm_y37, prog_14_method_20_code, 2, (some FieldType.boolean), 12, false, pm_c37) := rfl
theorem mm_38 : pmT.1 38 = some (pm_y38, prog_14_method_21_code, 2, none, 12, false, pm_c38) := rfl
theorem mm_39 : pmT.1 39 = some (pm_y39, prog_14_method_22_code, 1, none, 12, false, pm_c39) := rfl
theorem mm_40 : pmT.1 40 = some (pm_y40, prog_14_method_23_code, 3, (some FieldType.int), 12, false, pm_c40) := rfl
theorem mm_41 : pmT.1 41 = some (pm_y41, prog_14_method_24_code, 1, (some FieldType.int), 12, false, pm_c41) := rfl
theorem mm_42 : pmT.1 42 = some (pm_y42, prog_14_method_25_code, 4, (some FieldType.boolean), 12, false, pm_c42) := rfl
theorem mm_43 : pmT.1 43 = some (pm_y43, prog_14_method_26_code, 6, (some FieldType.boolean), 12, false, pm_c43) := rfl
theorem mm_44 : pmT.1 44 = some (pm_y44, prog_14_method_27_code, 5, (some FieldType.boolean), 12, false, pm_c44) := rfl
theorem mm_45 : pmT.1 45 = some (pm_y45, prog_14_method_28_code, 4, (some FieldType.boolean), 12, false, pm_c45) := rfl
theorem mm_46 : pmT.1 46 = some (pm_y46, prog_14_method_29_code, 4, (some FieldType.int), 12, false, pm_c46) := rfl
theorem mm_47 : pmT.1 47 = some (pm_y47, prog_14_method_30_code, 3, (some FieldType.boolean), 12, false, pm_c47) := rfl
theorem mm_48 : pmT.1 48 = some (pm_y48, prog_14_method_31_code, 4, (some FieldType.boolean), 12, false, pm_c48) := rfl
theorem mm_49 : pmT.1 49 = some (pm_y49, prog_14_method_32_code, 9, none, 12, false, pm_c49) := rfl
theorem mm_50 : pmT.1 50 = some (pm_y50, prog_14_method_33_code, 2, none, 12, false, pm_c50) := rfl
theorem mm_51 : pmT.1 51 = some (pm_y51, prog_14_method_34_code, 4, none, 12, false, pm_c51) := rfl
theorem mm_52 : pmT.1 52 = some (pm_y52, prog_14_method_35_code, 3, (some FieldType.int), 12, false, pm_c52) := rfl
theorem mm_53 : pmT.1 53 = some (pm_y53, prog_14_method_36_code, 2, (some FieldType.int), 12, false, pm_c53) := rfl
theorem mm_54 : pmT.1 54 = some (pm_y54, prog_14_method_37_code, 6, (some FieldType.boolean), 12, false, pm_c54) := rfl
theorem mm_55 : pmT.1 55 = some (pm_y55, prog_14_method_38_code, 4, (some FieldType.boolean), 12, false, pm_c55) := rfl
theorem mm_56 : pmT.1 56 = some (pm_y56, prog_14_method_39_code, 2, (some FieldType.int), 12, false, pm_c56) := rfl
theorem mm_57 : pmT.1 57 = some (pm_y57, prog_14_method_40_code, 5, (some FieldType.boolean), 12, false, pm_c57) := rfl
theorem mm_58 : pmT.1 58 = some (pm_y58, prog_14_method_41_code, 4, (some FieldType.int), 12, false, pm_c58) := rfl
theorem mm_59 : pmT.1 59 = some (pm_y59, prog_14_method_42_code, 1, (some FieldType.int), 12, false, pm_c59) := rfl
theorem mm_60 : pmT.1 60 = some (pm_y60, prog_14_method_43_code, 2, (some FieldType.int), 12, false, pm_c60) := rfl
theorem mm_61 : pmT.1 61 = some (pm_y61, prog_14_method_44_code, 4, (some FieldType.int), 12, false, pm_c61) := rfl
theorem mm_62 : pmT.1 62 = some (pm_y62, prog_14_method_45_code, 9, (some FieldType.int), 12, false, pm_c62) := rfl
theorem mm_63 : pmT.1 63 = some (pm_y63, prog_14_method_46_code, 6, (some FieldType.int), 12, false, pm_c63) := rfl
theorem mm_64 : pmT.1 64 = some (pm_y64, prog_14_method_47_code, 3, (some FieldType.boolean), 12, false, pm_c64) := rfl
theorem mm_65 : pmT.1 65 = some (pm_y65, prog_14_method_48_code, 4, (some FieldType.int), 12, false, pm_c65) := rfl
theorem mm_66 : pmT.1 66 = some (pm_y66, prog_14_method_49_code, 10, (some FieldType.int), 12, false, pm_c66) := rfl
theorem mm_67 : pmT.1 67 = some (pm_y67, prog_14_method_50_code, 7, (some FieldType.int), 12, false, pm_c67) := rfl
theorem mm_68 : pmT.1 68 = some (pm_y68, prog_14_method_51_code, 5, (some FieldType.int), 12, false, pm_c68) := rfl
theorem mm_69 : pmT.1 69 = some (pm_y69, prog_14_method_52_code, 4, (some FieldType.int), 12, false, pm_c69) := rfl
theorem mm_70 : pmT.1 70 = some (pm_y70, prog_14_method_53_code, 4, none, 12, false, pm_c70) := rfl
theorem mm_71 : pmT.1 71 = some (pm_y71, prog_14_method_54_code, 9, none, 12, false, pm_c71) := rfl
theorem mm_72 : pmT.1 72 = some (pm_y72, prog_14_method_55_code, 2, (some FieldType.int), 12, false, pm_c72) := rfl
theorem mm_73 : pmT.1 73 = some (pm_y73, prog_14_method_56_code, 5, none, 12, false, pm_c73) := rfl
theorem mm_74 : pmT.1 74 = some (pm_y74, prog_14_method_57_code, 3, none, 12, false, pm_c74) := rfl
theorem mm_75 : pmT.1 75 = some (pm_y75, prog_14_method_58_code, 9, none, 12, false, pm_c75) := rfl
theorem mm_76 : pmT.1 76 = some (pm_y76, prog_14_method_59_code, 8, (some FieldType.int), 12, false, pm_c76) := rfl
theorem mm_77 : pmT.1 77 = some (pm_y77, prog_14_method_60_code, 11, (some FieldType.boolean), 12, false, pm_c77) := rfl
theorem mm_78 : pmT.1 78 = some (pm_y78, prog_14_method_61_code, 2, (some FieldType.boolean), 12, false, pm_c78) := rfl
theorem mm_79 : pmT.1 79 = some (pm_y79, prog_14_method_62_code, 2, (some FieldType.boolean), 12, false, pm_c79) := rfl
theorem mm_80 : pmT.1 80 = some (pm_y80, prog_14_method_63_code, 5, (some FieldType.boolean), 12, false, pm_c80) := rfl
theorem mm_81 : pmT.1 81 = some (pm_y81, prog_14_method_64_code, 6, (some FieldType.int), 12, false, pm_c81) := rfl
theorem mm_82 : pmT.1 82 = some (pm_y82, prog_14_method_65_code, 3, (some FieldType.int), 12, false, pm_c82) := rfl
theorem mm_83 : pmT.1 83 = some (pm_y83, prog_14_method_66_code, 2, (some FieldType.int), 12, false, pm_c83) := rfl
theorem mm_84 : pmT.1 84 = some (pm_y84, prog_14_method_67_code, 2, (some FieldType.int), 12, false, pm_c84) := rfl
theorem mm_85 : pmT.1 85 = some (pm_y85, prog_14_method_68_code, 2, (some FieldType.boolean), 12, false, pm_c85) := rfl
theorem mm_86 : pmT.1 86 = some (pm_y86, prog_14_method_69_code, 6, (some FieldType.int), 12, false, pm_c86) := rfl
theorem mm_87 : pmT.1 87 = some (pm_y87, prog_14_method_70_code, 1, (some FieldType.int), 12, false, pm_c87) := rfl
theorem mm_88 : pmT.1 88 = some (pm_y88, prog_14_method_71_code, 2, (some FieldType.int), 12, false, pm_c88) := rfl
theorem mm_89 : pmT.1 89 = some (pm_y89, prog_2_method_1_code, 1, none, 1, true, pm_c89) := rfl
theorem mm_90 : pmT.1 90 = some (pm_y90, prog_2_method_2_code, 4, (some FieldType.int), 1, false, pm_c90) := rfl
theorem mm_91 : pmT.1 91 = some (pm_y91, prog_2_method_3_code, 3, (some FieldType.int), 1, false, pm_c91) := rfl
theorem mm_92 : pmT.1 92 = some (pm_y92, prog_2_method_4_code, 4, (some FieldType.boolean), 1, false, pm_c92) := rfl
theorem mm_93 : pmT.1 93 = some (pm_y93, prog_2_method_5_code, 4, (some FieldType.boolean), 1, false, pm_c93) := rfl
theorem mm_94 : pmT.1 94 = some (pm_y94, prog_2_method_6_code, 5, (some FieldType.boolean), 1, false, pm_c94) := rfl
theorem mm_95 : pmT.1 95 = some (pm_y95, prog_2_method_7_code, 5, (some FieldType.boolean), 1, false, pm_c95) := rfl
theorem mm_96 : pmT.1 96 = some (pm_y96, prog_2_method_8_code, 6, (some FieldType.boolean), 1, false, pm_c96) := rfl
theorem mm_97 : pmT.1 97 = some (pm_y97, prog_2_method_9_code, 5, (some FieldType.boolean), 1, false, pm_c97) := rfl
theorem mm_98 : pmT.1 98 = some (pm_y98, prog_2_method_10_code, 4, (some FieldType.boolean), 1, false, pm_c98) := rfl
theorem mm_99 : pmT.1 99 = some (pm_y99, prog_2_method_11_code, 4, (some FieldType.boolean), 1, false, pm_c99) := rfl
theorem mm_100 : pmT.1 100 = some (pm_y100, prog_3_method_1_code, 1, none, 2, true, pm_c100) := rfl
theorem mm_101 : pmT.1 101 = some (pm_y101, prog_3_method_2_code, 1, none, 2, false, pm_c101) := rfl
theorem mm_102 : pmT.1 102 = some (pm_y102, prog_3_method_3_code, 3, none, 2, false, pm_c102) := rfl
theorem mm_103 : pmT.1 103 = some (pm_y103, prog_3_method_4_code, 2, none, 2, false, pm_c103) := rfl
theorem mm_104 : pmT.1 104 = some (pm_y104, prog_3_method_5_code, 3, none, 2, false, pm_c104) := rfl
theorem mm_105 : pmT.1 105 = some (pm_y105, prog_3_method_6_code, 3, none, 2, false, pm_c105) := rfl
theorem mm_106 : pmT.1 106 = some (pm_y106, prog_3_method_7_code, 3, none, 2, false, pm_c106) := rfl
theorem mm_107 : pmT.1 107 = some (pm_y107, prog_3_method_8_code, 1, (some FieldType.int), 2, false, pm_c107) := rfl
theorem mm_108 : pmT.1 108 = some (pm_y108, prog_3_method_9_code, 1, (some FieldType.int), 2, false, pm_c108) := rfl
theorem mm_109 : pmT.1 109 = some (pm_y109, prog_3_method_10_code, 2, (some FieldType.int), 2, false, pm_c109) := rfl
theorem mm_110 : pmT.1 110 = some (pm_y110, prog_3_method_11_code, 2, (some FieldType.int), 2, false, pm_c110) := rfl
theorem mm_111 : pmT.1 111 = some (pm_y111, prog_3_method_12_code, 2, (some FieldType.int), 2, false, pm_c111) := rfl
theorem mm_112 : pmT.1 112 = some (pm_y112, prog_3_method_13_code, 2, (some FieldType.int), 2, false, pm_c112) := rfl
theorem mm_113 : pmT.1 113 = some (pm_y113, prog_3_method_14_code, 2, (some FieldType.int), 2, false, pm_c113) := rfl
theorem mm_114 : pmT.1 114 = some (pm_y114, prog_3_method_15_code, 2, (some FieldType.int), 2, false, pm_c114) := rfl
theorem mm_115 : pmT.1 115 = some (pm_y115, prog_3_method_16_code, 2, (some FieldType.boolean), 2, false, pm_c115) := rfl
theorem mm_116 : pmT.1 116 = some (pm_y116, prog_3_method_17_code, 2, (some FieldType.boolean), 2, false, pm_c116) := rfl
theorem mm_117 : pmT.1 117 = some (pm_y117, prog_3_method_18_code, 3, (some FieldType.int), 2, false, pm_c117) := rfl
theorem mm_118 : pmT.1 118 = some (pm_y118, prog_3_method_19_code, 2, (some FieldType.int), 2, false, pm_c118) := rfl
theorem mm_119 : pmT.1 119 = some (pm_y119, prog_3_method_20_code, 2, (some FieldType.int), 2, false, pm_c119) := rfl
theorem mm_120 : pmT.1 120 = some (pm_y120, prog_3_method_21_code, 3, (some FieldType.int), 2, false, pm_c120) := rfl
theorem mm_121 : pmT.1 121 = some (pm_y121, prog_3_method_22_code, 2, (some FieldType.int), 2, false, pm_c121) := rfl
theorem mm_122 : pmT.1 122 = some (pm_y122, prog_3_method_23_code, 3, (some FieldType.int), 2, false, pm_c122) := rfl
theorem mm_123 : pmT.1 123 = some (pm_y123, prog_3_method_24_code, 2, (some FieldType.int), 2, false, pm_c123) := rfl
theorem mm_124 : pmT.1 124 = some (pm_y124, prog_3_method_25_code, 3, (some FieldType.int), 2, false, pm_c124) := rfl
theorem mm_125 : pmT.1 125 = some (pm_y125, prog_3_method_26_code, 5, (some FieldType.int), 2, false, pm_c125) := rfl
theorem mm_126 : pmT.1 126 = some (pm_y126, prog_4_method_1_code, 1, none, 3, true, pm_c126) := rfl
theorem mm_127 : pmT.1 127 = some (pm_y127, prog_4_method_2_code, 5, (some FieldType.int), 3, false, pm_c127) := rfl
theorem mm_128 : pmT.1 128 = some (pm_y128, prog_4_method_3_code, 3, (some FieldType.boolean), 3, false, pm_c128) := rfl
theorem mm_129 : pmT.1 129 = some (pm_y129, prog_4_method_4_code, 3, (some FieldType.boolean), 3, false, pm_c129) := rfl
theorem mm_130 : pmT.1 130 = some (pm_y130, prog_4_method_5_code, 2, (some FieldType.boolean), 3, false, pm_c130) := rfl
theorem mm_131 : pmT.1 131 = some (pm_y131, prog_4_method_6_code, 2, (some FieldType.boolean), 3, false, pm_c131) := rfl
theorem mm_132 : pmT.1 132 = some (pm_y132, prog_4_method_7_code, 3, (some FieldType.boolean), 3, false, pm_c132) := rfl
theorem mm_133 : pmT.1 133 = some (pm_y133, prog_4_method_8_code, 3, (some FieldType.boolean), 3, false, pm_c133) := rfl
theorem mm_134 : pmT.1 134 = some (pm_y134, prog_4_method_9_code, 2, (some FieldType.boolean), 3, false, pm_c134) := rfl
theorem mm_135 : pmT.1 135 = some (pm_y135, prog_5_method_1_code, 1, none, 4, true, pm_c135) := rfl
theorem mm_136 : pmT.1 136 = some (pm_y136, prog_5_method_2_code, 1, (some (FieldType.object "ArmExpander$Row")), 4, false, pm_c136) := rfl
theorem mm_137 : pmT.1 137 = some (pm_y137, prog_5_method_3_code, 1, (some FieldType.int), 4, false, pm_c137) := rfl
theorem mm_138 : pmT.1 138 = some (pm_y138, prog_5_method_4_code, 2, (some FieldType.int), 4, false, pm_c138) := rfl
theorem mm_139 : pmT.1 139 = some (pm_y139, prog_5_method_5_code, 3, (some FieldType.int), 4, false, pm_c139) := rfl
theorem mm_140 : pmT.1 140 = some (pm_y140, prog_5_method_6_code, 4, (some FieldType.int), 4, false, pm_c140) := rfl
theorem mm_141 : pmT.1 141 = some (pm_y141, prog_5_method_7_code, 3, (some FieldType.boolean), 4, false, pm_c141) := rfl
theorem mm_142 : pmT.1 142 = some (pm_y142, prog_5_method_8_code, 9, (some FieldType.int), 4, false, pm_c142) := rfl
theorem mm_143 : pmT.1 143 = some (pm_y143, prog_5_method_9_code, 4, (some (FieldType.object "ArmExpander$Definition")), 4, false, pm_c143) := rfl
theorem mm_144 : pmT.1 144 = some (pm_y144, prog_5_method_10_code, 5, (some FieldType.int), 4, false, pm_c144) := rfl
theorem mm_145 : pmT.1 145 = some (pm_y145, prog_5_method_11_code, 6, (some FieldType.int), 4, false, pm_c145) := rfl
theorem mm_146 : pmT.1 146 = some (pm_y146, prog_5_method_12_code, 2, none, 4, false, pm_c146) := rfl
theorem mm_147 : pmT.1 147 = some (pm_y147, prog_6_method_1_code, 1, none, 5, true, pm_c147) := rfl
theorem mm_148 : pmT.1 148 = some (pm_y148, prog_6_method_2_code, 1, (some (FieldType.object "ArmExpander$Takings")), 5, false, pm_c148) := rfl
theorem mm_149 : pmT.1 149 = some (pm_y149, prog_6_method_3_code, 10, (some FieldType.int), 5, false, pm_c149) := rfl
theorem mm_150 : pmT.1 150 = some (pm_y150, prog_6_method_4_code, 2, (some FieldType.int), 5, false, pm_c150) := rfl
theorem mm_151 : pmT.1 151 = some (pm_y151, prog_6_method_5_code, 7, (some FieldType.int), 5, false, pm_c151) := rfl
theorem mm_152 : pmT.1 152 = some (pm_y152, prog_6_method_6_code, 2, (some FieldType.boolean), 5, false, pm_c152) := rfl
theorem mm_153 : pmT.1 153 = some (pm_y153, prog_6_method_7_code, 3, (some FieldType.int), 5, false, pm_c153) := rfl
theorem mm_154 : pmT.1 154 = some (pm_y154, prog_6_method_8_code, 6, none, 5, false, pm_c154) := rfl
theorem mm_155 : pmT.1 155 = some (pm_y155, prog_6_method_9_code, 4, none, 5, false, pm_c155) := rfl
theorem mm_156 : pmT.1 156 = some (pm_y156, prog_6_method_10_code, 2, none, 5, false, pm_c156) := rfl
theorem mm_157 : pmT.1 157 = some (pm_y157, prog_6_method_11_code, 7, (some FieldType.int), 5, false, pm_c157) := rfl
theorem mm_158 : pmT.1 158 = some (pm_y158, prog_6_method_12_code, 5, (some FieldType.int), 5, false, pm_c158) := rfl
theorem mm_159 : pmT.1 159 = some (pm_y159, prog_7_method_1_code, 1, none, 6, true, pm_c159) := rfl
theorem mm_160 : pmT.1 160 = some (pm_y160, prog_7_method_2_code, 1, none, 6, false, pm_c160) := rfl
theorem mm_161 : pmT.1 161 = some (pm_y161, prog_7_method_3_code, 1, (some FieldType.boolean), 6, false, pm_c161) := rfl
theorem mm_162 : pmT.1 162 = some (pm_y162, prog_7_method_4_code, 3, (some FieldType.boolean), 6, false, pm_c162) := rfl
theorem mm_163 : pmT.1 163 = some (pm_y163, prog_7_method_5_code, 2, (some FieldType.int), 6, false, pm_c163) := rfl
theorem mm_164 : pmT.1 164 = some (pm_y164, prog_8_method_1_code, 1, none, 7, true, pm_c164) := rfl
theorem mm_165 : pmT.1 165 = some (pm_y165, prog_8_method_2_code, 1, none, 7, false, pm_c165) := rfl
theorem mm_166 : pmT.1 166 = some (pm_y166, prog_8_method_3_code, 1, (some FieldType.int), 7, false, pm_c166) := rfl
theorem mm_167 : pmT.1 167 = some (pm_y167, prog_8_method_4_code, 1, (some FieldType.boolean), 7, false, pm_c167) := rfl
theorem mm_168 : pmT.1 168 = some (pm_y168, prog_8_method_5_code, 3, none, 7, false, pm_c168) := rfl
theorem mm_169 : pmT.1 169 = some (pm_y169, prog_8_method_6_code, 5, none, 7, false, pm_c169) := rfl
theorem mm_170 : pmT.1 170 = some (pm_y170, prog_8_method_7_code, 2, (some FieldType.int), 7, false, pm_c170) := rfl
theorem mm_171 : pmT.1 171 = some (pm_y171, prog_8_method_8_code, 2, (some FieldType.int), 7, false, pm_c171) := rfl
theorem mm_172 : pmT.1 172 = some (pm_y172, prog_8_method_9_code, 4, (some FieldType.int), 7, false, pm_c172) := rfl
theorem mm_173 : pmT.1 173 = some (pm_y173, prog_8_method_10_code, 3, (some FieldType.int), 7, false, pm_c173) := rfl
theorem mm_174 : pmT.1 174 = some (pm_y174, prog_8_method_11_code, 4, (some FieldType.int), 7, false, pm_c174) := rfl
theorem mm_175 : pmT.1 175 = some (pm_y175, prog_8_method_12_code, 2, (some FieldType.boolean), 7, false, pm_c175) := rfl
theorem mm_176 : pmT.1 176 = some (pm_y176, prog_8_method_13_code, 3, (some FieldType.boolean), 7, false, pm_c176) := rfl
theorem mm_177 : pmT.1 177 = some (pm_y177, prog_9_method_1_code, 1, none, 8, true, pm_c177) := rfl
theorem mm_178 : pmT.1 178 = some (pm_y178, prog_9_method_2_code, 1, none, 8, false, pm_c178) := rfl
theorem mm_179 : pmT.1 179 = some (pm_y179, prog_9_method_3_code, 5, none, 8, false, pm_c179) := rfl
theorem mm_180 : pmT.1 180 = some (pm_y180, prog_9_method_4_code, 3, none, 8, false, pm_c180) := rfl
theorem mm_181 : pmT.1 181 = some (pm_y181, prog_9_method_5_code, 2, (some FieldType.int), 8, false, pm_c181) := rfl
theorem mm_182 : pmT.1 182 = some (pm_y182, prog_9_method_6_code, 5, (some FieldType.int), 8, false, pm_c182) := rfl
theorem mm_183 : pmT.1 183 = some (pm_y183, prog_9_method_7_code, 6, (some FieldType.int), 8, false, pm_c183) := rfl
theorem mm_184 : pmT.1 184 = some (pm_y184, prog_9_method_8_code, 2, (some FieldType.int), 8, false, pm_c184) := rfl
theorem mm_185 : pmT.1 185 = some (pm_y185, prog_9_method_9_code, 2, (some FieldType.int), 8, false, pm_c185) := rfl
theorem mm_186 : pmT.1 186 = some (pm_y186, prog_10_method_1_code, 1, none, 9, true, pm_c186) := rfl
theorem mm_187 : pmT.1 187 = some (pm_y187, prog_10_method_2_code, 2, none, 9, false, pm_c187) := rfl
theorem mm_188 : pmT.1 188 = some (pm_y188, prog_10_method_3_code, 2, (some FieldType.int), 9, false, pm_c188) := rfl
theorem mm_189 : pmT.1 189 = some (pm_y189, prog_10_method_4_code, 3, (some FieldType.int), 9, false, pm_c189) := rfl
theorem mm_190 : pmT.1 190 = some (pm_y190, prog_10_method_5_code, 1, none, 9, false, pm_c190) := rfl
theorem mm_191 : pmT.1 191 = some (pm_y191, prog_10_method_6_code, 4, none, 9, false, pm_c191) := rfl
theorem mm_192 : pmT.1 192 = some (pm_y192, prog_10_method_7_code, 2, none, 9, false, pm_c192) := rfl
theorem mm_193 : pmT.1 193 = some (pm_y193, prog_10_method_8_code, 3, none, 9, false, pm_c193) := rfl
theorem mm_194 : pmT.1 194 = some (pm_y194, prog_10_method_9_code, 9, none, 9, false, pm_c194) := rfl
theorem mm_195 : pmT.1 195 = some (pm_y195, prog_10_method_10_code, 4, none, 9, false, pm_c195) := rfl
theorem mm_196 : pmT.1 196 = some (pm_y196, prog_11_method_1_code, 1, none, 10, true, pm_c196) := rfl
theorem mm_197 : pmT.1 197 = some (pm_y197, prog_11_method_2_code, 5, (some FieldType.boolean), 10, false, pm_c197) := rfl
theorem mm_198 : pmT.1 198 = some (pm_y198, prog_11_method_3_code, 1, none, 10, false, pm_c198) := rfl
theorem mm_199 : pmT.1 199 = some (pm_y199, prog_11_method_4_code, 1, (some FieldType.int), 10, false, pm_c199) := rfl
theorem mm_200 : pmT.1 200 = some (pm_y200, prog_11_method_5_code, 1, (some FieldType.int), 10, false, pm_c200) := rfl
theorem mm_201 : pmT.1 201 = some (pm_y201, prog_11_method_6_code, 2, (some FieldType.int), 10, false, pm_c201) := rfl
theorem mm_202 : pmT.1 202 = some (pm_y202, prog_11_method_7_code, 3, (some FieldType.int), 10, false, pm_c202) := rfl
theorem mm_203 : pmT.1 203 = some (pm_y203, prog_11_method_8_code, 4, (some FieldType.int), 10, false, pm_c203) := rfl
theorem mm_204 : pmT.1 204 = some (pm_y204, prog_11_method_9_code, 2, (some FieldType.int), 10, false, pm_c204) := rfl
theorem mm_205 : pmT.1 205 = some (pm_y205, prog_11_method_10_code, 1, (some FieldType.boolean), 10, false, pm_c205) := rfl
theorem mm_206 : pmT.1 206 = some (pm_y206, prog_11_method_11_code, 1, (some FieldType.boolean), 10, false, pm_c206) := rfl
theorem mm_207 : pmT.1 207 = some (pm_y207, prog_12_method_1_code, 1, none, 11, true, pm_c207) := rfl
theorem mm_208 : pmT.1 208 = some (pm_y208, prog_12_method_2_code, 4, none, 11, false, pm_c208) := rfl
theorem mm_209 : pmT.1 209 = some (pm_y209, prog_12_method_3_code, 4, (some FieldType.boolean), 11, false, pm_c209) := rfl
theorem mm_210 : pmT.1 210 = some (pm_y210, prog_12_method_4_code, 6, (some FieldType.boolean), 11, false, pm_c210) := rfl
theorem mm_211 : pmT.1 211 = some (pm_y211, prog_12_method_5_code, 8, (some FieldType.boolean), 11, false, pm_c211) := rfl
theorem mm_212 : pmT.1 212 = some (pm_y212, prog_12_method_6_code, 8, (some FieldType.int), 11, false, pm_c212) := rfl
theorem mm_213 : pmT.1 213 = some (pm_y213, prog_12_method_7_code, 6, none, 11, false, pm_c213) := rfl
theorem mm_214 : pmT.1 214 = some (pm_y214, code, maxLocals, ret, 13, false, pm_c214) := rfl
theorem mm_215 : pmT.1 215 = some (pm_y215, prog_17_method_79_code, 2, (some FieldType.int), 100, false, pm_c215) := rfl
theorem mm_216 : pmT.1 216 = some (pm_y216, prog_17_method_80_code, 3, (some FieldType.int), 100, false, pm_c216) := rfl
theorem mm_217 : pmT.1 217 = some (pm_y217, prog_17_method_154_code, 1, (some FieldType.boolean), 100, false, pm_c217) := rfl
theorem mm_218 : pmT.1 218 = some (pm_y218, prog_17_method_54_code, 1, (some FieldType.int), 100, false, pm_c218) := rfl
theorem mm_219 : pmT.1 219 = some (pm_y219, prog_17_method_152_code, 1, (some FieldType.byte), 100, false, pm_c219) := rfl
theorem mm_220 : pmT.1 220 = some (pm_y220, prog_18_method_22_code, 4, (some FieldType.int), 14, false, pm_c220) := rfl
theorem mm_221 : pmT.1 221 = some (pm_y221, prog_18_method_4_code, 1, (some FieldType.boolean), 14, false, pm_c221) := rfl
theorem mm_222 : pmT.1 222 = some (pm_y222, prog_18_method_23_code, 6, (some FieldType.int), 14, false, pm_c222) := rfl
theorem mm_223 : pmT.1 223 = some (pm_y223, prog_20_method_103_code, 4, none, 15, false, pm_c223) := rfl
theorem pm_ok : pm_OK pmT pm_cl pm_GW pm_NW "ArmExpander$Definition" "+*,;=:!?>$()[]{}" := ⟨pm_okOM, pm_okOF, pm_okOC, pm_okON, pm_okOI, pm_okOB, pm_okOA, pm_okOL, pm_okOG, pm_okOW, pm_okOS⟩
