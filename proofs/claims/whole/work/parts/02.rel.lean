/-! How a pure state stands for the machine's: 'ar' the addresses of the cells by their numbers, 'b' the script's address, 'tc' the array classes. -/
def pm_rv (ar : List Nat) (b : Nat → Nat) (v w : Value) : Prop := match v with
  | .ref a => ∃ q : Nat, ar[a]? = some q ∧ w = .ref q
  | .retAddr k => w = .ref (b k)
  | .int x => w = .int x
  | .long x => w = .long x
  | .float x => w = .float x
  | .double x => w = .double x
  | .null => w = .null
def pm_rl (ar : List Nat) (b : Nat → Nat) : List Value → List Value → Prop
  | [], ws => ws = []
  | v :: t, ws => ∃ (w : Value) (u : List Value), ws = w :: u ∧ pm_rv ar b v w ∧ pm_rl ar b t u
def pm_rr (ar : List Nat) (b : Nat → Nat) (r v : Option Value) : Prop := match r with
  | none => v = none
  | some x => ∃ w : Value, v = some w ∧ pm_rv ar b x w
def pm_ro (ar : List Nat) (x y : Option Nat) : Prop := match x with
  | none => y = none
  | some a => ∃ q : Nat, ar[a]? = some q ∧ y = some q
def pm_re (tc : Nat → ClassId) (ar : List Nat) (b : Nat → Nat) (e e' : va_E) : Prop := match e with
  | .inl (t, n, .inl f) => e' = .inl (tc t, n, .inl f)
  | .inl (t, n, .inr (.inl f)) => e' = .inl (tc t, n, .inr (.inl f))
  | .inl (t, n, .inr (.inr (.inr (.inr f)))) => ∃ f' : Nat → Option Nat, e' = .inl (tc t, n, .inr (.inr (.inr (.inr f')))) ∧ ∀ j, pm_ro ar (f j) (f' j)
  | .inr (ci, fs) => ∃ fs' : List Value, e' = .inr (ci, fs') ∧ pm_rl ar b fs fs'
  | _ => False
def pm_rw (tc : Nat → ClassId) (ar : List Nat) (b : Nat → Nat) (N : Nat) (h : Nat → va_E) (ws : va_W) : Prop :=
  ws.map (fun q => q.1) = ar ∧ ar.length = N ∧ ∀ (i : Nat) (q : Nat × va_E), ws[i]? = some q → pm_re tc ar b (h i) q.2
def pm_rL (ar : List Nat) (b : Nat → Nat) (L : List (Option Value)) (ls : Array Slot) (mL : Nat) : Prop :=
  ls.size = mL ∧ lv_wf ls ∧ ∀ (i : Nat) (v : Value), L[i]? = some (some v) → v.category = 1 ∧ ∃ w : Value, ls[i]? = some (.val w) ∧ pm_rv ar b v w
theorem pm_app {α : Type} {ar bs : List α} {a : Nat} {q : α} (h : ar[a]? = some q) : (ar ++ bs)[a]? = some q := by
  rw [List.getElem?_append_left (List.getElem?_eq_some_iff.mp h).1]; exact h
theorem pm_rv_m {ar bs : List Nat} {b : Nat → Nat} {v w : Value} (h : pm_rv ar b v w) : pm_rv (ar ++ bs) b v w := by
  cases v <;> first | exact h | (obtain ⟨q, h1, h2⟩ := h; exact ⟨q, pm_app h1, h2⟩)
theorem pm_rl_m {ar bs : List Nat} {b : Nat → Nat} {l : List Value} : ∀ {l' : List Value}, pm_rl ar b l l' → pm_rl (ar ++ bs) b l l' := by
  induction l with
  | nil => intro l' h; exact h
  | cons v t ih => intro l' h; obtain ⟨w, u, e, h1, h2⟩ := h; exact ⟨w, u, e, pm_rv_m h1, ih h2⟩
theorem pm_ro_m {ar bs : List Nat} {x y : Option Nat} (h : pm_ro ar x y) : pm_ro (ar ++ bs) x y := by
  cases x with
  | none => exact h
  | some a => obtain ⟨q, h1, h2⟩ := h; exact ⟨q, pm_app h1, h2⟩
theorem pm_re_m {tc : Nat → ClassId} {ar bs : List Nat} {b : Nat → Nat} {e e' : va_E} (h : pm_re tc ar b e e') : pm_re tc (ar ++ bs) b e e' := by
  rcases e with ⟨t, n, f | f | f | f | f⟩ | ⟨ci, fs⟩
  · exact h
  · exact h
  · exact h
  · exact h
  · obtain ⟨f', h1, h2⟩ := h; exact ⟨f', h1, fun j => pm_ro_m (h2 j)⟩
  · obtain ⟨fs', h1, h2⟩ := h; exact ⟨fs', h1, pm_rl_m h2⟩
theorem pm_rL_m {ar bs : List Nat} {b : Nat → Nat} {L : List (Option Value)} {ls : Array Slot} {mL : Nat} (h : pm_rL ar b L ls mL) : pm_rL (ar ++ bs) b L ls mL :=
  ⟨h.1, h.2.1, fun i v hi => by obtain ⟨h1, w, h2, h3⟩ := h.2.2 i v hi; exact ⟨h1, w, h2, pm_rv_m h3⟩⟩
theorem pm_rv_cat {ar : List Nat} {b : Nat → Nat} {v w : Value} (h : pm_rv ar b v w) : w.category = v.category := by
  cases v <;> first | (obtain ⟨q, h1, h2⟩ := h; subst h2; rfl) | (have e := (show w = _ from h); subst e; rfl)
theorem pm_rl_get {ar : List Nat} {b : Nat → Nat} {fs : List Value} : ∀ {fs' : List Value} {k : Nat} {v : Value}, pm_rl ar b fs fs' → fs[k]? = some v → ∃ w, fs'[k]? = some w ∧ pm_rv ar b v w := by
  induction fs with
  | nil => intro fs' k v h hk; simp at hk
  | cons x t ih =>
    intro fs' k v h hk
    obtain ⟨w, u, rfl, h1, h2⟩ := h
    cases k with
    | zero => simp at hk; subst hk; exact ⟨w, rfl, h1⟩
    | succ k => simp at hk; obtain ⟨w', a1, a2⟩ := ih h2 hk; exact ⟨w', by simpa using a1, a2⟩
theorem pm_rl_len {ar : List Nat} {b : Nat → Nat} {fs : List Value} : ∀ {fs' : List Value}, pm_rl ar b fs fs' → fs'.length = fs.length := by
  induction fs with
  | nil => intro fs' h; rw [show fs' = [] from h]
  | cons x t ih => intro fs' h; obtain ⟨w, u, rfl, h1, h2⟩ := h; simp [ih h2]
theorem pm_rl_set {ar : List Nat} {b : Nat → Nat} {fs : List Value} {v w : Value} (hv : pm_rv ar b v w) : ∀ {fs' : List Value} {k : Nat}, pm_rl ar b fs fs' → pm_rl ar b (fs.set k v) (fs'.set k w) := by
  induction fs with
  | nil => intro fs' k h; rw [show fs' = [] from h]; exact rfl
  | cons x t ih =>
    intro fs' k h
    obtain ⟨w', u, rfl, h1, h2⟩ := h
    cases k with
    | zero => exact ⟨w, u, rfl, hv, h2⟩
    | succ k => exact ⟨w', u.set k w, rfl, h1, ih h2⟩
theorem pm_rl_app {ar : List Nat} {b : Nat → Nat} {l1 l2 l2' : List Value} (h2 : pm_rl ar b l2 l2') : ∀ {l1' : List Value}, pm_rl ar b l1 l1' → pm_rl ar b (l1 ++ l2) (l1' ++ l2') := by
  induction l1 with
  | nil => intro l1' h; rw [show l1' = [] from h]; exact h2
  | cons x t ih => intro l1' h; obtain ⟨w, u, rfl, a1, a2⟩ := h; exact ⟨w, u ++ l2', rfl, a1, ih a2⟩
theorem pm_rl_rev {ar : List Nat} {b : Nat → Nat} {l : List Value} : ∀ {l' : List Value}, pm_rl ar b l l' → pm_rl ar b l.reverse l'.reverse := by
  induction l with
  | nil => intro l' h; rw [show l' = [] from h]; exact rfl
  | cons x t ih =>
    intro l' h
    obtain ⟨w, u, rfl, a1, a2⟩ := h
    rw [List.reverse_cons, List.reverse_cons]
    exact pm_rl_app (l2 := [x]) (l2' := [w]) (show pm_rl ar b [x] [w] from ⟨w, [], rfl, a1, rfl⟩) (ih a2)
theorem pm_rl_take {ar : List Nat} {b : Nat → Nat} {l : List Value} : ∀ {l' : List Value} (k : Nat), pm_rl ar b l l' → pm_rl ar b (l.take k) (l'.take k) := by
  induction l with
  | nil => intro l' k h; rw [show l' = [] from h]; simp; exact rfl
  | cons x t ih =>
    intro l' k h
    obtain ⟨w, u, rfl, a1, a2⟩ := h
    cases k with
    | zero => exact rfl
    | succ k => exact ⟨w, u.take k, rfl, a1, ih k a2⟩
theorem pm_rl_drop {ar : List Nat} {b : Nat → Nat} {l : List Value} : ∀ {l' : List Value} (k : Nat), pm_rl ar b l l' → pm_rl ar b (l.drop k) (l'.drop k) := by
  induction l with
  | nil => intro l' k h; rw [show l' = [] from h]; simp; exact rfl
  | cons x t ih =>
    intro l' k h
    cases k with
    | zero => exact h
    | succ k => obtain ⟨w, u, rfl, a1, a2⟩ := h; exact ih k a2
theorem pm_rl_rm {ar : List Nat} {b : Nat → Nat} {l : List Value} : ∀ {l' : List Value}, pm_rl ar b l l' → (l'.map fun v => v.category).sum = pm_rm l := by
  induction l with
  | nil => intro l' h; rw [show l' = [] from h]; rfl
  | cons x t ih =>
    intro l' h
    obtain ⟨w, u, rfl, a1, a2⟩ := h
    have h1 := ih a2
    unfold pm_rm at h1 ⊢
    simp only [List.map_cons, List.sum_cons]
    rw [h1, pm_rv_cat a1]
theorem pm_at {tc : Nat → ClassId} {ar : List Nat} {b : Nat → Nat} {N : Nat} {h : Nat → va_E} {ws : va_W} (hw : pm_rw tc ar b N h ws) {a : Nat} (ha : a < N) : ∃ (q : Nat) (e' : va_E), ws[a]? = some (q, e') ∧ ar[a]? = some q ∧ pm_re tc ar b (h a) e' := by
  obtain ⟨h1, h2, h3⟩ := hw
  have hl : a < ws.length := by rw [← h1, List.length_map] at h2; omega
  have e : ws[a]? = some ws[a] := List.getElem?_eq_getElem hl
  refine ⟨(ws[a]).1, (ws[a]).2, e, ?_, h3 a _ e⟩
  rw [← h1, List.getElem?_map, e]; rfl
theorem pm_rw_set {tc : Nat → ClassId} {ar : List Nat} {b : Nat → Nat} {N : Nat} {h : Nat → va_E} {ws : va_W} (hw : pm_rw tc ar b N h ws) {a q : Nat} {e0 e e' : va_E} (hi : ws[a]? = some (q, e0)) (he : pm_re tc ar b e e') : pm_rw tc ar b N (va_up h a e) (ws.set a (q, e')) := by
  obtain ⟨h1, h2, h3⟩ := hw
  have hlt := (List.getElem?_eq_some_iff.mp hi).1
  refine ⟨?_, h2, fun i x hx => ?_⟩
  · rw [← h1]
    apply List.ext_getElem?
    intro i
    rw [List.getElem?_map, List.getElem?_map, List.getElem?_set]
    by_cases hia : a = i
    · subst hia
      rw [if_pos rfl, hi]
      simp [hlt]
    · rw [if_neg hia]
  · rw [List.getElem?_set] at hx
    by_cases hia : a = i
    · subst hia
      rw [if_pos rfl, if_pos hlt] at hx
      cases hx
      rw [va_up_self]
      exact he
    · rw [if_neg hia] at hx
      rw [va_up_ne _ _ (fun z => hia z.symm)]
      exact h3 i x hx
theorem pm_rw_push {tc : Nat → ClassId} {ar : List Nat} {b : Nat → Nat} {N : Nat} {h : Nat → va_E} {ws : va_W} (hw : pm_rw tc ar b N h ws) {q : Nat} {e e' : va_E} (he : pm_re tc (ar ++ [q]) b e e') : pm_rw tc (ar ++ [q]) b (N + 1) (va_up h N e) (ws ++ [(q, e')]) := by
  obtain ⟨h1, h2, h3⟩ := hw
  have hl : ws.length = N := by rw [← h1, List.length_map] at h2; exact h2
  refine ⟨by rw [List.map_append, h1]; rfl, by simp [h2], fun i x hx => ?_⟩
  by_cases hi : i < ws.length
  · rw [List.getElem?_append_left hi] at hx
    rw [va_up_ne _ _ (by omega)]
    exact pm_re_m (h3 i x hx)
  · rw [List.getElem?_append_right (by omega)] at hx
    have hz : i - ws.length < 1 := (List.getElem?_eq_some_iff.mp hx).1
    have hin : i = N := by omega
    subst hin
    rw [hl, Nat.sub_self] at hx
    cases hx
    rw [va_up_self]
    exact he
theorem pm_store {ar : List Nat} {b : Nat → Nat} {L : List (Option Value)} {ls : Array Slot} {mL i : Nat} {v w : Value} (h : pm_rL ar b L ls mL) (hc : v.category = 1) (hv : pm_rv ar b v w) :
    ∃ lv : List (Nat × Value), lv_has ls mL lv ∧ ∀ ls' : Array Slot, lv_has ls' mL ((i, w) :: lv.filter (fun q => !(q.1 == i) && !(q.1 + 1 == i && q.2.category == 2))) → pm_rL ar b (L.set i (some v)) ls' mL := by
  obtain ⟨h1, h2, h3⟩ := h
  refine ⟨(List.range mL).filterMap (fun (j : Nat) => match (ls[j]? : Option Slot) with | some (Slot.val x) => some (j, x) | _ => none), ⟨h1, h2, ?_⟩, ?_⟩
  · intro q hq
    obtain ⟨j, -, hj⟩ := List.mem_filterMap.mp hq
    split at hj
    · rename_i x hx
      cases hj
      exact hx
    · cases hj
  · intro ls' ⟨g1, g2, g3⟩
    refine ⟨g1, g2, fun j v' hj => ?_⟩
    rw [List.getElem?_set] at hj
    by_cases e : i = j
    · subst e
      rw [if_pos rfl] at hj
      split at hj
      · cases hj
        exact ⟨hc, w, g3 _ List.mem_cons_self, hv⟩
      · cases hj
    · rw [if_neg e] at hj
      obtain ⟨k1, w', k2, k3⟩ := h3 j v' hj
      have hcat := pm_rv_cat k3
      refine ⟨k1, w', g3 (j, w') (List.mem_cons_of_mem _ (List.mem_filter.mpr ⟨List.mem_filterMap.mpr ⟨j, List.mem_range.mpr ?_, ?_⟩, ?_⟩)), k3⟩
      · have := lv_lt k2
        omega
      · rw [k2]
      · have e' : ¬ j = i := fun z => e z.symm
        simp [e', hcat, k1]
/-- what the tables' numbers mean -/
def pm_dec (bs : ByteArray) (pc : Nat) (i : Instr) (tgt : Nat) (cv : Int32) : Prop :=
  ∃ len, decode bs pc = .ok (i, len) ∧ (pm_len i = 0 ∨ len = pm_len i) ∧ (match i with
   | .iconst n => Int32.ofInt n = cv
   | .bipush n => (Int8.ofInt n).toInt32 = cv
   | .sipush n => (Int16.ofInt n).toInt32 = cv
   | .iinc _ n => Int32.ofInt n = cv
   | .ifCond _ off => (pc : Int) + off = (tgt : Int)
   | .if_icmp _ off => (pc : Int) + off = (tgt : Int)
   | .goto off => (pc : Int) + off = (tgt : Int)
   | .ifnull off => (pc : Int) + off = (tgt : Int)
   | .ifnonnull off => (pc : Int) + off = (tgt : Int)
   | _ => True)
abbrev pm_ty (tc : Nat → ClassId) (dn : String) : List (ClassId × FieldType) := [(tc 0, .int), (tc 1, .long), (tc 2, .object dn)]
def pm_isR (ty : FieldType) : Prop := (∃ n, ty = .object n) ∨ ∃ t, ty = .array t
def pm_code (c : Nat) (ty : FieldType) (fin : Bool) : Prop :=
  (c = 0 → ty = .int ∧ fin = false) ∧ (c = 1 → ty = .boolean ∧ fin = false) ∧ (c = 2 → pm_isR ty ∧ fin = false) ∧ (c = 3 → pm_isR ty ∧ fin = true)
def pm_OM (T : pm_T) : Prop := ∀ (y : Nat) (nm : MethodName) (bs : ByteArray) (mL : Nat) (rt : Option FieldType) (o : Nat) (ini : Bool) (ft : Nat → Option (Instr × Nat × Int32)), T.1 y = some (nm, bs, mL, rt, o, ini, ft) →
  plainName nm.cls = true ∧ nm.cls ≠ "java/lang/invoke/MethodHandle" ∧ nm.cls ≠ "java/lang/invoke/VarHandle" ∧ (ini = true → nm.name = "<init>" ∧ rt = none) ∧ mL ≤ 41 ∧ ∀ (pc : Nat) (i : Instr) (tgt : Nat) (cv : Int32), ft pc = some (i, tgt, cv) → pm_dec bs pc i tgt cv
def pm_OF (T : pm_T) (cl : List vw_C) (GW NW : List Cond) : Prop := ∀ (y : Nat) (nm : MethodName) (bs : ByteArray) (mL : Nat) (rt : Option FieldType) (o : Nat) (ini : Bool) (ft : Nat → Option (Instr × Nat × Int32)) (idx ci k ne : Nat), T.1 y = some (nm, bs, mL, rt, o, ini, ft) → T.2.1 o idx = some (0, ci, k, ne) →
  ∃ (C : String) (Tf : u_T) (N : Nat), cl[ci]? = some (C, Tf, N) ∧ k < N ∧ (Tf k).1 = C ∧ (ci = o → C = nm.cls) ∧ (Cond.fieldLink nm.cls idx C (Tf k).2.1 (Tf k).2.2.1 ∈ GW ∨ (ci ≠ o ∧ ∃ host, Cond.fieldLinkNest nm.cls idx C (Tf k).2.1 (Tf k).2.2.1 host ∈ NW))
def pm_OC (T : pm_T) (cl : List vw_C) (GW : List Cond) : Prop := ∀ (ci : Nat) (C : String) (Tf : u_T) (N : Nat), cl[ci]? = some (C, Tf, N) →
  (∀ w ∈ u_ws C Tf N, w ∈ GW) ∧ (∀ a, a < N → ∀ b, b < N → a ≠ b → (Tf a).2.1 ≠ (Tf b).2.1) ∧ (∀ v ∈ T.2.2.2.1 ci, v = .int 0 ∨ v = .null) ∧ (T.2.2.2.1 ci).length = N ∧ ∃ ty : Nat → FieldType, (∀ k, k < N → parseFieldDescriptor (Tf k).2.2.1 = some (ty k)) ∧ (∀ k, k < N → defaultValue (ty k) = vp_V (T.2.2.2.1 ci) k) ∧ ∀ k, k < N → pm_code (T.2.2.1 ci k) (ty k) (Tf k).2.2.2
def pm_ON (T : pm_T) (cl : List vw_C) (GW : List Cond) : Prop := ∀ (y : Nat) (nm : MethodName) (bs : ByteArray) (mL : Nat) (rt : Option FieldType) (o : Nat) (ini : Bool) (ft : Nat → Option (Instr × Nat × Int32)) (idx ci k ne : Nat), T.1 y = some (nm, bs, mL, rt, o, ini, ft) → T.2.1 o idx = some (1, ci, k, ne) →
  ∃ (C : String) (Tf : u_T) (N : Nat), cl[ci]? = some (C, Tf, N) ∧ Cond.classLink nm.cls idx C ∈ GW ∧ Cond.instantiable C N ∈ GW ∧ Cond.initialized C ∈ GW
def pm_OI (T : pm_T) (cl : List vw_C) (GW NW : List Cond) : Prop := ∀ (y : Nat) (nm : MethodName) (bs : ByteArray) (mL : Nat) (rt : Option FieldType) (o : Nat) (ini : Bool) (ft : Nat → Option (Instr × Nat × Int32)) (idx z na md : Nat) (nm' : MethodName) (bs' : ByteArray) (mL' : Nat) (rt' : Option FieldType) (o' : Nat) (ini' : Bool) (ft' : Nat → Option (Instr × Nat × Int32)), T.1 y = some (nm, bs, mL, rt, o, ini, ft) → T.2.1 o idx = some (2, z, na, md) → T.1 z = some (nm', bs', mL', rt', o', ini', ft') →
  (parseMethodDescriptor nm'.desc).map (fun d => d.parameters.length) = some na ∧ md < 6 ∧ (md < 3 → Cond.methodLink nm.cls idx nm' ∈ GW) ∧ (3 ≤ md → ∃ host, Cond.methodLinkNest nm.cls idx nm' host ∈ NW) ∧
  (md % 3 = 0 → Cond.instanceMethod nm' ∈ GW ∧ Cond.selects nm'.cls nm' nm' ∈ GW ∧ (o' = 100 → nm'.cls = "java/lang/String") ∧ (o' ≠ 100 → ∃ (Tf : u_T) (N : Nat), cl[o']? = some (nm'.cls, Tf, N))) ∧ (md % 3 = 1 → Cond.instanceMethod nm' ∈ GW ∧ ini' = true) ∧ (md % 3 = 2 → Cond.static nm' ∈ GW) ∧ Cond.code nm' bs' mL' rt' ∈ GW ∧ Cond.initialized nm'.cls ∈ GW
def pm_OB (T : pm_T) (GW : List Cond) : Prop := ∀ (y : Nat) (nm : MethodName) (bs : ByteArray) (mL : Nat) (rt : Option FieldType) (o : Nat) (ini : Bool) (ft : Nat → Option (Instr × Nat × Int32)) (idx x k ne : Nat), T.1 y = some (nm, bs, mL, rt, o, ini, ft) → T.2.1 o idx = some (4, x, k, ne) →
  (x = 0 → Cond.methodLink nm.cls idx Lib.objectInit ∈ GW ∧ Cond.instanceMethod Lib.objectInit ∈ GW ∧ Cond.code Lib.objectInit ⟨#[0xb1]⟩ 1 none ∈ GW) ∧
  (x = 1 → Cond.methodLink nm.cls idx Lib.Math.max.name ∈ GW ∧ Cond.static Lib.Math.max.name ∈ GW ∧ Cond.initialized "java/lang/Math" ∈ GW ∧ Cond.code Lib.Math.max.name Lib.Math.max.code 2 (some .int) ∈ GW) ∧
  (x = 2 → Cond.methodLink nm.cls idx Lib.Math.min.name ∈ GW ∧ Cond.static Lib.Math.min.name ∈ GW ∧ Cond.initialized "java/lang/Math" ∈ GW ∧ Cond.code Lib.Math.min.name Lib.Math.min.code 2 (some .int) ∈ GW)
def pm_OA (T : pm_T) (cl : List vw_C) (dn : String) : Prop := ∃ (Tf : u_T) (N : Nat), cl[T.2.2.1 1000 0]? = some (dn, Tf, N)
def pm_OL (T : pm_T) (GW : List Cond) : Prop := ∀ (y : Nat) (nm : MethodName) (bs : ByteArray) (mL : Nat) (rt : Option FieldType) (o : Nat) (ini : Bool) (ft : Nat → Option (Instr × Nat × Int32)) (idx x k ne : Nat), T.1 y = some (nm, bs, mL, rt, o, ini, ft) → T.2.1 o idx = some (6, x, k, ne) → Cond.constantLong nm.cls idx (Int64.ofNat x) ∈ GW
def pm_OS (T : pm_T) (GW : List Cond) (tx : String) : Prop := ∀ (y : Nat) (nm : MethodName) (bs : ByteArray) (mL : Nat) (rt : Option FieldType) (o : Nat) (ini : Bool) (ft : Nat → Option (Instr × Nat × Int32)) (idx x k ne : Nat), T.1 y = some (nm, bs, mL, rt, o, ini, ft) →
  (T.2.1 o idx = some (7, x, k, ne) → nm.cls = "ArmExpander$TypedText" ∧ idx = 43) ∧ (T.2.1 o idx = some (8, x, k, ne) → Cond.fieldLink nm.cls idx "java/lang/String" "COMPACT_STRINGS" "Z" ∈ GW) ∧ (T.2.1 o idx = some (9, x, k, ne) → (x = 0 → Cond.fieldLink nm.cls idx "java/lang/String" "coder" "B" ∈ GW) ∧ (x = 1 → Cond.fieldLink nm.cls idx "java/lang/String" "value" "[B" ∈ GW))
/-- what stays as it is outside of the cells: the text's object and bytes, a static -/
def pm_Ex (T : pm_T) (tx : String) (b : Nat → Nat) (A : Nat → Prop) (U : State) (H : Heap) : Prop := vk_R "ArmExpander$TypedText" 43 tx (b 1) U ∧ vk_S 1 [T.2.2.2.2.length] [T.2.2.2.2] (fun _ => b 1) (fun _ => b 2) A U H ∧ va_Z "java/lang/String" "COMPACT_STRINGS" "Z" (.int 1) A U H
def pm_OG (GW : List Cond) : Prop := (∀ w ∈ GW, (w.onTables && w.keeps) = true ∨ ∃ ty, w = .arrayClass ty) ∧ Cond.arrayClass .int ∈ GW ∧ Cond.arrayClass .long ∈ GW
def pm_OW (NW : List Cond) : Prop := ∀ w ∈ NW, w.onTables = true ∧ ∀ s U : State, s.WarmedH U.vm → va_Nw w s → va_Nw w U
def pm_OK (T : pm_T) (cl : List vw_C) (GW NW : List Cond) (dn tx : String) : Prop :=
  pm_OM T ∧ pm_OF T cl GW NW ∧ pm_OC T cl GW ∧ pm_ON T cl GW ∧ pm_OI T cl GW NW ∧ pm_OB T GW ∧ pm_OA T cl dn ∧ pm_OL T GW ∧ pm_OG GW ∧ pm_OW NW ∧ pm_OS T GW tx
