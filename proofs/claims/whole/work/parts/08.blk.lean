/-! A stretch of simple steps of one method; search trees for the tables. -/
def pm_nd {α : Type} (k : Nat) (f g : Nat → Option α) : Nat → Option α := fun i => if i < k then f i else g i
theorem pm_nd_ok {α : Type} {k : Nat} {f g : Nat → Option α} {Q : Nat → α → Prop} (hf : ∀ i a, f i = some a → Q i a) (hg : ∀ i a, g i = some a → Q i a) : ∀ i a, pm_nd k f g i = some a → Q i a := by
  intro i a h
  unfold pm_nd at h
  split at h
  · exact hf i a h
  · exact hg i a h
/-- a stretch of k simple steps in a method with these data -/
def pm_blk (T : pm_T) (sc : Option (Nat × (Nat → Int32))) (rt : Option FieldType) (o : Nat) (ini : Bool) (mL d : Nat) (ft : Nat → Option (Instr × Nat × Int32)) : Nat → pm_St → Option pm_St
  | 0, s => some s
  | k + 1, s =>
    match ft s.1 with
    | none => none
    | some (i, tgt, cv) =>
      match pm_ret rt i s.2.2.1 with
      | some _ => none
      | none =>
        match pm_call T o i with
        | some _ => none
        | none =>
          match pm_sim T o ini mL d sc i tgt cv s with
          | some s' => pm_blk T sc rt o ini mL d ft k s'
          | none => none
theorem pe_blk {T : pm_T} {sc : Option (Nat × (Nat → Int32))} {d y : Nat} {top : Bool} {nm : MethodName} {bs : ByteArray} {mL : Nat} {rt : Option FieldType} {o : Nat} {ini : Bool} {ft : Nat → Option (Instr × Nat × Int32)} (hM : T.1 y = some (nm, bs, mL, rt, o, ini, ft)) (k : Nat) : ∀ {s s' : pm_St} {r : pm_Rs}, pm_blk T (if top then sc else none) rt o ini mL d ft k s = some s' → pm_ev T sc d y top s' r → pm_ev T sc d y top s r := by
  induction k with
  | zero => intro s s' r h hk; cases h; exact hk
  | succ k ih =>
    intro s s' r h hk
    rw [pm_blk] at h
    cases hf : ft s.1 with
    | none => rw [hf] at h; cases h
    | some x =>
      obtain ⟨i, tgt, cv⟩ := x
      rw [hf] at h
      dsimp only at h
      cases hret : pm_ret rt i s.2.2.1 with
      | some r0 => rw [hret] at h; cases h
      | none =>
        rw [hret] at h
        dsimp only at h
        cases hcall : pm_call T o i with
        | some z => rw [hcall] at h; cases h
        | none =>
          rw [hcall] at h
          dsimp only at h
          cases hs : pm_sim T o ini mL d (if top then sc else none) i tgt cv s with
          | none => rw [hs] at h; cases h
          | some s1 =>
            rw [hs] at h
            refine pm_ev_one (s' := s1) ?_ (ih h hk)
            unfold pm_one
            rw [hM]
            dsimp only
            rw [hf]
            dsimp only
            rw [hret]
            dsimp only
            rw [hcall]
            exact hs
