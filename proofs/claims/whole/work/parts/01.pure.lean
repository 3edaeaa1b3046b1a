/-! The pure machine: bytecode over numbered cells. A value of it is a Value whose references are numbers of cells; a retAddr stands for the script. -/
abbrev pm_M : Type := MethodName × ByteArray × Nat × Option FieldType × Nat × Bool × (Nat → Option (Instr × Nat × Int32))
abbrev pm_T : Type := (Nat → Option pm_M) × (Nat → Nat → Option (Nat × Nat × Nat × Nat)) × (Nat → Nat → Nat) × (Nat → List Value) × List Int32
abbrev pm_St : Type := Nat × List (Option Value) × List Value × Nat × Nat × (Nat → va_E)
abbrev pm_Rs : Type := Option Value × Nat × Nat × (Nat → va_E)
/-- the length of an instruction; 0: a switch -/
def pm_len : Instr → Nat
  | .lookupswitch _ _ => 0
  | .tableswitch _ _ _ _ => 0
  | .aload _ | .iload _ | .astore _ | .istore _ | .bipush _ | .newarray _ | .ldc _ => 2
  | .getfield _ | .putfield _ | .new _ | .anewarray _ | .invokespecial _ | .invokestatic _ | .invokevirtual _ | .sipush _ | .getstatic _ | .goto _ | .ifCond _ _ | .if_icmp _ _ | .ifnull _ | .ifnonnull _ | .iinc _ _ | .ldc2_w _ => 3
  | _ => 1
def pm_fitsV (code : Nat) (ini : Bool) (same : Bool) (v : Value) : Bool :=
  match code, v with
  | 0, .int _ => true
  | 1, .int x => decide (x = 0 ∨ x = 1)
  | 2, .ref _ => true
  | 3, .ref _ => ini && same
  | _, _ => false
def pm_rm (st : List Value) : Nat := (st.map fun v => v.category).sum
def pm_sim (T : pm_T) (o : Nat) (ini : Bool) (mL d : Nat) (sc : Option (Nat × (Nat → Int32))) (i : Instr) (tgt : Nat) (cv : Int32) (s : pm_St) : Option pm_St :=
  match s with
  | (pc, L, st, N, S, h) =>
    match i with
    | .aconst_null => some (pc + 1, L, .null :: st, N, S, h)
    | .iconst _ => some (pc + 1, L, .int cv :: st, N, S, h)
    | .bipush _ => some (pc + 2, L, .int cv :: st, N, S, h)
    | .sipush _ => some (pc + 3, L, .int cv :: st, N, S, h)
    | .lconst n => some (pc + 1, L, .long (Int64.ofNat n) :: st, N, S, h)
    | .iload_n k => match L[(k : Nat)]? with
      | some (some (.int x)) => some (pc + 1, L, .int x :: st, N, S, h)
      | _ => none
    | .iload k => match L[k]? with
      | some (some (.int x)) => some (pc + 2, L, .int x :: st, N, S, h)
      | _ => none
    | .aload_n k => match L[(k : Nat)]? with
      | some (some (.ref x)) => some (pc + 1, L, .ref x :: st, N, S, h)
      | some (some .null) => some (pc + 1, L, .null :: st, N, S, h)
      | some (some (.retAddr x)) => some (pc + 1, L, .retAddr x :: st, N, S, h)
      | _ => none
    | .aload k => match L[k]? with
      | some (some (.ref x)) => some (pc + 2, L, .ref x :: st, N, S, h)
      | some (some .null) => some (pc + 2, L, .null :: st, N, S, h)
      | some (some (.retAddr x)) => some (pc + 2, L, .retAddr x :: st, N, S, h)
      | _ => none
    | .istore_n k => match st with
      | .int x :: rest => if (k : Nat) < mL then some (pc + 1, L.set k (some (.int x)), rest, N, S, h) else none
      | _ => none
    | .istore k => match st with
      | .int x :: rest => if k < mL then some (pc + 2, L.set k (some (.int x)), rest, N, S, h) else none
      | _ => none
    | .astore_n k => match st with
      | .ref x :: rest => if (k : Nat) < mL then some (pc + 1, L.set k (some (.ref x)), rest, N, S, h) else none
      | .null :: rest => if (k : Nat) < mL then some (pc + 1, L.set k (some .null), rest, N, S, h) else none
      | _ => none
    | .astore k => match st with
      | .ref x :: rest => if k < mL then some (pc + 2, L.set k (some (.ref x)), rest, N, S, h) else none
      | .null :: rest => if k < mL then some (pc + 2, L.set k (some .null), rest, N, S, h) else none
      | _ => none
    | .iinc k _ => match L[k]? with
      | some (some (.int x)) => if k < mL then some (pc + 3, L.set k (some (.int (x + cv))), st, N, S, h) else none
      | _ => none
    | .iadd => match st with
      | .int y :: .int x :: rest => some (pc + 1, L, .int (x + y) :: rest, N, S, h)
      | _ => none
    | .isub => match st with
      | .int y :: .int x :: rest => some (pc + 1, L, .int (x - y) :: rest, N, S, h)
      | _ => none
    | .imul => match st with
      | .int y :: .int x :: rest => some (pc + 1, L, .int (x * y) :: rest, N, S, h)
      | _ => none
    | .iand => match st with
      | .int y :: .int x :: rest => some (pc + 1, L, .int (x &&& y) :: rest, N, S, h)
      | _ => none
    | .idiv => match st with
      | .int y :: .int x :: rest => if y = 0 then none else some (pc + 1, L, .int (x / y) :: rest, N, S, h)
      | _ => none
    | .irem => match st with
      | .int y :: .int x :: rest => if y = 0 then none else some (pc + 1, L, .int (x - x / y * y) :: rest, N, S, h)
      | _ => none
    | .ineg => match st with
      | .int x :: rest => some (pc + 1, L, .int (-x) :: rest, N, S, h)
      | _ => none
    | .ishl => match st with
      | .int y :: .int x :: rest => some (pc + 1, L, .int (x <<< (y &&& 31)) :: rest, N, S, h)
      | _ => none
    | .ishr => match st with
      | .int y :: .int x :: rest => some (pc + 1, L, .int (x >>> (y &&& 31)) :: rest, N, S, h)
      | _ => none
    | .iushr => match st with
      | .int y :: .int x :: rest => some (pc + 1, L, .int (x.toUInt32 >>> (y.toUInt32 &&& Int32.toUInt32 31)).toInt32 :: rest, N, S, h)
      | _ => none
    | .i2l => match st with
      | .int x :: rest => some (pc + 1, L, .long x.toInt64 :: rest, N, S, h)
      | _ => none
    | .l2i => match st with
      | .long x :: rest => some (pc + 1, L, .int x.toInt32 :: rest, N, S, h)
      | _ => none
    | .i2c => match st with
      | .int x :: rest => some (pc + 1, L, .int (x.toUInt32 % 65536).toInt32 :: rest, N, S, h)
      | _ => none
    | .land => match st with
      | .long y :: .long x :: rest => some (pc + 1, L, .long (x &&& y) :: rest, N, S, h)
      | _ => none
    | .lor => match st with
      | .long y :: .long x :: rest => some (pc + 1, L, .long (x ||| y) :: rest, N, S, h)
      | _ => none
    | .lshl => match st with
      | .int y :: .long x :: rest => some (pc + 1, L, .long (x <<< (y.toInt64 &&& 63)) :: rest, N, S, h)
      | _ => none
    | .lshr => match st with
      | .int y :: .long x :: rest => some (pc + 1, L, .long (x >>> (y.toInt64 &&& 63)) :: rest, N, S, h)
      | _ => none
    | .dup => match st with
      | v :: rest => if v.category = 1 then some (pc + 1, L, v :: v :: rest, N, S, h) else none
      | _ => none
    | .pop => match st with
      | v :: rest => if v.category = 1 then some (pc + 1, L, rest, N, S, h) else none
      | _ => none
    | .dup_x1 => match st with
      | v :: w :: rest => if v.category = 1 ∧ w.category = 1 then some (pc + 1, L, v :: w :: v :: rest, N, S, h) else none
      | _ => none
    | .dup2 => match st with
      | v :: w :: rest => if v.category = 1 ∧ w.category = 1 then some (pc + 1, L, v :: w :: v :: w :: rest, N, S, h) else none
      | _ => none
    | .ifCond .eq _ => match st with
      | .int x :: rest => some (if x = 0 then tgt else pc + 3, L, rest, N, S, h)
      | _ => none
    | .ifCond .ne _ => match st with
      | .int x :: rest => some (if x = 0 then pc + 3 else tgt, L, rest, N, S, h)
      | _ => none
    | .ifCond .lt _ => match st with
      | .int x :: rest => some (if x < 0 then tgt else pc + 3, L, rest, N, S, h)
      | _ => none
    | .ifCond .ge _ => match st with
      | .int x :: rest => some (if 0 ≤ x then tgt else pc + 3, L, rest, N, S, h)
      | _ => none
    | .ifCond .gt _ => match st with
      | .int x :: rest => some (if 0 < x then tgt else pc + 3, L, rest, N, S, h)
      | _ => none
    | .ifCond .le _ => match st with
      | .int x :: rest => some (if x ≤ 0 then tgt else pc + 3, L, rest, N, S, h)
      | _ => none
    | .if_icmp .eq _ => match st with
      | .int y :: .int x :: rest => some (if x = y then tgt else pc + 3, L, rest, N, S, h)
      | _ => none
    | .if_icmp .ne _ => match st with
      | .int y :: .int x :: rest => some (if x = y then pc + 3 else tgt, L, rest, N, S, h)
      | _ => none
    | .if_icmp .lt _ => match st with
      | .int y :: .int x :: rest => some (if x < y then tgt else pc + 3, L, rest, N, S, h)
      | _ => none
    | .if_icmp .ge _ => match st with
      | .int y :: .int x :: rest => some (if y ≤ x then tgt else pc + 3, L, rest, N, S, h)
      | _ => none
    | .if_icmp .gt _ => match st with
      | .int y :: .int x :: rest => some (if y < x then tgt else pc + 3, L, rest, N, S, h)
      | _ => none
    | .if_icmp .le _ => match st with
      | .int y :: .int x :: rest => some (if x ≤ y then tgt else pc + 3, L, rest, N, S, h)
      | _ => none
    | .goto _ => some (tgt, L, st, N, S, h)
    | .ifnull _ => match st with
      | .ref _ :: rest => some (pc + 3, L, rest, N, S, h)
      | .null :: rest => some (tgt, L, rest, N, S, h)
      | _ => none
    | .ifnonnull _ => match st with
      | .ref _ :: rest => some (tgt, L, rest, N, S, h)
      | .null :: rest => some (pc + 3, L, rest, N, S, h)
      | _ => none
    | .getfield idx => match st with
      | .ref a :: rest => match T.2.1 o idx with
        | some (0, ci, k, _) => if a < N then match h a with
            | .inr (cj, fs) => if cj = ci then match fs[k]? with
                | some v => some (pc + 3, L, v :: rest, N, S, h)
                | none => none
              else none
            | _ => none
          else none
        | _ => none
      | .retAddr 1 :: rest => match T.2.1 o idx with
        | some (9, 0, _, _) => some (pc + 3, L, .int 0 :: rest, N, S, h)
        | some (9, 1, _, _) => some (pc + 3, L, .retAddr 2 :: rest, N, S, h)
        | _ => none
      | _ => none
    | .ldc idx => match T.2.1 o idx with
      | some (7, _, _, _) => some (pc + 2, L, .retAddr 1 :: st, N, S, h)
      | _ => none
    | .getstatic idx => match T.2.1 o idx with
      | some (8, _, _, _) => some (pc + 3, L, .int 1 :: st, N, S, h)
      | _ => none
    | .i2b => match st with
      | .int x :: rest => some (pc + 1, L, .int x.toInt8.toInt32 :: rest, N, S, h)
      | _ => none
    | .baload => match st with
      | .int j :: .retAddr 2 :: rest => if j < 0 ∨ T.2.2.2.2.length ≤ j.toNatClampNeg then none else some (pc + 1, L, .int (T.2.2.2.2.getD j.toNatClampNeg 0) :: rest, N, S, h)
      | _ => none
    | .putfield idx => match st with
      | v :: .ref a :: rest => match T.2.1 o idx with
        | some (0, ci, k, _) => if a < N then match h a with
            | .inr (cj, fs) => if cj = ci ∧ k < fs.length ∧ pm_fitsV (T.2.2.1 ci k) ini (ci == o) v = true then
                some (pc + 3, L, rest, N, S, va_up h a (.inr (cj, fs.set k v)))
              else none
            | _ => none
          else none
        | _ => none
      | _ => none
    | .new idx => match T.2.1 o idx with
      | some (1, ci, _, _) => some (pc + 3, L, .ref N :: st, N + 1, S + (T.2.2.2.1 ci).length, va_up h N (.inr (ci, T.2.2.2.1 ci)))
      | _ => none
    | .newarray .int => match st with
      | .int n :: rest => if n < 0 ∨ 100000 < n.toNatClampNeg then none else some (pc + 2, L, .ref N :: rest, N + 1, S + n.toNatClampNeg, va_up h N (.inl (0, n.toNatClampNeg, .inl (fun _ => 0))))
      | _ => none
    | .newarray .long => match st with
      | .int n :: rest => if n < 0 ∨ 100000 < n.toNatClampNeg then none else some (pc + 2, L, .ref N :: rest, N + 1, S + n.toNatClampNeg, va_up h N (.inl (1, n.toNatClampNeg, .inr (.inl (fun _ => 0)))))
      | _ => none
    | .anewarray idx => match st with
      | .int n :: rest => match T.2.1 o idx with
        | some (1, ci, _, _) => if n < 0 ∨ 100000 < n.toNatClampNeg ∨ ci ≠ T.2.2.1 1000 0 then none else some (pc + 3, L, .ref N :: rest, N + 1, S + n.toNatClampNeg, va_up h N (.inl (2, n.toNatClampNeg, .inr (.inr (.inr (.inr (fun _ => none)))))))
        | _ => none
      | _ => none
    | .iaload => match st with
      | .int j :: .ref a :: rest => if a < N then match h a with
          | .inl (0, n, .inl f) => if j < 0 ∨ n ≤ j.toNatClampNeg then none else some (pc + 1, L, .int (f j.toNatClampNeg) :: rest, N, S, h)
          | _ => none
        else none
      | .int j :: .retAddr 0 :: rest => match sc with
        | some (n, f) => if j < 0 ∨ n ≤ j.toNatClampNeg then none else some (pc + 1, L, .int (f j.toNatClampNeg) :: rest, N, S, h)
        | none => none
      | _ => none
    | .iastore => match st with
      | .int x :: .int j :: .ref a :: rest => if a < N then match h a with
          | .inl (0, n, .inl f) => if j < 0 ∨ n ≤ j.toNatClampNeg then none else some (pc + 1, L, rest, N, S, va_up h a (.inl (0, n, .inl (upd f j.toNatClampNeg x))))
          | _ => none
        else none
      | _ => none
    | .laload => match st with
      | .int j :: .ref a :: rest => if a < N then match h a with
          | .inl (1, n, .inr (.inl f)) => if j < 0 ∨ n ≤ j.toNatClampNeg then none else some (pc + 1, L, .long (f j.toNatClampNeg) :: rest, N, S, h)
          | _ => none
        else none
      | _ => none
    | .lastore => match st with
      | .long x :: .int j :: .ref a :: rest => if a < N then match h a with
          | .inl (1, n, .inr (.inl f)) => if j < 0 ∨ n ≤ j.toNatClampNeg then none else some (pc + 1, L, rest, N, S, va_up h a (.inl (1, n, .inr (.inl (vp_updL f j.toNatClampNeg x)))))
          | _ => none
        else none
      | _ => none
    | .aaload => match st with
      | .int j :: .ref a :: rest => if a < N then match h a with
          | .inl (2, n, .inr (.inr (.inr (.inr f)))) => if j < 0 ∨ n ≤ j.toNatClampNeg then none else some (pc + 1, L, va_rf (f j.toNatClampNeg) :: rest, N, S, h)
          | _ => none
        else none
      | _ => none
    | .aastore => match st with
      | .ref x :: .int j :: .ref a :: rest => if a < N ∧ x < N then match h a, h x with
          | .inl (2, n, .inr (.inr (.inr (.inr f)))), .inr (cx, _) => if cx = T.2.2.1 1000 0 then (if j < 0 ∨ n ≤ j.toNatClampNeg then none else some (pc + 1, L, rest, N, S, va_up h a (.inl (2, n, .inr (.inr (.inr (.inr (va_up f j.toNatClampNeg (some x))))))))) else none
          | _, _ => none
        else none
      | _ => none
    | .arraylength => match st with
      | .ref a :: rest => if a < N then match h a with
          | .inl (t, n, _) => if t < 3 then some (pc + 1, L, .int (Int32.ofNat n) :: rest, N, S, h) else none
          | _ => none
        else none
      | .retAddr 0 :: rest => match sc with
        | some (n, _) => some (pc + 1, L, .int (Int32.ofNat n) :: rest, N, S, h)
        | none => none
      | .retAddr 2 :: rest => some (pc + 1, L, .int (Int32.ofNat T.2.2.2.2.length) :: rest, N, S, h)
      | _ => none
    | .ldc2_w idx => match T.2.1 o idx with
      | some (6, a, _, _) => some (pc + 3, L, .long (Int64.ofNat a) :: st, N, S, h)
      | _ => none
    | .tableswitch dflt lo hi offs => match st with
      | .int x :: rest => if x.toInt < lo ∨ hi < x.toInt then
            (if 0 ≤ (pc : Int) + dflt then some (((pc : Int) + dflt).toNat, L, rest, N, S, h) else none)
          else match offs[(x.toInt - lo).toNat]? with
            | some off => if 0 ≤ (pc : Int) + off then some (((pc : Int) + off).toNat, L, rest, N, S, h) else none
            | none => none
      | _ => none
    | .lookupswitch dflt ps => match st with
      | .int x :: rest => if (ps.toList.zip (ps.toList.drop 1)).all (fun (a, next) => a.1 < next.1) = true ∧ 0 ≤ (pc : Int) + Op.lookupswitch.offset ps.toList dflt x.toInt then some (((pc : Int) + Op.lookupswitch.offset ps.toList dflt x.toInt).toNat, L, rest, N, S, h) else none
      | _ => none
    | .invokespecial idx => match st with
      | .ref _ :: rest => match T.2.1 o idx with
        | some (4, 0, _, _) => if 0 < d ∧ pm_rm rest ≤ 8 then some (pc + 3, L, rest, N, S, h) else none
        | _ => none
      | _ => none
    | .invokestatic idx => match st with
      | .int y :: .int x :: rest => match T.2.1 o idx with
        | some (4, 1, _, _) => if 0 < d ∧ pm_rm rest ≤ 8 then some (pc + 3, L, .int (if x < y then y else x) :: rest, N, S, h) else none
        | some (4, 2, _, _) => if 0 < d ∧ pm_rm rest ≤ 8 then some (pc + 3, L, .int (if y < x then y else x) :: rest, N, S, h) else none
        | _ => none
      | _ => none
    | _ => none
/-- what a method answers at a return -/
def pm_ret (rt : Option FieldType) (i : Instr) (st : List Value) : Option (Option Value) :=
  match i with
  | .return_ => match st, rt with
    | [], none => some none
    | _, _ => none
  | .ireturn => match st, rt with
    | [.int v], some .int => some (some (.int v))
    | [.int v], some .boolean => if v = 0 ∨ v = 1 then some (some (.int v)) else none
    | [.int v], some .byte => if v = 0 then some (some (.int v)) else none
    | _, _ => none
  | .areturn => match st, rt with
    | [.ref a], some (.object _) => some (some (.ref a))
    | [.null], some (.object _) => some (some .null)
    | _, _ => none
  | _ => none
/-- the instruction of a call: its place in the pool, and whether a receiver stands below the arguments -/
def pm_inv (i : Instr) : Option (Nat × Nat) :=
  match i with
  | .invokevirtual idx => some (idx, 0)
  | .invokespecial idx => some (idx, 1)
  | .invokestatic idx => some (idx, 2)
  | _ => none
/-- how a call is made: by the instruction's sort and the pool's entry; modes: 0 virtual, 1 special, 2 static, and 3 more for a nest mate's -/
def pm_call (T : pm_T) (o : Nat) (i : Instr) : Option (Nat × Nat × Nat × Nat) :=
  match pm_inv i with
  | some (idx, kd) => match T.2.1 o idx with
    | some (2, y, na, md) => if md % 3 = kd then some (y, na, md, idx) else none
    | _ => none
  | none => none
/-- the receiver of a call is of the class that the call is made on -/
def pm_recv (md o' N : Nat) (h : Nat → va_E) (av : List Value) : Bool :=
  if md % 3 = 2 then true else
  match av with
  | .ref a :: _ => if md % 3 = 1 then true else decide (a < N ∧ o' ≠ 100) && (match h a with | .inr (cj, _) => cj == o' | _ => false)
  | .retAddr 1 :: _ => decide (md % 3 = 0) && o' == 100
  | _ => false
def pm_nargs (md na : Nat) : Nat := if md % 3 = 2 then na else na + 1
def pm_run (T : pm_T) (sc : Option (Nat × (Nat → Int32))) : Nat → Nat → Nat → Bool → pm_St → Option pm_Rs
  | 0, _, _, _, _ => none
  | n + 1, d, y, top, (pc, L, st, N, S, h) =>
    match T.1 y with
    | none => none
    | some (nm, bs, mL, rt, o, ini, ft) =>
      match ft pc with
      | none => none
      | some (i, tgt, cv) =>
        match pm_ret rt i st with
        | some r => some (r, N, S, h)
        | none =>
          match pm_call T o i with
          | some (z, na, md, _) =>
            match d, T.1 z with
            | d' + 1, some (_, _, mL', _, o', _, _) =>
              if pm_nargs md na ≤ st.length ∧ pm_rm (st.drop (pm_nargs md na)) ≤ 8 ∧ pm_nargs md na ≤ mL' ∧ (st.take (pm_nargs md na)).all (fun v => v.category == 1) = true ∧ pm_recv md o' N h (st.take (pm_nargs md na)).reverse = true then
                match pm_run T sc n d' z false (0, (st.take (pm_nargs md na)).reverse.map some ++ List.replicate (mL' - pm_nargs md na) none, [], N, S, h) with
                | some (r, N1, S1, h1) => pm_run T sc n (d' + 1) y top (pc + 3, L, r.toList ++ st.drop (pm_nargs md na), N1, S1, h1)
                | none => none
              else none
            | _, _ => none
          | none =>
            match pm_sim T o ini mL d (if top then sc else none) i tgt cv (pc, L, st, N, S, h) with
            | some s' => pm_run T sc n d y top s'
            | none => none
