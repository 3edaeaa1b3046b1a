/-! goTo, whole. -/
/-- which repetition begins a round from j to b -/
def evb (A : Nat → Nat → Int) (j b : Nat) : Option Nat := if A 0 j = 4 ∧ b = j + 1 then some j else if A 0 j = 5 ∧ (b : Int) = A 2 j + 1 then some (A 2 j).toNat else none
def trs (A : Nat → Nat → Int) (j b : Nat) (s : (Nat → Int) × (Nat → Int → Int)) : (Nat → Int) × (Nat → Int → Int) := match evb A j b with
  | some v => (nrq A v s.1, nrc A v s.1 s.2)
  | none => s
def fls (A : Nat → Nat → Int) : List Nat → (Nat → Int) × (Nat → Int → Int) → (Nat → Int) × (Nat → Int → Int)
  | [], s => s
  | [_], s => s
  | a :: b :: p, s => fls A (b :: p) (trs A a b s)
def sbd (B : Int) (s : (Nat → Int) × (Nat → Int → Int)) : Prop := (∀ j, 0 ≤ s.1 j ∧ s.1 j ≤ B) ∧ ∀ b o, 0 ≤ s.2 b o ∧ s.2 b o ≤ B
theorem sbd_t {A : Nat → Nat → Int} {B : Int} {s : (Nat → Int) × (Nat → Int → Int)} (h : sbd B s) (a b : Nat) : sbd (B + 1) (trs A a b s) := by
  unfold trs
  split
  · refine ⟨fun j => ?_, fun b' o => ?_⟩
    · have := h.1 j
      show 0 ≤ nrq A _ s.1 j ∧ nrq A _ s.1 j ≤ B + 1
      unfold nrq
      split <;> omega
    · have := h.2 b' o
      show 0 ≤ nrc A _ s.1 s.2 b' o ∧ nrc A _ s.1 s.2 b' o ≤ B + 1
      unfold nrc
      split <;> omega
  · refine ⟨fun j => ?_, fun b' o => ?_⟩
    · have := h.1 j; omega
    · have := h.2 b' o; omega
theorem sbd_f {A : Nat → Nat → Int} : ∀ (p : List Nat) (B : Int) (s : (Nat → Int) × (Nat → Int → Int)), sbd B s → 0 ≤ B → sbd (B + p.length) (fls A p s)
  | [], B, s, h, _ => by show sbd (B + (0 : Nat)) s; rw [show B + ((0 : Nat) : Int) = B by omega]; exact h
  | [_], B, s, h, _ => by
    refine ⟨fun j => ?_, fun b' o => ?_⟩
    · have := h.1 j
      show 0 ≤ s.1 j ∧ s.1 j ≤ B + ((1 : Nat) : Int)
      omega
    · have := h.2 b' o
      show 0 ≤ s.2 b' o ∧ s.2 b' o ≤ B + ((1 : Nat) : Int)
      omega
  | a :: b :: p, B, s, h, hB => by
    have := sbd_f (A := A) (b :: p) (B + 1) (trs A a b s) (sbd_t h a b) (by omega)
    rw [show B + 1 + ((b :: p).length : Int) = B + ((a :: b :: p).length : Int) by rw [List.length_cons (a := a)]; omega] at this
    exact this
/-- the way in the reference's array -/
def WYm : List Nat → ZM → Prop
  | [], _ => True
  | a :: F, m => m.1 117 F.length = a ∧ WYm F m
theorem WYm_k {m m' : ZM} : ∀ F : List Nat, WYm F m → (∀ x : Nat, x < F.length → m'.1 117 x = m.1 117 x) → WYm F m' := by
  intro F
  induction F with
  | nil => intro _ _; trivial
  | cons a F ih =>
    intro h g
    rw [List.length_cons] at g
    exact ⟨(g F.length (by omega)).trans h.1, ih h.2 (fun x hx => g x (by omega))⟩
section
variable {C : Nat → Int} {Y A : Nat → Nat → Int} {N i0 z : Nat} {n : Nat}
theorem chn_len (h : RX true C Y A N i0 z) (hne : ∀ e : Nat, e < N → ¬ em A e) : ∀ (F : List Nat) (j : Nat), j ≤ N → chn A (j :: F) → F.length ≤ phi A N j := by
  intro F
  induction F with
  | nil => intro j _ _; exact Nat.zero_le _
  | cons b F ih =>
    intro j hj hc
    obtain ⟨e1, e2⟩ := edg_N h hne hj hc.1
    have := ih b e1 hc.2
    rw [List.length_cons]; omega
theorem g_back (h : RX true C Y A N i0 z) (hne : ∀ e : Nat, e < N → ¬ em A e) (i k : Nat) : ∀ (f j : Nat) (F : List Nat) (m : ZM), DI A N i 0 (fun _ => False) m → j ≤ N → dsc i m j → phi A N j ≤ phi A N i → phi A N i - phi A N j < f → chn A (j :: F) → (j :: F).getLast? = some k → WYm F m →
    ∃ (F' : List Nat) (m' : ZM), zL71_217 n f i F.length j m = zL71_259 n n i ((F'.length : Int) - 1) m' ∧ chn A (i :: F') ∧ (i :: F').getLast? = some k ∧ WYm F' m' ∧ kp (wl [(117, 1000)]) m m' := by
  have hN := x_N119 h
  intro f
  induction f with
  | zero => intro j F m _ _ _ _ hf; omega
  | succ f ih =>
    intro j F m hD hj hd hp hf hc hl hW
    have hln := chn_len h hne F j hj hc
    have p16 := phi_16 h j
    by_cases q : j = i
    · subst q
      refine ⟨F, m, ?_, hc, hl, hW, kp_refl _ m⟩
      rw [zL71_217, if_pos rfl, if_pos (by omega)]
    · have hpr : 0 ≤ m.1 115 j := by
        rcases hd with c | c
        · exact absurd c q
        · exact c
      obtain ⟨a, b1, b2, b3, b4, b5⟩ : ∃ a : Nat, m.1 115 j = a ∧ a ≤ N ∧ edg A a j ∧ dsc i m a ∧ phi A N a ≤ phi A N i := by
        rcases hD.1 j hj with c | c
        · omega
        · exact c
      have hpa := (edg_N h hne b2 b3).2
      obtain ⟨m1, hm1⟩ : ∃ m1, m1 = z_i m 117 F.length (j : Int) := ⟨_, rfl⟩
      have o1 : ∀ c x, c ≠ 117 → m1.1 c x = m.1 c x := fun c x hc' => by rw [hm1]; exact z_nc _ _ _ _ _ _ hc'
      have ds1 : ∀ v, dsc i m1 v ↔ dsc i m v := fun v => by unfold dsc; rw [o1 115 v (by decide)]
      have D1 : DI A N i 0 (fun _ => False) m1 := by
        obtain ⟨c1, c2, c3, c4⟩ := hD
        refine ⟨fun v hv => ?_, fun s hs => by omega, fun v hv dv => ?_, by rw [o1 115 i (by decide)]; exact c4⟩
        · rw [o1 115 v (by decide)]
          rcases c1 v hv with d | ⟨w, d1, d2, d3, d4, d5⟩
          · exact Or.inl d
          · exact Or.inr ⟨w, d1, d2, d3, (ds1 w).2 d4, d5⟩
        · rcases c3 v hv ((ds1 v).1 dv) with d | ⟨s, d, _⟩ | d
          · exact absurd d not_false
          · omega
          · exact Or.inr (Or.inr (fun w hw => (ds1 w).2 (d w hw)))
      obtain ⟨F', m', g1, g2, g3, g4, g5⟩ := ih a (j :: F) m1 D1 b2 ((ds1 a).2 b4) b5 (by omega) ⟨b3, hc⟩ (by rw [List.getLast?_cons_cons]; exact hl) ⟨by rw [hm1, z_eq], WYm_k F hW (fun x hx => by rw [hm1, z_nk _ _ _ _ _ _ (by omega)])⟩
      refine ⟨F', m', ?_, g2, g3, g4, kp_tr (by rw [hm1]; exact kp_ia (kp_refl _ m) (by simp)) g5⟩
      rw [zL71_217, if_neg (by omega), if_neg (by omega), zlet, Int.toNat_natCast, ← hm1, if_neg (by omega), Int.toNat_natCast, o1 115 j (by decide), b1, if_pos (by omega)]
      rw [List.length_cons, show ((F.length + 1 : Nat) : Int) = (F.length : Int) + 1 by omega] at g1
      exact g1
theorem x_inn (h : RX true C Y A N i0 z) (hne : ∀ e : Nat, e < N → ¬ em A e) (v : Nat) (hv : v < N) (h4 : A 0 v = 4) (h5 : 0 ≤ A 5 v) : ¬ on1 A (v + 1) := by
  obtain ⟨t, t1, t2, t3, t4, t5, _⟩ := x_beg h v hv h4
  have hni := h.1
  have h1 : v + 1 ≠ t := fun c => by
    apply hne v hv
    refine ⟨h4, ?_⟩
    rw [ce_n (show ¬ psb A (v + 1) from fun w => by have := w.1; rw [c] at this; omega), t1, c]
  have a6 := hni.n4 (v + 1) v (by omega) (by omega) h4 h5 (by omega)
  rintro (c | c)
  · have := hni.b6 (v + 1) (by omega) c
    omega
  · have := (hni.n5 (v + 1) (by omega) c).1
    omega
theorem evb_v (h : RX true C Y A N i0 z) (j b v : Nat) (hj : j ≤ N) (e : evb A j b = some v) : v < N ∧ A 0 v = 4 ∧ b = v + 1 := by
  unfold evb at e
  by_cases q4 : A 0 j = 4 ∧ b = j + 1
  · rw [if_pos q4] at e
    cases e
    refine ⟨?_, q4.1, q4.2⟩
    by_cases c : j = N
    · rw [c, h.2.2.2.1] at q4
      exact absurd q4.1 (by decide)
    · omega
  · rw [if_neg q4] at e
    by_cases q5 : A 0 j = 5 ∧ (b : Int) = A 2 j + 1
    · rw [if_pos q5] at e
      cases e
      obtain ⟨t, g1, g2, g3, g4, g5⟩ := x_end h j hj q5.1
      rw [g1, Int.toNat_natCast]
      exact ⟨by omega, g4, by omega⟩
    · rw [if_neg q5] at e
      cases e
theorem g_fwd (hn : 600 ≤ n) (h : RX true C Y A N i0 z) (hne : ∀ e : Nat, e < N → ¬ em A e) : ∀ (F : List Nat) (j f k : Nat) (s : (Nat → Int) × (Nat → Int → Int)) (B : Int) (m : ZM), j ≤ N → chn A (j :: F) → WYm F m → AX true m A (N + 1) → IS s.1 s.2 k m → k ≤ 499 → sbd B s → B + F.length ≤ 100000 → F.length < f → F.length ≤ 100 →
    ∃ (m' : ZM) (k' : Nat), zL71_259 n f j ((F.length : Int) - 1) m = some ((), m') ∧ IS (fls A (j :: F) s).1 (fls A (j :: F) s).2 k' m' ∧ k ≤ k' ∧ k' ≤ k + 1 ∧ kp (wl w70x) m m' := by
  have hN := x_N119 h
  intro F
  induction F with
  | nil =>
    intro j f k s B m hj hc hW hA hI hk hs hB hf _
    obtain ⟨f, rfl⟩ : ∃ f', f = f' + 1 := ⟨f - 1, by have : ([] : List Nat).length = 0 := rfl; omega⟩
    refine ⟨m, k, ?_, hI, Nat.le_refl _, by omega, kp_refl _ m⟩
    rw [zL71_259, if_pos (by show ((0 : Nat) : Int) - 1 < 0; omega)]
  | cons b F ih =>
    intro j f k s B m hj hc hW hA hI hk hs hB hf h100
    rw [List.length_cons] at hB hf h100
    obtain ⟨f, rfl⟩ : ∃ f', f = f' + 1 := ⟨f - 1, by omega⟩
    obtain ⟨he, hc'⟩ := hc
    have hb := (edg_N h hne hj he).1
    have ax := hA j (by omega)
    rw [if_pos rfl] at ax
    have w117 : m.1 117 F.length = b := hW.1
    rw [List.length_cons, show ((F.length + 1 : Nat) : Int) - 1 = (F.length : Int) by omega]
    have e360 : ∀ m2 : ZM, m2.1 117 F.length = b → zJ71_360 n (zL71_259 n f) F.length m2 = zL71_259 n f b ((F.length : Int) - 1) m2 := by
      intro m2 h2
      unfold zJ71_360
      rw [if_neg (by omega), if_pos (by omega), Int.toNat_natCast, h2, show (F.length : Int) + -1 = (F.length : Int) - 1 by omega]
    have st : zL71_259 n (f + 1) j F.length m = match evb A j b with
        | some v => (match zF70 n v m with | some (_, M) => zJ71_360 n (zL71_259 n f) F.length M | none => none)
        | none => zJ71_360 n (zL71_259 n f) F.length m := by
      have hrj : ¬ ((j : Int) < 0 ∨ 128 ≤ (j : Int)) := by omega
      have hrF : ¬ ((F.length : Int) < 0 ∨ 128 ≤ (F.length : Int)) := by omega
      have start : zL71_259 n (f + 1) j F.length m = if A 0 j = 4 then (if (b : Int) = (j : Int) + 1 then zJ71_294 n (zL71_259 n f) j F.length 1 m else zJ71_294 n (zL71_259 n f) j F.length 0 m) else zJ71_294 n (zL71_259 n f) j F.length 0 m := by
        rw [zL71_259, if_neg (by omega), if_neg hrj, Int.toNat_natCast, ax.1, if_neg hrF, Int.toNat_natCast, w117, if_pos (show rg ((j : Int) + 1) by omega)]
        rfl
      rw [start]
      generalize zL71_259 n f = rec
      have e5 : ∀ x : Int, A 0 j = 5 → zJ71_294 n rec j F.length x m = if (b : Int) = A 2 j + 1 then zJ71_331 n rec j F.length x 1 m else zJ71_331 n rec j F.length x 0 m := by
        intro x q5
        obtain ⟨t, g1, g2, g3, g4, g5⟩ := x_end h j hj q5
        unfold zJ71_294 zJ71_326 zJ71_330
        rw [if_neg hrj, Int.toNat_natCast, ax.1, if_pos q5, if_neg hrF, Int.toNat_natCast, ax.2.2.1, w117, if_pos (show rg (A 2 j + 1) by omega)]
      have n5 : ∀ x : Int, A 0 j ≠ 5 → zJ71_294 n rec j F.length x m = zJ71_331 n rec j F.length x 0 m := by
        intro x q5
        unfold zJ71_294 zJ71_330
        rw [if_neg hrj, Int.toNat_natCast, ax.1, if_neg q5]
      have r00 : zJ71_331 n rec j F.length 0 0 m = zJ71_360 n rec F.length m := by
        unfold zJ71_331 zJ71_344
        rw [if_pos rfl, if_pos rfl]
      unfold evb
      by_cases q4 : A 0 j = 4
      · rw [if_pos q4, n5 1 (by omega), n5 0 (by omega)]
        by_cases qb : b = j + 1
        · rw [if_pos (show (b : Int) = (j : Int) + 1 by omega), if_pos (show A 0 j = 4 ∧ b = j + 1 from ⟨q4, qb⟩)]
          unfold zJ71_331
          rw [if_neg (by decide)]
          rfl
        · rw [if_neg (show ¬ (b : Int) = (j : Int) + 1 by omega), if_neg (show ¬ (A 0 j = 4 ∧ b = j + 1) from fun w => qb w.2), if_neg (show ¬ (A 0 j = 5 ∧ (b : Int) = A 2 j + 1) from fun w => by have := w.1; omega)]
          exact r00
      · rw [if_neg q4, if_neg (show ¬ (A 0 j = 4 ∧ b = j + 1) from fun w => q4 w.1)]
        by_cases q5 : A 0 j = 5
        · obtain ⟨t, g1, g2, g3, g4, g5⟩ := x_end h j hj q5
          rw [e5 0 q5]
          by_cases qb : (b : Int) = A 2 j + 1
          · rw [if_pos qb, if_pos (show A 0 j = 5 ∧ (b : Int) = A 2 j + 1 from ⟨q5, qb⟩)]
            unfold zJ71_331 zJ71_344
            rw [if_pos rfl, if_neg (show ¬ (1 : Int) = 0 by decide), if_neg hrj, Int.toNat_natCast, ax.2.2.1, g1, Int.toNat_natCast] <;> rfl
          · rw [if_neg qb, if_neg (show ¬ (A 0 j = 5 ∧ (b : Int) = A 2 j + 1) from fun w => qb w.2)]
            exact r00
        · rw [n5 0 q5, if_neg (show ¬ (A 0 j = 5 ∧ (b : Int) = A 2 j + 1) from fun w => q5 w.1)]
          exact r00
    have fe : fls A (j :: b :: F) s = fls A (b :: F) (trs A j b s) := rfl
    rw [st, fe]
    cases hev : evb A j b with
    | none =>
      dsimp only
      have ht : trs A j b s = s := by unfold trs; rw [hev]
      rw [ht, e360 m w117]
      exact ih b f k s B m hb hc' hW.2 hA hI hk hs (by omega) (by omega) (by omega)
    | some v =>
      obtain ⟨v1, v2, v3⟩ := evb_v h j b v hj hev
      have ht : trs A j b s = (nrq A v s.1, nrc A v s.1 s.2) := by unfold trs; rw [hev]
      obtain ⟨m1, k1, c1, c2, c3, c4, c5, c6⟩ := m70 (n := n) hn h hA v v1 v2 hI (by omega) (fun x _ => by have := hs.1 x; omega) (fun x o => by have := hs.2 x o; omega)
      have w70n : ∀ a x : Nat, a ≠ 83 → (a < 118 ∨ 121 < a) → wl w70x a x = false := fun a x h1 h2 => by
        unfold wl w70x
        simp
        omega
      have hW1 : m1.1 117 F.length = b := by rw [(c6.1 117 _ (w70n _ _ (by decide) (by decide))).1]; exact w117
      have hA1 : AX true m1 A (N + 1) := AX_k hA (fun c x p1 p2 => (c6.1 c x (w70n _ _ (by omega) (by omega))).1)
      have hs1 := sbd_t (A := A) hs j b
      rw [ht] at hs1
      dsimp only
      rw [c1]
      dsimp only
      rw [e360 m1 hW1, ht]
      by_cases q5 : A 5 v < 0
      · have hk1 := c4 q5
        subst hk1
        obtain ⟨m2, k2, d1, d2, d3, d4, d5⟩ := ih b f k1 (nrq A v s.1, nrc A v s.1 s.2) (B + 1) m1 hb hc' (WYm_k F hW.2 (fun x _ => (c6.1 117 x (w70n _ _ (by decide) (by decide))).1)) hA1 c2 hk hs1 (by omega) (by omega) (by omega)
        exact ⟨m2, k2, d1, d2, d3, d4, kp_tr c6 d5⟩
      · have hF : F = [] := by
          cases F with
          | nil => rfl
          | cons y ys =>
            have := hc'.1
            have hno := x_inn h hne v v1 v2 (by omega)
            rw [v3] at this
            rcases this with ⟨w, _⟩ | ⟨w, _⟩
            · exact absurd w hno
            · exact absurd (on2_1 w) hno
        subst hF
        obtain ⟨f, rfl⟩ : ∃ f', f = f' + 1 := ⟨f - 1, by omega⟩
        refine ⟨m1, k1, ?_, c2, c3, c5, c6⟩
        rw [zL71_259, if_pos (by show ((0 : Nat) : Int) - 1 < 0; omega)]
theorem m71 (hn : 2000 ≤ n) (h : RX true C Y A N i0 z) (hne : ∀ e : Nat, e < N → ¬ em A e) (i j k : Nat) (hi : i ≤ N) (hw : 0 < wc A i j) (s : (Nat → Int) × (Nat → Int → Int)) (B : Int) (m : ZM) (hA : AX true m A (N + 1)) (hI : IS s.1 s.2 k m) (hk : k ≤ 499) (hs : sbd B s) (hB0 : 0 ≤ B) (hB : B + 20 ≤ 100000) :
    ∃ (F : List Nat) (m' : ZM) (k' : Nat), zF71 n i j m = some ((), m') ∧ (i :: F) ∈ ways A i j ∧ IS (fls A (i :: F) s).1 (fls A (i :: F) s).2 k' m' ∧ k' ≤ k + 1 ∧ kp (wl w71) m m' := by
  have hN := x_N119 h
  have hj := wc_in h i j hi hw
  have key : ∀ (f x : Nat) (m : ZM), 129 ≤ f + x → x ≤ 128 → (∀ v : Nat, v < x → m.1 115 v = -1) → ∃ m', zL71_2 n f i j x m = zL71_31 n n i j 1 (z_i m' 114 0 i) ∧ (∀ v : Nat, v < 128 → m'.1 115 v = -1) ∧ kp (wl [(115, 1000)]) m m' := by
    intro f
    induction f with
    | zero => intro x m h1 h2; omega
    | succ f ih =>
      intro x m h1 h2 h3
      by_cases q : x = 128
      · subst q
        exact ⟨m, by rw [zL71_2, if_pos (by decide), zlet], h3, kp_refl _ m⟩
      · obtain ⟨m', e1, e2, e3⟩ := ih (x + 1) (z_i m 115 x (-1)) (by omega) (by omega) (fun v hv => by
          by_cases c : v = x
          · subst c; rw [z_eq]
          · rw [z_nk _ _ _ _ _ _ c]; exact h3 v (by omega))
        refine ⟨m', ?_, e2, kp_tr (kp_ia (kp_refl _ m) (by simp)) e3⟩
        rw [zL71_2, if_neg (by omega), if_neg (by omega), zlet, if_pos (by omega), Int.toNat_natCast]
        rw [show ((x + 1 : Nat) : Int) = (x : Int) + 1 by omega] at e1
        exact e1
  obtain ⟨m1, a1, a2, a3⟩ := key n 0 m (by omega) (by omega) (fun v hv => by omega)
  obtain ⟨m2, hm2⟩ : ∃ m2, m2 = z_i m1 114 0 (i : Int) := ⟨_, rfl⟩
  have p115 : ∀ v, v < 128 → m2.1 115 v = -1 := fun v hv => by rw [hm2, z_nc _ _ _ _ _ _ (by decide)]; exact a2 v hv
  have k2 : kp (wl [(114, 1000), (115, 1000)]) m m2 := by
    rw [hm2]
    exact kp_ia (kp_sub (by simp) a3) (by simp)
  have wn : ∀ a x : Nat, a ≠ 114 → a ≠ 115 → wl [(114, 1000), (115, 1000)] a x = false := fun a x h1 h2 => by
    unfold wl
    simp
    omega
  have A2 : AX true m2 A (N + 1) := AX_k hA (fun c x p1 p2 => (k2.1 c x (wn _ _ (by omega) (by omega))).1)
  have D2 : DI A N i 1 (fun _ => False) m2 := by
    refine ⟨fun v hv => Or.inl (p115 v (by omega)), fun s' hs' => ?_, fun v hv dv => ?_, p115 i (by omega)⟩
    · have : s' = 0 := by omega
      subst this
      exact ⟨i, hi, by rw [hm2, z_eq], Or.inl rfl, Nat.le_refl _⟩
    · rcases dv with c | c
      · exact Or.inr (Or.inl ⟨0, by omega, by rw [hm2, z_eq, c]⟩)
      · rw [p115 v (by omega)] at c
        exact absurd c (by decide)
  have hu : unk m2 ≤ 128 := by
    unfold unk
    have aux : ∀ (P : Nat → Bool) (x : Nat), cn P x ≤ x := by
      intro P x
      induction x with
      | zero => exact Nat.le_refl _
      | succ x ihx =>
        rw [cn]
        split <;> omega
    exact aux _ 128
  obtain ⟨m3, b1, b2, b3⟩ := g_loop (n := n) h hne i j n 1 m2 A2 D2 (by omega) (by omega)
  obtain ⟨p, hp⟩ := List.exists_mem_of_length_pos hw
  obtain ⟨hc, hl⟩ := ways_chn A j 17 i p hp
  obtain ⟨p', rfl⟩ := ways_hd A j 17 i p hp
  obtain ⟨dj, _⟩ := DI_all h hne b2 p' i hi (Or.inl rfl) hc j hl
  have phj : phi A N j ≤ phi A N i := by
    rcases dj with c | c
    · rw [c]; exact Nat.le_refl _
    · rcases b2.1 j hj.1 with d | ⟨q, d1, d2, d3, d4, d5⟩
      · omega
      · have := (edg_N h hne d2 d3).2
        omega
  have p16 := phi_16 h i
  obtain ⟨F, m4, c1, c2, c3, c4, c5⟩ := g_back (n := n) h hne i j n j [] m3 b2 hj.1 dj phj (by omega) trivial rfl trivial
  have w117n : ∀ a x : Nat, a ≠ 117 → wl [(117, 1000)] a x = false := fun a x h1 => by
    unfold wl
    simp
    omega
  have A4 : AX true m4 A (N + 1) := AX_k A2 (fun c x p1 p2 => by rw [(c5.1 c x (w117n _ _ (by omega))).1, (b3.1 c x (wn _ _ (by omega) (by omega))).1])
  have e4 : ∀ a x : Nat, a ≠ 114 → a ≠ 115 → a ≠ 117 → m4.1 a x = m.1 a x := fun a x h1 h2 h3 => by
    rw [(c5.1 a x (w117n _ _ h3)).1, (b3.1 a x (wn _ _ h1 h2)).1, (k2.1 a x (wn _ _ h1 h2)).1]
  have I4 : IS s.1 s.2 k m4 := by
    obtain ⟨d1, d2, d3⟩ := hI
    refine ⟨fun x hx => by rw [e4 118 x (by decide) (by decide) (by decide)]; exact d1 x hx, by rw [e4 83 52 (by decide) (by decide) (by decide)]; exact d2, fun b o => ?_⟩
    have h9 : ∀ x, m4.1 119 x = m.1 119 x := fun x => e4 119 x (by decide) (by decide) (by decide)
    have h0 : ∀ x, m4.1 120 x = m.1 120 x := fun x => e4 120 x (by decide) (by decide) (by decide)
    have h1 : ∀ x, m4.1 121 x = m.1 121 x := fun x => e4 121 x (by decide) (by decide) (by decide)
    simp only [h9, h0, h1]
    exact d3 b o
  have hFl := chn_len h hne F i hi c2
  obtain ⟨m5, k', g1, g2, g3, g4, g5⟩ := g_fwd (n := n) (by omega) h hne F i n k s B m4 hi c2 c4 A4 I4 hk hs (by omega) (by omega) (by omega)
  have e5 : zF71 n i j m = some ((), m5) := by
    unfold zF71
    rw [show ((0 : Nat) : Int) = 0 from rfl] at a1
    rw [a1, ← hm2]
    rw [show ((1 : Nat) : Int) = 1 from rfl] at b1
    rw [b1]
    have : zL71_217 n n i ((([] : List Nat).length : Nat) : Int) j m3 = zL71_217 n n i 0 j m3 := rfl
    rw [← this, c1]
    exact g1
  exact ⟨F, m5, k', e5, chn_ways h hne j hj.2 F i hi c2 c3, g2, g4, zF71_kp n i j m _ _ e5⟩
end
