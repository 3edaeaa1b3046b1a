/-! The class's match. -/
/-- the takings of a history -/
def ctk (A : Nat → Nat → Int) : List PE → List (Nat × List Nat) → List (Nat × Int × Nat × Nat)
  | [], _ => []
  | _ :: _, [] => []
  | (_, _, p, v) :: t, _ :: h => ctk A t h ++ (match h with
    | [] => []
    | (e, _) :: _ => if A 0 e = 3 then [(e, orr A h e, p, v)] else [])
def wMt : List (Nat × Nat) := wS 23 ++ (wS 27 ++ (wK ++ [(22, 1000)]))
theorem wMt_n (c k : Nat) (h : c < 16 ∨ 30 < c) : wl wMt c k = false := by
  unfold wl wMt wS wC wT wK
  simp
  omega
theorem wMt_S {c2 : Nat} (h : c2 = 23 ∨ c2 = 27) : ∀ p ∈ wS c2, p ∈ wMt := fun p hp => by
  rcases h with rfl | rfl
  · exact List.mem_append_left _ hp
  · exact List.mem_append_right _ (List.mem_append_left _ hp)
theorem wMt_K : ∀ p ∈ wK, p ∈ wMt := fun p hp => List.mem_append_right _ (List.mem_append_right _ (List.mem_append_left _ hp))
theorem wMt_22 : ∀ p ∈ [(22, 1000)], p ∈ wMt := fun p hp => List.mem_append_right _ (List.mem_append_right _ (List.mem_append_right _ hp))
theorem Hn_nil (A : Nat → Nat → Int) (G : Nat → Bool) (H : Nat → List (List (Nat × List Nat))) (j : Nat) (hH : ∀ e, G e = true → H e = []) : ∀ k, Hn A G H j k = [] := by
  intro k
  induction k with
  | zero => rfl
  | succ k ih =>
    rw [Hn, ih]
    split
    · rename_i q
      rw [hH k q]
      rfl
    · rfl
section
variable {C : Nat → Int} {Y A : Nat → Nat → Int} {N i0 z : Nat} {n b sz a r : Nat} {P : Nat → Nat} {X : Nat → Int} {S lo en : Nat}
theorem c_dead (hn : 2000 ≤ n) (h : RX true C Y A N i0 z) (hne : ∀ e : Nat, e < N → ¬ em A e) (hb : isD b) (hz : z + 1 < sz) (hr : isR r) (hen : en < S) : ∀ (g p i c1 c2 : Nat) (H : Nat → List (List (Nat × List Nat))) (m : ZM), (∀ j, H j = []) → DM b sz a C Y P m → MX b r c1 c2 i0 z m → TH A N b c1 H m → RTk r S X m → p ≤ en → i ≤ p → en + 1 ≤ g + p → ∃ m', zL149_68 n b r g en p i m = some (-2001, m') ∧ kp (wl wMt) m m' ∧ ∃ d1 d2, MX b r d1 d2 i0 z m' := by
  have hge := isD_ge hb
  have hr34 : r = 34 ∨ r = 37 := by unfold isR at hr; omega
  intro g
  induction g with
  | zero => intro p i c1 c2 H m _ _ _ _ _ h1 h2 h3; omega
  | succ g ih =>
    intro p i c1 c2 H m hH hD hM hT hR hp hi hg
    have hS := hR.2.1
    have hcc := hM.2.2.1
    by_cases q : p = en
    · obtain ⟨m', e1, e2, _⟩ := c150 (n := n) (by omega) h hM hT
      rw [if_pos (show (H N).length = 0 by rw [hH N]; rfl)] at e1
      refine ⟨m', ?_, kp_sub wMt_22 e2, c1, c2, MX_kp hM e2 (fun k => by unfold wl; simp)⟩
      rw [zL149_68, if_neg (by omega), if_pos (by omega)]
      unfold zJ149_194
      rw [e1]
    · have hx := hR.2.2.1 p (by omega)
      have hO : HO A N 0 H := fun j x hx => by rw [hH j] at hx; cases hx
      have hac : ∀ k, ac A H (X p) k = (0, 0, -1) := by
        intro k
        induction k with
        | zero => rfl
        | succ k ihk =>
          rw [ac, ihk, if_neg (show ¬ fits A H (X p) k from fun d => by have := d.1; rw [hH k] at this; exact absurd this (Nat.lt_irrefl 0)), if_neg (show ¬ goes A H (X p) k from fun d => by have := d.1; rw [hH k] at this; exact absurd this (Nat.lt_irrefl 0)), if_neg (show ¬ fits A H (X p) k from fun d => by have := d.1; rw [hH k] at this; exact absurd this (Nat.lt_irrefl 0))]
      have e151 := c151 (n := n) (by omega) h hb hz m hD hM hT hO (X p) hx.2
      rw [hac N, if_neg (by decide), if_neg (by decide)] at e151
      have e151 : zF151 n (X p) m = some (-1, m) := e151
      obtain ⟨m1, f1, f2, f3, f4⟩ := c155 (n := n) (by omega) h hne hb hz hD hM hT hO (by decide) (X p) hx.2
      have f4' := kp_sub (wMt_S (by omega)) f4
      obtain ⟨m', g1, g2, g3⟩ := ih (p + 1) (i + 1) c2 c1 (fun j => Hn A (fun i => decide (goes A H (X p) i)) H j N) m1 (fun j => Hn_nil A _ H j (fun e _ => hH e) N) (DM_kp hD f4 (fun c k p1 p2 => wS_n c k (by omega))) f2 f3 (RTk_kp hR f4 (wS_n _ _ (by omega)) (fun k => wS_n _ _ (by omega))) (by omega) (by omega) (by omega)
      refine ⟨m', ?_, kp_tr f4' g2, g3⟩
      rw [zL149_68, if_neg (by omega), if_neg (by omega), hM.2.2.2.2.1]
      dsimp only
      rw [if_pos hr, c170 hR]
      dsimp only
      rw [e151]
      dsimp only
      unfold zJ149_98
      rw [if_neg (by decide), if_pos rfl, if_pos (by omega)]
      unfold zJ149_140
      rw [if_neg (by omega), if_pos rfl, hM.2.2.2.2.1]
      dsimp only
      rw [if_pos hr, c170 hR]
      dsimp only
      rw [f1]
      dsimp only
      unfold zJ149_184
      rw [if_pos (by omega)]
      rw [show ((p + 1 : Nat) : Int) = (p : Int) + 1 by omega, show ((i + 1 : Nat) : Int) = (i : Int) + 1 by omega] at g1
      exact g1
theorem m65p {X : Nat → Int} {S lo en : Nat} (hS : S ≤ 150) (hX : ∀ p : Nat, p < S → vt (X p)) (hB : CB X S lo en) (k : Int) (p : Nat) (hlo : lo ≤ p) (hp : p < en) (v : Int) (hv : TKX X k p v) : v = -1 ∨ ((p : Int) < v ∧ v ≤ en) :=
  (m65 (n := 2000) (m := ((fun c q => if c = 105 then X q else 0, fun _ _ => none, fun _ => 0) : ZM)) (Nat.le_refl _) ⟨hS, fun q hq => ⟨show (if (105 : Nat) = 105 then X q else 0) = X q from if_pos rfl, hX q hq⟩⟩ hB k p hlo hp v hv).2
theorem c149l (hn : 200000 ≤ n) (h : RX true C Y A N i0 z) (hne : ∀ e : Nat, e < N → ¬ em A e) (hb : isD b) (hz : z + 1 < sz) (hr : isR r) (hB : CB X S lo en) : ∀ (g p i c1 c2 : Nat) (H : Nat → List (List (Nat × List Nat))) (k : List (Nat × Int × Nat × Nat)) (t : List PE) (B : Int) (m : ZM), DM b sz a C Y P m → MX b r c1 c2 i0 z m → TH A N b c1 H m → RTk r S X m → HO A N B H → 0 ≤ B → B + 20 * ((en : Int) - p) ≤ 100000 → KG A k m → (∀ j hh, hh ∈ H j → k = ctk A t hh) → k.length ≤ p → lo ≤ p → p ≤ en → i ≤ p → en + 1 ≤ g + p →
    ∃ (tr : List ((Nat → Bool) × Nat × Nat)) (v : Int) (m' : ZM), zL149_68 n b r g en p i m = some (v, m') ∧ TV A N X en tr H p v ∧ kp (wl wMt) m m' ∧ (∃ d1 d2, MX b r d1 d2 i0 z m') ∧ (v = 0 → ∃ hh, (PF A N tr H t).1 N = [hh] ∧ KG A (ctk A (PF A N tr H t).2 hh) m' ∧ ∀ o : Nat, o < 4 → m'.1 22 o = Rd A hh o) := by
  have hge := isD_ge hb
  have hr34 : r = 34 ∨ r = 37 := by unfold isR at hr; omega
  have h120 := h.2.2.2.2.2.2.2.1
  intro g
  induction g with
  | zero => intro p i c1 c2 H k t B m _ _ _ _ _ _ _ _ _ _ _ h1 h2 h3; omega
  | succ g ih =>
    intro p i c1 c2 H k t B m hD hM hT hR hO hB0 hB1 hK hkt hkl hlo hp hi hg
    have hS := hR.2.1
    have hen := hB.1
    have hcc := hM.2.2.1
    by_cases q : p = en
    · obtain ⟨m', e1, e2, e3⟩ := c150 (n := n) (by omega) h hM hT
      refine ⟨[], _, m', ?_, Or.inl ⟨by omega, rfl⟩, kp_sub wMt_22 e2, ⟨c1, c2, MX_kp hM e2 (fun k => by unfold wl; simp)⟩, fun v0 => ?_⟩
      · rw [zL149_68, if_neg (by omega), if_pos (by omega)]
        unfold zJ149_194
        rw [e1]
      · by_cases l0 : (H N).length = 0
        · rw [if_pos l0] at v0; exact absurd v0 (by decide)
        · rw [if_neg l0] at v0
          by_cases l1 : (H N).length = 1
          · obtain ⟨hh, h1⟩ := List.length_eq_one_iff.1 l1
            obtain ⟨h', g1, g2⟩ := e3 (fun d => by rw [d] at l0; exact l0 rfl)
            have : h' = hh := by rw [h1] at g1; exact List.mem_singleton.1 g1
            subst this
            refine ⟨h', h1, ?_, g2⟩
            show KG A (ctk A t h') m'
            rw [← hkt N h' g1]
            have w22 : ∀ a q : Nat, a ≠ 22 → wl [(22, 1000)] a q = false := fun a q ha => by
              unfold wl
              simp
              omega
            exact KG_kp hK e2 (w22 _ _ (by decide)) (fun c q p1 p2 => w22 _ _ (by omega))
          · rw [if_neg l1] at v0; exact absurd v0 (by decide)
    · have hpe : p < en := by omega
      have hx := hR.2.2.1 p (by omega)
      have hx0 : 0 < X p := by rcases hx.2 with d | d | d <;> omega
      have e151 := c151 (n := n) (by omega) h hb hz m hD hM hT hO (X p) hx.2
      have hrr := ac_r (A := A) (H := H) (c := X p) N
      have st : ∀ w, zF151 n (X p) m = some (w, m) → zL149_68 n b r (g + 1) en p i m = zJ149_98 n b r (zL149_68 n b r g) en p i w m := by
        intro w hw
        rw [zL149_68, if_neg (by omega), if_neg (by omega), hM.2.2.2.2.1]
        dsimp only
        rw [if_pos hr, c170 hR]
        dsimp only
        rw [hw]
      by_cases ca : AMB A N H (X p)
      · have e2 : zF151 n (X p) m = some (-2002, m) := by
          rw [e151]
          rcases ca with d | ⟨d1, d2⟩
          · rw [if_pos d]
          · rw [if_neg (by omega), if_pos d1, if_neg (by omega)]
        refine ⟨[], -2002, m, ?_, Or.inr (Or.inl ⟨hpe, ca, rfl⟩), kp_refl _ m, ⟨c1, c2, hM⟩, fun d => absurd d (by decide)⟩
        rw [st _ e2]
        unfold zJ149_98
        rw [if_pos rfl]
      · have na : ¬ 1 < (ac A H (X p) N).1 := fun d => ca (Or.inl d)
        by_cases cf : (ac A H (X p) N).1 = 1
        · have ns : (ac A H (X p) N).2.1 ≤ 0 := by
            apply Classical.byContradiction
            intro d
            exact ca (Or.inr ⟨cf, by omega⟩)
          obtain ⟨e, q1, q2, q3, q4, q5⟩ := ac_f1 (A := A) (H := H) (c := X p) N cf
          have h3 := q3.2.1
          have pe := x_pl h e (by omega)
          have l4 : lnf A e = 4 := by unfold lnf; rw [if_pos h3]
          have pz := pe.2.2.2 q1
          have e2 : zF151 n (X p) m = some ((pl A e : Int), m) := by
            rw [e151, if_neg na, if_pos cf, if_pos ns, q2]
            unfold fro
            rw [if_neg (by omega), Int.toNat_natCast]
          obtain ⟨hh, hHe⟩ := List.length_eq_one_iff.1 q4
          obtain ⟨v, v1, v2⟩ := c153 (n := n) (by omega) h e q1 h3 hR hr hM.2.2.2.2.1 lo en p hB hlo hpe
          have v3 := m65p hR.2.1 (fun q hq => (hR.2.2.1 q hq).2) hB (A 4 e) p hlo hpe v v2
          have s2 : zL149_68 n b r (g + 1) en p i m = zJ149_140 n b r (zL149_68 n b r g) en p i (pl A e) v m := by
            rw [st _ e2]
            unfold zJ149_98
            rw [if_neg (by omega), if_neg (by omega), hM.2.2.2.1]
            dsimp only
            rw [if_pos hb, if_pos (by omega), d_code hD, if_pos (by omega), show ((pl A e : Int) + 3).toNat = pl A e + 3 by omega]
            dsimp only
            rw [v1]
          by_cases cv : v = -1
          · subst cv
            refine ⟨[], -2001, m, ?_, Or.inr (Or.inr ⟨hpe, ca, Or.inr ⟨cf, e, q2, v2⟩, rfl⟩), kp_refl _ m, ⟨c1, c2, hM⟩, fun d => absurd d (by decide)⟩
            rw [s2]
            unfold zJ149_140
            rw [if_pos rfl]
          · obtain ⟨w, hw⟩ : ∃ w : Nat, v = w := ⟨v.toNat, by omega⟩
            subst hw
            obtain ⟨m1, f1, f2, f3, f4, f5⟩ := c154 (n := n) (by omega) h hne hb hz hD hM hT hO (by omega) hK (by omega) e q1 h3 hh hHe p w
            have f5' : kp (wl wMt) m m1 := kp_sub (fun x hx => by
              rcases List.mem_append.1 hx with d | d
              · exact wMt_S (by omega) x d
              · exact wMt_K x d) f5
            have wn : ∀ c q : Nat, 30 < c → wl (wS c2 ++ wK) c q = false := fun c q hc => by
              unfold wl wS wC wT wK
              simp
              omega
            have hGN : ∀ e' : Nat, decide (e' = e) = true → e' < N := fun e' he' => by
              have := of_decide_eq_true he'
              omega
            obtain ⟨tr, v', m', g1, g2, g3, g5, g4⟩ := ih w (i + 1) c2 c1 (fun j => Hn A (fun i => decide (i = e)) H j N) (k ++ [(e, orr A hh e, p, w)]) ((H, (fun i => decide (i = e)), p, w) :: t) (B + 20) m1 (DM_kp hD f5 (fun c q p1 p2 => wn c q (by omega))) f2 f3 (RTk_kp hR f5 (wn _ _ (by omega)) (fun q => wn _ _ (by omega))) (HO_n h B _ H hO hB0 hGN N) (by omega) (by omega) f4 (fun j h2 hj => by
              obtain ⟨e', e1, e2, e3⟩ := (Hn_mem A _ H j h2 N).1 hj
              have he' : e' = e := of_decide_eq_true e2
              subst he'
              obtain ⟨h'', a1, w', a2, a3⟩ := (hx_mem A e' j (H e') h2).1 e3
              have hh2 : h'' = hh := by rw [hHe] at a1; exact List.mem_singleton.1 a1
              subst hh2
              obtain ⟨_, _, ⟨p', hr', b3⟩, _⟩ := hO e' h'' a1
              have hk1 := hkt e' h'' a1
              rw [a3, hk1]
              subst b3
              show ctk A t ((e', p') :: hr') ++ _ = ctk A t ((e', p') :: hr') ++ (if A 0 e' = 3 then _ else _)
              rw [if_pos h3]) (by rw [List.length_append]; show k.length + 1 ≤ w; omega) (by omega) (by omega) (by omega) (by omega)
            refine ⟨((fun i => decide (i = e)), p, w) :: tr, v', m', ?_, ⟨rfl, hpe, by omega, by omega, ca, Or.inl ⟨cf, e, q2, v2, rfl⟩, g2⟩, kp_tr f5' g3, g5, g4⟩
            rw [s2]
            unfold zJ149_140
            rw [if_neg (by omega), if_neg (by omega), f1]
            dsimp only
            unfold zJ149_184
            rw [if_pos (by omega)]
            rw [show ((i + 1 : Nat) : Int) = (i : Int) + 1 by omega] at g1
            exact g1
        · have cf0 : (ac A H (X p) N).1 = 0 := by omega
          obtain ⟨o1, o2⟩ := ac_f0 (A := A) (H := H) (c := X p) N cf0
          have e2 : zF151 n (X p) m = some (-1, m) := by
            rw [e151, if_neg na, if_neg cf, o1]
            rfl
          obtain ⟨m1, f1, f2, f3, f4⟩ := c155 (n := n) (by omega) h hne hb hz hD hM hT hO (by omega) (X p) hx.2
          have f4' := kp_sub (wMt_S (by omega)) f4
          have s2 : zL149_68 n b r (g + 1) en p i m = zL149_68 n b r g en ((p + 1 : Nat) : Int) ((i + 1 : Nat) : Int) m1 := by
            rw [st _ e2]
            unfold zJ149_98
            rw [if_neg (by decide), if_pos rfl, if_pos (by omega)]
            unfold zJ149_140
            rw [if_neg (by omega), if_pos rfl, hM.2.2.2.2.1]
            dsimp only
            rw [if_pos hr, c170 hR]
            dsimp only
            rw [f1]
            dsimp only
            unfold zJ149_184
            rw [if_pos (by omega), show ((p + 1 : Nat) : Int) = (p : Int) + 1 by omega, show ((i + 1 : Nat) : Int) = (i : Int) + 1 by omega]
          have D1 : DM b sz a C Y P m1 := DM_kp hD f4 (fun c q p1 p2 => wS_n c q (by omega))
          have R1 : RTk r S X m1 := RTk_kp hR f4 (wS_n _ _ (by omega)) (fun q => wS_n _ _ (by omega))
          by_cases cs : (ac A H (X p) N).2.1 = 0
          · have ng := (ac_s0 (A := A) (H := H) (c := X p) N).1 cs
            have hall : ∀ j, Hn A (fun i => decide (goes A H (X p) i)) H j N = [] := by
              intro j
              cases hl : Hn A (fun i => decide (goes A H (X p) i)) H j N with
              | nil => rfl
              | cons y ys =>
                obtain ⟨e', e1, e2', _⟩ := (Hn_mem A _ H j y N).1 (by rw [hl]; exact List.mem_cons_self)
                exact absurd (of_decide_eq_true e2') (ng e' e1)
            obtain ⟨m', g1, g2, g3⟩ := c_dead (n := n) (X := X) (S := S) (en := en) (by omega) h hne hb hz hr hen g (p + 1) (i + 1) c2 c1 _ m1 hall D1 f2 f3 R1 (by omega) (by omega) (by omega)
            exact ⟨[], -2001, m', by rw [s2]; exact g1, Or.inr (Or.inr ⟨hpe, ca, Or.inl ⟨cf0, cs⟩, rfl⟩), kp_tr f4' g2, g3, fun d => absurd d (by decide)⟩
          · have hGN : ∀ e' : Nat, decide (goes A H (X p) e') = true → e' < N := fun e' he' => by
              have q := of_decide_eq_true he'
              have h1 := q.1
              have he : e' ≤ N := by
                apply Classical.byContradiction
                intro d
                have := HO_hi hO e' (by omega)
                omega
              by_cases d : e' = N
              · subst d
                have q2 := q.2
                unfold bf at q2
                rw [h.2.2.2.1, if_neg (by decide), if_neg (by decide), if_pos rfl] at q2
                omega
              · omega
            obtain ⟨tr, v', m', g1, g2, g3, g5, g4⟩ := ih (p + 1) (i + 1) c2 c1 (fun j => Hn A (fun i => decide (goes A H (X p) i)) H j N) k ((H, (fun i => decide (goes A H (X p) i)), p, p + 1) :: t) (B + 20) m1 D1 f2 f3 R1 (HO_n h B _ H hO hB0 hGN N) (by omega) (by omega) (KG_kp hK f4 (wS_n _ _ (by omega)) (fun c q p1 p2 => wS_n c q (by omega))) (fun j h2 hj => by
              obtain ⟨e', e1, e2', e3⟩ := (Hn_mem A _ H j h2 N).1 hj
              have ge := of_decide_eq_true e2'
              obtain ⟨h'', a1, w', a2, a3⟩ := (hx_mem A e' j (H e') h2).1 e3
              obtain ⟨_, _, ⟨p', hr', b3⟩, _⟩ := hO e' h'' a1
              have hk1 := hkt e' h'' a1
              have n3 : A 0 e' ≠ 3 := fun d => by
                have := ge.2
                unfold bf at this
                rw [if_neg (by omega), if_pos d] at this
                omega
              rw [a3, hk1]
              subst b3
              show ctk A t ((e', p') :: hr') = ctk A t ((e', p') :: hr') ++ (if A 0 e' = 3 then _ else _)
              rw [if_neg n3, List.append_nil]) (by omega) (by omega) (by omega) (by omega) (by omega)
            refine ⟨((fun i => decide (goes A H (X p) i)), p, p + 1) :: tr, v', m', by rw [s2]; exact g1, ⟨rfl, hpe, by omega, by omega, ca, Or.inr ⟨cf0, by omega, rfl, rfl⟩, g2⟩, kp_tr f4' g3, g5, g4⟩
end
