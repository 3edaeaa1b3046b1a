/-! Rows as lists; calls in them. -/
def xf (l : OL) (p : Nat) : Int := match l[p]? with
  | some x => x.1
  | none => -1
def kf (l : OL) (p : Nat) : Int := match l[p]? with
  | some x => x.2
  | none => 0
theorem xf_hi (l : OL) (p : Nat) (h : l.length ≤ p) : xf l p = -1 := by
  unfold xf
  rw [List.getElem?_eq_none h]
theorem xf_lo (l : OL) (p : Nat) (h : p < l.length) : l[p]? = some (xf l p, kf l p) := by
  unfold xf kf
  rw [List.getElem?_eq_getElem h]
theorem xf_mem (l : OL) (p : Nat) (h : p < l.length) : (xf l p, kf l p) ∈ l := List.mem_of_getElem? (xf_lo l p h)
/-- the class's row -/
theorem RL_RT {r : Nat} {l : OL} {m : ZM} (h : RL r l m) (hl : l.length ≤ 150) (hv : ∀ x ∈ l, vt x.1) : RTk r l.length (xf l) m := by
  obtain ⟨a1, a2, a3⟩ := h
  rw [if_pos hl] at a1
  exact ⟨a1, hl, fun p hp => ⟨(a3 p _ (by omega) (xf_lo l p hp)).1, hv _ (xf_mem l p hp)⟩, fun p hp => xf_hi l p hp⟩
theorem RL_SR {r : Nat} {l : OL} {m : ZM} (h : RL r l m) (hl : l.length ≤ 150) : SR r l.length (xf l) (kf l) m := by
  obtain ⟨a1, a2, a3⟩ := h
  rw [if_pos hl] at a1
  exact ⟨a1, hl, fun p hp => a3 p _ (by omega) (xf_lo l p hp)⟩
/-- the reference's row -/
def RT2 (l : OL) (m : ZM) : Prop := m.1 83 34 = l.length ∧ ∀ p : Nat, p < l.length → m.1 105 p = xf l p ∧ m.1 106 p = kf l p
theorem RT2_RR {l : OL} {m : ZM} (h : RT2 l m) (hl : l.length ≤ 150) (hv : ∀ x ∈ l, vt x.1) : RRk l.length (xf l) m := ⟨hl, fun p hp => ⟨(h.2 p hp).1, hv _ (xf_mem l p hp)⟩⟩
theorem RT2_MR {l : OL} {m : ZM} (h : RT2 l m) (hl : l.length ≤ 150) : MRw l.length (xf l) (kf l) m := ⟨hl, h.2⟩
theorem slc_dt (l : OL) (p : Nat) : ∀ k : Nat, p + k ≤ l.length → slc (xf l) (kf l) p k = (l.drop p).take k := by
  intro k
  induction k with
  | zero => intro _; rw [List.take_zero]; rfl
  | succ k ih =>
    intro hk
    rw [slc, ih (by omega), List.take_succ, List.getElem?_drop, xf_lo l (p + k) (by omega)]
    rfl
theorem Dp_sm (l : OL) : ∀ p : Nat, p ≤ l.length → Dp (xf l) p = sm (l.take p) := by
  intro p
  induction p with
  | zero => intro _; rw [List.take_zero]; rfl
  | succ p ih =>
    intro hp
    rw [List.take_succ, xf_lo l p (by omega), sm_app, ← ih (by omega)]
    show Dp (xf l) p + br (xf l p) = Dp (xf l) p + (br (xf l p) + 0)
    omega
theorem pf_e (l : OL) : ∀ h : Int, pf h l → 0 ≤ h + sm l := by
  induction l with
  | nil => intro h w; have w : 0 ≤ h := w; show 0 ≤ h + 0; omega
  | cons x l ih =>
    intro h w
    have := ih _ w.2
    show 0 ≤ h + (br x.1 + sm l)
    omega
theorem OK_BL {l : OL} (h : OK0 l) : BL (xf l) l.length := by
  obtain ⟨h1, h2, h3⟩ := h
  refine ⟨fun p hp => ?_, by rw [Dp_sm l l.length (Nat.le_refl _), List.take_length]; exact h1⟩
  rw [Dp_sm l p hp]
  have h2' : pf 0 (l.take p ++ l.drop p) := by rw [List.take_append_drop]; exact h2
  have := pf_e _ 0 ((pf_app _ _ 0).1 h2').1
  omega
/-- the row with b in the place of tokens k .. en -/
def nwL (l : OL) (k en : Nat) (b : OL) : OL := l.take k ++ (b ++ l.drop (en + 1))
/-- a call begins at k -/
abbrev icl (X : Nat → Int) (S k : Nat) : Prop := k + 2 < S ∧ wd (X k) ∧ X (k + 1) = 33 ∧ opn (X (k + 2))
theorem nw_ok {l b : OL} {k en : Nat} (h : OK0 l) (hb : OK0 b) (hc : icl (xf l) l.length k) (hen : en < l.length) (hcl : CL (xf l) (k + 2) en) : OK0 (nwL l k en b) := by
  obtain ⟨h1, h2, h3⟩ := h
  obtain ⟨b1, b2, b3⟩ := hb
  obtain ⟨c1, c2, c3, c4⟩ := hc
  have hBL := OK_BL ⟨h1, h2, h3⟩
  have e1 : Dp (xf l) (k + 2) = Dp (xf l) k := by
    have a1 : br (xf l k) = 0 := by
      unfold br
      rw [if_neg (by omega), if_neg (by omega)]
    have a2 : br (xf l (k + 1)) = 0 := by
      rw [c3]
      decide
    show Dp (xf l) k + br (xf l k) + br (xf l (k + 1)) = Dp (xf l) k
    omega
  have e2 := hcl.2.1
  have s1 := Dp_sm l k (by omega)
  have s2 := Dp_sm l (en + 1) (by omega)
  have hsp : l.take (en + 1) ++ l.drop (en + 1) = l := List.take_append_drop _ _
  have s3 : sm (l.take (en + 1)) + sm (l.drop (en + 1)) = 0 := by rw [← sm_app, hsp]; exact h1
  have h2k : pf 0 (l.take k ++ l.drop k) := by rw [List.take_append_drop]; exact h2
  have h2e : pf 0 (l.take (en + 1) ++ l.drop (en + 1)) := by rw [hsp]; exact h2
  have p1 := ((pf_app _ _ 0).1 h2k).1
  have p2 := ((pf_app _ _ 0).1 h2e).2
  have p0 := pf_e _ 0 p1
  refine ⟨?_, ?_, fun x hx => ?_⟩
  · unfold nwL
    rw [sm_app, sm_app]
    omega
  · unfold nwL
    rw [pf_app, pf_app]
    refine ⟨p1, pf_m b 0 _ (by omega) b2, ?_⟩
    rw [b1]
    rw [show 0 + sm (l.take k) + 0 = 0 + sm (l.take (en + 1)) by omega]
    exact p2
  · unfold nwL at hx
    rcases List.mem_append.1 hx with d | d
    · exact h3 x (List.mem_of_mem_take d)
    · rcases List.mem_append.1 d with d | d
      · exact b3 x d
      · exact h3 x (List.mem_of_mem_drop d)
theorem CB_of {X : Nat → Int} {S p en : Nat} (hB : BL X S) (hen : en < S) (hc : CL X p en) : CB X S (p + 1) en ∧ p + 1 ≤ en := by
  refine ⟨⟨hen, (CL_op X p en hc).2, fun q h1 h2 ho => ?_⟩, hc.1⟩
  obtain ⟨q', g1, g2⟩ := CL_ex X S q hB (by omega) ho
  refine ⟨q', ?_, g2⟩
  apply Classical.byContradiction
  intro c
  have a1 := hc.2.2 q (by omega) (by omega)
  have a2 := hc.2.1
  by_cases d : q' = en
  · subst d
    have := g2.2.1
    omega
  · have := g2.2.2 (en + 1) (by omega) (by omega)
    omega
/-- the first call from p on is at k -/
def FC (X : Nat → Int) (S p k : Nat) : Prop := p ≤ k ∧ icl X S k ∧ ∀ q : Nat, p ≤ q → q < k → ¬ icl X S q
def NC (X : Nat → Int) (S p : Nat) : Prop := ∀ q : Nat, p ≤ q → ¬ icl X S q
/-- callFrom -/
theorem c173 {r S : Nat} {X : Nat → Int} {m : ZM} (h : RTk r S X m) (n : Nat) (hn : 400 ≤ n) (p : Nat) (hp : p ≤ 200) : ∃ v : Int, zF173 n r p m = some (v, m) ∧ ((∃ k : Nat, v = k ∧ FC X S p k) ∨ (v = -1 ∧ NC X S p)) := by
  obtain ⟨h1, h2, h3, h4⟩ := h
  have key : ∀ (f q : Nat), 352 ≤ q + f → q ≤ 351 → ∃ v : Int, zL173_6 n r f q m = some (v, m) ∧ ((∃ k : Nat, v = k ∧ FC X S q k) ∨ (v = -1 ∧ NC X S q)) := by
    intro f
    induction f with
    | zero => intro q a b; omega
    | succ f ih =>
      intro q a b
      by_cases c1 : S ≤ q + 2
      · refine ⟨-1, ?_, Or.inr ⟨rfl, fun q' a1 a2 => by have := a2.1; omega⟩⟩
        rw [zL173_6, if_pos (by omega), h1, if_pos (by omega)]
      · have s57 : zJ173_57 n r (zL173_6 n r f) q m = zL173_6 n r f ((q + 1 : Nat) : Int) m := by
          unfold zJ173_57
          rw [if_pos (by omega), show ((q + 1 : Nat) : Int) = (q : Int) + 1 by omega]
        have no : ¬ icl X S q → ∃ v : Int, zL173_6 n r f ((q + 1 : Nat) : Int) m = some (v, m) ∧ ((∃ k : Nat, v = k ∧ FC X S q k) ∨ (v = -1 ∧ NC X S q)) := by
          intro d
          obtain ⟨v, v1, v2⟩ := ih (q + 1) (by omega) (by omega)
          refine ⟨v, v1, ?_⟩
          rcases v2 with ⟨k, k1, k2, k3, k4⟩ | ⟨k1, k2⟩
          · refine Or.inl ⟨k, k1, by omega, k3, fun q' a1 a2 => ?_⟩
            by_cases e : q' = q
            · rw [e]; exact d
            · exact k4 q' (by omega) a2
          · refine Or.inr ⟨k1, fun q' a1 => ?_⟩
            by_cases e : q' = q
            · rw [e]; exact d
            · exact k2 q' (by omega)
        have x0 := (h3 q (by omega)).1
        have x1 := (h3 (q + 1) (by omega)).1
        have x2 := (h3 (q + 2) (by omega)).1
        have st : zL173_6 n r (f + 1) q m = if wd (X q) then zJ173_28 n r (zL173_6 n r f) q m else zL173_6 n r f ((q + 1 : Nat) : Int) m := by
          rw [zL173_6, if_pos (by omega), h1, if_neg (by omega), if_neg (by omega), Int.toNat_natCast, x0, zF11_eq]
          refine (ib _ _ _).trans ?_
          rw [s57]
        rw [st]
        by_cases c2 : wd (X q)
        · rw [if_pos c2]
          unfold zJ173_28
          rw [if_pos (by omega), if_neg (by omega), show ((q : Int) + 1).toNat = q + 1 by omega, x1]
          by_cases c3 : X (q + 1) = 33
          · rw [if_pos c3, if_pos (by omega), if_neg (by omega), show ((q : Int) + 2).toNat = q + 2 by omega, x2, zF13_eq]
            dsimp only
            rw [s57]
            by_cases c4 : opn (X (q + 2))
            · rw [bi_p c4, if_neg (by decide)]
              exact ⟨(q : Int), rfl, Or.inl ⟨q, rfl, Nat.le_refl _, ⟨by omega, c2, c3, c4⟩, fun q' a1 a2 => by omega⟩⟩
            · rw [bi_n c4, if_pos rfl]
              exact no (fun d => c4 d.2.2.2)
          · rw [if_neg c3, s57]
            exact no (fun d => c3 d.2.2.1)
        · rw [if_neg c2]
          exact no (fun d => c2 d.2.1)
  have h0 : (if (0 : Int) < (p : Int) then (p : Int) else 0) = (p : Int) := by
    split <;> omega
  unfold zF173
  rw [h0]
  exact key n p (by omega) (by omega)
/-- isCall -/
theorem m79 {S : Nat} {X : Nat → Int} {m : ZM} (h : RRk S X m) (h34 : m.1 83 34 = S) (n k : Nat) (hk : k < S) : zF79 n k m = some (bi (icl X S k), m) := by
  obtain ⟨h1, h2⟩ := h
  unfold zF79
  rw [if_pos (by omega), h34]
  by_cases c1 : S ≤ k + 2
  · rw [if_pos (by omega), bi_n (fun d => by have := d.1; omega)]
    rfl
  · rw [if_neg (by omega), if_neg (by omega), Int.toNat_natCast, (h2 k hk).1]
    have hv := (h2 k hk).2
    by_cases c2 : wd (X k)
    · rw [if_neg (by omega), if_pos (by omega), if_neg (by omega), show ((k : Int) + 1).toNat = k + 1 by omega, (h2 (k + 1) (by omega)).1]
      by_cases c3 : X (k + 1) = 33
      · rw [if_pos c3]
        unfold zJ79_35
        rw [if_pos (by omega), if_neg (by omega), show ((k : Int) + 2).toNat = k + 2 by omega, (h2 (k + 2) (by omega)).1, zF21_eq]
        dsimp only
        by_cases c4 : opn (X (k + 2))
        · rw [bi_p c4, if_neg (by decide), bi_p ⟨by omega, c2, c3, c4⟩]
          rfl
        · rw [bi_n c4, if_pos rfl, bi_n (fun d => c4 d.2.2.2)]
          rfl
      · rw [if_neg c3, bi_n (fun d => c3 d.2.2.1)]
        rfl
    · rw [if_pos (by omega), bi_n (fun d => c2 d.2.1)]
      rfl
