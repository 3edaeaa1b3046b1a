/-! Rounds of a repetition of a body, both sides. -/
/-- rounds by the uses q, q + 1, ..: x is what was found, -1 nothing yet, or unequal -/
def rq (B : Nat → Nat → Int) (V : Nat → Int) : Nat → Nat → Int → Int
  | 0, _, x => x
  | k + 1, q, x => if B 0 q = 7 then (if x = -1 ∨ x = V q then rq B V k (q + 1) (V q) else -1) else rq B V k (q + 1) x
/-- the fragment of a use -/
def Fg (A : Nat → Nat → Int) (N : Nat) (B : Nat → Nat → Int) (q : Nat) : Nat := (lastF A (B 1 q) N).toNat
/-- the rounds that a use of repetition e asks for -/
def rv (A : Nat → Nat → Int) (N : Nat) (B : Nat → Nat → Int) (s : (Nat → Int) × (Nat → Int → Int)) (e : Nat) (o : Int) (q : Nat) : Int := if B 5 e < 0 then s.1 (A 5 (Fg A N B q)).toNat else s.2 (A 6 (Fg A N B q)).toNat o
def rdn (A : Nat → Nat → Int) (N : Nat) (B : Nat → Nat → Int) (s : (Nat → Int) × (Nat → Int → Int)) (e : Nat) (o : Int) : Int := rq B (rv A N B s e o) ((B 2 e).toNat - e) e (-1)
section
variable {C : Nat → Int} {Y A B : Nat → Nat → Int} {N i0 z NB j0 y : Nat} {n b u g r sz a : Nat} {mk : Int} {P : Nat → Nat} {κ : List EN} {S : Nat} {X K R : Nat → Int} {s : (Nat → Int) × (Nat → Int → Int)}
theorem x_fg (ht : ¬ tw A N) (hw : ¬ wu A N B NB) (q : Nat) (hq : q < NB) (h7 : B 0 q = 7) : lastF A (B 1 q) N = Fg A N B q ∧ Fg A N B q < N ∧ A 0 (Fg A N B q) = 3 ∧ A 1 (Fg A N B q) = B 1 q ∧ dpt (A 5 (Fg A N B q)) (A 6 (Fg A N B q)) = dpt (B 5 q) (B 6 q) := by
  have hex : ∃ f : Nat, f < N ∧ A 0 f = 3 ∧ A 1 f = B 1 q ∧ dpt (A 5 f) (A 6 f) = dpt (B 5 q) (B 6 q) := by
    apply Classical.byContradiction
    intro c
    exact hw ⟨q, hq, h7, fun f hf h3 h1 d => c ⟨f, hf, h3, h1, d⟩⟩
  obtain ⟨f, f1, f2, f3, f4⟩ := hex
  rcases lastF_s A (B 1 q) N with ⟨_, c⟩ | ⟨e, e1, e2, e3, e4, e5⟩
  · exact absurd ⟨f2, f3⟩ (c f f1)
  · have hef : e = f := by
      apply Classical.byContradiction
      intro d
      by_cases c : e < f
      · exact e5 f c f1 ⟨f2, f3⟩
      · exact ht ⟨f, e, by omega, e1, f2, e3, by rw [f3, e4]⟩
    subst hef
    have hF : Fg A N B q = e := by
      unfold Fg
      rw [e2, Int.toNat_natCast]
    rw [hF]
    exact ⟨e2, f1, f2, f3, f4⟩
theorem frg_fg (ht : ¬ tw A N) (hw : ¬ wu A N B NB) (q : Nat) (hq : q < NB) (h7 : B 0 q = 7) (v : Int) (hv : frg A N (B 1 q) v) : v = pl A (Fg A N B q) := by
  obtain ⟨f1, f2, f3, f4, f5⟩ := x_fg ht hw q hq h7
  rcases hv with ⟨_, c⟩ | ⟨e, e1, e2, e3, e4, e5⟩
  · exact absurd ⟨f3, f4⟩ (c _ f2)
  · have : e = Fg A N B q := by
      apply Classical.byContradiction
      intro d
      by_cases c : e < Fg A N B q
      · exact ht ⟨e, _, c, f2, e3, f3, by rw [e4, f4]⟩
      · exact e5 _ (by omega) ⟨f3, f4⟩
    rw [e2, this]
/-- a use in repetition e: how deep its fragment is -/
theorem x_dp (h' : RX false C Y B NB j0 y) (ht : ¬ tw A N) (hw : ¬ wu A N B NB) (e t q : Nat) (he : e < NB) (h4 : B 0 e = 4) (hte : B 2 e = t) (h1 : e < q) (h2 : q < t) (htN : t < NB) (h7 : B 0 q = 7) : 0 ≤ A 5 (Fg A N B q) ∧ (0 ≤ B 5 e → 0 ≤ A 6 (Fg A N B q)) := by
  obtain ⟨f1, f2, f3, f4, f5⟩ := x_fg ht hw q (by omega) h7
  have hni := h'.1
  have r5 := hni.r5 e (by omega)
  unfold dpt at f5
  by_cases c : B 5 e = -1
  · have a1 := hni.n3 q e (by omega) h1 h4 c (by omega)
    refine ⟨?_, fun d => by omega⟩
    apply Classical.byContradiction
    intro d
    rw [if_pos (by omega), if_neg (by omega)] at f5
    by_cases d6 : B 6 q < 0
    · rw [if_pos d6] at f5; exact absurd f5 (by decide)
    · rw [if_neg d6] at f5; exact absurd f5 (by decide)
  · have a1 := hni.n4 q e (by omega) h1 h4 (by omega) (by omega)
    have a2 := hni.n2 q e (by omega) a1
    rw [if_neg (show ¬ B 5 q < 0 by omega), if_neg (show ¬ B 6 q < 0 by omega)] at f5
    by_cases d5 : A 5 (Fg A N B q) < 0
    · rw [if_pos d5] at f5; exact absurd f5 (by decide)
    · rw [if_neg d5] at f5
      by_cases d6 : A 6 (Fg A N B q) < 0
      · rw [if_pos d6] at f5; exact absurd f5 (by decide)
      · exact ⟨by omega, fun _ => by omega⟩
/-- roundsOf, the reference's side -/
theorem m76 (hn : 600 ≤ n) (h : RX true C Y A N i0 z) (h' : RX false C Y B NB j0 y) (ht : ¬ tw A N) (hw : ¬ wu A N B NB) (m : ZM) (hA : AX true m A (N + 1)) (hB : AX false m B (NB + 1)) (k : Nat) (hI : IS s.1 s.2 k m) (hk : k ≤ 511) (hs : sbd 90000 s) (e : Nat) (he : e < NB) (h4 : B 0 e = 4) (o : Int) : zF76 n e o m = some (rdn A N B s e o, m) := by
  have hN := x_N119 h
  have hNB := x_N119 h'
  obtain ⟨t, t1, t2, t3, t4, t5, _⟩ := x_beg h' e he h4
  have be := hB e (by omega)
  rw [if_neg (by decide)] at be
  have hv0 : ∀ q, 0 ≤ rv A N B s e o q := fun q => by
    unfold rv
    split
    · exact (hs.1 _).1
    · exact (hs.2 _ _).1
  have key : ∀ (f q : Nat), e ≤ q → q ≤ t → t + 1 ≤ q + f → (∀ x : Int, zL76_8 n f e o x 0 q m = some (-1, m)) ∧ (∀ x : Int, x = -1 ∨ 0 ≤ x → zL76_8 n f e o x 1 q m = some (rq B (rv A N B s e o) (t - q) q x, m)) := by
    intro f
    induction f with
    | zero => intro q h1 h2 h3; omega
    | succ f ih =>
      intro q h1 h2 h3
      by_cases qe : q = t
      · subst qe
        have st : ∀ x w : Int, zL76_8 n (f + 1) e o x w q m = if w = 0 then zJ76_123 n (-1) m else zJ76_123 n x m := by
          intro x w
          rw [zL76_8, if_neg (by omega), Int.toNat_natCast, be.2.2.1, t1, if_pos (by omega)]
        refine ⟨fun x => by rw [st, if_pos rfl]; rfl, fun x hx => ?_⟩
        rw [st, if_neg (by decide), Nat.sub_self, rq]
        rfl
      · have bq := hB q (by omega)
        rw [if_neg (by decide)] at bq
        obtain ⟨i1, i2⟩ := ih (q + 1) (by omega) (by omega) (by omega)
        have e107 : ∀ x w : Int, zJ76_107 n (zL76_8 n f) e o x w q m = zL76_8 n f e o x w ((q + 1 : Nat) : Int) m := by
          intro x w
          unfold zJ76_107
          rw [if_pos (by omega), show ((q + 1 : Nat) : Int) = (q : Int) + 1 by omega]
        have hsub : t - q = (t - (q + 1)) + 1 := by omega
        rw [hsub]
        by_cases q7 : B 0 q = 7
        · have hqe : e < q := by
            by_cases c : q = e
            · subst c; omega
            · omega
          obtain ⟨f1, f2, f3, f4, f5⟩ := x_fg ht hw q (by omega) q7
          obtain ⟨d1, d2⟩ := x_dp h' ht hw e t q he h4 t1 hqe (by omega) t3 q7
          have af := hA (Fg A N B q) (by omega)
          rw [if_pos rfl] at af
          have st : ∀ x w : Int, zL76_8 n (f + 1) e o x w q m = zJ76_80 n (zL76_8 n f) e o x w q (rv A N B s e o q) m := by
            intro x w
            rw [zL76_8, if_neg (by omega), Int.toNat_natCast, be.2.2.1, t1, if_neg (by omega), if_neg (by omega), Int.toNat_natCast, bq.1, if_pos q7]
            unfold zJ76_31
            rw [if_neg (by omega), Int.toNat_natCast, bq.2.1, m46 n (by omega) h hA (B 1 q), f1]
            dsimp only
            rw [if_neg (show ¬ ((e : Int) < 0 ∨ 128 ≤ (e : Int)) by omega), Int.toNat_natCast, be.2.2.2.2.1]
            unfold rv
            by_cases c5 : 0 ≤ B 5 e
            · have d2 := d2 c5
              rw [if_pos c5, if_neg (show ¬ B 5 e < 0 by omega)]
              unfold zJ76_68
              rw [if_neg (show ¬ (((Fg A N B q : Nat) : Int) < 0 ∨ 128 ≤ ((Fg A N B q : Nat) : Int)) by omega), Int.toNat_natCast, af.2.2.2.2.2.2]
              have := m69 hI hk hn (A 6 (Fg A N B q)).toNat o
              rw [show (((A 6 (Fg A N B q)).toNat : Nat) : Int) = A 6 (Fg A N B q) by omega] at this
              rw [this]
            · have a5 := (x_e h (Fg A N B q) f2).2.2.1
              rw [if_neg c5, if_pos (show B 5 e < 0 by omega)]
              unfold zJ76_53
              rw [if_neg (show ¬ (((Fg A N B q : Nat) : Int) < 0 ∨ 128 ≤ ((Fg A N B q : Nat) : Int)) by omega), Int.toNat_natCast, af.2.2.2.2.2.1, if_neg (by omega), hI.1 (A 5 (Fg A N B q)).toNat (by omega)]
          have hv := hv0 q
          refine ⟨fun x => ?_, fun x hx => ?_⟩
          · rw [st]
            unfold zJ76_80 zJ76_101 zJ76_102
            rw [if_pos rfl, e107]
            exact i1 _
          · rw [st, rq, if_pos q7]
            unfold zJ76_80 zJ76_101 zJ76_97 zJ76_102
            rw [if_neg (show ¬ (1 : Int) = 0 by decide), e107, e107]
            by_cases c1 : x < 0
            · rw [if_pos c1, if_pos (Or.inl (by omega))]
              exact i2 _ (Or.inr hv)
            · rw [if_neg c1]
              by_cases c2 : x = rv A N B s e o q
              · rw [if_pos c2, if_pos (Or.inr c2)]
                exact i2 _ (Or.inr hv)
              · rw [if_neg c2, if_neg (fun w => by rcases w with w | w; omega; exact c2 w)]
                exact i1 _
        · have st : ∀ x w : Int, zL76_8 n (f + 1) e o x w q m = zL76_8 n f e o x w ((q + 1 : Nat) : Int) m := by
            intro x w
            rw [zL76_8, if_neg (by omega), Int.toNat_natCast, be.2.2.1, t1, if_neg (by omega), if_neg (by omega), Int.toNat_natCast, bq.1, if_neg q7, e107]
          refine ⟨fun x => by rw [st]; exact i1 x, fun x hx => ?_⟩
          rw [st, rq, if_neg q7]
          exact i2 x hx
  unfold zF76 rdn
  rw [t1, Int.toNat_natCast]
  exact (key n e (Nat.le_refl _) (by omega) (by omega)).2 (-1) (Or.inl rfl)
/-- timesTaken -/
theorem c182 (hn : 600 ≤ n) (h : RX true C Y A N i0 z) (hκ : ∀ x ∈ κ, x.1 < N) (m : ZM) (hK : KG A (κ.map drp) m) (f : Nat) (hf : f < N) (o : Int) : zF182 n (pl A f) o m = some ((cfl κ f o : Int), m) := by
  obtain ⟨a1, a2, a3⟩ := hK
  rw [List.length_map] at a1 a2
  have key : ∀ (k i g c : Nat), κ.length ≤ i + k → i ≤ κ.length → κ.length + 1 ≤ g + i → c ≤ i → zL182_5 n g (pl A f) o c i m = some (((c + cfl (κ.drop i) f o : Nat) : Int), m) := by
    intro k
    induction k with
    | zero =>
      intro i g c h1 h2 h3 hc
      have : i = κ.length := by omega
      subst this
      obtain ⟨g, rfl⟩ : ∃ g', g = g' + 1 := ⟨g - 1, by omega⟩
      rw [zL182_5, a1, if_pos (by omega), List.drop_length]
      rfl
    | succ k ih =>
      intro i g c h1 h2 h3 hc
      obtain ⟨g, rfl⟩ : ∃ g', g = g' + 1 := ⟨g - 1, by omega⟩
      by_cases qe : i = κ.length
      · subst qe
        rw [zL182_5, a1, if_pos (by omega), List.drop_length]
        rfl
      obtain ⟨x, hx⟩ : ∃ x, κ[i]? = some x := ⟨κ[i]'(by omega), List.getElem?_eq_getElem (by omega)⟩
      have hxi : κ[i]'(by omega) = x := Option.some.inj ((List.getElem?_eq_getElem (l := κ) (i := i) (by omega)).symm.trans hx)
      have hdrop : κ.drop i = x :: κ.drop (i + 1) := by
        rw [← hxi]
        exact List.drop_eq_getElem_cons (by omega)
      have hxN := hκ x (List.mem_of_getElem? hx)
      obtain ⟨x1, x2, _, _⟩ := a3 i (drp x) (by rw [List.getElem?_map, hx]; rfl)
      have x1 : m.1 18 i = pl A x.1 := x1
      have x2 : m.1 19 i = x.2.1 := x2
      have hpl : ((pl A x.1 : Nat) : Int) = (pl A f : Nat) ↔ x.1 = f := ⟨fun w => x_inj h x.1 f (by omega) (by omega) (by omega), fun w => by rw [w]⟩
      rw [hdrop, cfl_cons, zL182_5, a1, if_neg (by omega), if_neg (by omega), Int.toNat_natCast, x1, x2]
      unfold zJ182_36 zJ182_39
      rw [if_pos (show rg ((c : Int) + 1) by omega), if_pos (show rg ((i : Int) + 1) by omega)]
      by_cases q : x.1 = f ∧ x.2.1 = o
      · rw [if_pos (hpl.2 q.1), if_pos q.2, if_pos q]
        have := ih (i + 1) g (c + 1) (by omega) (by omega) (by omega) (by omega)
        rw [show ((c + 1 : Nat) : Int) = (c : Int) + 1 by omega, show ((i + 1 : Nat) : Int) = (i : Int) + 1 by omega] at this
        rw [this]
        congr 2
        omega
      · have := ih (i + 1) g c (by omega) (by omega) (by omega) (by omega)
        rw [show ((i + 1 : Nat) : Int) = (i : Int) + 1 by omega] at this
        have e0 : c + ((if x.1 = f ∧ x.2.1 = o then 1 else 0) + cfl (κ.drop (i + 1)) f o) = c + cfl (κ.drop (i + 1)) f o := by
          rw [if_neg q]
          omega
        rw [e0]
        generalize c + cfl (κ.drop (i + 1)) f o = W at *
        by_cases q1 : x.1 = f
        · rw [if_pos (hpl.2 q1), if_neg (fun w => q ⟨q1, w⟩), if_pos (show rg ((i : Int) + 1) by omega)]
          exact this
        · rw [if_neg (fun w => q1 (hpl.1 w)), if_pos (show rg ((i : Int) + 1) by omega)]
          exact this
  have := key κ.length 0 n 0 (by omega) (by omega) (by omega) (by omega)
  rw [List.drop_zero, Nat.zero_add] at this
  exact this
/-- roundsOf, the class's side -/
theorem c212 (hn : 600 ≤ n) (h : RX true C Y A N i0 z) (h' : RX false C Y B NB j0 y) (ht : ¬ tw A N) (hw : ¬ wu A N B NB) (hz : z < sz) (hy : y < sz) (hb : isD b) (hu : u < a) (hP : P u = i0) (hκ : ∀ x ∈ κ, x.1 < N)
    (hq : ∀ u : Nat, u < N → A 0 u = 4 → A 5 u < 0 → ∀ o : Nat, ordf A u = o → s.1 u = R o) (hV : ∀ f : Nat, f < N → A 0 f = 3 → NV A f (cfl κ f) s N) (m : ZM) (hW : WA b u g r sz a mk C Y A P κ S X K R m) (e : Nat) (he : e < NB) (h4 : B 0 e = 4) (lv : Nat) (hlv : (lv = 0 ∧ B 5 e < 0) ∨ (lv = 1 ∧ 0 ≤ B 5 e)) (o : Int) (ho : m.1 32 0 = o) : zF212 n (pl B e) lv m = some (rdn A N B s e o, m) := by
  obtain ⟨w1, w2, w3, w4, w5, w6, hD, hK, hS, w7⟩ := hW
  have hN := x_N119 h
  have hNB := x_N119 h'
  have h120 := h'.2.2.2.2.2.2.2.1
  obtain ⟨t, t1, t2, t3, t4, t5, t6, t7, t8, t9, _⟩ := x_beg h' e he h4
  have pe := x_pl h' e (by omega)
  have pt := x_pl h' t (by omega)
  have l2 : lnf B e = 2 := by
    unfold lnf
    rw [if_neg (by omega), if_pos (Or.inl h4)]
  have le := x_lt h' e t t2 (by omega)
  have xn := x_nx h' e he
  have s1 : zF212 n (pl B e) lv m = zL212_19 n n lv (-1) (pl B t) ((pl B e + 2 : Nat) : Int) m := by
    unfold zF212
    rw [w1]
    dsimp only
    rw [if_pos hb, if_pos (show rg ((pl B e : Int) + 1) by omega), d_part hD, if_pos (by omega), show ((pl B e : Int) + 1).toNat = pl B e + 1 by omega, t9]
    dsimp only
    rw [if_pos (show rg ((pl B e : Int) + 2) by omega), show ((pl B e + 2 : Nat) : Int) = (pl B e : Int) + 2 by omega]
  have e118 : ∀ (f p : Nat) (x : Int), p < 200 → zJ212_118 n (zL212_19 n f) lv x (pl B t) p m = zL212_19 n f lv x (pl B t) ((p + 1 : Nat) : Int) m := by
    intro f p x hp
    unfold zJ212_118
    rw [if_pos (by omega), show ((p + 1 : Nat) : Int) = (p : Int) + 1 by omega]
  have key : ∀ (f p q : Nat) (x : Int), pl B e + 2 ≤ p → p ≤ pl B q → pl B (q - 1) < p → e < q → q ≤ t → pl B t + 1 ≤ p + f → zL212_19 n f lv x (pl B t) p m = some (rq B (rv A N B s e o) (t - q) q x, m) := by
    intro f
    induction f with
    | zero =>
      intro p q x h1 h2 h3 h5 h6 h7
      have : pl B q ≤ pl B t := by
        by_cases c : q = t
        · rw [c]; exact Nat.le_refl _
        · have := (x_mono h' q t (by omega) (by omega)).1 (by omega)
          omega
      omega
    | succ f ih =>
      intro p q x h1 h2 h3 h5 h6 h7
      by_cases qt : p = pl B t
      · have hqt : q = t := by
          apply Classical.byContradiction
          intro c
          have := (x_mono h' q t (by omega) (by omega)).1 (by omega)
          omega
        rw [zL212_19, qt, if_pos (Int.le_refl _), hqt, Nat.sub_self, rq]
      · have hqle : pl B q ≤ pl B t := by
          by_cases c : q = t
          · rw [c]; exact Nat.le_refl _
          · have := (x_mono h' q t (by omega) (by omega)).1 (by omega)
            omega
        have st : zL212_19 n (f + 1) lv x (pl B t) p m = if C p = 36 ∧ C (p + 1) ≠ 40 then zJ212_38 n (zL212_19 n f) lv x (pl B t) p m else zL212_19 n f lv x (pl B t) ((p + 1 : Nat) : Int) m := by
          rw [zL212_19, if_neg (by omega), w1]
          dsimp only
          rw [if_pos hb, d_sv hD p (by omega)]
          refine (ib _ _ _).trans ?_
          rw [e118 f p x (by omega)]
        rw [st]
        by_cases pq : p = pl B q
        · have hqt : q < t := by
            by_cases c : q = t
            · subst c; omega
            · omega
          have hq1 : pl B q + 1 ≤ pl B (q + 1) := by
            have := x_nx h' q (by omega)
            have := lnf_pos B q
            omega
          rw [show t - q = (t - (q + 1)) + 1 by omega, rq]
          have sv := x_svE h' q (by omega)
          rw [← pq] at sv
          by_cases q7 : B 0 q = 7
          · rw [if_pos (sv.2 (Or.inr q7)), if_pos q7]
            obtain ⟨f1, f2, f3, f4, f5⟩ := x_fg ht hw q (by omega) q7
            obtain ⟨d1, d2⟩ := x_dp h' ht hw e t q he h4 t1 h5 hqt t3 q7
            have x7 := x_w7 h' q (by omega) q7
            obtain ⟨v, v1, v2⟩ := d_fr (n := n) (by omega) hD hu hP h hz (B 1 q) x7.2.2.1
            have v3 := frg_fg ht hw q (by omega) q7 v v2
            subst v3
            have s38 : zJ212_38 n (zL212_19 n f) lv x (pl B t) p m = zJ212_62 n (zL212_19 n f) lv x (pl B t) p (pl A (Fg A N B q)) m := by
              unfold zJ212_38
              rw [w1]
              dsimp only
              rw [if_pos hb, if_pos (show rg ((p : Int) + 1) by omega), show (p : Int) + 1 = ((p + 1 : Nat) : Int) by omega, d_codeN hD (p + 1) (by omega), pq, x7.2.1]
              dsimp only
              rw [w2, v1]
            have s62 : zJ212_62 n (zL212_19 n f) lv x (pl B t) p (pl A (Fg A N B q)) m = zJ212_100 n (zL212_19 n f) lv x (pl B t) p (rv A N B s e o q) m := by
              unfold zJ212_62 rv
              rcases hlv with ⟨l1, l2⟩ | ⟨l1, l2⟩
              · obtain ⟨uu, hu1⟩ : ∃ uu : Nat, A 5 (Fg A N B q) = uu := ⟨(A 5 (Fg A N B q)).toNat, by omega⟩
                obtain ⟨g1, g2, g3, g4⟩ := h.1.n1 _ uu (by omega) hu1
                have hor := ordf_le A (uu + 1) N (by omega)
                rw [ordf_4 A uu g1] at hor
                have ho4 := h.2.2.2.2.2.2.2.2.2.2.2.2.2.2 rfl
                have ho0 := ordf_0 A uu
                obtain ⟨oo, hoo⟩ : ∃ oo : Nat, ordf A uu = oo := ⟨(ordf A uu).toNat, by omega⟩
                rw [l1, if_pos (show ((0 : Nat) : Int) = 0 from rfl), if_pos l2, w4]
                dsimp only
                rw [if_pos rfl, w1]
                dsimp only
                rw [if_pos hb, y_oa hD h hz _ f2 f3, if_neg (show ¬ A 5 (Fg A N B q) < 0 by omega), hu1, Int.toNat_natCast, hoo]
                dsimp only
                have e181 : zF181 n (oo : Int) m = some (s.1 uu, m) := by
                  unfold zF181 zJ181_19
                  rw [if_neg (by omega), if_neg (by omega), if_neg (by omega), Int.toNat_natCast, w7 oo (by omega), hq uu (by omega) g1 (by omega) oo hoo]
                rw [e181]
              · have d2 := d2 l2
                obtain ⟨uu, hu1⟩ : ∃ uu : Nat, A 5 (Fg A N B q) = uu := ⟨(A 5 (Fg A N B q)).toNat, by omega⟩
                obtain ⟨vv, hv1⟩ : ∃ vv : Nat, A 6 (Fg A N B q) = vv := ⟨(A 6 (Fg A N B q)).toNat, by omega⟩
                have nv := ((hV _ f2 f3).2.2 uu vv hu1 hv1 o).2
                rw [if_neg (by omega)] at nv
                rw [l1, if_neg (show ¬ ((1 : Nat) : Int) = 0 by decide), if_neg (show ¬ B 5 e < 0 by omega), w4]
                dsimp only
                rw [if_pos rfl, ho, c182 hn h hκ m hK _ f2 o, hv1, Int.toNat_natCast]
                dsimp only
                rw [show ((cfl κ (Fg A N B q) o : Nat) : Int) = s.2 vv o by omega]
            rw [s38, s62]
            unfold zJ212_100 zJ212_115
            rw [e118 f p _ (by omega)]
            by_cases c1 : x = -1
            · rw [if_pos c1, if_pos (Or.inl c1)]
              exact ih (p + 1) (q + 1) _ (by omega) (by omega) (by rw [Nat.add_sub_cancel]; omega) (by omega) (by omega) (by omega)
            · rw [if_neg c1]
              by_cases c2 : x = rv A N B s e o q
              · rw [if_pos c2, if_pos (Or.inr c2)]
                exact ih (p + 1) (q + 1) _ (by omega) (by omega) (by rw [Nat.add_sub_cancel]; omega) (by omega) (by omega) (by omega)
              · rw [if_neg c2, if_neg (fun w => by rcases w with w | w; exact c1 w; exact c2 w)]
          · rw [if_neg (fun w => by rcases sv.1 w with d | d; exact x_b3 h' q (by omega) d; exact q7 d), if_neg q7]
            exact ih (p + 1) (q + 1) _ (by omega) (by omega) (by rw [Nat.add_sub_cancel]; omega) (by omega) (by omega) (by omega)
        · rw [if_neg (fun w => by
            obtain ⟨e', e1, e2, e3⟩ := (x_sv h' p (by omega) (by omega)).1 w
            have c1 := (x_mono h' (q - 1) e' (by omega) (by omega)).2 (by omega)
            have c2 := (x_mono h' e' q (by omega) (by omega)).2 (by omega)
            omega)]
          exact ih (p + 1) q x (by omega) (by omega) (by omega) h5 h6 (by omega)
  rw [s1]
  have e1 := key n (pl B e + 2) (e + 1) (-1) (Nat.le_refl _) (by omega) (by rw [Nat.add_sub_cancel]; omega) (by omega) (by omega) (by omega)
  rw [e1]
  unfold rdn
  have hq4 : B 0 e ≠ 7 := by omega
  rw [t1, Int.toNat_natCast, show t - e = (t - (e + 1)) + 1 by omega, rq, if_neg hq4]
end
