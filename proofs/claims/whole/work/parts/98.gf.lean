/-! What a body writes, purely; the class's side. -/
abbrev OL := List (Int × Int)
def oap : Option OL → Option OL → Option OL
  | some l, some l' => some (l ++ l')
  | _, _ => none
theorem oap_n (x : Option OL) : oap none x = none := by cases x <;> rfl
theorem oap_n2 (x : Option OL) : oap x none = none := by cases x <;> rfl
/-- parts e .. t - 1 -/
def wpt (B : Nat → Nat → Int) (rep : Nat → Option OL) (el : Nat → OL) (t : Nat) : Nat → Nat → Option OL
  | 0, _ => none
  | k + 1, e => if t ≤ e then some [] else if B 0 e = 4 then oap (rep e) (wpt B rep el t k ((B 2 e).toNat + 1)) else oap (some (el e)) (wpt B rep el t k (e + 1))
/-- k rounds, from round i on -/
def rpt (sep : OL) (body : Nat → Option OL) : Nat → Nat → Option OL
  | 0, _ => some []
  | k + 1, i => oap (some (if i = 0 then [] else sep)) (oap (body i) (rpt sep body k (i + 1)))
def rpo (v : Int) (sep : OL) (body : Nat → Option OL) : Option OL := if v < 0 then none else rpt sep body v.toNat 0
/-- all that has begun has ended -/
def top (B : Nat → Nat → Int) (e0 e : Nat) : Prop := ∀ b : Nat, e0 ≤ b → b < e → B 0 b = 4 → B 2 b < e
/-- what is from e0 to t is whole -/
def Rng (B : Nat → Nat → Int) (e0 t : Nat) : Prop := (∀ e : Nat, e0 ≤ e → e < t → B 0 e = 5 → (e0 : Int) ≤ B 2 e) ∧ ∀ e : Nat, e0 ≤ e → e < t → B 0 e = 4 → B 2 e < t
/-- what the class writes behind L -/
def CW (r : Nat) (p0 p1 : Int) (L : OL) (E : Option (Int × ZM)) (o : Option OL) (m : ZM) : Prop := match o with
  | some l => ∃ m', E = some (1, m') ∧ RL r (L ++ l) m' ∧ kp (wl (wRW r)) m m' ∧ m'.1 32 0 = p0 ∧ m'.1 32 1 = p1
  | none => ∃ m', E = some (0, m') ∧ kp (wl (wRW r)) m m' ∧ m'.1 32 0 = p0 ∧ m'.1 32 1 = p1
/-- what comes behind a first piece -/
theorem CW_s {r : Nat} {p0 p1 : Int} {L l : OL} {E : Option (Int × ZM)} {o : Option OL} {m m1 : ZM} (k : kp (wl (wRW r)) m m1) (h : CW r p0 p1 (L ++ l) E o m1) : CW r p0 p1 L E (oap (some l) o) m := by
  cases o with
  | none =>
    obtain ⟨m', a1, a2, a3⟩ := h
    exact ⟨m', a1, kp_tr k a2, a3⟩
  | some l' =>
    obtain ⟨m', a1, a2, a3, a4⟩ := h
    exact ⟨m', a1, by rw [← List.append_assoc]; exact a2, kp_tr k a3, a4⟩
section
variable {C : Nat → Int} {Y A B : Nat → Nat → Int} {N i0 z NB j0 y : Nat} {n b u g r sz a : Nat} {mk : Int} {P : Nat → Nat} {κ : List EN} {S : Nat} {X K R : Nat → Int} {s : (Nat → Int) × (Nat → Int → Int)}
theorem b_nest {pat : Bool} (h : RX pat C Y B NB j0 y) (e k t : Nat) (he : e < NB) (h4 : B 0 e = 4) (ht : B 2 e = t) (h1 : e < k) (h2 : k < t) (k4 : B 0 k = 4) : B 2 k < t ∧ B 5 e = -1 ∧ B 5 k = e := by
  obtain ⟨t0, g1, g2, g3, g4, g5, _⟩ := x_beg h e he h4
  have : t0 = t := by omega
  subst this
  obtain ⟨t1, f1, f2, f3, f4, f5, f6, _⟩ := x_beg h k (by omega) k4
  have hni := h.1
  by_cases q : B 5 e = -1
  · have a1 := hni.n3 k e (by omega) h1 h4 q (by omega)
    have a2 := hni.n1 t1 e (by omega) (by rw [f6]; exact a1)
    omega
  · have r5 := hni.r5 e (by omega)
    have a1 := hni.n4 k e (by omega) h1 h4 (by omega) (by omega)
    have a2 := hni.b6 k (by omega) k4
    omega
theorem Rng_0 {pat : Bool} (h : RX pat C Y B NB j0 y) : Rng B 0 NB := by
  refine ⟨fun e _ he h5 => ?_, fun e _ he h4 => ?_⟩
  · obtain ⟨b, b1, _⟩ := x_end h e (by omega) h5
    omega
  · obtain ⟨t, t1, t2, t3, _⟩ := x_beg h e he h4
    omega
theorem Rng_r {pat : Bool} (h : RX pat C Y B NB j0 y) (e t : Nat) (he : e < NB) (h4 : B 0 e = 4) (ht : B 2 e = t) : Rng B (e + 1) t := by
  obtain ⟨t0, g1, g2, g3, g4, g5, _⟩ := x_beg h e he h4
  refine ⟨fun q h1 h2 h5 => ?_, fun q h1 h2 k4 => (b_nest h e q t he h4 ht (by omega) h2 k4).1⟩
  obtain ⟨c, c1, c2, c3, c4, c5⟩ := x_end h q (by omega) h5
  apply Classical.byContradiction
  intro d
  by_cases q1 : c = e
  · subst q1; omega
  · have := (b_nest h c e q (by omega) c4 c5 (by omega) (by omega) h4).1
    omega
theorem top_5 {pat : Bool} (h : RX pat C Y B NB j0 y) (e0 t e : Nat) (hR : Rng B e0 t) (h0 : e0 ≤ e) (he : e < t) (ht : t ≤ NB) (hT : top B e0 e) : B 0 e ≠ 5 := by
  intro h5
  obtain ⟨b, b1, b2, b3, b4, b5⟩ := x_end h e (by omega) h5
  have := hR.1 e h0 he h5
  have := hT b (by omega) b2 b4
  omega
theorem top_s {e0 e : Nat} (hT : top B e0 e) (h4 : B 0 e ≠ 4) : top B e0 (e + 1) := by
  intro b h1 h2 hb
  by_cases q : b = e
  · subst q; exact absurd hb h4
  · have := hT b h1 (by omega) hb
    omega
theorem top_j {pat : Bool} (h : RX pat C Y B NB j0 y) {e0 e t : Nat} (hT : top B e0 e) (he : e < NB) (h4 : B 0 e = 4) (ht : B 2 e = t) : top B e0 (t + 1) := by
  obtain ⟨t0, g1, g2, g3, g4, g5, _⟩ := x_beg h e he h4
  intro b h1 h2 hb
  by_cases q : b < e
  · have := hT b h1 q hb
    omega
  · by_cases q2 : b = e
    · subst q2; omega
    · by_cases q3 : b = t
      · have : t0 = t := by omega
        subst this
        subst q3
        omega
      · have := (b_nest h e b t he h4 ht (by omega) (by omega) hb).1
        omega
theorem top_0 (e0 : Nat) : top B e0 e0 := fun b h1 h2 _ => by omega
theorem b_bh {m : ZM} (hD : DM b sz a C Y P m) {pat : Bool} (h : RX pat C Y B NB j0 y) (hy : y < sz) (e t : Nat) (he : e < NB) (h4 : B 0 e = 4) (ht : B 2 e = t) : zF119 n b (pl B e) m = some ((pl B (t + 1) : Int), m) := by
  obtain ⟨t', h1, h2, h3, h5, h6, h7, h8, h9, h10, h11, _⟩ := x_beg h e he h4
  have : t' = t := by omega
  subst this
  have xp := x_pl h e (by omega)
  have xt := x_pl h t' (by omega)
  have xn := x_nx h t' h3
  have lt : lnf B t' = if B 3 t' = 0 then 2 else 3 := by
    unfold lnf
    rw [if_neg (by omega), if_neg (by omega), if_pos h5]
  rw [lt] at xn
  rw [d_bh hD (pl B e) (by omega), h11]
  by_cases q : B 3 t' = 0
  · rw [if_pos q] at xn ⊢
    rw [if_pos (by omega)]
    congr 2
    omega
  · rw [if_neg q] at xn ⊢
    rw [if_pos (by omega)]
    congr 2
    omega
theorem b_sp {m : ZM} (hD : DM b sz a C Y P m) {pat : Bool} (h : RX pat C Y B NB j0 y) (hy : y < sz) (e t : Nat) (he : e < NB) (h4 : B 0 e = 4) (ht : B 2 e = t) : zF120 n b (pl B e) m = some (if B 3 t = 0 then -1 else (pl B t : Int) + 1, m) := by
  obtain ⟨t', h1, h2, h3, h5, h6, h7, h8, h9, h10, h11, _⟩ := x_beg h e he h4
  have : t' = t := by omega
  subst this
  have xp := x_pl h e (by omega)
  have xl := xp.2.2.2 he
  have l2 : lnf B e = 2 := by
    unfold lnf
    rw [if_neg (by omega), if_pos (Or.inl h4)]
  rw [d_sp hD (pl B e) (by omega), h11, h10]
  by_cases q : B 3 t' = 0
  · rw [if_pos q, if_neg (by omega), if_pos q]
  · rw [if_neg q, if_pos (by omega), if_neg q]
/-- the parts of a body, one after the other -/
theorem c210p (hn : 600 ≤ n) (h : RX true C Y A N i0 z) (h' : RX false C Y B NB j0 y) (ht : ¬ tw A N) (hw : ¬ wu A N B NB) (hz : z < sz) (hy : y < sz) (hb : isD b) (hrg : (r = 34 ∧ g = 37) ∨ (r = 37 ∧ g = 34)) (hu : u < a) (hP : P u = i0)
    (rep : Nat → Option OL) (el : Nat → OL) (lv : Nat) (zgg : Int → Int → Int → ZM → Option (Int × ZM)) (e0 t : Nat) (htN : t ≤ NB) (hR : Rng B e0 t) (p0 p1 : Int)
    (hrep : ∀ e : Nat, e0 ≤ e → e < t → top B e0 e → B 0 e = 4 → ∀ (L : OL) (m : ZM), WA b u g r sz a mk C Y A P κ S X K R m → m.1 32 0 = p0 → m.1 32 1 = p1 → RL r L m → CW r p0 p1 L (zG211 n zgg (pl B e) lv m) (rep e) m)
    (hel : ∀ e : Nat, e0 ≤ e → e < t → B 0 e = 0 → el e = [(B 1 e, mk)])
    (hus : ∀ e : Nat, e0 ≤ e → e < t → B 0 e = 7 → ∀ (L : OL) (m : ZM), WA b u g r sz a mk C Y A P κ S X K R m → m.1 32 0 = p0 → m.1 32 1 = p1 → RL r L m → ∃ m', zF213 n (pl A (Fg A N B e)) m = some ((), m') ∧ RL r (L ++ el e) m' ∧ kp (wl (wRL r)) m m') :
    ∀ (k e f x5 : Nat) (L : OL) (m : ZM), t + 1 ≤ e + k → t + 1 ≤ e + f → e0 ≤ e → e ≤ t → top B e0 e → x5 ≤ e → WA b u g r sz a mk C Y A P κ S X K R m → m.1 32 0 = p0 → m.1 32 1 = p1 → RL r L m → CW r p0 p1 L (zL210_6 n zgg f (pl B t) lv (pl B e) x5 m) (wpt B rep el t k e) m := by
  have hN := x_N119 h
  have hNB := x_N119 h'
  have h120 := h'.2.2.2.2.2.2.2.1
  have hr : isR r := by show r = 34 ∨ r = 37; omega
  intro k
  induction k with
  | zero => intro e f x5 L m h1 h2 h3 h5; omega
  | succ k ih =>
    intro e f x5 L m h1 h2 h3 h5 hT hx hW hp0 hp1 hL
    obtain ⟨f, rfl⟩ : ∃ f', f = f' + 1 := ⟨f - 1, by omega⟩
    rw [wpt]
    by_cases qe : t ≤ e
    · have : e = t := by omega
      subst this
      rw [if_pos qe]
      refine ⟨m, ?_, by rw [List.append_nil]; exact hL, kp_refl _ m, hp0, hp1⟩
      rw [zL210_6, if_neg (by omega), if_pos (Int.le_refl _)]
      rfl
    · rw [if_neg qe]
      have pe := x_pl h' e (by omega)
      have pm := (x_mono h' e t (by omega) htN).1 (by omega)
      have pl2 := pe.2.2.2 (by omega)
      have lp := lnf_pos B e
      have xn := x_nx h' e (by omega)
      have w1 := hW.1
      have hD := hW.2.2.2.2.2.2.1
      have e124 : ∀ (q : Nat) (m2 : ZM), zJ210_124 n zgg (zL210_6 n zgg f) (pl B t) lv (pl B q) x5 m2 = zL210_6 n zgg f (pl B t) lv (pl B q) ((x5 + 1 : Nat) : Int) m2 := by
        intro q m2
        unfold zJ210_124
        rw [if_pos (by omega), show ((x5 + 1 : Nat) : Int) = (x5 : Int) + 1 by omega]
      have st : zL210_6 n zgg (f + 1) (pl B t) lv (pl B e) x5 m = if C (pl B e) = 36 ∧ C (pl B e + 1) = 40 then zJ210_31 n zgg (zL210_6 n zgg f) (pl B t) lv (pl B e) x5 m else zJ210_57 n zgg (zL210_6 n zgg f) (pl B t) lv (pl B e) x5 m := by
        rw [zL210_6, if_neg (by omega), if_neg (by omega), w1]
        dsimp only
        rw [if_pos hb, d_sr hD (pl B e) (by omega)]
        exact ib _ _ _
      rw [st]
      by_cases q4 : B 0 e = 4
      · rw [if_pos ((x_srE h' e (by omega)).2 q4), if_pos q4]
        obtain ⟨t', t1, t2, t3, _⟩ := x_beg h' e (by omega) q4
        have htt := hR.2 e h3 (by omega) q4
        have hr4 := hrep e h3 (by omega) hT q4 L m hW hp0 hp1 hL
        rw [t1, Int.toNat_natCast]
        cases hre : rep e with
        | none =>
          rw [hre] at hr4
          obtain ⟨m1, a1, a2, a3, a4⟩ := hr4
          rw [oap_n]
          refine ⟨m1, ?_, a2, a3, a4⟩
          unfold zJ210_31
          rw [a1]
          dsimp only
          rw [if_pos rfl]
        | some l =>
          rw [hre] at hr4
          obtain ⟨m1, a1, a2, a3, a4, a5⟩ := hr4
          have W1 := WA_kp hW hb hrg a3
          have := ih (t' + 1) f (x5 + 1) (L ++ l) m1 (by omega) (by omega) (by omega) (by omega) (top_j h' hT (by omega) q4 t1) (by omega) W1 a4 a5 a2
          have e1 : zJ210_31 n zgg (zL210_6 n zgg f) (pl B t) lv (pl B e) x5 m = zL210_6 n zgg f (pl B t) lv (pl B (t' + 1)) ((x5 + 1 : Nat) : Int) m1 := by
            unfold zJ210_31
            rw [a1]
            dsimp only
            rw [if_neg (show ¬ (1 : Int) = 0 by decide), W1.1]
            dsimp only
            rw [if_pos hb, b_bh W1.2.2.2.2.2.2.1 h' hy e t' (by omega) q4 t1]
            dsimp only
            rw [e124]
          rw [e1]
          exact CW_s a3 this
      · rw [if_neg (fun c => q4 ((x_srE h' e (by omega)).1 c)), if_neg q4]
        have q5 := top_5 h' e0 t e hR h3 (by omega) htN hT
        have svE := x_svE h' e (by omega)
        have st2 : zJ210_57 n zgg (zL210_6 n zgg f) (pl B t) lv (pl B e) x5 m = if C (pl B e) = 36 ∧ C (pl B e + 1) ≠ 40 then zJ210_69 n zgg (zL210_6 n zgg f) (pl B t) lv (pl B e) x5 m else zJ210_101 n zgg (zL210_6 n zgg f) (pl B t) lv (pl B e) x5 m := by
          unfold zJ210_57
          rw [w1]
          dsimp only
          rw [if_pos hb, d_sv hD (pl B e) (by omega)]
          exact ib _ _ _
        rw [st2]
        by_cases q7 : B 0 e = 7
        · rw [if_pos (svE.2 (Or.inr q7))]
          obtain ⟨m1, a1, a2, a3⟩ := hus e h3 (by omega) q7 L m hW hp0 hp1 hL
          have k1 := kp_sub wRW_s a3
          have W1 := WA_kp hW hb hrg k1
          have l2 : lnf B e = 2 := by
            unfold lnf
            rw [if_neg (by omega), if_pos (Or.inr q7)]
          have := ih (e + 1) f (x5 + 1) (L ++ el e) m1 (by omega) (by omega) (by omega) (by omega) (top_s hT q4) (by omega) W1 (by rw [(a3.1 32 0 (wRL_n (by omega))).1]; exact hp0) (by rw [(a3.1 32 1 (wRL_n (by omega))).1]; exact hp1) a2
          have x7 := x_w7 h' e (by omega) q7
          obtain ⟨v, v1, v2⟩ := d_fr (n := n) (by omega) hD hu hP h hz (B 1 e) x7.2.2.1
          have v3 := frg_fg ht hw e (by omega) q7 v v2
          subst v3
          have e1 : zJ210_69 n zgg (zL210_6 n zgg f) (pl B t) lv (pl B e) x5 m = zL210_6 n zgg f (pl B t) lv (pl B (e + 1)) ((x5 + 1 : Nat) : Int) m1 := by
            unfold zJ210_69
            rw [w1]
            dsimp only
            rw [if_pos hb, if_pos (show rg ((pl B e : Int) + 1) by omega), show (pl B e : Int) + 1 = ((pl B e + 1 : Nat) : Int) by omega, d_codeN hD (pl B e + 1) (by omega), x7.2.1]
            dsimp only
            rw [hW.2.1, v1]
            dsimp only
            rw [a1]
            dsimp only
            unfold zJ210_95
            rw [if_pos (show rg ((pl B e : Int) + 2) by omega), show (pl B e : Int) + 2 = (pl B (e + 1) : Nat) by omega, e124]
          rw [e1]
          exact CW_s k1 this
        · rw [if_neg (fun w => by rcases svE.1 w with d | d; exact x_b3 h' e (by omega) d; exact q7 d)]
          have ek := x_e h' e (by omega)
          have kb := h'.2.2.2.2.2.2.2.2.2.2.2.2.2.1 rfl e (by omega)
          have k0 : B 0 e = 0 := by
            rcases ek.2.2.2.2.2.1 with c | c | c | c | c | c | c
            · exact c
            · exact absurd c kb.1
            · exact absurd c kb.2
            · exact absurd c (x_b3 h' e (by omega))
            · exact absurd c q4
            · exact absurd c q5
            · exact absurd c q7
          have hc : C (pl B e) = B 1 e := (ek.2.2.2.2.2.2.1 (Or.inl k0)).1
          obtain ⟨m1, a1, a2, a3⟩ := c168 (n := n) r L hL (B 1 e) mk
          rw [← hel e h3 (by omega) k0] at a2
          have k1 := kp_sub wRW_s a3
          have W1 := WA_kp hW hb hrg k1
          have l1 : lnf B e = 1 := by
            unfold lnf
            rw [if_neg (by omega), if_neg (by omega), if_neg q5]
          have := ih (e + 1) f (x5 + 1) (L ++ el e) m1 (by omega) (by omega) (by omega) (by omega) (top_s hT q4) (by omega) W1 (by rw [(a3.1 32 0 (wRL_n (by omega))).1]; exact hp0) (by rw [(a3.1 32 1 (wRL_n (by omega))).1]; exact hp1) a2
          have e1 : zJ210_101 n zgg (zL210_6 n zgg f) (pl B t) lv (pl B e) x5 m = zL210_6 n zgg f (pl B t) lv (pl B (e + 1)) ((x5 + 1 : Nat) : Int) m1 := by
            unfold zJ210_101
            rw [hW.2.2.2.2.2.1]
            dsimp only
            rw [if_pos hr, w1]
            dsimp only
            rw [if_pos hb, d_codeN hD (pl B e) (by omega), hc]
            dsimp only
            rw [hW.2.2.1, a1]
            dsimp only
            unfold zJ210_121
            rw [if_pos (show rg ((pl B e : Int) + 1) by omega), show (pl B e : Int) + 1 = (pl B (e + 1) : Nat) by omega, e124]
          rw [e1]
          exact CW_s k1 this
end
