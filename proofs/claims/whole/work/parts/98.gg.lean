/-! Repetitions of a body and the whole body, the class's side. -/
def sepo (B : Nat → Nat → Int) (mk : Int) (t : Nat) : OL := if B 3 t = 0 then [] else [(B 3 t, mk)]
theorem rq_r (B : Nat → Nat → Int) (V : Nat → Int) (M : Int) : ∀ (k q : Nat) (x : Int), (∀ p : Nat, q ≤ p → p < q + k → B 0 p = 7 → 0 ≤ V p ∧ V p ≤ M) → (x = -1 ∨ (0 ≤ x ∧ x ≤ M)) → (rq B V k q x = -1 ∨ (0 ≤ rq B V k q x ∧ rq B V k q x ≤ M)) := by
  intro k
  induction k with
  | zero => intro q x _ hx; exact hx
  | succ k ih =>
    intro q x hV hx
    have hV2 : ∀ p : Nat, q + 1 ≤ p → p < q + 1 + k → B 0 p = 7 → 0 ≤ V p ∧ V p ≤ M := fun p h1 h2 => hV p (by omega) (by omega)
    rw [rq]
    by_cases q7 : B 0 q = 7
    · rw [if_pos q7]
      split
      · exact ih _ _ hV2 (Or.inr (hV q (Nat.le_refl _) (by omega) q7))
      · exact Or.inl rfl
    · rw [if_neg q7]
      exact ih _ _ hV2 hx
section
variable {C : Nat → Int} {Y A B : Nat → Nat → Int} {N i0 z NB j0 y : Nat} {n b u g r sz a : Nat} {mk : Int} {P : Nat → Nat} {κ : List EN} {S : Nat} {X K R : Nat → Int} {s : (Nat → Int) × (Nat → Int → Int)}
theorem rdn_r {M : Int} (hs : sbd M s) (hM : 0 ≤ M) (e : Nat) (o : Int) : rdn A N B s e o = -1 ∨ (0 ≤ rdn A N B s e o ∧ rdn A N B s e o ≤ M) := by
  refine rq_r B _ M _ _ _ (fun q _ _ _ => ?_) (Or.inl rfl)
  unfold rv
  split
  · exact hs.1 _
  · exact hs.2 _ _
theorem c211 (hn : 200000 ≤ n) (h : RX true C Y A N i0 z) (h' : RX false C Y B NB j0 y) (ht : ¬ tw A N) (hw : ¬ wu A N B NB) (hz : z < sz) (hy : y < sz) (hb : isD b) (hrg : (r = 34 ∧ g = 37) ∨ (r = 37 ∧ g = 34)) (hu : u < a) (hP : P u = i0) (hκ : ∀ x ∈ κ, x.1 < N)
    (hq : ∀ u : Nat, u < N → A 0 u = 4 → A 5 u < 0 → ∀ o : Nat, ordf A u = o → s.1 u = R o) (hV : ∀ f : Nat, f < N → A 0 f = 3 → NV A f (cfl κ f) s N) (hs : sbd 90000 s) (e t : Nat) (he : e < NB) (h4 : B 0 e = 4) (hte : B 2 e = t) (lv : Nat) (hlv : (lv = 0 ∧ B 5 e < 0) ∨ (lv = 1 ∧ 0 ≤ B 5 e)) (w : Int) (zgg : Int → Int → Int → ZM → Option (Int × ZM)) (body : Nat → Option OL)
    (hbody : ∀ (i : Nat), i ≤ 100000 → ∀ (L : OL) (m : ZM), WA b u g r sz a mk C Y A P κ S X K R m → m.1 32 0 = (if lv = 0 then (i : Int) else w) → m.1 32 1 = (if lv = 0 then w else (i : Int)) → RL r L m → CW r (if lv = 0 then (i : Int) else w) (if lv = 0 then w else (i : Int)) L (zgg ((pl B e : Int) + 2) (pl B t) ((lv : Int) + 1) m) (body i) m)
    (L : OL) (m : ZM) (hW : WA b u g r sz a mk C Y A P κ S X K R m) (hp0 : m.1 32 0 = (if lv = 0 then 0 else w)) (hp1 : m.1 32 1 = (if lv = 0 then w else 0)) (hL : RL r L m) : CW r (if lv = 0 then 0 else w) (if lv = 0 then w else 0) L (zG211 n zgg (pl B e) lv m) (rpo (rdn A N B s e (if lv = 0 then 0 else w)) (sepo B mk t) body) m := by
  have hNB := x_N119 h'
  have h120 := h'.2.2.2.2.2.2.2.1
  have hr : isR r := by show r = 34 ∨ r = 37; omega
  obtain ⟨t', h1, h2, h3, h5, h6, h7, h8, h9, h10, h11, _⟩ := x_beg h' e he h4
  have : t' = t := by omega
  subst this
  have pe := x_pl h' e (by omega)
  have pe2 := pe.2.2.2 he
  have pt := x_pl h' t' (by omega)
  have pt2 := pt.2.2.2 h3
  have ptm := (x_mono h' e t' (by omega) (by omega)).1 h2
  have lp := lnf_pos B e
  have hlv2 : lv < 2 := by omega
  obtain ⟨ρ, hρ⟩ : ∃ ρ, ρ = rdn A N B s e (if lv = 0 then 0 else w) := ⟨_, rfl⟩
  have hρr : ρ = -1 ∨ (0 ≤ ρ ∧ ρ ≤ 90000) := by rw [hρ]; exact rdn_r hs (by decide) e _
  rw [← hρ]
  obtain ⟨sp, hsp⟩ : ∃ sp : Int, sp = if B 3 t' = 0 then -1 else (pl B t' : Int) + 1 := ⟨_, rfl⟩
  have st : zG211 n zgg (pl B e) lv m = zL211_55 n zgg n (pl B e) lv ρ sp (pl B t') (if ρ = -1 then 0 else 1) 0 m := by
    unfold zG211
    rw [if_pos (by omega), c212 (by omega) h h' ht hw hz hy hb hu hP hκ hq hV m hW e he h4 lv hlv _ hp0, ← hρ]
    dsimp only
    rw [hW.1]
    dsimp only
    rw [if_pos hb, b_sp hW.2.2.2.2.2.2.1 h' hy e t' he h4 h1, ← hsp]
    dsimp only
    unfold zJ211_28
    rw [hW.1]
    dsimp only
    rw [if_pos hb, if_pos (show rg ((pl B e : Int) + 1) by omega), d_part hW.2.2.2.2.2.2.1, if_pos (by omega), show ((pl B e : Int) + 1).toNat = pl B e + 1 by omega, h10]
    dsimp only
    unfold zJ211_49 zJ211_45 zJ211_50
    by_cases q : ρ = -1
    · rw [if_pos q, if_pos q]
    · rw [if_neg q, if_neg q]
  rw [st]
  have fin : ∀ (x6 : Int) (m2 : ZM), (x6 = 0 ∨ x6 = 1) → zJ211_125 n zgg lv x6 m2 = some (x6, z_i m2 32 lv 0) := by
    intro x6 m2 hx
    unfold zJ211_125
    rw [if_neg (by omega), zlet, if_pos hx, Int.toNat_natCast]
  have fink : ∀ m2 : ZM, kp (wl (wRW r)) m m2 → m2.1 32 (1 - lv) = w → kp (wl (wRW r)) m (z_i m2 32 lv 0) ∧ (z_i m2 32 lv 0).1 32 0 = (if lv = 0 then 0 else w) ∧ (z_i m2 32 lv 0).1 32 1 = (if lv = 0 then w else 0) := by
    intro m2 k2 h2w
    refine ⟨kp_ia k2 (by simp [wRW]), ?_⟩
    rcases hlv with ⟨rfl, _⟩ | ⟨rfl, _⟩
    · exact ⟨by rw [z_eq]; rfl, by rw [z_nk _ _ _ _ _ _ (by decide)]; exact h2w⟩
    · exact ⟨by rw [z_nk _ _ _ _ _ _ (by decide)]; exact h2w, by rw [z_eq]; rfl⟩
  have hw0 : m.1 32 (1 - lv) = w := by
    rcases hlv with ⟨rfl, _⟩ | ⟨rfl, _⟩
    · exact hp1
    · exact hp0
  unfold rpo
  by_cases qn : ρ < 0
  · have : ρ = -1 := by omega
    rw [if_pos qn, if_pos this]
    obtain ⟨g1, g2⟩ := fink m (kp_refl _ m) hw0
    refine ⟨z_i m 32 lv 0, ?_, g1, g2⟩
    obtain ⟨n, rfl⟩ : ∃ n', n = n' + 1 := ⟨n - 1, by omega⟩
    rw [zL211_55, if_pos (by omega)]
    exact fin 0 m (Or.inl rfl)
  · rw [if_neg qn, if_neg (show ¬ ρ = -1 by omega)]
    have key : ∀ (k i f : Nat) (L : OL) (m2 : ZM), i + k = ρ.toNat → k + 1 ≤ f → kp (wl (wRW r)) m m2 → m2.1 32 (1 - lv) = w → RL r L m2 → CW r (if lv = 0 then 0 else w) (if lv = 0 then w else 0) L (zL211_55 n zgg f (pl B e) lv ρ sp (pl B t') 1 i m2) (rpt (sepo B mk t') body k i) m := by
      intro k
      induction k with
      | zero =>
        intro i f L m2 h1 h2 k2 h2w hL2
        obtain ⟨f, rfl⟩ : ∃ f', f = f' + 1 := ⟨f - 1, by omega⟩
        obtain ⟨g1, g2, g3⟩ := fink m2 k2 h2w
        refine ⟨z_i m2 32 lv 0, ?_, ?_, g1, g2, g3⟩
        · rw [zL211_55, if_pos (show ρ ≤ (i : Int) by omega)]
          exact fin 1 m2 (Or.inr rfl)
        · obtain ⟨l1, l2, l3⟩ := hL2
          rw [List.append_nil]
          refine ⟨by rw [z_nc _ _ _ _ _ _ (by omega)]; exact l1, by rw [z_nc _ _ _ _ _ _ (by omega)]; exact l2, fun i x hi hx => ?_⟩
          rw [z_nc _ _ _ _ _ _ (by omega), z_nc _ _ _ _ _ _ (by omega)]
          exact l3 i x hi hx
      | succ k ih =>
        intro i f L m2 h1 h2 k2 h2w hL2
        obtain ⟨f, rfl⟩ : ∃ f', f = f' + 1 := ⟨f - 1, by omega⟩
        rw [rpt]
        have W2 := WA_kp hW hb hrg k2
        have s97 : ∀ (L3 : OL) (m3 : ZM), kp (wl (wRW r)) m m3 → m3.1 32 (1 - lv) = w → RL r L3 m3 → CW r (if lv = 0 then 0 else w) (if lv = 0 then w else 0) L3 (zJ211_97 n zgg (zL211_55 n zgg f) (pl B e) lv ρ sp (pl B t') i m3) (oap (body i) (rpt (sepo B mk t') body k (i + 1))) m := by
          intro L3 m3 k3 h3w hL3
          have k4 : kp (wl (wRW r)) m (z_i m3 32 lv i) := kp_ia k3 (by simp [wRW])
          have W4 := WA_kp hW hb hrg k4
          have v0 : (z_i m3 32 lv (i : Int)).1 32 0 = (if lv = 0 then (i : Int) else w) := by
            rcases hlv with ⟨rfl, _⟩ | ⟨rfl, _⟩
            · rw [z_eq]; rfl
            · rw [z_nk _ _ _ _ _ _ (by decide)]; exact h3w
          have v1 : (z_i m3 32 lv (i : Int)).1 32 1 = (if lv = 0 then w else (i : Int)) := by
            rcases hlv with ⟨rfl, _⟩ | ⟨rfl, _⟩
            · rw [z_nk _ _ _ _ _ _ (by decide)]; exact h3w
            · rw [z_eq]; rfl
          have hL4 : RL r L3 (z_i m3 32 lv i) := by
            obtain ⟨l1, l2, l3⟩ := hL3
            refine ⟨by rw [z_nc _ _ _ _ _ _ (by omega)]; exact l1, by rw [z_nc _ _ _ _ _ _ (by omega)]; exact l2, fun i x hi hx => ?_⟩
            rw [z_nc _ _ _ _ _ _ (by omega), z_nc _ _ _ _ _ _ (by omega)]
            exact l3 i x hi hx
          have hbd := hbody i (by omega) L3 _ W4 v0 v1 hL4
          have ew : ∀ (v : Int) (m5 : ZM), zgg ((pl B e : Int) + 2) (pl B t') ((lv : Int) + 1) (z_i m3 32 lv i) = some (v, m5) → zJ211_97 n zgg (zL211_55 n zgg f) (pl B e) lv ρ sp (pl B t') i m3 = zL211_55 n zgg f (pl B e) lv ρ sp (pl B t') v ((i + 1 : Nat) : Int) m5 := by
            intro v m5 e5
            unfold zJ211_97
            rw [if_neg (by omega), zlet, if_pos ⟨by omega, by omega⟩, Int.toNat_natCast, e5]
            dsimp only
            rw [if_pos (by omega), show ((i + 1 : Nat) : Int) = (i : Int) + 1 by omega]
          cases hbi : body i with
          | none =>
            rw [hbi] at hbd
            obtain ⟨m5, a1, a2, a3, a4⟩ := hbd
            rw [oap_n, ew 0 m5 a1]
            have h5w : m5.1 32 (1 - lv) = w := by
              rcases hlv with ⟨rfl, _⟩ | ⟨rfl, _⟩
              · exact a4
              · exact a3
            obtain ⟨g1, g2⟩ := fink m5 (kp_tr k4 a2) h5w
            refine ⟨z_i m5 32 lv 0, ?_, g1, g2⟩
            obtain ⟨f, rfl⟩ : ∃ f', f = f' + 1 := ⟨f - 1, by omega⟩
            rw [zL211_55]
            by_cases c : ρ ≤ ((i + 1 : Nat) : Int)
            · rw [if_pos c]
              exact fin 0 m5 (Or.inl rfl)
            · rw [if_neg c, if_pos rfl]
              exact fin 0 m5 (Or.inl rfl)
          | some l =>
            rw [hbi] at hbd
            obtain ⟨m5, a1, a2, a3, a4, a5⟩ := hbd
            rw [ew 1 m5 a1]
            have h5w : m5.1 32 (1 - lv) = w := by
              rcases hlv with ⟨rfl, _⟩ | ⟨rfl, _⟩
              · exact a5
              · exact a4
            have := ih (i + 1) f (L3 ++ l) m5 (by omega) (by omega) (kp_tr k4 a3) h5w a2
            exact CW_s (kp_refl _ m) this
        rw [zL211_55, if_neg (show ¬ ρ ≤ (i : Int) by omega), if_neg (show ¬ (1 : Int) = 0 by decide)]
        by_cases c0 : i = 0
        · subst c0
          rw [if_pos (show ((0 : Nat) : Int) ≤ 0 from Int.le_refl _), if_pos rfl]
          have := s97 L m2 k2 h2w hL2
          exact CW_s (l := []) (kp_refl _ m) (by rw [List.append_nil]; exact this)
        · rw [if_neg (show ¬ (i : Int) ≤ 0 by omega), if_neg c0]
          by_cases c3 : B 3 t' = 0
          · have hs1 : sp = -1 := by rw [hsp, if_pos c3]
            have hs2 : sepo B mk t' = [] := by unfold sepo; rw [if_pos c3]
            rw [if_pos hs1]
            have := s97 L m2 k2 h2w hL2
            rw [hs2] at this ⊢
            exact CW_s (l := []) (kp_refl _ m) (by rw [List.append_nil]; exact this)
          · have hs1 : sp = ((pl B t' + 1 : Nat) : Int) := by rw [hsp, if_neg c3]; omega
            have hs2 : sepo B mk t' = [(B 3 t', mk)] := by unfold sepo; rw [if_neg c3]
            have hc : C (pl B t' + 1) = B 3 t' := by
              have ek := ((x_e h' t' h3).2.2.2.2.2.2.2.2.2.2 h5).2.2.2.2.2.2
              rcases ek with d | d
              · exact absurd d.1 c3
              · exact d.1.symm
            have l3 : lnf B t' = 3 := by
              unfold lnf
              rw [if_neg (by omega), if_neg (by omega), if_pos h5, if_neg c3]
            obtain ⟨m3, a1, a2, a3⟩ := c168 (n := n) r L hL2 (B 3 t') mk
            have k3 := kp_tr k2 (kp_sub wRW_s a3)
            have := s97 _ m3 k3 (by rw [(a3.1 32 (1 - lv) (wRL_n (by omega))).1]; exact h2w) a2
            rw [if_neg (show ¬ sp = -1 by omega), W2.2.2.2.2.2.1]
            dsimp only
            rw [if_pos hr, W2.1]
            dsimp only
            rw [if_pos hb, hs1, d_codeN W2.2.2.2.2.2.2.1 (pl B t' + 1) (by omega), hc]
            dsimp only
            rw [W2.2.2.1, a1]
            dsimp only
            rw [hs2, hs1] at this
            rw [hs2]
            exact CW_s (kp_refl _ m) this
    exact key ρ.toNat 0 n L m (by omega) (by omega) (kp_refl _ m) hw0 hL
end
/-- what an element that is no repetition writes -/
def elo (A : Nat → Nat → Int) (N : Nat) (B : Nat → Nat → Int) (X K : Nat → Int) (mk : Int) (κ : List EN) (o : Int) (nn : Nat) (e : Nat) : OL := if B 0 e = 7 then fuo X K mk (A 4 (Fg A N B e)) (fnd (Fg A N B e) o nn κ) else [(B 1 e, mk)]
section
variable (A : Nat → Nat → Int) (N : Nat) (B : Nat → Nat → Int) (NB : Nat) (X K : Nat → Int) (mk : Int) (κ : List EN) (s : (Nat → Int) × (Nat → Int → Int))
def w2o (o : Int) (nn e : Nat) : Option OL := wpt B (fun _ => none) (elo A N B X K mk κ o nn) (B 2 e).toNat 130 (e + 1)
def r2o (o : Int) (e : Nat) : Option OL := rpo (rdn A N B s e o) (sepo B mk (B 2 e).toNat) (fun i => w2o A N B X K mk κ o i e)
def w1o (o : Int) (e : Nat) : Option OL := wpt B (r2o A N B X K mk κ s o) (elo A N B X K mk κ o 0) (B 2 e).toNat 130 (e + 1)
def r1o (e : Nat) : Option OL := rpo (rdn A N B s e 0) (sepo B mk (B 2 e).toNat) (fun i => w1o A N B X K mk κ s i e)
/-- what a body writes -/
def w0o : Option OL := wpt B (r1o A N B X K mk κ s) (elo A N B X K mk κ 0 0) NB 130 0
end
section
variable {C : Nat → Int} {Y A B : Nat → Nat → Int} {N i0 z NB j0 y : Nat} {n b u g r sz a : Nat} {mk : Int} {P : Nat → Nat} {κ : List EN} {S : Nat} {X K R : Nat → Int} {s : (Nat → Int) × (Nat → Int → Int)}
theorem elo_0 (o : Int) (nn e : Nat) (h0 : B 0 e = 0) : elo A N B X K mk κ o nn e = [(B 1 e, mk)] := by
  unfold elo
  rw [if_neg (by omega)]
theorem elo_7 (o : Int) (nn e : Nat) (h7 : B 0 e = 7) : elo A N B X K mk κ o nn e = fuo X K mk (A 4 (Fg A N B e)) (fnd (Fg A N B e) o nn κ) := by
  unfold elo
  rw [if_pos h7]
/-- writeParts, whole -/
theorem c210 (hn : 200000 ≤ n) (h : RX true C Y A N i0 z) (h' : RX false C Y B NB j0 y) (ht : ¬ tw A N) (hw : ¬ wu A N B NB) (hz : z < sz) (hy : y < sz) (hb : isD b) (hrg : (r = 34 ∧ g = 37) ∨ (r = 37 ∧ g = 34)) (hu : u < a) (hP : P u = i0) (hκ : ∀ x ∈ κ, x.1 < N ∧ x.2.2.2.1 ≤ x.2.2.2.2 ∧ x.2.2.2.2 ≤ S)
    (hq : ∀ u : Nat, u < N → A 0 u = 4 → A 5 u < 0 → ∀ o : Nat, ordf A u = o → s.1 u = R o) (hV : ∀ f : Nat, f < N → A 0 f = 3 → NV A f (cfl κ f) s N) (hs : sbd 90000 s) (L : OL) (m : ZM) (hW : WA b u g r sz a mk C Y A P κ S X K R m) (hp0 : m.1 32 0 = 0) (hp1 : m.1 32 1 = 0) (hL : RL r L m) :
    CW r 0 0 L (zF210 n (pl B 0) (pl B NB) 0 m) (w0o A N B NB X K mk κ s) m := by
  have hNB := x_N119 h'
  have us : ∀ (o : Int) (nn : Nat), nn ≤ 100000 → ∀ e : Nat, e < NB → B 0 e = 7 → ∀ (L : OL) (m : ZM), WA b u g r sz a mk C Y A P κ S X K R m → m.1 32 0 = o → m.1 32 1 = (nn : Int) → RL r L m → ∃ m', zF213 n (pl A (Fg A N B e)) m = some ((), m') ∧ RL r (L ++ elo A N B X K mk κ o nn e) m' ∧ kp (wl (wRL r)) m m' := by
    intro o nn hnn e he h7 L m hW h0 h1 hL
    obtain ⟨f1, f2, f3, f4, f5⟩ := x_fg ht hw e he h7
    rw [elo_7 o nn e h7]
    exact c213 (by omega) h hz hb hrg hκ _ f2 f3 o nn hnn L m hW h0 h1 hL
  have nst : ∀ (e q : Nat), e < NB → B 0 e = 4 → 0 ≤ B 5 e → e + 1 ≤ q → q < (B 2 e).toNat → B 0 q ≠ 4 := by
    intro e q he h4 h5 h1 h2 k4
    have := b_nest h' e q (B 2 e).toNat he h4 (by omega) (by omega) h2 k4
    omega
  have plq : ∀ e : Nat, e < NB → B 0 e = 4 → (pl B e : Int) + 2 = (pl B (e + 1) : Nat) := by
    intro e he h4
    have xn := x_nx h' e he
    have l2 : lnf B e = 2 := by
      unfold lnf
      rw [if_neg (by omega), if_pos (Or.inl h4)]
    omega
  have L2 : ∀ (e : Nat), e < NB → B 0 e = 4 → 0 ≤ B 5 e → ∀ (o : Int) (i : Nat), i ≤ 100000 → ∀ (L : OL) (m : ZM), WA b u g r sz a mk C Y A P κ S X K R m → m.1 32 0 = o → m.1 32 1 = (i : Int) → RL r L m → CW r o i L (zK210 n 2 ((pl B e : Int) + 2) (pl B (B 2 e).toNat) 2 m) (w2o A N B X K mk κ o i e) m := by
    intro e he h4 h5 o i hi L m hW h0 h1 hL
    obtain ⟨t, t1, t2, t3, _⟩ := x_beg h' e he h4
    have ht2 : (B 2 e).toNat = t := by omega
    rw [plq e he h4, zK210, zG210]
    unfold w2o
    rw [ht2]
    exact c210p (by omega) h h' ht hw hz hy hb hrg hu hP _ _ 2 _ (e + 1) t (by omega) (Rng_r h' e t he h4 t1) o i (fun q q1 q2 _ q3 => absurd q3 (nst e q he h4 h5 q1 (by omega))) (fun q q1 q2 q3 => elo_0 o i q q3) (fun q q1 q2 q3 => us o i hi q (by omega) q3) 130 (e + 1) n 0 L m (by omega) (by omega) (Nat.le_refl _) (by omega) (top_0 _) (by omega) hW h0 h1 hL
  have L1 : ∀ (e : Nat), e < NB → B 0 e = 4 → B 5 e < 0 → ∀ (i : Nat), i ≤ 100000 → ∀ (L : OL) (m : ZM), WA b u g r sz a mk C Y A P κ S X K R m → m.1 32 0 = (i : Int) → m.1 32 1 = 0 → RL r L m → CW r i 0 L (zK210 n 3 ((pl B e : Int) + 2) (pl B (B 2 e).toNat) 1 m) (w1o A N B X K mk κ s i e) m := by
    intro e he h4 h5 i hi L m hW h0 h1 hL
    obtain ⟨t, t1, t2, t3, _⟩ := x_beg h' e he h4
    have ht2 : (B 2 e).toNat = t := by omega
    rw [plq e he h4, zK210, zG210]
    unfold w1o
    rw [ht2]
    refine c210p (by omega) h h' ht hw hz hy hb hrg hu hP _ _ 1 _ (e + 1) t (by omega) (Rng_r h' e t he h4 t1) i 0 (fun q q1 q2 qT q3 L m hW h0 h1 hL => ?_) (fun q q1 q2 q3 => elo_0 i 0 q q3) (fun q q1 q2 q3 => us i 0 (by omega) q (by omega) q3) 130 (e + 1) n 0 L m (by omega) (by omega) (Nat.le_refl _) (by omega) (top_0 _) (by omega) hW h0 h1 hL
    have hn5 := b_nest h' e q t he h4 t1 (by omega) q2 q3
    obtain ⟨t', t1', t2', t3', _⟩ := x_beg h' q (by omega) q3
    have := c211 hn h h' ht hw hz hy hb hrg hu hP (fun x hx => (hκ x hx).1) hq hV hs q (B 2 q).toNat (by omega) q3 (by omega) 1 (Or.inr ⟨rfl, by omega⟩) (i : Int) (zK210 n 2) (fun j => w2o A N B X K mk κ i j q) (fun j hj L m hW h0 h1 hL => L2 q (by omega) q3 (by omega) i j hj L m hW h0 h1 hL) L m hW h0 h1 hL
    exact this
  unfold zF210 w0o
  rw [zK210, zG210]
  refine c210p (by omega) h h' ht hw hz hy hb hrg hu hP _ _ 0 _ 0 NB (Nat.le_refl _) (Rng_0 h') 0 0 (fun q q1 q2 qT q3 L m hW h0 h1 hL => ?_) (fun q q1 q2 q3 => elo_0 0 0 q q3) (fun q q1 q2 q3 => us 0 0 (by omega) q (by omega) q3) 130 0 n 0 L m (by omega) (by omega) (Nat.le_refl _) (by omega) (top_0 _) (by omega) hW hp0 hp1 hL
  obtain ⟨t', t1', t2', t3', _⟩ := x_beg h' q (by omega) q3
  by_cases q5 : B 5 q < 0
  · have := c211 hn h h' ht hw hz hy hb hrg hu hP (fun x hx => (hκ x hx).1) hq hV hs q (B 2 q).toNat (by omega) q3 (by omega) 0 (Or.inl ⟨rfl, q5⟩) 0 (zK210 n 3) (fun j => w1o A N B X K mk κ s j q) (fun j hj L m hW h0 h1 hL => L1 q (by omega) q3 q5 j hj L m hW h0 h1 hL) L m hW h0 h1 hL
    exact this
  · exfalso
    obtain ⟨c, hc⟩ : ∃ c : Nat, B 5 q = c := ⟨(B 5 q).toNat, by omega⟩
    obtain ⟨g1, g2, g3, g4⟩ := h'.1.n1 q c (by omega) hc
    obtain ⟨t2, u1, _⟩ := x_beg h' c (by omega) g1
    have := qT c (Nat.zero_le _) g3 g1
    omega
end
