/-! Loops over the places of a pattern; findFitting. -/
section
variable {C : Nat → Int} {Y A : Nat → Nat → Int} {N i0 z : Nat} {n : Nat}
theorem plp {α β : Type} (h : RX true C Y A N i0 z) (Lp : Nat → Nat → α → β) (Q : Nat → α → Prop)
    (hq : ∀ (f x e : Nat) (s : α), e ≤ N → Q e s → i0 < x → x < z → (∀ j : Nat, j ≤ N → sd A j → x ≠ sp A j) → Lp (f + 1) x s = Lp f (x + 1) s)
    (ha : ∀ (e : Nat) (s : α), e < N → sd A e → Q e s → ∃ s', Q (e + 1) s' ∧ ∀ f, Lp (f + 1) (sp A e) s = Lp f (sp A e + 1) s')
    (hs : ∀ (e : Nat) (s : α), e < N → ¬ sd A e → Q e s → Q (e + 1) s) :
    ∀ (k : Nat), k ≤ N → ∀ s, Q 0 s → ∃ s', Q k s' ∧ ∀ f, Lp (f + (pl A k - (i0 + 1))) (i0 + 1) s = Lp f (pl A k) s' := by
  have quiet : ∀ (k f x e : Nat) (s : α), e ≤ N → Q e s → i0 < x → x + k ≤ z → (∀ y : Nat, x ≤ y → y < x + k → ∀ j : Nat, j ≤ N → sd A j → y ≠ sp A j) → Lp (f + k) x s = Lp f (x + k) s := by
    intro k
    induction k with
    | zero => intro f x e s _ _ _ _ _; rfl
    | succ k ih =>
      intro f x e s he hQ h1 h2 h3
      rw [show f + (k + 1) = (f + k) + 1 by omega, hq (f + k) x e s he hQ h1 (by omega) (h3 x (by omega) (by omega)), ih f (x + 1) e s he hQ (by omega) (by omega) (fun y a b => h3 y (by omega) (by omega)), show x + 1 + k = x + (k + 1) by omega]
  have blk : ∀ (e y : Nat), e < N → pl A e ≤ y → y < pl A (e + 1) → ∀ j : Nat, j ≤ N → sd A j → y = sp A j → j = e := by
    intro e y he h1 h2 j hj hs hy
    have b := sp_b h j hj
    rcases Nat.lt_trichotomy j e with c | c | c
    · have := x_lt h j e c (by omega)
      have := b.2.2 (by omega)
      omega
    · exact c
    · have hm : pl A (e + 1) ≤ pl A j := by
        by_cases d : e + 1 = j
        · rw [d]; exact Nat.le_refl _
        · have := x_lt h (e + 1) j (by omega) hj
          have := lnf_pos A (e + 1)
          omega
      omega
  intro k
  induction k with
  | zero =>
    intro _ s hQ
    refine ⟨s, hQ, fun f => ?_⟩
    rw [x_0 h, show i0 + 1 - (i0 + 1) = 0 by omega]
    rfl
  | succ k ih =>
    intro hk s hQ
    obtain ⟨s1, a1, a2⟩ := ih (by omega) s hQ
    have xn := x_nx h k (by omega)
    have lp := lnf_pos A k
    have x0 := x_n h k (by omega)
    have xz := (x_pl h (k + 1) hk).2.2.1
    have spb := sp_b h k (by omega)
    have hlt : pl A k < pl A (k + 1) := by omega
    by_cases c : sd A k
    · obtain ⟨s2, b1, b2⟩ := ha k s1 (by omega) c a1
      have b3 := spb.2.2 (by omega)
      refine ⟨s2, b1, fun f => ?_⟩
      have e1 : f + (pl A (k + 1) - (i0 + 1)) = (f + (pl A (k + 1) - (sp A k + 1)) + 1 + (sp A k - pl A k)) + (pl A k - (i0 + 1)) := by omega
      rw [e1, a2]
      rw [quiet (sp A k - pl A k) (f + (pl A (k + 1) - (sp A k + 1)) + 1) (pl A k) k s1 (by omega) a1 (by omega) (by omega) (fun y y1 y2 j j1 j2 j3 => by
        have := blk k y (by omega) y1 (by omega) j j1 j2 j3
        subst this
        omega)]
      rw [show pl A k + (sp A k - pl A k) = sp A k by omega, b2]
      rw [quiet (pl A (k + 1) - (sp A k + 1)) f (sp A k + 1) (k + 1) s2 hk b1 (by omega) (by omega) (fun y y1 y2 j j1 j2 j3 => by
        have := blk k y (by omega) (by omega) (by omega) j j1 j2 j3
        subst this
        omega)]
      rw [show sp A k + 1 + (pl A (k + 1) - (sp A k + 1)) = pl A (k + 1) by omega]
    · refine ⟨s1, hs k s1 (by omega) c a1, fun f => ?_⟩
      have e1 : f + (pl A (k + 1) - (i0 + 1)) = (f + (pl A (k + 1) - pl A k)) + (pl A k - (i0 + 1)) := by omega
      rw [e1, a2, quiet (pl A (k + 1) - pl A k) f (pl A k) k s1 (by omega) a1 (by omega) (by omega) (fun y y1 y2 j j1 j2 j3 => by
        have := blk k y (by omega) y1 (by omega) j j1 j2 j3
        subst this
        exact c j2)]
      rw [show pl A k + (pl A (k + 1) - pl A k) = pl A (k + 1) by omega]
theorem c152 (kw c : Int) (hk : knd kw) (hc : vt c) (m : ZM) : zF152 n kw c m = some (bi (bg (r_kd kw) c), m) := by
  unfold zF152
  rw [zF11_eq, zF14_eq, zF12_eq]
  dsimp only
  rw [if_pos (bi_01 _), if_pos (bi_01 _), ib, ib]
  unfold zJ152_58 zJ152_79 zJ152_73 zJ152_84
  rw [zF12_eq]
  dsimp only
  rw [ib, if_pos (show (1 : Int) = 0 ∨ (1 : Int) = 1 from Or.inr rfl), if_pos (show (0 : Int) = 0 ∨ (0 : Int) = 1 from Or.inl rfl)]
  have fin : ∀ (p q : Prop) [Decidable p] [Decidable q], (p ↔ q) → bi p = bi q := fun p q _ _ hpq => by
    unfold bi
    by_cases d : p
    · rw [if_pos d, if_pos (hpq.1 d)]
    · rw [if_neg d, if_neg (fun e => d (hpq.2 e))]
  rcases hk with d | d | d | d
  · subst d
    rw [if_pos rfl]
    congr 2
    apply fin
    unfold bg r_kd
    rw [if_pos rfl]
    omega
  · subst d
    rw [if_neg (by decide), if_neg (by decide), if_pos rfl]
    congr 2
    apply fin
    unfold bg r_kd
    rw [if_neg (by decide), if_pos rfl]
    omega
  · subst d
    rw [if_neg (by decide), if_pos rfl, show r_kd 1560 = 3 from rfl]
    unfold bi bg
    by_cases q : cls c
    · rw [if_pos q, if_neg (by omega)]
    · rw [if_neg q, if_pos (by omega)]
  · subst d
    rw [if_neg (by decide), if_neg (by decide), if_neg (by decide), show r_kd 1159 = 4 from rfl]
    unfold bi bg
    by_cases q1 : wd c
    · rw [if_pos q1, if_pos (by omega)]
    · rw [if_neg q1]
      by_cases q2 : nmb c
      · rw [if_pos q2, if_pos (by omega)]
      · rw [if_neg q2]
        by_cases q3 : c = 40
        · rw [if_pos q3, if_pos (by omega)]
          rfl
        · rw [if_neg q3, if_neg (by rcases hc with e | e | e <;> omega)]
/-- the class's threads -/
def TH (A : Nat → Nat → Int) (N b c : Nat) (H : Nat → List (List (Nat × List Nat))) (m : ZM) : Prop :=
  m.2.1 c 4 = some b ∧ (∀ e : Nat, e ≤ N → sd A e → m.1 (c + 1) (sp A e) = mn ((H e).length : Int)) ∧ (∀ p : Nat, p < 120 → (∀ j : Nat, j ≤ N → sd A j → p ≠ sp A j) → m.1 (c + 1) p = 0) ∧ ∀ e : Nat, e ≤ N → sd A e → H e ≠ [] → ∃ h ∈ H e, ∀ o : Nat, o < 4 → m.1 (c + 2) (4 * sp A e + o) = Rd A h o
def fro (A : Nat → Nat → Int) (o : Int) : Int := if o < 0 then -1 else (pl A o.toNat : Int)
/-- what the matcher holds while it matches -/
def MX (b r c1 c2 i0 z : Nat) (m : ZM) : Prop := m.2.1 16 1 = some c1 ∧ m.2.1 16 2 = some c2 ∧ ((c1 = 23 ∧ c2 = 27) ∨ (c1 = 27 ∧ c2 = 23)) ∧ m.2.1 16 3 = some b ∧ m.2.1 16 6 = some r ∧ m.1 16 4 = (i0 : Int) + 1 ∧ m.1 16 5 = z
theorem MX_T {b r c1 c2 i0 z : Nat} {m : ZM} (h : MX b r c1 c2 i0 z m) : isT c1 ∧ isT c2 ∧ c1 + 3 < 41 ∧ c2 + 3 < 41 := by
  rcases h.2.2.1 with ⟨rfl, rfl⟩ | ⟨rfl, rfl⟩
  · exact ⟨by unfold isT; omega, by unfold isT; omega, by omega, by omega⟩
  · exact ⟨by unfold isT; omega, by unfold isT; omega, by omega, by omega⟩
theorem c188 (c p : Nat) (hp : p < 120) (m : ZM) : zF188 n c p m = some (m.1 (c + 1) p, m) := by
  unfold zF188 zJ188_20
  rw [if_neg (by omega), if_neg (by omega), if_neg (by omega), Int.toNat_natCast]
theorem c151 {b sz a r c1 c2 : Nat} {P : Nat → Nat} {H : Nat → List (List (Nat × List Nat))} {B : Int} (hn : 200 ≤ n) (h : RX true C Y A N i0 z) (hb : isD b) (hz : z + 1 < sz) (m : ZM) (hD : DM b sz a C Y P m) (hM : MX b r c1 c2 i0 z m) (hT : TH A N b c1 H m) (hO : HO A N B H) (c : Int) (hc : vt c) :
    zF151 n c m = some (if 1 < (ac A H c N).1 then -2002 else if (ac A H c N).1 = 1 then (if (ac A H c N).2.1 ≤ 0 then fro A (ac A H c N).2.2 else -2002) else fro A (ac A H c N).2.2, m) := by
  obtain ⟨x1, x2, x3, x4, x5, x6, x7⟩ := hM
  have hM : MX b r c1 c2 i0 z m := ⟨x1, x2, x3, x4, x5, x6, x7⟩
  have t1 := (MX_T hM).1
  have h120 := h.2.2.2.2.2.2.2.1
  have hc0 : 0 < c := by rcases hc with d | d | d <;> omega
  have e109 : ∀ (rec : Int → Int → Int → Int → Int → ZM → Option (Int × ZM)) (a1 a2 a3 : Int) (x : Nat), x < 120 → zJ151_109 n rec c a1 a2 a3 x m = rec c a1 a2 a3 ((x + 1 : Nat) : Int) m := by
    intro rec a1 a2 a3 x hx
    unfold zJ151_109
    rw [if_pos (by omega), show ((x + 1 : Nat) : Int) = (x : Int) + 1 by omega]
  have head : ∀ (f x : Nat) (a1 a2 a3 : Int), x < z → zL151_13 n (f + 1) c a1 a2 a3 x m = zJ151_33 n (zL151_13 n f) c a1 a2 a3 x (m.1 (c1 + 1) x) m := by
    intro f x a1 a2 a3 hx
    rw [zL151_13, x7, if_neg (by omega), x1]
    dsimp only
    rw [if_pos t1, c188 c1 x (by omega) m]
  have none0 : ∀ (f x : Nat) (a1 a2 a3 : Int), x < z → m.1 (c1 + 1) x = 0 → zL151_13 n (f + 1) c a1 a2 a3 x m = zL151_13 n f c a1 a2 a3 ((x + 1 : Nat) : Int) m := by
    intro f x a1 a2 a3 hx h0
    rw [head f x a1 a2 a3 hx, h0]
    unfold zJ151_33 zJ151_65
    rw [if_pos (by decide), if_pos (by decide), e109 _ _ _ _ x (by omega)]
  obtain ⟨s', hs', hf⟩ := plp (α := Int × Int × Int) (β := Option (Int × ZM)) h (fun f x s => zL151_13 n f c s.1 s.2.1 s.2.2 x m) (fun e s => s = ((ac A H c e).1, (ac A H c e).2.1, fro A (ac A H c e).2.2)) (fun f x e s _ _ h1 h2 h3 => none0 f x _ _ _ h2 (hT.2.2.1 x (by omega) h3)) (fun e s he hsd hQ => by
      subst hQ
      refine ⟨_, rfl, fun f => ?_⟩
      have hr := ac_r (A := A) (H := H) (c := c) e
      have hN := x_N119 h
      have spz := (sp_b h e (by omega)).2.2 he
      have hmany := hT.2.1 e (by omega) hsd
      dsimp only
      by_cases q0 : (H e).length = 0
      · rw [none0 f (sp A e) _ _ _ spz.2 (by rw [hmany]; exact mn_0.2 q0), ac, if_neg (show ¬ fits A H c e from fun d => by have := d.1; omega), if_neg (show ¬ goes A H c e from fun d => by have := d.1; omega), if_neg (show ¬ fits A H c e from fun d => by have := d.1; omega)]
      · have hl : 0 < (H e).length := by omega
        have hm := mn_p hl
        rw [head f (sp A e) _ _ _ spz.2, hmany]
        generalize zL151_13 n f = rec
        have s33 : ∀ a1 a2 a3 : Int, zJ151_33 n rec c a1 a2 a3 (sp A e) (mn ((H e).length : Int)) m = if C (sp A e) = c then zJ151_51 n rec c a1 a2 a3 (sp A e) (mn ((H e).length : Int)) m else zJ151_65 n rec c a1 a2 a3 (sp A e) (mn ((H e).length : Int)) m := by
          intro a1 a2 a3
          unfold zJ151_33
          rw [if_neg (by omega), x4]
          dsimp only
          rw [if_pos hb, d_codeN hD (sp A e) (by omega)]
        rw [s33]
        have s65 : ∀ a1 a2 a3 : Int, zJ151_65 n rec c a1 a2 a3 (sp A e) (mn ((H e).length : Int)) m = if C (sp A e) = 36 ∧ C (sp A e + 1) ≠ 40 then zJ151_82 n rec c a1 a2 a3 (sp A e) (mn ((H e).length : Int)) m else rec c a1 a2 a3 ((sp A e + 1 : Nat) : Int) m := by
          intro a1 a2 a3
          unfold zJ151_65
          rw [if_neg (by omega), x4]
          dsimp only
          rw [if_pos hb, d_sv hD (sp A e) (by omega)]
          dsimp only
          rw [ib, e109 _ _ _ _ _ (by omega)]
        rcases x_csp h e (by omega) hsd with ⟨g1, g2, g3⟩ | ⟨g1, g2, _⟩ | ⟨g1, g2, g3, g4, g5⟩
        · have spp : sp A e = pl A e := by unfold sp; rw [if_neg (by omega)]
          have ng : ¬ goes A H c e := fun d => by have := d.2; omega
          have e51 : ∀ a1 a2 a3 : Int, C (sp A e) = c → zJ151_51 n rec c a1 a2 a3 (sp A e) (mn ((H e).length : Int)) m = zJ151_65 n rec c a1 a2 a3 (sp A e) (mn ((H e).length : Int)) m := by
            intro a1 a2 a3 d
            unfold zJ151_51
            rw [if_pos (by omega)]
          have both : ∀ a1 a2 a3 : Int, (if C (sp A e) = c then zJ151_51 n rec c a1 a2 a3 (sp A e) (mn ((H e).length : Int)) m else zJ151_65 n rec c a1 a2 a3 (sp A e) (mn ((H e).length : Int)) m) = zJ151_65 n rec c a1 a2 a3 (sp A e) (mn ((H e).length : Int)) m := by
            intro a1 a2 a3
            by_cases d : C (sp A e) = c
            · rw [if_pos d, e51 _ _ _ d]
            · rw [if_neg d]
          have x3' := x_w3 h e he g1
          rw [both, s65, if_pos (by rw [spp]; exact (x_svE h e (by omega)).2 (Or.inl g1))]
          have l4 : lnf A e = 4 := by unfold lnf; rw [if_pos g1]
          have pz := (x_pl h e (by omega)).2.2.2 he
          have s82 : ∀ a1 a2 a3 : Int, 0 ≤ a1 → a1 ≤ 1000 → zJ151_82 n rec c a1 a2 a3 (sp A e) (mn ((H e).length : Int)) m = if bg (A 4 e) c then rec c (a1 + mn ((H e).length : Int)) a2 (pl A e) ((sp A e + 1 : Nat) : Int) m else rec c a1 a2 a3 ((sp A e + 1 : Nat) : Int) m := by
            intro a1 a2 a3 b1 b2
            unfold zJ151_82
            rw [x4]
            dsimp only
            rw [if_pos hb, if_pos (by omega), spp, d_code hD, if_pos (by omega), show ((pl A e : Int) + 3).toNat = pl A e + 3 by omega]
            dsimp only
            rw [c152 _ c x3'.2.2.2.2.1 hc, ← x3'.2.2.2.2.2.1]
            dsimp only
            rw [ib, e109 _ _ _ _ _ (by omega)]
            unfold zJ151_100
            rw [if_pos (show rg (a1 + mn ((H e).length : Int)) by omega), e109 _ _ _ _ _ (by omega)]
          rw [s82 _ _ _ hr.1 (by omega), ac, if_neg ng]
          by_cases d : bg (A 4 e) c
          · have fe : fits A H c e := ⟨hl, g1, d⟩
            rw [if_pos d, if_pos fe, if_pos fe]
            have : fro A (e : Int) = (pl A e : Int) := by
              unfold fro
              rw [if_neg (by omega), Int.toNat_natCast]
            rw [this]
          · have fe : ¬ fits A H c e := fun q => d q.2.2
            rw [if_neg d, if_neg fe, if_neg fe]
        · omega
        · have nf : ¬ fits A H c e := fun d => g1 d.2.1
          rw [ac, if_neg nf, if_neg nf]
          by_cases d : C (sp A e) = c
          · have ge : goes A H c e := ⟨hl, by omega⟩
            rw [if_pos d, if_pos ge]
            unfold zJ151_51
            rw [if_neg (by omega), if_pos (by omega), e109 _ _ _ _ _ (by omega)]
          · have ge : ¬ goes A H c e := fun q => d (by have := q.2; omega)
            rw [if_neg d, if_neg ge, s65, if_neg (fun q => by have := q.1; omega)]) (fun e s he hsd hQ => by
      subst hQ
      have q0 : (H e).length = 0 := by
        cases e1 : H e with
        | nil => rfl
        | cons y ys => exact absurd (hO e y (by rw [e1]; exact List.mem_cons_self)).2.1 hsd
      rw [ac, if_neg (show ¬ fits A H c e from fun d => by have := d.1; omega), if_neg (show ¬ goes A H c e from fun d => by have := d.1; omega), if_neg (show ¬ fits A H c e from fun d => by have := d.1; omega)]) N (by omega) (0, 0, -1) rfl
  subst hs'
  have hzi := h.2.2.2.2.2.2.1
  have hf2 := hf (n - (pl A N - (i0 + 1)))
  rw [x_N h] at hf2
  rw [show n - (z - (i0 + 1)) + (z - (i0 + 1)) = n by omega] at hf2
  have st : zF151 n c m = zL151_13 n n c 0 0 (-1) ((i0 + 1 : Nat) : Int) m := by
    unfold zF151
    rw [x6, show ((i0 + 1 : Nat) : Int) = (i0 : Int) + 1 by omega]
  rw [st]
  refine hf2.trans ?_
  dsimp only
  rw [show n - (z - (i0 + 1)) = (n - (z - (i0 + 1)) - 1) + 1 by omega, zL151_13, x7, if_pos (by omega)]
  unfold zJ151_129 zJ151_135 zJ151_137
  by_cases c1' : 1 < (ac A H c N).1
  · rw [if_pos c1', if_pos c1']
  · rw [if_neg c1', if_neg c1']
    by_cases c2' : (ac A H c N).1 = 1
    · rw [if_pos c2', if_pos c2']
      by_cases c3 : (ac A H c N).2.1 ≤ 0
      · rw [if_pos c3, if_pos c3]
      · rw [if_neg c3, if_neg c3]
    · rw [if_neg c2', if_neg c2']
end
