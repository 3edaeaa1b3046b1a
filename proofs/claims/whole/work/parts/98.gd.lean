/-! A use is written: the class's side, whole. -/
theorem wRL_n {r a x : Nat} (h : a ≠ r ∧ a ≠ r + 1 ∧ a ≠ r + 2) : wl (wRL r) a x = false := by
  unfold wl wRL
  simp
  omega
/-- all that the writer reads: definition b, arm u, number mk, from row g into row r -/
def WA (b u g r sz a : Nat) (mk : Int) (C : Nat → Int) (Y A : Nat → Nat → Int) (P : Nat → Nat) (κ : List EN) (S : Nat) (X K R : Nat → Int) (m : ZM) : Prop :=
  m.2.1 31 1 = some b ∧ m.1 31 2 = u ∧ m.1 31 3 = mk ∧ m.2.1 31 4 = some 17 ∧ m.2.1 31 5 = some g ∧ m.2.1 31 6 = some r ∧ DM b sz a C Y P m ∧ KG A (κ.map drp) m ∧ SR g S X K m ∧ ∀ o : Nat, o < 4 → m.1 22 o = R o
def wRW (r : Nat) : List (Nat × Nat) := (32, 1000) :: wRL r
theorem wRW_n {r a x : Nat} (h : a ≠ 32 ∧ a ≠ r ∧ a ≠ r + 1 ∧ a ≠ r + 2) : wl (wRW r) a x = false := by
  unfold wl wRW wRL
  simp
  omega
theorem wRW_s {r : Nat} : ∀ p ∈ wRL r, p ∈ wRW r := fun _ hp => List.mem_cons_of_mem _ hp
section
variable {C : Nat → Int} {Y A : Nat → Nat → Int} {N i0 z : Nat} {n b u g r sz a : Nat} {mk : Int} {P : Nat → Nat} {κ : List EN} {S : Nat} {X K R : Nat → Int}
theorem WA_kp {m m' : ZM} (hW : WA b u g r sz a mk C Y A P κ S X K R m) (hb : isD b) (hrg : (r = 34 ∧ g = 37) ∨ (r = 37 ∧ g = 34)) (k : kp (wl (wRW r)) m m') : WA b u g r sz a mk C Y A P κ S X K R m' := by
  have hge := isD_ge hb
  obtain ⟨w1, w2, w3, w4, w5, w6, hD, hK, hS, w7⟩ := hW
  refine ⟨?_, ?_, ?_, ?_, ?_, ?_, DM_kp hD k (fun c q h1 h2 => wRW_n (by omega)), KG_kp hK k (wRW_n (by omega)) (fun c q h1 h2 => wRW_n (by omega)), SR_kp hS k (wRW_n (by omega)) (fun q => ⟨wRW_n (by omega), wRW_n (by omega)⟩), fun o ho => ?_⟩
  · rw [(k.1 31 1 (wRW_n (by omega))).2]; exact w1
  · rw [(k.1 31 2 (wRW_n (by omega))).1]; exact w2
  · rw [(k.1 31 3 (wRW_n (by omega))).1]; exact w3
  · rw [(k.1 31 4 (wRW_n (by omega))).2]; exact w4
  · rw [(k.1 31 5 (wRW_n (by omega))).2]; exact w5
  · rw [(k.1 31 6 (wRW_n (by omega))).2]; exact w6
  · rw [(k.1 22 o (wRW_n (by omega))).1]; exact w7 o ho
theorem x_1159 (h : RX true C Y A N i0 z) (f : Nat) (hf : f < N) (h3 : A 0 f = 3) : C (pl A f + 3) = 1159 ↔ A 4 f = 4 := by
  have x3 := x_w3 h f hf h3
  rw [x3.2.2.2.2.2.1]
  unfold r_kd
  rcases x3.2.2.2.2.1 with c | c | c | c <;> rw [c] <;> decide
theorem c213 (hn : 600 ≤ n) (h : RX true C Y A N i0 z) (hz : z < sz) (hb : isD b) (hrg : (r = 34 ∧ g = 37) ∨ (r = 37 ∧ g = 34)) (hκ : ∀ x ∈ κ, x.1 < N ∧ x.2.2.2.1 ≤ x.2.2.2.2 ∧ x.2.2.2.2 ≤ S) (f : Nat) (hf : f < N) (h3 : A 0 f = 3) (p0 : Int) (p1 : Nat) (hp1 : p1 ≤ 100000) (L : List (Int × Int)) (m : ZM) (hW : WA b u g r sz a mk C Y A P κ S X K R m) (h0 : m.1 32 0 = p0) (h1 : m.1 32 1 = p1) (hL : RL r L m) :
    ∃ m', zF213 n (pl A f) m = some ((), m') ∧ RL r (L ++ fuo X K mk (A 4 f) (fnd f p0 p1 κ)) m' ∧ kp (wl (wRL r)) m m' := by
  have hr : isR r := by show r = 34 ∨ r = 37; omega
  have hg : isR g := by show g = 34 ∨ g = 37; omega
  have hge := isD_ge hb
  obtain ⟨w1, w2, w3, w4, w5, w6, hD, hK, hS, w7⟩ := hW
  have pf := x_pl h f (by omega)
  have pf2 := pf.2.2.2 hf
  have l4 : lnf A f = 4 := by
    unfold lnf
    rw [if_pos h3]
  have h120 := h.2.2.2.2.2.2.2.1
  have c4 := x_1159 h f hf h3
  have k31 : ∀ (m2 : ZM) (q : Nat), kp (wl (wRL r)) m m2 → m2.1 31 q = m.1 31 q ∧ m2.2.1 31 q = m.2.1 31 q := fun m2 q k2 => k2.1 31 q (wRL_n (by omega))
  have mid : ∀ (p v : Nat) (s0 : Int) (L2 : List (Int × Int)) (m2 : ZM), p ≤ v → v ≤ S → RL r L2 m2 → kp (wl (wRL r)) m m2 → ∃ m3, zJ213_89 n p v s0 m2 = zJ213_103 n s0 m3 ∧ RL r (L2 ++ slc X K p (v - p)) m3 ∧ kp (wl (wRL r)) m m3 := by
    intro p v s0 L2 m2 hpv hvS hL2 k2
    have S2 : SR g S X K m2 := SR_kp hS k2 (wRL_n (by omega)) (fun q => ⟨wRL_n (by omega), wRL_n (by omega)⟩)
    obtain ⟨m3, a1, a2, a3⟩ := c169 (n := n) (by omega) r g S X K hrg p (v - p) L2 m2 hL2 S2 (by omega)
    rw [show p + (v - p) = v by omega] at a1
    refine ⟨m3, ?_, a2, kp_tr k2 a3⟩
    unfold zJ213_89
    rw [(k31 m2 6 k2).2, w6]
    dsimp only
    rw [if_pos hr, (k31 m2 5 k2).2, w5]
    dsimp only
    rw [if_pos hg, a1]
  have tail : ∀ p v : Nat, p ≤ v → v ≤ S → ∃ m', zJ213_40 n (pl A f) p v m = some ((), m') ∧ RL r (L ++ uo X K mk (A 4 f) p v) m' ∧ kp (wl (wRL r)) m m' := by
    intro p v hpv hvS
    have hS150 := hS.2.1
    have e40 : zJ213_40 n (pl A f) p v m = zJ213_69 n p v (if A 4 f = 4 ∧ p + 1 < v then 1 else 0) m := by
      unfold zJ213_40
      rw [w1]
      dsimp only
      rw [if_pos hb, if_pos (show rg ((pl A f : Int) + 3) by omega), show (pl A f : Int) + 3 = ((pl A f + 3 : Nat) : Int) by omega, d_codeN hD (pl A f + 3) (by omega)]
      dsimp only
      unfold zJ213_56 zJ213_68
      by_cases q4 : A 4 f = 4
      · rw [if_pos (c4.2 q4), if_pos (show rg ((v : Int) - p) by omega)]
        by_cases ql : p + 1 < v
        · rw [if_neg (show ¬ (v : Int) - p ≤ 1 by omega), if_pos ⟨q4, ql⟩]
        · rw [if_pos (show (v : Int) - p ≤ 1 by omega), if_neg (fun w => ql w.2)]
      · rw [if_neg (fun w => q4 (c4.1 w)), if_neg (fun w => q4 w.1)]
    rw [e40]
    unfold uo
    by_cases q : A 4 f = 4 ∧ p + 1 < v
    · rw [if_pos q, if_pos q]
      obtain ⟨m1, a1, a2, a3⟩ := c168 (n := n) r L hL 40 mk
      obtain ⟨m2, b1, b2, b3⟩ := mid p v 1 _ m1 hpv hvS a2 a3
      obtain ⟨m3, d1, d2, d3⟩ := c168 (n := n) r _ b2 41 mk
      refine ⟨m3, ?_, ?_, kp_tr b3 d3⟩
      · unfold zJ213_69
        rw [if_neg (show ¬ (1 : Int) = 0 by decide), w6]
        dsimp only
        rw [if_pos hr, w3, a1]
        dsimp only
        rw [b1]
        unfold zJ213_103
        rw [if_neg (show ¬ (1 : Int) = 0 by decide), (k31 m2 6 b3).2, w6]
        dsimp only
        rw [if_pos hr, (k31 m2 3 b3).1, w3, d1]
        rfl
      · rw [List.append_assoc, List.append_assoc] at d2
        exact d2
    · rw [if_neg q, if_neg q]
      obtain ⟨m2, b1, b2, b3⟩ := mid p v 0 L m hpv hvS hL (kp_refl _ m)
      refine ⟨m2, ?_, b2, b3⟩
      unfold zJ213_69
      rw [if_pos rfl, b1]
      unfold zJ213_103
      rw [if_pos rfl]
      rfl
  have e21 : ∀ v4 : Int, zF183 n (pl A f) p0 p1 m = some (v4, m) → zF213 n (pl A f) m = zJ213_21 n (pl A f) v4 m := by
    intro v4 e
    unfold zF213
    rw [w4]
    dsimp only
    rw [if_pos rfl, h0, h1, e]
  obtain ⟨k1, k2, k3⟩ := hK
  have k2' := k2
  rw [List.length_map] at k1 k2'
  rcases c183 hn h κ (fun x hx => (hκ x hx).1) m ⟨by rw [List.length_map]; exact k1, k2, k3⟩ f hf p0 p1 hp1 with ⟨i, x, a1, a2, a3⟩ | ⟨a2, a3⟩
  · have hx := hκ x (List.mem_of_getElem? a1)
    have hi : i < κ.length := by
      apply Classical.byContradiction
      intro d
      rw [List.getElem?_eq_none (by omega)] at a1
      cases a1
    obtain ⟨_, _, y3, y4⟩ := k3 i (drp x) (by rw [List.getElem?_map, a1]; rfl)
    have y3 : m.1 20 i = x.2.2.2.1 := y3
    have y4 : m.1 21 i = x.2.2.2.2 := y4
    obtain ⟨m', b1, b2, b3⟩ := tail x.2.2.2.1 x.2.2.2.2 hx.2.1 hx.2.2
    refine ⟨m', ?_, by rw [a2]; exact b2, b3⟩
    have e184 : zF184 n (i : Int) m = some ((x.2.2.2.1 : Int), m) := by
      unfold zF184 zJ184_22
      rw [k1, if_neg (by omega), if_neg (by omega), if_neg (by omega), Int.toNat_natCast, y3]
    have e185 : zF185 n (i : Int) m = some ((x.2.2.2.2 : Int), m) := by
      unfold zF185 zJ185_22
      rw [k1, if_neg (by omega), if_neg (by omega), if_neg (by omega), Int.toNat_natCast, y4]
    rw [e21 _ a3]
    unfold zJ213_21
    rw [w4]
    dsimp only
    rw [if_pos rfl, e184]
    dsimp only
    rw [w4]
    dsimp only
    rw [if_pos rfl, e185]
    exact b1
  · obtain ⟨m', b1, b2, b3⟩ := tail 0 0 (Nat.le_refl _) (Nat.zero_le _)
    have hu0 : uo X K mk (A 4 f) 0 0 = [] := by
      unfold uo
      rw [if_neg (fun w => by have := w.2; omega)]
      rfl
    refine ⟨m', ?_, by rw [a2]; rw [hu0] at b2; exact b2, b3⟩
    have e184 : zF184 n (-1) m = some (0, m) := by
      unfold zF184 zJ184_21 zJ184_22
      rw [if_pos (by decide)]
    have e185 : zF185 n (-1) m = some (0, m) := by
      unfold zF185 zJ185_21 zJ185_22
      rw [if_pos (by decide)]
    rw [e21 _ a3]
    unfold zJ213_21
    rw [w4]
    dsimp only
    rw [if_pos rfl, e184]
    dsimp only
    rw [w4]
    dsimp only
    rw [if_pos rfl, e185]
    exact b1
end
