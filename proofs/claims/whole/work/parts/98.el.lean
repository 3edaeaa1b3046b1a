/-! take, endOfTaken, conclude. -/
/-- the takings of the class: element, outer round, from, to -/
def KG (A : Nat → Nat → Int) (k : List (Nat × Int × Nat × Nat)) (m : ZM) : Prop := m.1 17 5 = k.length ∧ k.length ≤ 150 ∧ ∀ (i : Nat) (x : Nat × Int × Nat × Nat), k[i]? = some x → m.1 18 i = pl A x.1 ∧ m.1 19 i = x.2.1 ∧ m.1 20 i = x.2.2.1 ∧ m.1 21 i = x.2.2.2
def wK : List (Nat × Nat) := [(17, 5), (18, 1000), (19, 1000), (20, 1000), (21, 1000)]
theorem wK_n (c k : Nat) (h : c < 17 ∨ 21 < c) : wl wK c k = false := by
  unfold wl wK
  simp
  omega
/-- the outer round in which a fragment takes -/
def orr (A : Nat → Nat → Int) (h : List (Nat × List Nat)) (e : Nat) : Int := if A 5 e < 0 then 0 else Rd A h (ordf A (A 5 e).toNat).toNat - 1
section
variable {C : Nat → Int} {Y A : Nat → Nat → Int} {N i0 z : Nat} {n b sz a r c1 c2 : Nat} {P : Nat → Nat} {H K : Nat → List (List (Nat × List Nat))} {B : Int} {m : ZM} {X : Nat → Int} {S : Nat}
theorem KG_kp {k : List (Nat × Int × Nat × Nat)} {m m' : ZM} {l : List (Nat × Nat)} (h : KG A k m) (g : kp (wl l) m m') (h5 : wl l 17 5 = false) (hl : ∀ c q : Nat, 18 ≤ c → c ≤ 21 → wl l c q = false) : KG A k m' := by
  obtain ⟨a1, a2, a3⟩ := h
  refine ⟨by rw [(g.1 17 5 h5).1]; exact a1, a2, fun i x hx => ?_⟩
  rw [(g.1 18 i (hl _ _ (by omega) (by omega))).1, (g.1 19 i (hl _ _ (by omega) (by omega))).1, (g.1 20 i (hl _ _ (by omega) (by omega))).1, (g.1 21 i (hl _ _ (by omega) (by omega))).1]
  exact a3 i x hx
theorem c179 {k : List (Nat × Int × Nat × Nat)} (h : KG A k m) (hl : k.length < 150) (e : Nat) (o : Int) (p v : Nat) : ∃ m', zF179 n (pl A e) o p v m = some ((), m') ∧ KG A (k ++ [(e, o, p, v)]) m' ∧ kp (wl wK) m m' := by
  obtain ⟨a1, a2, a3⟩ := h
  refine ⟨z_i (z_i (z_i (z_i (z_i m 18 k.length (pl A e)) 19 k.length o) 20 k.length p) 21 k.length v) 17 5 ((k.length : Int) + 1), ?_, ⟨?_, ?_, fun i x hx => ?_⟩, kp_i (kp_ia (kp_ia (kp_ia (kp_ia (kp_refl _ m) (by simp [wK])) (by simp [wK])) (by simp [wK])) (by simp [wK])) (by simp [wK])⟩
  · unfold zF179 zJ179_20 zJ179_40 zJ179_61
    rw [a1, if_neg (by omega), if_neg (by omega), zlet, Int.toNat_natCast]
    rw [z_nc _ _ _ _ _ _ (show 17 ≠ 18 by decide), a1, if_neg (by omega), zlet, Int.toNat_natCast]
    rw [z_nc _ _ _ _ _ _ (show 17 ≠ 19 by decide), z_nc _ _ _ _ _ _ (show 17 ≠ 18 by decide), a1, if_neg (by omega), zlet, Int.toNat_natCast]
    rw [z_nc _ _ _ _ _ _ (show 17 ≠ 20 by decide), z_nc _ _ _ _ _ _ (show 17 ≠ 19 by decide), z_nc _ _ _ _ _ _ (show 17 ≠ 18 by decide), a1, if_neg (by omega), zlet, Int.toNat_natCast]
    rw [z_nc _ _ _ _ _ _ (show 17 ≠ 21 by decide), z_nc _ _ _ _ _ _ (show 17 ≠ 20 by decide), z_nc _ _ _ _ _ _ (show 17 ≠ 19 by decide), z_nc _ _ _ _ _ _ (show 17 ≠ 18 by decide), a1, if_pos (by omega), zlet]
  · rw [z_eq, List.length_append]
    show (k.length : Int) + 1 = ((k.length + 1 : Nat) : Int)
    omega
  · rw [List.length_append]
    show k.length + 1 ≤ 150
    omega
  · by_cases q : i < k.length
    · rw [List.getElem?_append_left q] at hx
      have := a3 i x hx
      rw [z_nc _ _ _ _ _ _ (by decide), z_nc _ _ _ _ _ _ (by decide), z_nc _ _ _ _ _ _ (by decide), z_nc _ _ _ _ _ _ (by decide), z_nk _ _ _ _ _ _ (by omega)]
      rw [z_nc _ _ _ _ _ _ (by decide), z_nc _ _ _ _ _ _ (by decide), z_nc _ _ _ _ _ _ (by decide), z_nk _ _ _ _ _ _ (by omega), z_nc _ _ _ _ _ _ (by decide)]
      rw [z_nc _ _ _ _ _ _ (by decide), z_nc _ _ _ _ _ _ (by decide), z_nk _ _ _ _ _ _ (by omega), z_nc _ _ _ _ _ _ (by decide), z_nc _ _ _ _ _ _ (by decide)]
      rw [z_nc _ _ _ _ _ _ (by decide), z_nk _ _ _ _ _ _ (by omega), z_nc _ _ _ _ _ _ (by decide), z_nc _ _ _ _ _ _ (by decide), z_nc _ _ _ _ _ _ (by decide)]
      exact this
    · rw [List.getElem?_append_right (by omega)] at hx
      have hi : i = k.length := by
        apply Classical.byContradiction
        intro d
        rw [List.getElem?_eq_none (by show 1 ≤ i - k.length; omega)] at hx
        cases hx
      subst hi
      rw [Nat.sub_self] at hx
      have hx : (e, o, p, v) = x := by
        have : some (e, o, p, v) = some x := hx
        cases this
        rfl
      subst hx
      rw [z_nc _ _ _ _ _ _ (by decide), z_nc _ _ _ _ _ _ (by decide), z_nc _ _ _ _ _ _ (by decide), z_nc _ _ _ _ _ _ (by decide), z_eq]
      rw [z_nc _ _ _ _ _ _ (by decide), z_nc _ _ _ _ _ _ (by decide), z_nc _ _ _ _ _ _ (by decide), z_eq]
      rw [z_nc _ _ _ _ _ _ (by decide), z_nc _ _ _ _ _ _ (by decide), z_eq]
      rw [z_nc _ _ _ _ _ _ (by decide), z_eq]
      exact ⟨rfl, rfl, rfl, rfl⟩
theorem Hn_one (A : Nat → Nat → Int) (H : Nat → List (List (Nat × List Nat))) (e j : Nat) : ∀ k : Nat, Hn A (fun i => decide (i = e)) H j k = if e < k then hx A e j (H e) else [] := by
  intro k
  induction k with
  | zero => rfl
  | succ k ih =>
    rw [Hn, ih]
    by_cases q : k = e
    · subst q
      rw [if_neg (by omega), if_pos (decide_eq_true rfl), if_pos (by omega), List.nil_append]
    · rw [if_neg (show ¬ decide (k = e) = true by rw [decide_eq_true_eq]; exact q), List.append_nil]
      by_cases d : e < k
      · rw [if_pos d, if_pos (by omega)]
      · rw [if_neg d, if_neg (by omega)]
/-- take -/
theorem c154 {k : List (Nat × Int × Nat × Nat)} (hn : 200 ≤ n) (h : RX true C Y A N i0 z) (hne : ∀ e : Nat, e < N → ¬ em A e) (hb : isD b) (hz : z + 1 < sz) (hD : DM b sz a C Y P m) (hM : MX b r c1 c2 i0 z m) (hT : TH A N b c1 H m) (hO : HO A N B H) (hB : B ≤ 100000) (hK : KG A k m) (hkl : k.length < 150) (e : Nat) (he : e < N) (h3 : A 0 e = 3) (hh : List (Nat × List Nat)) (hHe : H e = [hh]) (p v : Nat) :
    ∃ m', zF154 n (pl A e) p v m = some ((), m') ∧ MX b r c2 c1 i0 z m' ∧ TH A N b c2 (fun j => Hn A (fun i => decide (i = e)) H j N) m' ∧ KG A (k ++ [(e, orr A hh e, p, v)]) m' ∧ kp (wl (wS c2 ++ wK)) m m' := by
  have hge := isD_ge hb
  have h120 := h.2.2.2.2.2.2.2.1
  have ht := MX_T hM
  have hcc := hM.2.2.1
  have hsd : sd A e := ⟨by omega, fun d => by omega⟩
  have hl : 0 < (H e).length := by rw [hHe]; exact Nat.one_pos
  have spp : sp A e = pl A e := by unfold sp; rw [if_neg (by omega)]
  have spz := (sp_b h e (by omega)).2.2 he
  have hnx : nx A e = e + 1 := by unfold nx; rw [if_neg (by omega)]
  have l4 : lnf A e = 4 := by unfold lnf; rw [if_pos h3]
  have xn := x_nx h e he
  obtain ⟨h', q1, q2⟩ := hT.2.2.2 e (by omega) hsd (fun q => by rw [q] at hl; exact absurd hl (Nat.lt_irrefl 0))
  have : h' = hh := by
    rw [hHe] at q1
    exact List.mem_singleton.1 q1
  subst this
  obtain ⟨_, _, _, q3⟩ := hO e h' q1
  have sub1 : ∀ q ∈ wK, q ∈ wS c2 ++ wK := fun q hq => List.mem_append_right _ hq
  have sub2 : ∀ q ∈ wS c2, q ∈ wS c2 ++ wK := fun q hq => List.mem_append_left _ hq
  have swS : ∀ p ∈ wC c2, p ∈ wS c2 := fun p hp => by unfold wS; exact List.mem_cons_of_mem _ (List.mem_cons_of_mem _ (List.mem_cons_of_mem _ hp))
  have hor : A 5 e < 0 ∨ ∃ u : Nat, A 5 e = u ∧ u < e ∧ A 0 u = 4 ∧ ∃ o : Nat, ordf A u = o ∧ o < 4 := by
    by_cases q : A 5 e < 0
    · exact Or.inl q
    · obtain ⟨u, hu⟩ : ∃ u : Nat, A 5 e = u := ⟨(A 5 e).toNat, by omega⟩
      obtain ⟨g1, g2, g3, g4⟩ := h.1.n1 e u (by omega) hu
      have hor := ordf_le A (u + 1) N (by omega)
      rw [ordf_4 A u g1] at hor
      have ho4 := h.2.2.2.2.2.2.2.2.2.2.2.2.2.2 rfl
      have ho0 := ordf_0 A u
      exact Or.inr ⟨u, hu, g3, g1, (ordf A u).toNat, by omega, by omega⟩
  have s1 : zF154 n (pl A e) p v m = zJ154_32 n (pl A e) p v (orr A h' e) m := by
    unfold zF154
    rw [hM.2.2.2.1]
    dsimp only
    rw [if_pos hb, y_oa hD h (by omega) e he h3]
    dsimp only
    rcases hor with q | ⟨u, hu, g1, g2, o, ho, ho4⟩
    · unfold orr
      rw [if_pos q, if_pos q, if_pos rfl]
      rfl
    · unfold orr
      rw [if_neg (show ¬ A 5 e < 0 by omega), if_neg (show ¬ A 5 e < 0 by omega), hu, Int.toNat_natCast, ho, Int.toNat_natCast, if_neg (show ¬ (o : Int) = -1 by omega)]
      unfold zJ154_20
      rw [hM.1]
      dsimp only
      have e189 : zF189 n c1 (pl A e) o m = some (Rd A h' o, m) := by
        unfold zF189
        rw [if_neg (by omega), if_neg (by omega), if_neg (by omega), if_pos (by omega), if_pos (by omega), if_neg (by omega), show ((pl A e : Int) * 4 + o).toNat = 4 * sp A e + o by omega, q2 o ho4]
      have := q3 o ho4
      rw [if_pos ht.1, e189]
      dsimp only
      rw [if_pos (by omega)]
  clear hor
  obtain ⟨m1, a1, a2, a3⟩ := c179 (n := n) hK hkl e (orr A h' e) p v
  have M1 : MX b r c1 c2 i0 z m1 := MX_kp hM a3 (fun q => wK_n _ _ (by omega))
  have D1 : DM b sz a C Y P m1 := DM_kp hD a3 (fun c q p1 p2 => wK_n _ _ (by omega))
  have T1 : TH A N b c1 H m1 := TH_kp hT a3 (fun q => ⟨wK_n _ _ (by omega), wK_n _ _ (by omega)⟩) (wK_n _ _ (by omega))
  obtain ⟨m2, b1, b2, b3⟩ := c187 (n := n) (b := b) (c2 := c2) h m1
  have M2 : MX b r c1 c2 i0 z m2 := by
    obtain ⟨x1, x2, x3, x4, x5, x6, x7⟩ := M1
    have e0 : m2 = z_f (z_r m1 c2 4 (some b)) (c2 + 1) 0 120 := by
      have : zF187 n c2 b m1 = some ((), z_f (z_r m1 c2 4 (some b)) (c2 + 1) 0 120) := rfl
      rw [this] at b1
      cases b1
      rfl
    have hr2 : ∀ q, m2.2.1 16 q = m1.2.1 16 q := fun q => by
      rw [e0]
      show (z_r m1 c2 4 (some b)).2.1 16 q = _
      rw [z_r_rd, if_neg (by omega)]
    have hi2 : ∀ q, m2.1 16 q = m1.1 16 q := fun q => by
      rw [e0, z_f_rd, if_neg (by omega)]
      rfl
    exact ⟨by rw [hr2]; exact x1, by rw [hr2]; exact x2, x3, by rw [hr2]; exact x4, by rw [hr2]; exact x5, by rw [hi2]; exact x6, by rw [hi2]; exact x7⟩
  have D2 : DM b sz a C Y P m2 := DM_kp D1 b3 (fun c q p1 p2 => wS_n c q (by omega))
  have T2 : TH A N b c1 H m2 := TH_kp T1 b3 (fun q => ⟨wS_n _ q (by omega), wS_n _ q (by omega)⟩) (wS_n _ _ (by omega))
  obtain ⟨m3, w1, w2, w3, _⟩ := cgo (n := n) (by omega) h hne hb hz hcc m2 D2 T2 b2 hO hB e he hsd hl
  obtain ⟨m4, v1, v2, v3⟩ := w3 (by omega)
  have M3 : MX b r c1 c2 i0 z m3 := MX_kp M2 w2 (fun q => wC_n 16 q (by omega))
  have M4 : MX b r c1 c2 i0 z m4 := MX_kp M2 v2 (fun q => wC_n 16 q (by omega))
  obtain ⟨m5, u1, u2, u3⟩ := c156 (n := n) M4
  have w2n : ∀ a k : Nat, a ≠ 16 → wl [(16, 1), (16, 2)] a k = false := fun a k ha => by
    unfold wl
    rw [List.any_eq_false]
    intro p hp
    simp at hp
    rcases hp with rfl | rfl <;> simp <;> omega
  have hK' : (fun j => ([] : List (List (Nat × List Nat))) ++ hx A e j (H e)) = (fun j => Hn A (fun i => decide (i = e)) H j N) := by
    funext j
    rw [Hn_one, if_pos he, List.nil_append]
  rw [hK'] at v3
  refine ⟨m5, ?_, u2, TH_kp v3 u3 (fun k => ⟨w2n _ _ (by omega), w2n _ _ (by omega)⟩) (w2n _ _ (by omega)), ?_, ?_⟩
  · rw [s1]
    unfold zJ154_32
    rw [a1]
    dsimp only
    rw [M1.2.1]
    dsimp only
    rw [if_pos ht.2.1, M1.2.2.2.1]
    dsimp only
    rw [if_pos hb, b1]
    dsimp only
    unfold zJ154_57
    rw [M2.2.1]
    dsimp only
    rw [if_pos ht.2.1, M2.1]
    dsimp only
    rw [spp] at w1
    rw [if_pos ht.1, w1]
    dsimp only
    unfold zJ154_69
    rw [M3.2.1]
    dsimp only
    rw [hnx, show ((pl A (e + 1) : Nat) : Int) = (pl A e : Int) + 4 by omega] at v1
    rw [if_pos ht.2.1, if_pos (by omega), v1]
    dsimp only
    rw [u1]
  · have K2 := KG_kp a2 b3 (wS_n _ _ (by omega)) (fun c q p1 p2 => wS_n c q (by omega))
    have K4 := KG_kp K2 v2 (wC_n _ _ (by omega)) (fun c q p1 p2 => wC_n c q (by omega))
    exact KG_kp K4 u3 (w2n _ _ (by decide)) (fun c q p1 p2 => w2n c q (by omega))
  · exact kp_tr (kp_sub sub1 a3) (kp_tr (kp_sub sub2 b3) (kp_tr (kp_sub (fun q hq => sub2 q (swS q hq)) v2) (kp_sub (by simp [wS]) u3)))
/-- endOfTaken -/
theorem c153 (hn : 2000 ≤ n) (h : RX true C Y A N i0 z) (e : Nat) (he : e < N) (h3 : A 0 e = 3) (hR : RTk r S X m) (hr : isR r) (h6 : m.2.1 16 6 = some r) (lo en p : Nat) (hB : CB X S lo en) (hlo : lo ≤ p) (hp : p < en) : ∃ v : Int, zF153 n (C (pl A e + 3)) p m = some (v, m) ∧ TKX X (A 4 e) p v := by
  have x3 := x_w3 h e he h3
  have hS := hR.2.1
  have hb := hB.1
  have e48 : zJ153_48 n p m = some ((p : Int) + 1, m) := by
    unfold zJ153_48 zJ153_51
    rw [if_pos (by omega)]
  rw [x3.2.2.2.2.2.1]
  rcases x3.2.2.2.2.1 with d | d | d | d <;> rw [d]
  · refine ⟨(p : Int) + 1, ?_, Or.inr (Or.inr ⟨by decide, fun q => absurd q.1 (by decide), rfl⟩)⟩
    unfold zF153
    rw [if_neg (by decide), if_neg (by decide)]
    exact e48
  · refine ⟨(p : Int) + 1, ?_, Or.inr (Or.inr ⟨by decide, fun q => absurd q.1 (by decide), rfl⟩)⟩
    unfold zF153
    rw [if_neg (by decide), if_neg (by decide)]
    exact e48
  · have st : zF153 n 1560 p m = if opn (X p) then zJ153_35 n p m else zJ153_48 n p m := by
      unfold zF153
      rw [if_neg (by decide), if_pos rfl, h6]
      dsimp only
      rw [if_pos hr, c170 hR]
      dsimp only
      rw [zF13_eq]
      dsimp only
      rw [ib]
    by_cases q : opn (X p)
    · obtain ⟨k, g1, g2⟩ := hB.2.2 p hlo hp q
      refine ⟨(k : Int) + 1, ?_, Or.inr (Or.inl ⟨rfl, q, k, g2, rfl⟩)⟩
      rw [st, if_pos q]
      unfold zJ153_35 zJ153_51
      rw [h6]
      dsimp only
      rw [if_pos hr, c172 hR n (by omega) p k (by omega) g2]
      dsimp only
      rw [if_pos (by omega)]
    · refine ⟨(p : Int) + 1, ?_, Or.inr (Or.inr ⟨by decide, fun w => q w.2, rfl⟩)⟩
      rw [st, if_neg q]
      exact e48
  · obtain ⟨v, e1, e2⟩ := c157 (n := n) (by omega) hR hr h6 8 0 (by omega) (by omega) p (by omega)
    refine ⟨v, ?_, Or.inl ⟨rfl, ?_⟩⟩
    · unfold zF153 zF157
      rw [if_pos rfl]
      rw [show ((0 : Nat) : Int) = 0 from rfl] at e1
      rw [e1]
    · rcases e2 with e2 | ⟨e', _, e2, f, e3⟩
      · exact Or.inl e2
      · exact Or.inr ⟨e', e2, f, e3⟩
/-- conclude -/
theorem c150 (hn : 10 ≤ n) (h : RX true C Y A N i0 z) (hM : MX b r c1 c2 i0 z m) (hT : TH A N b c1 H m) : ∃ m', zF150 n m = some (if (H N).length = 0 then -2001 else if (H N).length = 1 then 0 else -2002, m') ∧ kp (wl [(22, 1000)]) m m' ∧ (H N ≠ [] → ∃ hh ∈ H N, ∀ o : Nat, o < 4 → m'.1 22 o = Rd A hh o) := by
  have h120 := h.2.2.2.2.2.2.2.1
  have ht := MX_T hM
  have hcc := hM.2.2.1
  have h6 := h.2.2.2.1
  have hsd : sd A N := ⟨by omega, fun d => by omega⟩
  have spN : sp A N = z := by unfold sp; rw [if_neg (by omega), x_N h]
  have st : ∀ (f o : Nat) (m2 : ZM), o < 4 → (∀ a k, a ≠ 22 → m2.1 a k = m.1 a k) → m2.2 = m.2 → zL150_2 n (f + 1) o m2 = zL150_2 n f ((o + 1 : Nat) : Int) (z_i m2 22 o (m.1 (c1 + 2) (4 * z + o))) := by
    intro f o m2 ho g1 g2
    have e189 : zF189 n c1 z o m2 = some (m.1 (c1 + 2) (4 * z + o), m2) := by
      unfold zF189
      rw [if_neg (by omega), if_neg (by omega), if_neg (by omega), if_pos (by omega), if_pos (by omega), if_neg (by omega), show ((z : Int) * 4 + o).toNat = 4 * z + o by omega, g1 _ _ (by omega)]
    rw [zL150_2, if_neg (by omega), g2, hM.1]
    dsimp only
    rw [if_pos ht.1, g1 16 5 (by decide), hM.2.2.2.2.2.2, e189]
    dsimp only
    unfold zF180 zJ180_16
    rw [if_neg (by omega), if_neg (by omega), if_neg (by omega), zlet, Int.toNat_natCast]
    dsimp only
    unfold zJ150_27
    rw [if_pos (by omega), show ((o + 1 : Nat) : Int) = (o : Int) + 1 by omega]
  have nxt : ∀ (m2 : ZM) (o : Nat) (y : Int), (∀ a k, a ≠ 22 → m2.1 a k = m.1 a k) → ∀ a k, a ≠ 22 → (z_i m2 22 o y).1 a k = m.1 a k := fun m2 o y g a k ha => by
    rw [z_nc _ _ _ _ _ _ ha]; exact g a k ha
  obtain ⟨n', rfl⟩ : ∃ n', n = n' + 1 + 1 + 1 + 1 + 1 := ⟨n - 5, by omega⟩
  have g0 : ∀ a k, a ≠ 22 → m.1 a k = m.1 a k := fun _ _ _ => rfl
  have g1 := nxt m 0 (m.1 (c1 + 2) (4 * z + 0)) g0
  have g2 := nxt _ 1 (m.1 (c1 + 2) (4 * z + 1)) g1
  have g3 := nxt _ 2 (m.1 (c1 + 2) (4 * z + 2)) g2
  have g4 := nxt _ 3 (m.1 (c1 + 2) (4 * z + 3)) g3
  have e0 := st (n' + 1 + 1 + 1 + 1) 0 m (by omega) g0 rfl
  have e1 := st (n' + 1 + 1 + 1) 1 _ (by omega) g1 rfl
  have e2 := st (n' + 1 + 1) 2 _ (by omega) g2 rfl
  have e3 := st (n' + 1) 3 _ (by omega) g3 rfl
  have e4 : ∀ m2 : ZM, (∀ a k, a ≠ 22 → m2.1 a k = m.1 a k) → m2.2 = m.2 → zL150_2 (n' + 1 + 1 + 1 + 1 + 1) (n' + 1) ((3 + 1 : Nat) : Int) m2 = some (if (H N).length = 0 then -2001 else if (H N).length = 1 then 0 else -2002, m2) := by
    intro m2 k1 k2
    rw [zL150_2, if_pos (by omega), k2, hM.1]
    dsimp only
    have hm := hT.2.1 N (by omega) hsd
    rw [spN] at hm
    rw [if_pos ht.1, k1 16 5 (by decide), hM.2.2.2.2.2.2, c188 c1 z (by omega) m2]
    dsimp only
    rw [k1 _ _ (by omega), hm]
    unfold zJ150_45 zJ150_67
    by_cases q0 : (H N).length = 0
    · rw [if_pos (mn_0.2 q0), if_pos q0]
    · rw [if_neg (fun d => q0 (mn_0.1 d)), if_neg q0]
      by_cases q1 : (H N).length = 1
      · rw [if_pos (mn_1.2 q1), if_pos q1]
      · rw [if_neg (fun d => q1 (mn_1.1 d)), if_neg q1]
  refine ⟨_, e0.trans (e1.trans (e2.trans (e3.trans (e4 _ g4 rfl)))), kp_ia (kp_ia (kp_ia (kp_ia (kp_refl _ m) (by simp)) (by simp)) (by simp)) (by simp), fun hne => ?_⟩
  obtain ⟨hh, q1, q2⟩ := hT.2.2.2 N (by omega) hsd hne
  rw [spN] at q2
  refine ⟨hh, q1, fun o ho => ?_⟩
  rw [← q2 o ho]
  obtain rfl | rfl | rfl | rfl : o = 0 ∨ o = 1 ∨ o = 2 ∨ o = 3 := by omega
  · rw [z_nk _ _ _ _ _ _ (by decide), z_nk _ _ _ _ _ _ (by decide), z_nk _ _ _ _ _ _ (by decide), z_eq]
  · rw [z_nk _ _ _ _ _ _ (by decide), z_nk _ _ _ _ _ _ (by decide), z_eq]
  · rw [z_nk _ _ _ _ _ _ (by decide), z_eq]
  · rw [z_eq]
end
