/-! expand, the reference's side; both sides. -/
def wRR : List (Nat × Nat) := w32 ++ (w78 ++ wR)
theorem wRR_n {c k : Nat} (h : c < 83 ∨ c = 84 ∨ c = 86 ∨ c = 87 ∨ (c = 88 ∧ k ≠ 5) ∨ (c = 89 ∧ k ≠ 5) ∨ (c = 83 ∧ k = 9)) : wl wRR c k = false := by
  have h1 := wR_n (c := c) (k := k) (by omega)
  have h2 : wl (w32 ++ w78) c k = false := by
    unfold wl w32 w78
    simp
    omega
  unfold wl at h1 h2 ⊢
  unfold wRR
  rw [← List.append_assoc, List.any_append, h1, h2]
  rfl
theorem wRR_32 : ∀ p ∈ w32, p ∈ wRR := fun _ hp => List.mem_append_left _ hp
theorem wRR_78 : ∀ p ∈ w78, p ∈ wRR := fun _ hp => List.mem_append_right _ (List.mem_append_left _ hp)
theorem wRR_R : ∀ p ∈ wR, p ∈ wRR := fun _ hp => List.mem_append_right _ (List.mem_append_right _ hp)
section
variable {n : Nat}
theorem m82x (hn : 2000000000 ≤ n) (L : Nat) (T : Nat → Int) (c : Nat) (TT : Nat → Nat → Int) (LL : Nat → Nat) (YY : Nat → Nat → Nat → Int) (m : ZM) (hL : L ≤ 120) (hch : chs T L) (h1 : m.1 83 1 = L) (h84 : ∀ k : Nat, k < L → m.1 84 k = T k) (hc : c ≤ 5) (h9 : m.1 83 9 = c) (hK : KFF c TT LL m) (hP : ∀ d : Nat, d < c → PD TT LL YY d) (v : Int) :
    ((bal (tc T L) n 0 0 (fun _ => 0)).1 = false → v = -1 - (ts T L (bal (tc T L) n 0 0 (fun _ => 0)).2 : Int) → ∃ m', zF82 n m = some (v, m') ∧ kp (wl wRR) m m' ∧ m'.1 83 1 = 0 ∧ m'.1 83 37 = 0 ∧ m'.1 83 38 = 0) ∧
    ((bal (tc T L) n 0 0 (fun _ => 0)).1 = true → OK0 (txl (tc T L) (bal (tc T L) n 0 0 (fun _ => 0)).2) → ∀ tr : List (Nat × Nat × OL), XV c TT LL tr 0 0 (txl (tc T L) (bal (tc T L) n 0 0 (fun _ => 0)).2) v → tr.length ≤ 10 → ∃ m', zF82 n m = some (v, m') ∧ kp (wl wRR) m m' ∧ m'.1 83 1 = 0 ∧ m'.1 83 38 = tr.length ∧ ((0 ≤ v ∧ RT2 (lstL tr (txl (tc T L) (bal (tc T L) n 0 0 (fun _ => 0)).2)) m' ∧ m'.1 83 37 = v) ∨ (v < 0 ∧ m'.1 83 37 = 0)) ∧ UA 1 tr (m'.1 107)) := by
  obtain ⟨m0, hm0⟩ : ∃ m0, m0 = z_i (z_i m 83 37 0) 83 38 0 := ⟨_, rfl⟩
  have k0 : kp (wl [(83, 37), (83, 38)]) m m0 := by
    rw [hm0]
    exact kp_i (kp_i (kp_refl _ m) (by simp)) (by simp)
  have k0n : ∀ {a q : Nat}, a ≠ 83 ∨ (q ≠ 37 ∧ q ≠ 38) → wl [(83, 37), (83, 38)] a q = false := fun {a q} x => by
    unfold wl
    simp
    omega
  have s0 : ∀ p ∈ [((83, 37) : Nat × Nat), (83, 38)], p ∈ wRR := fun p hp => wRR_R p (wR_e (by simp at hp; rcases hp with hp | hp <;> simp [hp]))
  obtain ⟨m1, a1, a2, a3, a4, a5⟩ := rty_eq n (by omega) T L m0 hL hch (by rw [(k0.1 83 1 (k0n (by omega))).1]; exact h1) (fun k hk => by rw [(k0.1 84 k (k0n (by omega))).1]; exact h84 k hk)
  obtain ⟨m2, hm2⟩ : ∃ m2, m2 = z_i m1 83 34 0 := ⟨_, rfl⟩
  have k2 : kp (wl [(83, 34)]) m1 m2 := by
    rw [hm2]
    exact kp_i (kp_refl _ m1) (by simp)
  have k2n : ∀ {a q : Nat}, a ≠ 83 ∨ q ≠ 34 → wl [(83, 34)] a q = false := fun {a q} x => by
    unfold wl
    simp
    omega
  have CU2 : CU T L 0 m2 := CU_kp a2 k2 (k2n (by omega)) (fun k => k2n (by omega)) (k2n (by omega)) (k2n (by omega)) (k2n (by omega)) (k2n (by omega))
  obtain ⟨w, m3, b1, b2, b3, b4, b5⟩ := rt_m n (by omega) T L n 0 0 (fun _ => 0) m2 CU2 (by omega) (fun j hj => by omega) (by rw [hm2, z_eq]; rfl) (fun j hj => by omega) (by omega) (by omega)
  obtain ⟨bb, hbb⟩ : ∃ bb, bb = bal (tc T L) n 0 0 (fun _ => 0) := ⟨_, rfl⟩
  rw [← hbb] at b2 b4 b5 ⊢
  have w32n : ∀ {a q : Nat}, (a = 83 ∧ (q = 9 ∨ q = 37 ∨ q = 38 ∨ q = 34)) ∨ (a ≠ 83 ∧ a ≠ 85) → wl w32 a q = false := fun {a q} x => by
    unfold wl w32
    simp
    omega
  have w78n : ∀ {a q : Nat}, (a = 83 ∧ (q = 9 ∨ q = 37 ∨ q = 38 ∨ q = 1)) ∨ (a ≠ 83 ∧ a ≠ 103 ∧ a ≠ 105 ∧ a ≠ 106) → wl w78 a q = false := fun {a q} x => by
    unfold wl w78
    simp
    omega
  have kR : kp (wl wRR) m m3 := kp_tr (kp_tr (kp_tr (kp_sub s0 k0) (kp_sub wRR_32 a5)) (kp_sub (fun p hp => wRR_78 p (by simp at hp; rw [hp]; simp [w78])) k2)) (kp_sub wRR_78 b3)
  have e37 : m3.1 83 37 = 0 := by rw [(b3.1 83 37 (w78n (by omega))).1, (k2.1 83 37 (k2n (by omega))).1, (a5.1 83 37 (w32n (by omega))).1, hm0, z_nk _ _ _ _ _ _ (by decide), z_eq]
  have e38 : m3.1 83 38 = 0 := by rw [(b3.1 83 38 (w78n (by omega))).1, (k2.1 83 38 (k2n (by omega))).1, (a5.1 83 38 (w32n (by omega))).1, hm0, z_eq]
  have e1 : m3.1 83 1 = 0 := by rw [(b3.1 83 1 (w78n (by omega))).1, (k2.1 83 1 (k2n (by omega))).1]; exact a3
  have st : zF82 n m = (if w = 0 then (if rg ((-1) - (m3.1 83 8)) then (some (((-1) - (m3.1 83 8)), m3)) else none) else (zL82_30 n n 0 m3)) := by
    unfold zF82
    rw [zlet, zlet, ← hm0, a1]
    dsimp only
    unfold zJ82_14
    have e78 : zF78 n m1 = some (w, m3) := by
      unfold zF78
      rw [zlet, ← hm2]
      exact b1
    rw [e78]
  refine ⟨fun hb hv => ?_, fun hb hok tr hV htr => ?_⟩
  · rw [hb, if_neg (by decide)] at b2
    have h8 := b5 hb
    have := ts_le T L bb.2
    refine ⟨m3, ?_, kR, e1, e37, e38⟩
    rw [st, if_pos b2, h8, if_pos (by omega), hv]
  · rw [hb, if_pos rfl] at b2
    obtain ⟨t1, t2, t3⟩ := b4 hb
    have hlen := txl_len (tc T L) bb.2
    have E3 : ME c TT LL 0 (txl (tc T L) bb.2) m3 := by
      refine ⟨by rw [(kR.1 83 9 (wRR_n (by omega))).1]; exact h9, KFF_k hK hc kR (fun a q x => wRR_n (by omega)), ⟨by rw [t1, hlen], fun p hp => ?_⟩, by rw [e38]; rfl⟩
      rw [hlen] at hp
      obtain ⟨z1, z2⟩ := txl_get (tc T L) bb.2 p hp
      rw [(t3 p hp).1, (t3 p hp).2.1, z1, z2]
      exact ⟨rfl, rfl⟩
    obtain ⟨m', d1, d2, d3, d4, d5, d6⟩ := m82 hn hc hP tr 0 0 n (txl (tc T L) bb.2) v m3 hV E3 hok (by omega) (by omega) (by omega) (by omega)
    refine ⟨m', ?_, kp_tr kR (kp_sub wRR_R d2), by rw [(d2.1 83 1 (wR_n (by omega))).1]; exact e1, by rw [d3, Nat.zero_add], ?_, d5⟩
    · rw [st, if_neg (by omega)]
      rw [show ((0 : Nat) : Int) = 0 from rfl] at d1
      exact d1
    · rcases d4 with q | ⟨q1, q2⟩
      · exact Or.inl q
      · exact Or.inr ⟨q1, by rw [q2]; exact e37⟩
/-- what always holds, what is typed left out -/
def IN0 (m : ZM) : Prop := q34 m ∧ DFS m ∧ MI m ∧ (∃ r s, RW m r s) ∧ UD m
def Inv (m : ZM) : Prop := (∃ L T, TX L T m) ∧ IN0 m
theorem op_exp (hn : 2000000000 ≤ n) (m : ZM) (h : Inv m) : ∃ v m1 m2, zF3 n m = some (v, m1) ∧ zF82 n m1 = some (v, m2) ∧ Inv m2 := by
  obtain ⟨⟨L, T, hX⟩, hq, hF, hI, ⟨r, s, hW⟩, hU⟩ := h
  obtain ⟨x1, x2, x3, x4, x5, x6⟩ := hX
  obtain ⟨c, TT, LL, YY, hc, h05, h9, hDF, hKF⟩ := DFS_f hF
  have hch : chs T L := fun k hk => (x6 k hk).2.2
  obtain ⟨v, m1, r', s', a1, a2, a3, a4, a5, a6, a7, a8, a9, a10⟩ := c3 (n := n) (by omega) L T c TT LL YY m x1 hch x2 x3 (fun k hk => (x6 k hk).1) hc h05 hDF hI r s hW.1 hW.2.1 hW.2.2.1
  have P1 : ∀ d : Nat, d < c → PD TT LL YY d := fun d hd => DFF_PD hDF d hd
  have K1 : KFF c TT LL m1 := KFF_k hKF hc a2 (fun a q x => wE_n (by omega))
  obtain ⟨mf, mt⟩ := m82x hn L T c TT LL YY m1 x1 hch (by rw [(a2.1 83 1 (wE_n (by omega))).1]; exact x5) (fun k hk => by rw [(a2.1 84 k (wE_n (by omega))).1]; exact (x6 k hk).2.1) hc (by rw [(a2.1 83 9 (wE_n (by omega))).1]; exact h9) K1 P1 v
  -- what both ends share
  have fin : ∀ m2 : ZM, zF82 n m1 = some (v, m2) → kp (wl wRR) m1 m2 → m2.1 83 1 = 0 → RW m2 r' s' → UD m2 → ∃ v m1 m2, zF3 n m = some (v, m1) ∧ zF82 n m1 = some (v, m2) ∧ Inv m2 := by
    intro m2 e1 e2 e3 e4 e5
    refine ⟨v, m1, m2, a1, e1, ⟨0, T, by omega, ?_, ?_, ?_, e3, fun k hk => by omega⟩, ?_, ?_, MI_k a6 e2 (wRR_n (by omega)) (wRR_n (by omega)), ⟨r', s', e4⟩, e5⟩
    · rw [(e2.1 1 1 (wRR_n (by omega))).1]; exact a3
    · rw [(e2.1 1 2 (wRR_n (by omega))).1]; exact a4
    · rw [(e2.1 1 3 (wRR_n (by omega))).1]; exact a5
    · exact q34_kp e2 (wRR_n (by omega)) (q34_kp a2 (wE_n (by omega)) hq)
    · refine ⟨c, hc, ?_, ?_, fun d hd => ⟨TT d, LL d, YY d, ?_, ?_⟩⟩
      · rw [(e2.1 0 5 (wRR_n (by omega))).1, (a2.1 0 5 (wE_n (by omega))).1]; exact h05
      · rw [(e2.1 83 9 (wRR_n (by omega))).1, (a2.1 83 9 (wE_n (by omega))).1]; exact h9
      · exact DFF_k (DFF_k hDF a2 (fun a q x1 x2 => wE_n (by omega)) hc) e2 (fun a q x1 x2 => wRR_n (by omega)) hc d hd
      · exact KFF_k K1 hc e2 (fun a q x => wRR_n (by omega)) d hd
  have hr34 : r' = 34 ∨ r' = 37 := (isR_l a7).1
  rcases a10 with ⟨b1, b2, b3, b4⟩ | ⟨b1, b2, b3, tr, b4, b5, b6, b7, b8⟩
  · obtain ⟨m2, e1, e2, e3, e4, e5⟩ := mf b1 b2
    refine fin m2 e1 e2 e3 ⟨a7, ?_, ?_, ?_, ?_, ?_, fun k hk => ?_⟩ ⟨0, by omega, ?_, ?_, fun q hq => by omega⟩
    · rw [(e2.1 12 4 (wRR_n (by omega))).2]; exact a8
    · rw [(e2.1 12 5 (wRR_n (by omega))).2]; exact a9
    · rw [(e2.1 r' 2 (wRR_n (by omega))).1, b3]; exact Int.le_refl _
    · rw [(e2.1 r' 2 (wRR_n (by omega))).1, b3]; decide
    · rw [(e2.1 r' 2 (wRR_n (by omega))).1, b3]; exact e4
    · rw [(e2.1 r' 2 (wRR_n (by omega))).1, b3] at hk; omega
    · rw [(e2.1 12 6 (wRR_n (by omega))).1]; exact b4
    · exact e5
  · obtain ⟨m2, e1, e2, e3, e4, e5, e6⟩ := mt b1 b3 tr b4 b5
    refine fin m2 e1 e2 e3 ?_ ⟨tr.length, b5, ?_, e4, fun q hq => ?_⟩
    · have q4 : m2.2.1 12 4 = some r' := by rw [(e2.1 12 4 (wRR_n (by omega))).2]; exact a8
      have q5 : m2.2.1 12 5 = some s' := by rw [(e2.1 12 5 (wRR_n (by omega))).2]; exact a9
      have kr : ∀ a q : Nat, a < 83 → m2.1 a q = m1.1 a q := fun a q x => (e2.1 a q (wRR_n (by omega))).1
      rcases b7 with ⟨g1, g2, g3, g4, g5⟩ | ⟨g1, g2⟩
      · rcases e5 with ⟨f1, f2, f3⟩ | ⟨f1, _⟩
        · obtain ⟨l1, l2, l3⟩ := g2
          rw [if_pos (by omega)] at l1
          refine ⟨a7, q4, q5, ?_, ?_, ?_, fun k hk => ?_⟩
          · rw [kr r' 2 (by omega), l1]; omega
          · rw [kr r' 2 (by omega), l1]; omega
          · rw [kr r' 2 (by omega), l1, f3, g3]
          · rw [kr r' 2 (by omega), l1] at hk
            have hx := xf_lo (lstL tr (txl (tc T L) (bal (tc T L) n 0 0 (fun _ => 0)).2)) k (by omega)
            have hl3 := l3 k _ (by omega) hx
            have hf2 := f2.2 k (by omega)
            rw [kr (r' + 1) k (by omega), kr (r' + 2) k (by omega), hf2.1, hf2.2]
            exact ⟨hl3.1, hl3.2, g5.2.2 _ (xf_mem _ k (by omega))⟩
        · omega
      · rcases e5 with ⟨f1, _⟩ | ⟨f1, f2⟩
        · omega
        · refine ⟨a7, q4, q5, ?_, ?_, ?_, fun k hk => ?_⟩
          · rw [kr r' 2 (by omega), g2]; exact Int.le_refl _
          · rw [kr r' 2 (by omega), g2]; decide
          · rw [kr r' 2 (by omega), g2]; exact f2
          · rw [kr r' 2 (by omega), g2] at hk; omega
    · rw [(e2.1 12 6 (wRR_n (by omega))).1]; exact b6
    · have hx : tr[q]? = some (tr[q]'hq) := List.getElem?_eq_getElem hq
      have u1 := b8 q _ hx
      have u2 := e6 q _ hx
      rw [(e2.1 33 q (wRR_n (by omega))).1]
      rw [Nat.zero_add] at u1
      rw [show q + 1 = 1 + q by omega, u1, u2]
/-- what a call that leaves these cells alone keeps -/
theorem IN0_k {m m' : ZM} {w : List (Nat × Nat)} (h : q34 m' ∧ DFS m') (h' : IN0 m) (k : kp (wl w) m m') (hw : ∀ a q : Nat, (a = 12 ∨ a = 16 ∨ a = 33 ∨ (34 ≤ a ∧ a ≤ 39) ∨ (a = 83 ∧ (q = 37 ∨ q = 38)) ∨ a = 105 ∨ a = 106 ∨ a = 107) → wl w a q = false) : IN0 m' := by
  obtain ⟨_, _, hI, ⟨r, s, w1, w2, w3, w4, w5, w6, w7⟩, ⟨i, u1, u2, u3, u4⟩⟩ := h'
  have hr : 34 ≤ r ∧ r ≤ 37 := by omega
  have er : m'.1 r 2 = m.1 r 2 := (k.1 r 2 (hw r 2 (by omega))).1
  refine ⟨h.1, h.2, MI_k hI k (hw _ _ (by omega)) (hw _ _ (by omega)), ⟨r, s, w1, ?_, ?_, ?_, ?_, ?_, fun q hq => ?_⟩, ⟨i, u1, ?_, ?_, fun q hq => ?_⟩⟩
  · rw [(k.1 12 4 (hw _ _ (by omega))).2]; exact w2
  · rw [(k.1 12 5 (hw _ _ (by omega))).2]; exact w3
  · rw [er]; exact w4
  · rw [er]; exact w5
  · rw [er, (k.1 83 37 (hw _ _ (by omega))).1]; exact w6
  · rw [er] at hq
    rw [(k.1 (r + 1) q (hw _ _ (by omega))).1, (k.1 (r + 2) q (hw _ _ (by omega))).1, (k.1 105 q (hw _ _ (by omega))).1, (k.1 106 q (hw _ _ (by omega))).1]
    exact w7 q hq
  · rw [(k.1 12 6 (hw _ _ (by omega))).1]; exact u2
  · rw [(k.1 83 38 (hw _ _ (by omega))).1]; exact u3
  · rw [(k.1 33 q (hw _ _ (by omega))).1, (k.1 107 (q + 1) (hw _ _ (by omega))).1]; exact u4 q hq
theorem DFS_k {m m' : ZM} {w : List (Nat × Nat)} (h : DFS m) (k : kp (wl w) m m') (hw : ∀ a q : Nat, ((a = 0 ∧ q = 5) ∨ (a = 83 ∧ q = 9) ∨ (41 ≤ a ∧ a ≤ 82) ∨ a = 86 ∨ a = 87 ∨ (a = 88 ∧ q ≠ 5) ∨ (a = 89 ∧ q ≠ 5)) → wl w a q = false) : DFS m' := by
  obtain ⟨c, TT, LL, YY, hc, h05, h9, hDF, hKF⟩ := DFS_f h
  refine ⟨c, hc, by rw [(k.1 0 5 (hw _ _ (by omega))).1]; exact h05, by rw [(k.1 83 9 (hw _ _ (by omega))).1]; exact h9, fun d hd => ⟨TT d, LL d, YY d, ?_, ?_⟩⟩
  · exact DFF_k hDF k (fun a q x1 x2 => hw _ _ (by omega)) hc d hd
  · exact KFF_k hKF hc k (fun a q x => hw _ _ (by omega)) d hd
end
theorem Inv_0 : Inv (zm M0) := by
  have e0 : ∀ c k : Nat, (zm M0).1 c k = 0 := fun _ _ => rfl
  refine ⟨⟨0, fun _ => 0, by omega, e0 1 1, e0 1 2, e0 1 3, e0 83 1, fun k hk => by omega⟩, Or.inl (e0 3 4), ⟨0, by omega, e0 0 5, e0 83 9, fun d hd => by omega⟩, ⟨23, 27, rfl, rfl, Or.inl ⟨rfl, rfl⟩⟩, ⟨34, 37, Or.inl ⟨rfl, rfl⟩, rfl, rfl, ?_, ?_, ?_, fun k hk => ?_⟩, ⟨0, by omega, e0 12 6, e0 83 38, fun q hq => by omega⟩⟩
  · rw [e0]; exact Int.le_refl _
  · rw [e0]; decide
  · rw [e0, e0]
  · rw [e0] at hk; omega
theorem Inv_call (m : ZM) (h : Inv m) (op a b : Int) (ha : rg a) (hb : rg b) : ∃ m', Inv m' ∧ lw_call op a b m m' := by
  have h0 := h
  obtain ⟨⟨L, T, hX⟩, hq, hF, hI, ⟨r, s, hW⟩, ⟨i, u1, u2, u3, u4⟩⟩ := h0
  by_cases c0 : op = 0
  ·
    obtain ⟨v, m1, m2, L', T', e1, e2, e3, e4, e5⟩ := op_type 10 (Nat.le_refl _) a b L T m hX
    have w1n : ∀ c k : Nat, c ≠ 1 → c ≠ 2 → wl w1 c k = false := fun c k x1 x2 => by
      unfold wl w1
      simp
      omega
    have w20n : ∀ c k : Nat, (c = 83 → k ≠ 1) → c ≠ 84 → wl w20 c k = false := fun c k x1 x2 => by
      unfold wl w20
      simp
      omega
    have F1 := DFS_k hF e3 (fun a q x => w1n _ _ (by omega) (by omega))
    have F2 := DFS_k F1 e4 (fun a q x => w20n _ _ (by omega) (by omega))
    have q1 := q34_kp e3 (w1n _ _ (by omega) (by omega)) hq
    have q2 := q34_kp e4 (w20n _ _ (by omega) (by omega)) q1
    have I1 := IN0_k ⟨q1, F1⟩ h.2 e3 (fun a q x => w1n _ _ (by omega) (by omega))
    exact ⟨m2, ⟨⟨L', T', e5⟩, IN0_k ⟨q2, F2⟩ I1 e4 (fun a q x => w20n _ _ (by omega) (by omega))⟩, by unfold lw_call; rw [if_pos c0]; exact ⟨10, 10, v, m1, e1, e2⟩⟩
  by_cases c1 : op = 1
  ·
    obtain ⟨v, m1, m2, c, e1, e2, e3, e4, e5, e6, e7, e8⟩ := op_def 200000 (Nat.le_refl _) L T m hX hq hF
    have w58n : ∀ c k : Nat, (c < 83 ∨ c = 105 ∨ c = 106 ∨ c = 107 ∨ (c = 83 ∧ (k = 37 ∨ k = 38))) → wl w58 c k = false := fun c k x => by
      unfold wl w58
      simp
      omega
    obtain ⟨_, _, hI, hR, hU⟩ := h.2
    have kk : IN0 m2 := by
      have hw1 : ∀ a q : Nat, (a = 12 ∨ a = 16 ∨ a = 33 ∨ (34 ≤ a ∧ a ≤ 39) ∨ (a = 83 ∧ (q = 37 ∨ q = 38)) ∨ a = 105 ∨ a = 106 ∨ a = 107) → wl (wdf c) a q = false := fun a q x => wdf_n (by omega)
      have hw2 : ∀ a q : Nat, (a = 12 ∨ a = 16 ∨ a = 33 ∨ (34 ≤ a ∧ a ≤ 39) ∨ (a = 83 ∧ (q = 37 ∨ q = 38)) ∨ a = 105 ∨ a = 106 ∨ a = 107) → wl w58 a q = false := fun a q x => w58n a q (by omega)
      have k12 : kp (wl (wdf c ++ w58)) m m2 := kp_tr (kp_sub (fun p hp => List.mem_append_left _ hp) e6) (kp_sub (fun p hp => List.mem_append_right _ hp) e7)
      refine IN0_k ⟨e4, e5⟩ h.2 k12 (fun a q x => ?_)
      have y1 := hw1 a q x
      have y2 := hw2 a q x
      unfold wl at y1 y2 ⊢
      rw [List.any_append, y1, y2]
      rfl
    exact ⟨m2, ⟨⟨0, T, e3⟩, kk⟩, by unfold lw_call; rw [if_neg c0, if_pos c1]; exact ⟨200000, 200000, v, m1, e1, e2⟩⟩
  by_cases c2 : op = 2
  · obtain ⟨v, m1, m2, e1, e2, e3⟩ := op_exp (n := 2000000000) (Nat.le_refl _) m h
    exact ⟨m2, e3, by unfold lw_call; rw [if_neg c0, if_neg c1, if_pos c2]; exact ⟨2000000000, 2000000000, v, m1, e1, e2⟩⟩
  obtain ⟨c, hc, h05, h9, hDFa⟩ := hF
  by_cases c3 : op = 3
  · exact ⟨m, h, by unfold lw_call; rw [if_neg c0, if_neg c1, if_neg c2, if_pos c3]; exact ⟨0, 0, _, m, zF4_eq 0 m, by rw [h05, ← h9]; exact zF59_eq 0 m⟩⟩
  by_cases c4 : op = 4
  · refine ⟨m, h, ?_⟩
    unfold lw_call; rw [if_neg c0, if_neg c1, if_neg c2, if_neg c3, if_pos c4]
    refine ⟨0, 0, _, m, zF5_eq 0 a m (by omega), ?_⟩
    show zF60 0 a m = _
    rw [zF60_eq 0 a m (by omega) (by omega), h05, h9]
    by_cases q : 0 ≤ a ∧ a < (c : Int)
    · obtain ⟨T', L', Y', g1, g2⟩ := hDFa a.toNat (by omega)
      rw [if_pos q, if_pos q, g2.2.2.2, g1.2.2.2.1.2.2.2.2.2.1]
    · rw [if_neg q, if_neg q]
  by_cases c5 : op = 5
  · obtain ⟨v, e1, e2⟩ := RW_tok hW 200 a
    exact ⟨m, h, by unfold lw_call; rw [if_neg c0, if_neg c1, if_neg c2, if_neg c3, if_neg c4, if_pos c5]; exact ⟨200, 200, v, m, e1, e2⟩⟩
  by_cases c6 : op = 6
  · obtain ⟨v, e1, e2⟩ := RW_mark hW 200 a
    exact ⟨m, h, by unfold lw_call; rw [if_neg c0, if_neg c1, if_neg c2, if_neg c3, if_neg c4, if_neg c5, if_pos c6]; exact ⟨200, 200, v, m, e1, e2⟩⟩
  by_cases c7 : op = 7
  · obtain ⟨v, e1, e2⟩ := RW_means hW 200 (Nat.le_refl _) a
    exact ⟨m, h, by unfold lw_call; rw [if_neg c0, if_neg c1, if_neg c2, if_neg c3, if_neg c4, if_neg c5, if_neg c6, if_pos c7]; exact ⟨200, 200, v, m, e1, e2⟩⟩
  by_cases c8 : op = 8
  · exact ⟨m, h, by unfold lw_call; rw [if_neg c0, if_neg c1, if_neg c2, if_neg c3, if_neg c4, if_neg c5, if_neg c6, if_neg c7, if_pos c8]; exact ⟨0, 0, _, m, zF9_eq 0 m, by rw [u2, ← u3]; exact zF87_eq 0 m⟩⟩
  by_cases c9 : op = 9
  · refine ⟨m, h, ?_⟩
    unfold lw_call; rw [if_neg c0, if_neg c1, if_neg c2, if_neg c3, if_neg c4, if_neg c5, if_neg c6, if_neg c7, if_neg c8, if_pos c9]
    refine ⟨0, 0, _, m, zF10_eq 0 a m (by omega), ?_⟩
    show zF88 0 a m = _
    rw [zF88_eq 0 a m (by omega), u2, u3]
    by_cases q : 1 ≤ a ∧ a ≤ (i : Int)
    · have := u4 (a - 1).toNat (by omega)
      rw [if_pos q, if_pos q, this, show (a - 1).toNat + 1 = a.toNat by omega]
    · rw [if_neg q, if_neg q]
  exact ⟨m, h, by unfold lw_call; rw [if_neg c0, if_neg c1, if_neg c2, if_neg c3, if_neg c4, if_neg c5, if_neg c6, if_neg c7, if_neg c8, if_neg c9]⟩
