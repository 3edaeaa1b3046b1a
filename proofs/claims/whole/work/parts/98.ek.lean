/-! stepOver and take. -/
def wS (c2 : Nat) : List (Nat × Nat) := (c2, 4) :: (16, 1) :: (16, 2) :: wC c2
section
variable {C : Nat → Int} {Y A : Nat → Nat → Int} {N i0 z : Nat} {n b sz a r c1 c2 : Nat} {P : Nat → Nat} {H K : Nat → List (List (Nat × List Nat))} {B : Int} {m : ZM}
theorem wS_n (c k : Nat) (h : c ≠ c2 + 1 ∧ c ≠ c2 + 2 ∧ c ≠ c2 + 3 ∧ c ≠ 16 ∧ c ≠ c2) : wl (wS c2) c k = false := by
  unfold wl wS wC wT
  simp
  omega
theorem x_re1 (h : RX true C Y A N i0 z) (e : Nat) (he : e < N) : repE C Y (pl A e - 1) = -1 := by
  have hn : ∀ p : Nat, C p ≠ 41 → repE C Y p = -1 := fun p hp => by
    unfold repE
    rw [if_neg (fun d => hp d.1)]
  by_cases q : e = 0
  · subst q
    rw [x_0 h, Nat.add_sub_cancel]
    apply hn
    rw [h.2.2.2.2.2.2.2.2.2.2.2.2.1]
    decide
  · have xn := x_nx h (e - 1) (by omega)
    rw [show e - 1 + 1 = e by omega] at xn
    have hx := x_e h (e - 1) (by omega)
    have hk := hx.2.2.2.2.2.1
    have h7 := x_p7 h (e - 1) (by omega)
    have hp : (A 7 (e - 1)).toNat = pl A (e - 1) := rfl
    by_cases k3 : A 0 (e - 1) = 3
    · have l : lnf A (e - 1) = 4 := by unfold lnf; rw [if_pos k3]
      have x3 := x_w3 h (e - 1) (by omega) k3
      rw [show pl A e - 1 = pl A (e - 1) + 3 by omega]
      apply hn
      rcases x3.2.2.2.2.1 with d | d | d | d <;> rw [d] <;> decide
    by_cases k4 : A 0 (e - 1) = 4
    · have l : lnf A (e - 1) = 2 := by unfold lnf; rw [if_neg k3, if_pos (Or.inl k4)]
      rw [show pl A e - 1 = pl A (e - 1) + 1 by omega]
      apply hn
      rw [((x_srE h (e - 1) (by omega)).2 k4).2]
      decide
    by_cases k5 : A 0 (e - 1) = 5
    · obtain ⟨t, g1, g2, g3, g4, g5⟩ := x_end h (e - 1) (by omega) k5
      have xm := x_mkp h t (e - 1) (by omega) g4 g5
      have : mkp A (e - 1) = pl A e - 1 := by
        have := xm.2.2.2.1
        rw [show e - 1 + 1 = e by omega] at this
        omega
      rw [← this]
      apply hn
      rcases xm.2.2.2.2.2.1 with d | d | d <;> rw [d] <;> decide
    · have l : lnf A (e - 1) = 1 := by
        unfold lnf
        rw [if_neg k3, if_neg (by omega), if_neg k5]
      rw [show pl A e - 1 = pl A (e - 1) by omega, x_re h (e - 1) (by omega), if_neg k5]
theorem y_oa (hD : DM b sz a C Y P m) (h : RX true C Y A N i0 z) (hz : z < sz) (e : Nat) (he : e < N) (h3 : A 0 e = 3) : zF124 n b (pl A e) m = some (if A 5 e < 0 then -1 else ordf A (A 5 e).toNat, m) := by
  have xp := x_pl h e (by omega)
  have hni := h.1
  have r5 := hni.r5 e (by omega)
  rw [d_oa hD (pl A e) (by omega), (x_w3 h e he h3).2.2.2.2.2.2]
  unfold innf
  by_cases q5 : A 5 e < 0
  · have q6 : ¬ 0 ≤ A 6 e := fun d => by
      obtain ⟨v, hv⟩ : ∃ v : Nat, A 6 e = v := ⟨(A 6 e).toNat, by omega⟩
      have := hni.n2 e v (by omega) hv
      omega
    rw [if_neg q6, if_neg (show ¬ 0 ≤ A 5 e by omega), if_pos (by decide), if_pos q5]
  · obtain ⟨u, hu⟩ : ∃ u : Nat, A 5 e = u := ⟨(A 5 e).toNat, by omega⟩
    obtain ⟨g1, g2, g3, g4⟩ := hni.n1 e u (by omega) hu
    obtain ⟨t, _, _, _, _, _, _, _, _, _, _, _, b1, b2⟩ := x_beg h u (by omega) g1
    have pu := x_pl h u (by omega)
    have iu : Y 3 (pl A u) = -1 := by rw [b1, g2]; rfl
    rw [if_neg q5, hu, Int.toNat_natCast]
    by_cases q6 : 0 ≤ A 6 e
    · obtain ⟨v, hv⟩ : ∃ v : Nat, A 6 e = v := ⟨(A 6 e).toNat, by omega⟩
      obtain ⟨f1, f2, f3, f4, f5⟩ := hni.n2 e v (by omega) hv
      obtain ⟨t', _, _, _, _, _, _, _, _, _, _, _, b1', _⟩ := x_beg h v (by omega) f1
      have pv := x_pl h v (by omega)
      have iv : Y 3 (pl A v) = pl A u := by
        rw [b1', f2, hu]
        unfold innf
        rw [if_neg (by decide), if_pos (by omega), Int.toNat_natCast, pu.1]
      rw [if_pos q6, hv, Int.toNat_natCast, pv.1, if_neg (by omega), Int.toNat_natCast, iv, if_neg (by omega), Int.toNat_natCast, b2 rfl]
    · rw [if_neg q6, if_pos (show (0 : Int) ≤ (u : Int) by omega), pu.1, if_neg (by omega), Int.toNat_natCast, iu, if_pos (by decide), b2 rfl]
theorem TH_kp {m m' : ZM} {l : List (Nat × Nat)} (hT : TH A N b c1 H m) (g : kp (wl l) m m') (hl : ∀ k, wl l (c1 + 1) k = false ∧ wl l (c1 + 2) k = false) (h4 : wl l c1 4 = false) : TH A N b c1 H m' := by
  obtain ⟨a1, a2, a3, a4⟩ := hT
  refine ⟨by rw [(g.1 c1 4 h4).2]; exact a1, fun e he hs => by rw [(g.1 _ _ (hl _).1).1]; exact a2 e he hs, fun p hp hs => by rw [(g.1 _ _ (hl _).1).1]; exact a3 p hp hs, fun e he hs hn => ?_⟩
  obtain ⟨h, b1, b2⟩ := a4 e he hs hn
  exact ⟨h, b1, fun o ho => by rw [(g.1 _ _ (hl _).2).1]; exact b2 o ho⟩
/-- clear, for a match -/
theorem c187 (h : RX true C Y A N i0 z) (m : ZM) : ∃ m1, zF187 n c2 b m = some ((), m1) ∧ TH A N b c2 (fun _ => []) m1 ∧ kp (wl (wS c2)) m m1 := by
  refine ⟨z_f (z_r m c2 4 (some b)) (c2 + 1) 0 120, rfl, ⟨?_, fun e he hs => ?_, fun p hp hs => ?_, fun e he hs hn => absurd rfl hn⟩, kp_f (kp_r (kp_refl _ m) (by simp [wS])) (by simp [wS, wC, wT])⟩
  · show (z_r m c2 4 (some b)).2.1 c2 4 = some b
    rw [z_r_rd]; exact if_pos ⟨rfl, rfl⟩
  · rw [z_f_rd]
    rw [if_pos ⟨rfl, by have := (sp_b h e he).2.1; have := h.2.2.2.2.2.2.2.1; omega⟩]
    rfl
  · rw [z_f_rd, if_pos ⟨rfl, hp⟩]
theorem c156 (hM : MX b r c1 c2 i0 z m) : ∃ m1, zF156 n m = some ((), m1) ∧ MX b r c2 c1 i0 z m1 ∧ kp (wl [(16, 1), (16, 2)]) m m1 := by
  have ht := MX_T hM
  obtain ⟨x1, x2, x3, x4, x5, x6, x7⟩ := hM
  refine ⟨z_r (z_r m 16 1 (some c2)) 16 2 (some c1), ?_, ⟨?_, ?_, ?_, ?_, ?_, x6, x7⟩, kp_r (kp_r (kp_refl _ m) (by simp)) (by simp)⟩
  · unfold zF156 zJ156_13
    rw [x1]
    dsimp only
    rw [if_pos ht.1, x2]
    dsimp only
    rw [if_pos ht.2.1, zlet, zlet]
  · rw [z_r_rd, if_neg (by decide), z_r_rd, if_pos ⟨rfl, rfl⟩]
  · rw [z_r_rd, if_pos ⟨rfl, rfl⟩]
  · omega
  · rw [z_r_rd, if_neg (by decide), z_r_rd, if_neg (by decide)]; exact x4
  · rw [z_r_rd, if_neg (by decide), z_r_rd, if_neg (by decide)]; exact x5
theorem MX_kp {m m' : ZM} {l : List (Nat × Nat)} (hM : MX b r c1 c2 i0 z m) (g : kp (wl l) m m') (hl : ∀ k, wl l 16 k = false) : MX b r c1 c2 i0 z m' := by
  obtain ⟨x1, x2, x3, x4, x5, x6, x7⟩ := hM
  exact ⟨by rw [(g.1 16 1 (hl _)).2]; exact x1, by rw [(g.1 16 2 (hl _)).2]; exact x2, x3, by rw [(g.1 16 3 (hl _)).2]; exact x4, by rw [(g.1 16 6 (hl _)).2]; exact x5, by rw [(g.1 16 4 (hl _)).1]; exact x6, by rw [(g.1 16 5 (hl _)).1]; exact x7⟩
theorem RTk_kp {S : Nat} {X : Nat → Int} {m m' : ZM} {l : List (Nat × Nat)} (hR : RTk r S X m) (g : kp (wl l) m m') (h1 : wl l r 2 = false) (h2 : ∀ k, wl l (r + 1) k = false) : RTk r S X m' := by
  obtain ⟨a1, a2, a3, a4⟩ := hR
  exact ⟨by rw [(g.1 r 2 h1).1]; exact a1, a2, fun p hp => by rw [(g.1 (r + 1) p (h2 p)).1]; exact a3 p hp, a4⟩
/-- stepOver -/
theorem c155 (hn : 200 ≤ n) (h : RX true C Y A N i0 z) (hne : ∀ e : Nat, e < N → ¬ em A e) (hb : isD b) (hz : z + 1 < sz) (hD : DM b sz a C Y P m) (hM : MX b r c1 c2 i0 z m) (hT : TH A N b c1 H m) (hO : HO A N B H) (hB : B ≤ 100000) (c : Int) (hc : vt c) :
    ∃ m', zF155 n c m = some ((), m') ∧ MX b r c2 c1 i0 z m' ∧ TH A N b c2 (fun j => Hn A (fun i => decide (goes A H c i)) H j N) m' ∧ kp (wl (wS c2)) m m' := by
  have hge := isD_ge hb
  have h120 := h.2.2.2.2.2.2.2.1
  have hzi := h.2.2.2.2.2.2.1
  have hc0 : 0 < c := by rcases hc with d | d | d <;> omega
  have ht := MX_T hM
  have hcc := hM.2.2.1
  have swS : ∀ p ∈ wC c2, p ∈ wS c2 := fun p hp => by unfold wS; exact List.mem_cons_of_mem _ (List.mem_cons_of_mem _ (List.mem_cons_of_mem _ hp))
  have wT1 : ∀ k, wl (wS c2) (c1 + 1) k = false ∧ wl (wS c2) (c1 + 2) k = false := fun k => ⟨wS_n _ k (by omega), wS_n _ k (by omega)⟩
  obtain ⟨m0, d1, d2, d3⟩ := c187 (n := n) (b := b) (c2 := c2) h m
  have hw16 : ∀ k, wl (wC c2) 16 k = false := fun k => wC_n 16 k (by omega)
  have M0 : MX b r c1 c2 i0 z m0 := by
    obtain ⟨x1, x2, x3, x4, x5, x6, x7⟩ := hM
    have e0 : m0 = z_f (z_r m c2 4 (some b)) (c2 + 1) 0 120 := by
      have : zF187 n c2 b m = some ((), z_f (z_r m c2 4 (some b)) (c2 + 1) 0 120) := rfl
      rw [this] at d1
      cases d1
      rfl
    have hr2 : ∀ k, m0.2.1 16 k = m.2.1 16 k := fun k => by
      rw [e0]
      show (z_r m c2 4 (some b)).2.1 16 k = _
      rw [z_r_rd, if_neg (by omega)]
    have hi2 : ∀ k, m0.1 16 k = m.1 16 k := fun k => by
      rw [e0, z_f_rd, if_neg (by omega)]
      rfl
    exact ⟨by rw [hr2]; exact x1, by rw [hr2]; exact x2, x3, by rw [hr2]; exact x4, by rw [hr2]; exact x5, by rw [hi2]; exact x6, by rw [hi2]; exact x7⟩
  have D0 : DM b sz a C Y P m0 := DM_kp hD d3 (fun c k p1 p2 => wS_n c k (by omega))
  have T0 : TH A N b c1 H m0 := TH_kp hT d3 wT1 (wS_n _ _ (by omega))
  let Q : Nat → ZM → Prop := fun e m' => MX b r c1 c2 i0 z m' ∧ DM b sz a C Y P m' ∧ TH A N b c1 H m' ∧ TH A N b c2 (fun j => Hn A (fun i => decide (goes A H c i)) H j e) m' ∧ kp (wl (wC c2)) m0 m'
  have e102 : ∀ (rec : Int → Int → ZM → Option (Unit × ZM)) (x : Nat) (m' : ZM), x < 120 → zJ155_102 n rec c x m' = rec c ((x + 1 : Nat) : Int) m' := by
    intro rec x m' hx
    unfold zJ155_102
    rw [if_pos (by omega), show ((x + 1 : Nat) : Int) = (x : Int) + 1 by omega]
  have head : ∀ (f x : Nat) (m' : ZM), x < z → MX b r c1 c2 i0 z m' → zL155_16 n (f + 1) c x m' = if m'.1 (c1 + 1) x ≤ 0 then zL155_16 n f c ((x + 1 : Nat) : Int) m' else zJ155_35 n (zL155_16 n f) c x m' := by
    intro f x m' hx hM'
    rw [zL155_16, hM'.2.2.2.2.2.2, if_neg (by omega), hM'.1]
    dsimp only
    rw [if_pos ht.1, c188 c1 x (by omega) m']
    dsimp only
    rw [e102 _ _ _ (by omega)]
  obtain ⟨m1, q1, q2⟩ := plp (α := ZM) (β := Option (Unit × ZM)) h (fun f x m' => zL155_16 n f c x m') Q (fun f x e s _ hQ h1 h2 h3 => by
      obtain ⟨k1, k2, k3, k4, k5⟩ := hQ
      show zL155_16 n (f + 1) c x s = zL155_16 n f c ((x + 1 : Nat) : Int) s
      rw [head f x s h2 k1, if_pos (by rw [k3.2.2.1 x (by omega) h3]; decide)]) (fun e s he hsd hQ => by
      obtain ⟨k1, k2, k3, k4, k5⟩ := hQ
      have spz := (sp_b h e (by omega)).2.2 he
      have hmany := k3.2.1 e (by omega) hsd
      have same : ¬ goes A H c e → Q (e + 1) s := fun ng => by
        refine ⟨k1, k2, k3, ?_, k5⟩
        have : (fun j => Hn A (fun i => decide (goes A H c i)) H j (e + 1)) = (fun j => Hn A (fun i => decide (goes A H c i)) H j e) := by
          funext j
          rw [Hn, if_neg (by rw [decide_eq_true_eq]; exact ng), List.append_nil]
        rw [this]
        exact k4
      by_cases q0 : (H e).length = 0
      · refine ⟨s, same (fun d => by have := d.1; omega), fun f => ?_⟩
        show zL155_16 n (f + 1) c (sp A e) s = zL155_16 n f c ((sp A e + 1 : Nat) : Int) s
        rw [head f (sp A e) s spz.2 k1, if_pos (by rw [hmany, mn_0.2 q0]; decide)]
      · have hl : 0 < (H e).length := by omega
        have hm := mn_p hl
        have s35 : ∀ f, zL155_16 n (f + 1) c (sp A e) s = if C (sp A e) = c then zJ155_47 n (zL155_16 n f) c (sp A e) s else zL155_16 n f c ((sp A e + 1 : Nat) : Int) s := by
          intro f
          rw [head f (sp A e) s spz.2 k1, if_neg (by omega)]
          unfold zJ155_35
          rw [k1.2.2.2.1]
          dsimp only
          rw [if_pos hb, d_codeN k2 (sp A e) (by omega)]
          dsimp only
          rw [e102 _ _ _ (by omega)]
        by_cases ge : goes A H c e
        · have hcsp : A 0 e ≠ 3 ∧ C (sp A e) = c ∧ c ≠ 36 := by
            rcases x_csp h e (by omega) hsd with ⟨g1, g2, g3⟩ | ⟨g1, g2, _⟩ | ⟨g1, g2, g3, g4, g5⟩
            · have := ge.2; omega
            · omega
            · have := ge.2
              exact ⟨g1, by omega, by omega⟩
          obtain ⟨m1, w1, w2, w3, w4⟩ := cgo (n := n) (by omega) h hne hb hz hcc s k2 k3 k4 hO hB e he hsd hl
          have m1M : MX b r c1 c2 i0 z m1 := MX_kp k1 w2 hw16
          have m1D : DM b sz a C Y P m1 := DM_kp k2 w2 (fun c k p1 p2 => wC_n c k (by omega))
          have hK' : (fun j => Hn A (fun i => decide (goes A H c i)) H j e ++ hx A e j (H e)) = (fun j => Hn A (fun i => decide (goes A H c i)) H j (e + 1)) := by
            funext j
            rw [Hn, if_pos (decide_eq_true ge)]
          have fin : ∀ m2, kp (wl (wC c2)) s m2 → TH A N b c2 (fun j => Hn A (fun i => decide (goes A H c i)) H j e ++ hx A e j (H e)) m2 → Q (e + 1) m2 := fun m2 g1 g2 =>
            ⟨MX_kp k1 g1 hw16, DM_kp k2 g1 (fun c k p1 p2 => wC_n c k (by omega)), TH_kp k3 g1 (fun k => ⟨wC_n _ k (by omega), wC_n _ k (by omega)⟩) (wC_n _ _ (by omega)), by rw [← hK']; exact g2, kp_tr k5 g1⟩
          have s47 : ∀ f, zL155_16 n (f + 1) c (sp A e) s = zJ155_65 n (zL155_16 n f) c (sp A e) m1 := by
            intro f
            rw [s35 f, if_pos hcsp.2.1]
            unfold zJ155_47
            rw [if_neg hcsp.2.2, k1.2.1]
            dsimp only
            rw [if_pos ht.2.1, k1.1]
            dsimp only
            rw [if_pos ht.1, w1]
          by_cases c5 : A 0 e = 5
          · obtain ⟨t, g1, g2, g3, g4, g5⟩ := x_end h e (by omega) c5
            obtain ⟨m2, v1, v2, v3⟩ := w4 t c5 g1
            have spp : sp A e = pl A e + 1 := by unfold sp; rw [if_pos c5]
            have pt := x_pl h t (by omega)
            refine ⟨m2, fin m2 v2 v3, fun f => ?_⟩
            show zL155_16 n (f + 1) c (sp A e) s = zL155_16 n f c ((sp A e + 1 : Nat) : Int) m2
            rw [s47 f]
            unfold zJ155_65
            rw [m1M.2.2.2.1]
            dsimp only
            rw [if_pos hb, if_pos (by omega), show ((sp A e : Nat) : Int) - 1 = (pl A e : Int) by omega, d_re m1D (pl A e) (by omega), x_re h e (by omega), if_pos c5, g1, Int.toNat_natCast]
            dsimp only
            rw [if_neg (by omega)]
            unfold zJ155_94
            rw [m1M.2.1]
            dsimp only
            rw [if_pos ht.2.1, v1]
            dsimp only
            rw [e102 _ _ _ (by omega)]
          · obtain ⟨m2, v1, v2, v3⟩ := w3 c5
            have spp : sp A e = pl A e := by unfold sp; rw [if_neg c5]
            have pe := x_pl h e (by omega)
            have hk := (x_e h e he).2.2.2.2.2.1
            have h7 := x_p7 h e he
            have l1 : lnf A e = 1 := by
              unfold lnf
              rw [if_neg hcsp.1, if_neg (by have := hsd.1; omega), if_neg c5]
            have xn := x_nx h e he
            have hnx : nx A e = e + 1 := by unfold nx; rw [if_neg c5]
            refine ⟨m2, fin m2 v2 v3, fun f => ?_⟩
            show zL155_16 n (f + 1) c (sp A e) s = zL155_16 n f c ((sp A e + 1 : Nat) : Int) m2
            rw [s47 f]
            unfold zJ155_65
            rw [m1M.2.2.2.1]
            dsimp only
            rw [if_pos hb, if_pos (by omega), spp, show ((pl A e : Nat) : Int) - 1 = ((pl A e - 1 : Nat) : Int) by omega, d_re m1D (pl A e - 1) (by omega), x_re1 h e he]
            dsimp only
            rw [if_pos rfl]
            unfold zJ155_81
            rw [m1M.2.1]
            dsimp only
            rw [hnx, show ((pl A (e + 1) : Nat) : Int) = (pl A e : Int) + 1 by omega] at v1
            rw [if_pos ht.2.1, if_pos (by omega), v1]
            dsimp only
            rw [e102 _ _ _ (by omega)]
        · refine ⟨s, same ge, fun f => ?_⟩
          show zL155_16 n (f + 1) c (sp A e) s = zL155_16 n f c ((sp A e + 1 : Nat) : Int) s
          rw [s35 f]
          by_cases d : C (sp A e) = c
          · rw [if_pos d]
            have h36 : c = 36 := by
              rcases x_csp h e (by omega) hsd with ⟨g1, g2, g3⟩ | ⟨g1, g2, _⟩ | ⟨g1, g2, g3, g4, g5⟩
              · omega
              · omega
              · exact absurd ⟨hl, by omega⟩ ge
            unfold zJ155_47
            rw [if_pos h36, e102 _ _ _ (by omega)]
          · rw [if_neg d]) (fun e s he hsd hQ => by
      obtain ⟨k1, k2, k3, k4, k5⟩ := hQ
      refine ⟨k1, k2, k3, ?_, k5⟩
      have ng : ¬ goes A H c e := fun d => by
        have := d.1
        cases e1 : H e with
        | nil => rw [e1] at this; exact absurd this (Nat.lt_irrefl 0)
        | cons y ys => exact absurd (hO e y (by rw [e1]; exact List.mem_cons_self)).2.1 hsd
      have : (fun j => Hn A (fun i => decide (goes A H c i)) H j (e + 1)) = (fun j => Hn A (fun i => decide (goes A H c i)) H j e) := by
        funext j
        rw [Hn, if_neg (by rw [decide_eq_true_eq]; exact ng), List.append_nil]
      rw [this]
      exact k4) N (by omega) m0 ⟨M0, D0, T0, d2, kp_refl _ m0⟩
  obtain ⟨k1, k2, k3, k4, k5⟩ := q1
  obtain ⟨m2, v1, v2, v3⟩ := c156 (n := n) k1
  have w2n : ∀ a k : Nat, a ≠ 16 → wl [(16, 1), (16, 2)] a k = false := fun a k ha => by
    unfold wl
    rw [List.any_eq_false]
    intro p hp
    simp at hp
    rcases hp with rfl | rfl <;> simp <;> omega
  have hf2 := q2 (n - (pl A N - (i0 + 1)))
  rw [x_N h] at hf2
  rw [show n - (z - (i0 + 1)) + (z - (i0 + 1)) = n by omega] at hf2
  refine ⟨m2, ?_, v2, TH_kp k4 v3 (fun k => ⟨w2n _ _ (by omega), w2n _ _ (by omega)⟩) (w2n _ _ (by omega)), kp_tr d3 (kp_tr (kp_sub swS k5) (kp_sub (by simp [wS]) v3))⟩
  unfold zF155
  rw [hM.2.1]
  dsimp only
  rw [if_pos ht.2.1, hM.2.2.2.1]
  dsimp only
  rw [if_pos hb, d1]
  dsimp only
  unfold zJ155_11
  rw [M0.2.2.2.2.2.1, show (i0 : Int) + 1 = ((i0 + 1 : Nat) : Int) by omega]
  refine hf2.trans ?_
  rw [show n - (z - (i0 + 1)) = (n - (z - (i0 + 1)) - 1) + 1 by omega, zL155_16, k1.2.2.2.2.2.2, if_pos (by omega), v1]
end
