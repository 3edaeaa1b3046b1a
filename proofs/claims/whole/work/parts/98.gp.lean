/-! The class replaces a call. -/
theorem sbd_m {B B' : Int} {s : (Nat → Int) × (Nat → Int → Int)} (h : sbd B s) (hB : B ≤ B') : sbd B' s := ⟨fun j => ⟨(h.1 j).1, by have := (h.1 j).2; omega⟩, fun b o => ⟨(h.2 b o).1, by have := (h.2 b o).2; omega⟩⟩
section
variable {C : Nat → Int} {Y A : Nat → Nat → Int} {N i0 z : Nat} {X : Nat → Int} {S lo en : Nat}
theorem sbd_h : ∀ (t : List PE) (H : Nat → List (List (Nat × List Nat))) (j : Nat) (hh : List (Nat × List Nat)), PP A N t H → PO A N t → hh ∈ H j → sbd (18 * (t.length : Int) + 17) (shs A hh) := by
  intro t
  induction t with
  | nil =>
    intro H j hh hP _ hm
    have hP : H = H0 A := hP
    subst hP
    obtain ⟨w, hw, rfl⟩ := List.mem_map.1 hm
    have hl := Wy_len A j 17 0 w hw
    have := sbd_f (A := A) w 0 zs0 ⟨fun _ => ⟨Int.le_refl _, Int.le_refl _⟩, fun _ _ => ⟨Int.le_refl _, Int.le_refl _⟩⟩ (Int.le_refl _)
    exact sbd_m this (by show 0 + (w.length : Int) ≤ 18 * ((0 : Nat) : Int) + 17; omega)
  | cons y t ih =>
    obtain ⟨Hp, G, p, v⟩ := y
    intro H j hh hP hPO hm
    obtain ⟨hP1, hP2⟩ := hP
    subst hP1
    obtain ⟨⟨B, hO⟩, hPO2⟩ := hPO
    obtain ⟨e, e1, e2, e3⟩ := (Hn_mem A G Hp j hh N).1 hm
    obtain ⟨h', a1, w, a2, rfl⟩ := (hx_mem A e j (Hp e) hh).1 e3
    obtain ⟨_, hsd, ⟨w0, hr, rfl⟩, _⟩ := hO e h' a1
    have i1 := ih Hp e _ hP2 hPO2 a1
    have hl := Wy_len A j 17 (nx A e) w a2
    have es : shs A ((j, w) :: (e, w0) :: hr) = fls A w (trs A e (nx A e) (shs A ((e, w0) :: hr))) := rfl
    rw [es]
    have := sbd_f (A := A) w _ _ (sbd_t (A := A) i1 e (nx A e)) (by omega)
    exact sbd_m this (by rw [List.length_cons]; omega)
/-- what is known of a match that went well -/
theorem suc_f (h : RX true C Y A N i0 z) (hne : ∀ e : Nat, e < N → ¬ em A e) (hX : ∀ p : Nat, p < en → 0 < X p) (hen : en < S) (hS : S ≤ 150) (tr : List ((Nat → Bool) × Nat × Nat)) (hh : List (Nat × List Nat)) (hV : TV A N X en tr (H0 A) lo 0) (hH : (PF A N tr (H0 A) []).1 N = [hh]) :
    PO A N (PF A N tr (H0 A) []).2 ∧ PP A N (PF A N tr (H0 A) []).2 (PF A N tr (H0 A) []).1 ∧ (∃ B, HO A N B (PF A N tr (H0 A) []).1) ∧ (PF A N tr (H0 A) []).2.length ≤ 150 ∧ SHf A N (PF A N tr (H0 A) []).2 hh N ∧ (∀ x ∈ rtk A (PF A N tr (H0 A) []).2 hh, x.1 < N ∧ x.2.2.2.1 ≤ x.2.2.2.2 ∧ x.2.2.2.2 ≤ S ∧ TB X x.2.2.2.1 x.2.2.2.2) ∧ sbd 90000 (shs A hh) ∧ (∀ j : Nat, j < N → A 0 j = 4 → A 5 j < 0 → (shs A hh).1 j ≤ 310) ∧ (rtk A (PF A N tr (H0 A) []).2 hh).length ≤ 150 := by
  obtain ⟨p1, p2, p3, p4⟩ := TV_PO h hX tr (H0 A) [] lo 0 20 hV (HO_0 h) (by decide) rfl trivial
  have pk := TV_PK (A := A) hX tr (H0 A) [] lo 0 hV trivial
  have hm : hh ∈ (PF A N tr (H0 A) []).1 N := by rw [hH]; exact List.mem_singleton.2 rfl
  have p4 : (PF A N tr (H0 A) []).2.length ≤ 0 + (en - lo) := p4
  have sh := SH_all h hne _ _ N hh p2 p1 hm
  have rb := rtk_b _ _ N hh p2 p1 pk hm
  have sb := sbd_h _ _ N hh p2 p1 hm
  have rl := rtk_len A (PF A N tr (H0 A) []).2 hh
  refine ⟨p1, p2, p3, by omega, sh, fun x hx => ?_, sbd_m sb (by omega), fun j hj h4 h5 => ?_, by omega⟩
  · obtain ⟨r1, r2, r3⟩ := rb x hx
    exact ⟨(sh.2.2.2.2 x hx).1, by omega, by omega, r3⟩
  · have o0 := ordf_0 A j
    obtain ⟨o, ho⟩ : ∃ o : Nat, ordf A j = o := ⟨(ordf A j).toNat, by omega⟩
    rw [sh.1 j hj h4 h5 o ho]
    have := Rd_b h hne j o h4 ho _ _ N hh p2 p1 hm
    omega
end
theorem RL_kp {r : Nat} {L : OL} {m m' : ZM} {l : List (Nat × Nat)} (h : RL r L m) (k : kp (wl l) m m') (h2 : wl l r 2 = false) (h3 : wl l r 3 = false) (h1 : ∀ q, wl l (r + 1) q = false ∧ wl l (r + 2) q = false) : RL r L m' := by
  obtain ⟨l1, l2, l3⟩ := h
  refine ⟨by rw [(k.1 r 2 h2).1]; exact l1, by rw [(k.1 r 3 h3).1]; exact l2, fun i x hi hx => ?_⟩
  rw [(k.1 (r + 1) i (h1 i).1).1, (k.1 (r + 2) i (h1 i).2).1]
  exact l3 i x hi hx
def wY : List (Nat × Nat) := [(12, 4), (12, 5), (12, 6), (31, 1), (31, 2), (31, 3), (31, 4), (31, 5), (31, 6), (32, 1000), (33, 1000), (34, 2), (34, 3), (35, 1000), (36, 1000), (37, 2), (37, 3), (38, 1000), (39, 1000)]
theorem wY_n {c k : Nat} (h : c < 12 ∨ (12 < c ∧ c < 31) ∨ 39 < c) : wl wY c k = false := by
  unfold wl wY
  simp
  omega
def w31 : List (Nat × Nat) := [(31, 1), (31, 2), (31, 3), (31, 4), (31, 5), (31, 6), (32, 1000)]
theorem w31_n {c k : Nat} (h : c < 31 ∨ 32 < c) : wl w31 c k = false := by
  unfold wl w31
  simp
  omega
theorem w31_Y : ∀ p ∈ w31, p ∈ wY := by
  intro p hp
  unfold w31 at hp
  simp at hp
  rcases hp with rfl | rfl | rfl | rfl | rfl | rfl | rfl <;> simp [wY]
theorem wRL_Y {s : Nat} (hs : s = 34 ∨ s = 37) : ∀ p ∈ wRL s, p ∈ wY := by
  rcases hs with rfl | rfl
  · intro p hp
    unfold wRL at hp
    simp at hp
    rcases hp with rfl | rfl | rfl | rfl <;> simp [wY]
  · intro p hp
    unfold wRL at hp
    simp at hp
    rcases hp with rfl | rfl | rfl | rfl <;> simp [wY]
theorem wRW_Y {s : Nat} (hs : s = 34 ∨ s = 37) : ∀ p ∈ wRW s, p ∈ wY := by
  intro p hp
  rcases List.mem_cons.1 hp with rfl | c
  · unfold wY
    simp
  · exact wRL_Y hs p c
section
variable {n b L : Nat} {T : Nat → Int} {Y : Nat → Nat → Int}
/-- replace -/
theorem c144 (hn : 200000 ≤ n) (hb : isD b) (l : OL) (hl : l.length ≤ 150) (hok : OK0 l) (r s : Nat) (hrs : (r = 34 ∧ s = 37) ∨ (r = 37 ∧ s = 34)) (k en : Nat) (hic : icl (xf l) l.length k) (hen : en < l.length) (hcl : CL (xf l) (k + 2) en) (i u : Nat) (o : Option OL) (m : ZM) (hG : GD b T L Y m) (hu : u < (dfn (tc T L)).2.2) (h4 : m.2.1 12 4 = some r) (h5 : m.2.1 12 5 = some s) (h6 : m.1 12 6 = i) (hR : RL r l m) (hS : SUCm (tc T L) (xf l) (kf l) (k + 3) en ((i : Int) + 1) u o m) :
    ∃ v m', zF144 n b u k en m = some (v, m') ∧ kp (wl wY) m m' ∧
      ((v < 0 ∧ ((10 ≤ i ∧ v = -2004) ∨ (i < 10 ∧ o = none ∧ v = -2003) ∨ (i < 10 ∧ ∃ x, o = some x ∧ 150 < (nwL l k en x).length ∧ v = -2005)) ∧ m'.2.1 12 4 = some r ∧ m'.2.1 12 5 = some s ∧ m'.1 12 6 = i ∧ RL r l m' ∧ ∀ j : Nat, m'.1 33 j = m.1 33 j) ∨
       (v = 0 ∧ i < 10 ∧ ∃ x, o = some x ∧ (nwL l k en x).length ≤ 150 ∧ m'.2.1 12 4 = some s ∧ m'.2.1 12 5 = some r ∧ m'.1 12 6 = (i : Int) + 1 ∧ RL s (nwL l k en x) m' ∧ OK0 (nwL l k en x) ∧ m'.1 33 i = u ∧ ∀ j : Nat, j ≠ i → m'.1 33 j = m.1 33 j)) := by
  have hge := isD_ge hb
  have hr : isR r := by show r = 34 ∨ r = 37; omega
  have hs : isR s := by show s = 34 ∨ s = 37; omega
  have hs' : s = 34 ∨ s = 37 := hs
  by_cases q10 : 10 ≤ i
  · refine ⟨-2004, m, ?_, kp_refl _ m, Or.inl ⟨by decide, Or.inl ⟨q10, rfl⟩, h4, h5, h6, hR, fun _ => rfl⟩⟩
    unfold zF144
    rw [h6, if_neg (by omega)]
  obtain ⟨g1, g2, g3, hD, g5, g6, g7, g8⟩ := hG
  obtain ⟨a1, a2, a3⟩ := g8 u hu
  obtain ⟨k1, k2, k3⟩ := ckr_0 a3
  obtain ⟨z1, z2, z3⟩ := RM_z a1 a2
  obtain ⟨tr, hh, s1, s2, s3, s4, s5⟩ := hS
  have hp := RM_p a1
  have hbd := RM_b a1
  have hvX : ∀ p : Nat, p < l.length → vt (xf l p) := fun p hp => hok.2.2 _ (xf_mem l p hp)
  obtain ⟨f1, f2, f3, f4, f5, f6, f7, f8, f9⟩ := suc_f hp k2 (fun p hp => by have := hvX p (by omega); omega) hen hl tr hh s1 s2
  have hCv : ∀ p, 0 < tc T L p → vt (tc T L p) := fun p hp => by
    rcases tc_vt T L p g2 with c | c | c
    · omega
    · omega
    · exact c
  have hSR := RL_SR hR hl
  -- the spare row is cleared
  obtain ⟨m1, hm1⟩ : ∃ m1, m1 = z_i (z_i m s 2 0) s 3 0 := ⟨_, rfl⟩
  have kk1 : kp (wl (wRL s)) m m1 := by
    rw [hm1]
    exact kp_i (kp_i (kp_refl _ m) (by simp [wRL])) (by simp [wRL])
  have R1 : RL s [] m1 := by
    rw [hm1]
    exact ⟨by rw [z_nk _ _ _ _ _ _ (by decide), z_eq]; rfl, by rw [z_eq]; rfl, fun i x _ hx => (by cases hx)⟩
  have S1 : SR r l.length (xf l) (kf l) m1 := SR_kp hSR kk1 (wRL_n (by omega)) (fun q => ⟨wRL_n (by omega), wRL_n (by omega)⟩)
  obtain ⟨m2, b1, b2, b3⟩ := c169 (n := n) (by omega) s r l.length (xf l) (kf l) (by omega) 0 k [] m1 R1 S1 (by have := hic.1; omega)
  rw [Nat.zero_add] at b1
  rw [List.nil_append] at b2
  have kk2 := kp_tr kk1 b3
  have r31 : ∀ c q : Nat, c ≠ s → c ≠ s + 1 → c ≠ s + 2 → m2.1 c q = m.1 c q ∧ m2.2.1 c q = m.2.1 c q := fun c q x1 x2 x3 => kk2.1 c q (wRL_n ⟨x1, x2, x3⟩)
  -- the writer is made ready
  obtain ⟨m5, hm5⟩ : ∃ m5, m5 = z_f (z_i (z_i (z_r (z_r (z_r (z_r m2 31 4 (some 17)) 31 5 (some r)) 31 6 (some s)) 31 1 (some b)) 31 2 u) 31 3 ((i : Int) + 1)) 32 0 2 := ⟨_, rfl⟩
  have kk5 : kp (wl w31) m2 m5 := by
    rw [hm5]
    exact kp_f (kp_i (kp_i (kp_r (kp_r (kp_r (kp_r (kp_refl _ m2) (by simp [w31])) (by simp [w31])) (by simp [w31])) (by simp [w31])) (by simp [w31])) (by simp [w31])) (by simp [w31])
  have v2 : m5.1 31 2 = u := by
    rw [hm5, z_f_rd, if_neg (by omega), z_nk _ _ _ _ _ _ (by decide), z_eq]
  have v3 : m5.1 31 3 = (i : Int) + 1 := by
    rw [hm5, z_f_rd, if_neg (by omega), z_eq]
  have rr : ∀ q : Nat, m5.2.1 31 q = (z_r (z_r (z_r (z_r m2 31 4 (some 17)) 31 5 (some r)) 31 6 (some s)) 31 1 (some b)).2.1 31 q := fun q => by
    rw [hm5]
    rfl
  have v1 : m5.2.1 31 1 = some b := by rw [rr, z_r_rd, if_pos ⟨rfl, rfl⟩]
  have v6 : m5.2.1 31 6 = some s := by rw [rr, z_r_rd, if_neg (by decide), z_r_rd, if_pos ⟨rfl, rfl⟩]
  have v5 : m5.2.1 31 5 = some r := by rw [rr, z_r_rd, if_neg (by decide), z_r_rd, if_neg (by decide), z_r_rd, if_pos ⟨rfl, rfl⟩]
  have v4 : m5.2.1 31 4 = some 17 := by rw [rr, z_r_rd, if_neg (by decide), z_r_rd, if_neg (by decide), z_r_rd, if_neg (by decide), z_r_rd, if_pos ⟨rfl, rfl⟩]
  have w0 : m5.1 32 0 = 0 := by rw [hm5, z_f_rd, if_pos ⟨rfl, by decide⟩]
  have w1 : m5.1 32 1 = 0 := by rw [hm5, z_f_rd, if_pos ⟨rfl, by decide⟩]
  have D2 : DM b (dfn (tc T L)).2.1 (dfn (tc T L)).2.2 (tc T L) Y (armst (tc T L)) m2 := DM_kp hD kk2 (fun c q p1 p2 => wRL_n (by omega))
  have D5 : DM b (dfn (tc T L)).2.1 (dfn (tc T L)).2.2 (tc T L) Y (armst (tc T L)) m5 := DM_kp D2 kk5 (fun c q p1 p2 => w31_n (by omega))
  have K5 : KG (eA (tc T L) (armst (tc T L) u)) ((rtk (eA (tc T L) (armst (tc T L) u)) (PF (eA (tc T L) (armst (tc T L) u)) (eN (tc T L) (armst (tc T L) u)) tr (H0 (eA (tc T L) (armst (tc T L) u))) []).2 hh).map drp) m5 := by
    rw [← f5.2.1]
    exact KG_kp (KG_kp s4 kk2 (wRL_n (by omega)) (fun c q p1 p2 => wRL_n (by omega))) kk5 (w31_n (by omega)) (fun c q p1 p2 => w31_n (by omega))
  have S2 : SR r l.length (xf l) (kf l) m2 := SR_kp S1 b3 (wRL_n (by omega)) (fun q => ⟨wRL_n (by omega), wRL_n (by omega)⟩)
  have S5 : SR r l.length (xf l) (kf l) m5 := SR_kp S2 kk5 (w31_n (by omega)) (fun q => ⟨w31_n (by omega), w31_n (by omega)⟩)
  have W5 : WA b u r s (dfn (tc T L)).2.1 (dfn (tc T L)).2.2 ((i : Int) + 1) (tc T L) Y (eA (tc T L) (armst (tc T L) u)) (armst (tc T L)) (rtk (eA (tc T L) (armst (tc T L) u)) (PF (eA (tc T L) (armst (tc T L) u)) (eN (tc T L) (armst (tc T L) u)) tr (H0 (eA (tc T L) (armst (tc T L) u))) []).2 hh) l.length (xf l) (kf l) (fun q => Rd (eA (tc T L) (armst (tc T L) u)) hh q) m5 :=
    ⟨v1, v2, v3, v4, v5, v6, D5, K5, S5, fun q hq => by rw [(kk5.1 22 q (w31_n (by omega))).1, (r31 22 q (by omega) (by omega) (by omega)).1]; exact s5 q hq⟩
  have R5 : RL s (slc (xf l) (kf l) 0 k) m5 := RL_kp b2 kk5 (w31_n (by omega)) (w31_n (by omega)) (fun q => ⟨w31_n (by omega), w31_n (by omega)⟩)
  have cw := c210 hn hp hbd k1 k3 (by omega) z2 hb (by omega) hu rfl (fun x hx => ⟨(f6 x hx).1, (f6 x hx).2.1, (f6 x hx).2.2.1⟩) f5.1 f5.2.2.1 f7 (slc (xf l) (kf l) 0 k) m5 W5 w0 w1 R5
  rw [← s3] at cw
  have hpl0 : (pl (eB (tc T L) (armst (tc T L) u)) 0 : Int) = (eZ (tc T L) (armst (tc T L) u) : Int) + 2 := by
    have := x_0 hbd
    omega
  have hplN : pl (eB (tc T L) (armst (tc T L) u)) (eM (tc T L) (armst (tc T L) u)) = eY (tc T L) (armst (tc T L) u) := x_N hbd
  have hYu : Y 2 (armst (tc T L) u) = eZ (tc T L) (armst (tc T L) u) := hp.2.2.2.2.2.2.2.2.1
  have hYb : Y 2 (eZ (tc T L) (armst (tc T L) u) + 1) = eY (tc T L) (armst (tc T L) u) := hbd.2.2.2.2.2.2.2.2.1
  have st1 : zF144 n b u k en m = zJ144_55 n b u en (z_r (z_r (z_r m2 31 4 (some 17)) 31 5 (some r)) 31 6 (some s)) := by
    unfold zF144
    rw [h6, if_pos (by omega), h5]
    dsimp only
    rw [if_pos hs]
    have e165 : zF165 n s m = some ((), m1) := by
      unfold zF165
      rw [zlet, zlet, ← hm1]
    rw [e165]
    dsimp only
    unfold zJ144_20
    rw [(kk1.1 12 5 (wRL_n (by omega))).2, h5]
    dsimp only
    rw [if_pos hs, (kk1.1 12 4 (wRL_n (by omega))).2, h4]
    dsimp only
    rw [if_pos hr]
    rw [show ((0 : Nat) : Int) = 0 from rfl] at b1
    rw [b1]
    dsimp only
    unfold zJ144_33 zF148
    dsimp only
    rw [if_pos rfl, (r31 12 4 (by omega) (by omega) (by omega)).2, h4]
    dsimp only
    rw [if_pos hr, (r31 12 5 (by omega) (by omega) (by omega)).2, h5]
    dsimp only
    rw [if_pos hs]
    unfold zF208
    rw [zlet, zlet, zlet]
  have e209 : zF209 n b u ((i : Int) + 1) (z_r (z_r (z_r m2 31 4 (some 17)) 31 5 (some r)) 31 6 (some s)) = (match zF210 n (pl (eB (tc T L) (armst (tc T L) u)) 0) (pl (eB (tc T L) (armst (tc T L) u)) (eM (tc T L) (armst (tc T L) u))) 0 m5 with | some (v11, M12) => (if v11 = 0 ∨ v11 = 1 then (some (v11, M12)) else (none)) | none => none) := by
    unfold zF209
    rw [zlet, zlet, zlet]
    unfold zJ209_15
    rw [zlet, ← hm5, v2, d_bs D5 u hu]
    dsimp only
    rw [v2, d_be D5 u hu, hYu, if_pos (by omega), show ((eZ (tc T L) (armst (tc T L) u) : Int) + 1).toNat = eZ (tc T L) (armst (tc T L) u) + 1 by omega, hYb]
    dsimp only
    rw [hpl0, hplN] <;> rfl
  have i6 : (z_r (z_r (z_r m2 31 4 (some 17)) 31 5 (some r)) 31 6 (some s)).1 12 6 = i := by
    show m2.1 12 6 = i
    rw [(r31 12 6 (by omega) (by omega) (by omega)).1]
    exact h6
  have st2 : zF144 n b u k en m = (match zF209 n b u ((i : Int) + 1) (z_r (z_r (z_r m2 31 4 (some 17)) 31 5 (some r)) 31 6 (some s)) with | some (v32, M33) => (if v32 = 0 then (some ((-2003), M33)) else (match M33.2.1 12 5 with | some p36 => (if isR p36 then (match M33.2.1 12 4 with | some p39 => (if isR p39 then (match zF166 n p39 M33 with | some (v42, M43) => (if rg ((en : Int) + 1) then (match zF169 n p36 p39 ((en : Int) + 1) v42 M43 with | some (v45, M46) => (zJ144_99 n b u M46) | none => none) else none) | none => none) else (none)) | none => (none)) else (none)) | none => (none))) | none => none) := by
    rw [st1]
    unfold zJ144_55
    rw [i6, if_pos (by omega)] <;> rfl
  have kY5 : kp (wl wY) m m5 := kp_tr (kp_sub (wRL_Y hs') kk2) (kp_sub w31_Y kk5)
  cases ho : o with
  | none =>
    rw [ho] at cw
    obtain ⟨m6, c1, c2, c3, c4⟩ := cw
    have k26 : ∀ c q : Nat, c = 12 ∨ c = 33 ∨ c = r ∨ c = r + 1 ∨ c = r + 2 → m6.1 c q = m.1 c q ∧ m6.2.1 c q = m.2.1 c q := fun c q hc => by
      have x1 := c2.1 c q (wRW_n (by omega))
      have x2 := kk5.1 c q (w31_n (by omega))
      have x3 := r31 c q (by omega) (by omega) (by omega)
      exact ⟨by rw [x1.1, x2.1, x3.1], by rw [x1.2, x2.2, x3.2]⟩
    refine ⟨-2003, m6, ?_, kp_tr kY5 (kp_sub (wRW_Y hs') c2), Or.inl ⟨by decide, Or.inr (Or.inl ⟨by omega, rfl, rfl⟩), by rw [(k26 12 4 (by omega)).2]; exact h4, by rw [(k26 12 5 (by omega)).2]; exact h5, by rw [(k26 12 6 (by omega)).1]; exact h6, ?_, fun j => (k26 33 j (by omega)).1⟩⟩
    · rw [st2, e209, c1]
      dsimp only
      rw [if_pos (Or.inl rfl)]
      dsimp only
      rw [if_pos rfl]
    · obtain ⟨l1, l2, l3⟩ := hR
      refine ⟨by rw [(k26 r 2 (by omega)).1]; exact l1, by rw [(k26 r 3 (by omega)).1]; exact l2, fun i x hi hx => ?_⟩
      rw [(k26 (r + 1) i (by omega)).1, (k26 (r + 2) i (by omega)).1]
      exact l3 i x hi hx
  | some x =>
    rw [ho] at cw
    obtain ⟨m6, c1, c2, c3, c4, c5⟩ := cw
    have hxok : OK0 x := w0_ok hbd hCv (BB_arm g3 u hu a1) hvX (fun y hy => (f6 y hy).2) x (by rw [← s3]; exact ho)
    have S6 : SR r l.length (xf l) (kf l) m6 := SR_kp S5 c3 (wRW_n (by omega)) (fun q => ⟨wRW_n (by omega), wRW_n (by omega)⟩)
    obtain ⟨m7, d1, d2, d3⟩ := c169 (n := n) (by omega) s r l.length (xf l) (kf l) (by omega) (en + 1) (l.length - (en + 1)) _ m6 c2 S6 (by omega)
    have hnw : slc (xf l) (kf l) 0 k ++ x ++ slc (xf l) (kf l) (en + 1) (l.length - (en + 1)) = nwL l k en x := by
      rw [slc_dt l 0 k (by have := hic.1; omega), slc_dt l (en + 1) (l.length - (en + 1)) (by omega), List.drop_zero, List.append_assoc]
      have hdr : (l.drop (en + 1)).take (l.length - (en + 1)) = l.drop (en + 1) := List.take_of_length_le (by rw [List.length_drop]; exact Nat.le_refl _)
      unfold nwL
      rw [hdr]
    rw [hnw] at d2
    rw [show en + 1 + (l.length - (en + 1)) = l.length by omega, show ((en + 1 : Nat) : Int) = (en : Int) + 1 by omega] at d1
    have k27 : ∀ c q : Nat, c = 12 ∨ c = 33 ∨ c = r ∨ c = r + 1 ∨ c = r + 2 → m7.1 c q = m.1 c q ∧ m7.2.1 c q = m.2.1 c q := fun c q hc => by
      have x0 := d3.1 c q (wRL_n (by omega))
      have x1 := c3.1 c q (wRW_n (by omega))
      have x2 := kk5.1 c q (w31_n (by omega))
      have x3 := r31 c q (by omega) (by omega) (by omega)
      exact ⟨by rw [x0.1, x1.1, x2.1, x3.1], by rw [x0.2, x1.2, x2.2, x3.2]⟩
    have k26 : ∀ q : Nat, m6.2.1 12 q = m.2.1 12 q := fun q => by
      have x1 := c3.1 12 q (wRW_n (by omega))
      have x2 := kk5.1 12 q (w31_n (by omega))
      have x3 := r31 12 q (by omega) (by omega) (by omega)
      rw [x1.2, x2.2, x3.2]
    have kY7 : kp (wl wY) m m7 := kp_tr (kp_tr kY5 (kp_sub (wRW_Y hs') c3)) (kp_sub (wRL_Y hs') d3)
    have st3 : zF144 n b u k en m = zJ144_99 n b u m7 := by
      rw [st2, e209, c1]
      dsimp only
      rw [if_pos (Or.inr rfl)]
      dsimp only
      rw [if_neg (show ¬ (1 : Int) = 0 by decide), k26 5, h5]
      dsimp only
      rw [if_pos hs, k26 4, h4]
      dsimp only
      rw [if_pos hr]
      unfold zF166
      dsimp only
      rw [if_pos (by omega), S6.1, d1]
    have e3 := d2.2.1
    by_cases qL : (nwL l k en x).length ≤ 150
    · rw [if_pos qL] at e3
      obtain ⟨m8, hm8⟩ : ∃ m8, m8 = z_r (z_r (z_i (z_i m7 33 i u) 12 6 ((i : Int) + 1)) 12 4 (some s)) 12 5 (some r) := ⟨_, rfl⟩
      have kY8 : kp (wl wY) m7 m8 := by
        rw [hm8]
        exact kp_r (kp_r (kp_i (kp_ia (kp_refl _ m7) (by simp [wY])) (by simp [wY])) (by simp [wY])) (by simp [wY])
      have ev : ∀ c q : Nat, m8.1 c q = (z_i (z_i m7 33 i u) 12 6 ((i : Int) + 1)).1 c q := fun c q => by rw [hm8]; rfl
      refine ⟨0, m8, ?_, kp_tr kY7 kY8, Or.inr ⟨rfl, by omega, x, rfl, qL, ?_, ?_, ?_, ?_, nw_ok hok hxok hic hen hcl, ?_, fun j hj => ?_⟩⟩
      · rw [st3]
        unfold zJ144_99
        rw [(k27 12 5 (by omega)).2, h5]
        dsimp only
        rw [if_pos hs]
        unfold zF167
        rw [e3, if_pos (Or.inl rfl)]
        dsimp only
        rw [if_pos rfl, (k27 12 6 (by omega)).1, h6, if_neg (by omega), zlet, Int.toNat_natCast]
        unfold zJ144_123
        rw [z_nc _ _ _ _ _ _ (show 12 ≠ 33 by decide), (k27 12 6 (by omega)).1, h6, if_pos (by omega), zlet]
        have e146 : zF146 n (z_i (z_i m7 33 i u) 12 6 ((i : Int) + 1)) = some ((), m8) := by
          unfold zF146
          have x4 : (z_i (z_i m7 33 i (u : Int)) 12 6 ((i : Int) + 1)).2.1 12 4 = some r := by
            show m7.2.1 12 4 = some r
            rw [(k27 12 4 (by omega)).2]; exact h4
          have x5 : (z_i (z_i m7 33 i (u : Int)) 12 6 ((i : Int) + 1)).2.1 12 5 = some s := by
            show m7.2.1 12 5 = some s
            rw [(k27 12 5 (by omega)).2]; exact h5
          rw [x4]
          dsimp only
          rw [if_pos hr, x5]
          dsimp only
          rw [if_pos hs, zlet]
          unfold zJ146_13
          rw [zlet, ← hm8]
        rw [e146]
      · rw [hm8, z_r_rd, if_neg (by decide), z_r_rd, if_pos ⟨rfl, rfl⟩]
      · rw [hm8, z_r_rd, if_pos ⟨rfl, rfl⟩]
      · rw [ev, z_eq]
      · obtain ⟨l1, l2, l3⟩ := d2
        refine ⟨by rw [ev, z_nc _ _ _ _ _ _ (by omega), z_nc _ _ _ _ _ _ (by omega)]; exact l1, by rw [ev, z_nc _ _ _ _ _ _ (by omega), z_nc _ _ _ _ _ _ (by omega)]; exact l2, fun i x hi hx => ?_⟩
        rw [ev, ev, z_nc _ _ _ _ _ _ (by omega), z_nc _ _ _ _ _ _ (by omega), z_nc _ _ _ _ _ _ (by omega), z_nc _ _ _ _ _ _ (by omega)]
        exact l3 i x hi hx
      · rw [ev, z_nc _ _ _ _ _ _ (by decide), z_eq]
      · rw [ev, z_nc _ _ _ _ _ _ (by decide), z_nk _ _ _ _ _ _ hj]
        exact (k27 33 j (by omega)).1
    · rw [if_neg qL] at e3
      refine ⟨-2005, m7, ?_, kY7, Or.inl ⟨by decide, Or.inr (Or.inr ⟨by omega, x, rfl, by omega, rfl⟩), by rw [(k27 12 4 (by omega)).2]; exact h4, by rw [(k27 12 5 (by omega)).2]; exact h5, by rw [(k27 12 6 (by omega)).1]; exact h6, ?_, fun j => (k27 33 j (by omega)).1⟩⟩
      · rw [st3]
        unfold zJ144_99
        rw [(k27 12 5 (by omega)).2, h5]
        dsimp only
        rw [if_pos hs]
        unfold zF167
        rw [e3, if_pos (Or.inr rfl)]
        dsimp only
        rw [if_neg (by decide)]
      · obtain ⟨l1, l2, l3⟩ := hR
        refine ⟨by rw [(k27 r 2 (by omega)).1]; exact l1, by rw [(k27 r 3 (by omega)).1]; exact l2, fun i x hi hx => ?_⟩
        rw [(k27 (r + 1) i (by omega)).1, (k27 (r + 2) i (by omega)).1]
        exact l3 i x hi hx
end
