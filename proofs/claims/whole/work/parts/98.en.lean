/-! match, both sides. -/
def wMm : List (Nat × Nat) := (16, 3) :: (16, 4) :: (16, 5) :: (16, 6) :: wMt
theorem wMm_n (c k : Nat) (h : c < 16 ∨ 30 < c) : wl wMm c k = false := by
  unfold wl wMm wMt wS wC wT wK
  simp
  omega
/-- the matcher at rest -/
def MI (m : ZM) : Prop := ∃ c1 c2 : Nat, m.2.1 16 1 = some c1 ∧ m.2.1 16 2 = some c2 ∧ ((c1 = 23 ∧ c2 = 27) ∨ (c1 = 27 ∧ c2 = 23))
section
variable {C : Nat → Int} {Y A : Nat → Nat → Int} {N i0 z : Nat} {n b sz a r u : Nat} {P : Nat → Nat} {X : Nat → Int} {S lo en : Nat}
theorem H0_len (A : Nat → Nat → Int) (j : Nat) : (H0 A j).length = wc A 0 j := by
  unfold H0 wc
  rw [List.length_map]
theorem c149 (hn : 200000 ≤ n) (h : RX true C Y A N i0 z) (hne : ∀ e : Nat, e < N → ¬ em A e) (hb : isD b) (hz : z + 1 < sz) (hr : isR r) (hB : CB X S lo en) (hle : lo ≤ en) (m : ZM) (hD : DM b sz a C Y P m) (hu : u < a) (hP : P u = i0) (hI : MI m) (hR : RTk r S X m) :
    ∃ (tr : List ((Nat → Bool) × Nat × Nat)) (v : Int) (m' : ZM), zF149 n b u r lo en m = some (v, m') ∧ TV A N X en tr (H0 A) lo v ∧ kp (wl wMm) m m' ∧ MI m' ∧ (v = 0 → ∃ hh, (PF A N tr (H0 A) []).1 N = [hh] ∧ KG A (ctk A (PF A N tr (H0 A) []).2 hh) m' ∧ ∀ o : Nat, o < 4 → m'.1 22 o = Rd A hh o) := by
  have hge := isD_ge hb
  have hr34 : r = 34 ∨ r = 37 := by unfold isR at hr; omega
  have h120 := h.2.2.2.2.2.2.2.1
  have hY := h.2.2.2.2.2.2.2.2.1
  obtain ⟨c1, c2, i1, i2, i3⟩ := hI
  have ht1 : isT c1 := by unfold isT; omega
  have hS := hR.2.1
  have hen := hB.1
  obtain ⟨m1, hm1⟩ : ∃ m1, m1 = z_i (z_r (z_i (z_i (z_r m 16 3 (some b)) 16 4 ((i0 : Int) + 1)) 16 5 (z : Int)) 16 6 (some r)) 17 5 0 := ⟨_, rfl⟩
  have k1 : kp (wl wMm) m m1 := by
    rw [hm1]
    exact kp_i (kp_r (kp_i (kp_i (kp_r (kp_refl _ m) (by simp [wMm])) (by simp [wMm])) (by simp [wMm])) (by simp [wMm])) (by simp [wMm, wMt, wK])
  have M1 : MX b r c1 c2 i0 z m1 := by
    have hr2 : m1.2.1 = (z_r (z_r m 16 3 (some b)) 16 6 (some r)).2.1 := by rw [hm1]; rfl
    refine ⟨?_, ?_, i3, ?_, ?_, ?_, ?_⟩
    · rw [hr2, z_r_rd, if_neg (by decide), z_r_rd, if_neg (by decide)]; exact i1
    · rw [hr2, z_r_rd, if_neg (by decide), z_r_rd, if_neg (by decide)]; exact i2
    · rw [hr2, z_r_rd, if_neg (by decide), z_r_rd, if_pos ⟨rfl, rfl⟩]
    · rw [hr2, z_r_rd, if_pos ⟨rfl, rfl⟩]
    · rw [hm1, z_nc _ _ _ _ _ _ (by decide)]
      show (z_i (z_i (z_r m 16 3 (some b)) 16 4 ((i0 : Int) + 1)) 16 5 (z : Int)).1 16 4 = _
      rw [z_nk _ _ _ _ _ _ (by decide), z_eq]
    · rw [hm1, z_nc _ _ _ _ _ _ (by decide)]
      show (z_i (z_i (z_r m 16 3 (some b)) 16 4 ((i0 : Int) + 1)) 16 5 (z : Int)).1 16 5 = _
      rw [z_eq]
  have D1 : DM b sz a C Y P m1 := DM_kp hD k1 (fun c k p1 p2 => wMm_n c k (by omega))
  obtain ⟨m2, hm2⟩ : ∃ m2, m2 = z_i (z_f (z_f (z_r m1 c1 4 (some b)) (c1 + 1) 0 120) (c1 + 3) 0 4) c1 3 1 := ⟨_, rfl⟩
  have k2 : kp (wl (wS c1)) m1 m2 := by
    rw [hm2]
    exact kp_i (kp_f (kp_f (kp_r (kp_refl _ m1) (by simp [wS])) (by simp [wS, wC, wT])) (by simp [wS, wC, wT])) (by simp [wS, wC])
  have M2 : MX b r c1 c2 i0 z m2 := by
    obtain ⟨x1, x2, x3, x4, x5, x6, x7⟩ := M1
    have hr2 : ∀ q, m2.2.1 16 q = m1.2.1 16 q := fun q => by
      rw [hm2]
      show (z_r m1 c1 4 (some b)).2.1 16 q = _
      rw [z_r_rd, if_neg (by omega)]
    have hi2 : ∀ q, m2.1 16 q = m1.1 16 q := fun q => by
      rw [hm2, z_nc _ _ _ _ _ _ (by omega), z_f_rd, if_neg (by omega), z_f_rd, if_neg (by omega)]
      rfl
    exact ⟨by rw [hr2]; exact x1, by rw [hr2]; exact x2, x3, by rw [hr2]; exact x4, by rw [hr2]; exact x5, by rw [hi2]; exact x6, by rw [hi2]; exact x7⟩
  have D2 : DM b sz a C Y P m2 := DM_kp D1 k2 (fun c k p1 p2 => wS_n c k (by omega))
  have mz : ∀ p : Nat, p < 120 → m2.1 (c1 + 1) p = 0 := fun p hp => by
    rw [hm2, z_nc _ _ _ _ _ _ (by omega), z_f_rd, if_neg (by omega), z_f_rd, if_pos ⟨rfl, hp⟩]
  have oz : ∀ o : Nat, o < 4 → m2.1 (c1 + 3) o = 0 := fun p hp => by
    rw [hm2, z_nc _ _ _ _ _ _ (by omega), z_f_rd, if_pos ⟨rfl, hp⟩]
  have T2 : TC c1 b sz a C Y P 1 0 m2 := by
    refine ⟨?_, D2, by rw [hm2, z_eq], fun p hp => by rw [mz p hp]; omega, fun o ho => by rw [oz o ho]; omega⟩
    rw [hm2]
    show (z_r m1 c1 4 (some b)).2.1 c1 4 = some b
    rw [z_r_rd]; exact if_pos ⟨rfl, rfl⟩
  have p16 := phi_16 h 0
  obtain ⟨m3, e1, e2⟩ := wk (n := n) h hne (by omega) hb (show c1 + 3 < 41 by omega) hz (Or.inl rfl) 18 0 0 0 m2 (by omega) (by omega) (by omega) (by omega) T2
  have k3 : kp (wl (wS c1)) m2 m3 := kp_sub (fun q hq => by unfold wS wC; exact List.mem_cons_of_mem _ (List.mem_cons_of_mem _ (List.mem_cons_of_mem _ (List.mem_cons_of_mem _ hq)))) e2.1
  have M3 : MX b r c1 c2 i0 z m3 := MX_kp M2 e2.1 (fun k => wT_n 16 k (by omega))
  have T3 : TH A N b c1 (H0 A) m3 := by
    refine ⟨?_, fun e he hs => ?_, fun p hp hs => ?_, fun e he hs hne' => ?_⟩
    · rw [(e2.1.1 c1 4 (wT_n c1 4 (by omega))).2]; exact T2.1
    · rw [(e2.2.2.2 e he hs).1, mz _ (by have := sp_b h e he; omega), H0_len]
      congr 1
      show 0 + 1 * ((ways A 0 e).length : Int) = (wc A 0 e : Int)
      unfold wc
      omega
    · rw [e2.2.2.1 p hp hs, mz p hp]
    · rcases (e2.2.2.2 e he hs).2 with ⟨b1, _⟩ | ⟨p, b1, b2⟩
      · unfold H0 at hne'
        rw [b1] at hne'
        exact absurd rfl hne'
      · refine ⟨[(e, p)], List.mem_map.2 ⟨p, b1, rfl⟩, fun o ho => ?_⟩
        rw [b2 o ho, oz o ho]
        show 0 + rho A p o = 0 + 0 + rho A p o
        omega
  have sub : ∀ q ∈ wS c1, q ∈ wMm := fun q hq => by
    unfold wMm
    exact List.mem_cons_of_mem _ (List.mem_cons_of_mem _ (List.mem_cons_of_mem _ (List.mem_cons_of_mem _ (wMt_S (by omega) q hq))))
  have k13 : kp (wl wMm) m m3 := kp_tr k1 (kp_tr (kp_sub sub k2) (kp_sub sub k3))
  have K3 : KG A [] m3 := by
    refine ⟨?_, by decide, fun i x hx => by cases hx⟩
    rw [(k3.1 17 5 (wS_n _ _ (by omega))).1, (k2.1 17 5 (wS_n _ _ (by omega))).1, hm1, z_eq]
    rfl
  obtain ⟨tr, v, m', g1, g2, g3, ⟨d1, d2, g4⟩, g5⟩ := c149l hn h hne hb hz hr hB n lo 0 c1 c2 (H0 A) [] [] 20 m3 (DM_kp hD k13 (fun c k p1 p2 => wMm_n c k (by omega))) M3 T3 (RTk_kp hR k13 (wMm_n _ _ (by omega)) (fun k => wMm_n _ _ (by omega))) (HO_0 h) (by decide) (by omega) K3 (fun j hh _ => rfl) (by show 0 ≤ lo; omega) (by omega) hle (by omega) (by omega)
  refine ⟨tr, v, m', ?_, g2, kp_tr k13 (kp_sub (fun q hq => List.mem_cons_of_mem _ (List.mem_cons_of_mem _ (List.mem_cons_of_mem _ (List.mem_cons_of_mem _ hq)))) g3), ⟨d1, d2, g4.1, g4.2.1, g4.2.2.1⟩, g5⟩
  have Dr : DM b sz a C Y P (z_r m 16 3 (some b)) := DM_kp hD (kp_r (kp_refl (wl [(16, 3)]) m) (by simp)) (fun c k p1 p2 => by unfold wl; simp; omega)
  have Dr2 : DM b sz a C Y P (z_i (z_r m 16 3 (some b)) 16 4 ((i0 : Int) + 1)) := DM_kp Dr (kp_i (kp_refl (wl [(16, 4)]) _) (by simp)) (fun c k p1 p2 => by unfold wl; simp; omega)
  unfold zF149
  rw [zlet, d_ps Dr u hu, hP]
  dsimp only
  rw [zlet]
  unfold zJ149_14
  rw [d_pe Dr2 u hu, hP, hY]
  dsimp only
  rw [zlet, zlet]
  unfold zJ149_28 zF178
  rw [zlet, ← hm1]
  dsimp only
  rw [M1.1]
  dsimp only
  rw [if_pos ht1]
  unfold zF187
  rw [zlet, zlet]
  dsimp only
  unfold zJ149_43
  have hx1 : (z_f (z_r m1 c1 4 (some b)) (c1 + 1) 0 120).2.1 16 1 = some c1 := by
    show (z_r m1 c1 4 (some b)).2.1 16 1 = some c1
    rw [z_r_rd, if_neg (by omega)]; exact M1.1
  rw [hx1]
  dsimp only
  rw [if_pos ht1]
  unfold zF190
  rw [zlet, zlet, ← hm2]
  dsimp only
  rw [M2.1]
  dsimp only
  rw [if_pos ht1, M2.2.2.2.2.2.1, show (i0 : Int) + 1 = (pl A 0 : Int) by rw [x_0 h]; omega]
  unfold zF192 zF194
  rw [show ((0 : Nat) : Int) = 0 from rfl] at e1
  rw [e1]
  dsimp only
  unfold zJ149_61
  rw [show ((0 : Nat) : Int) = 0 from rfl] at g1
  exact g1
theorem m67 (hn : 200000 ≤ n) (h : RX true C Y A N i0 z) (hne : ∀ e : Nat, e < N → ¬ em A e) (hB : CB X S lo en) (hle : lo ≤ en) (m : ZM) (hA : AX true m A (N + 1)) (hRR : RRk S X m) (tr : List ((Nat → Bool) × Nat × Nat)) (v : Int) (hV : TV A N X en tr (H0 A) lo v) :
    ∃ w m', zF67 n lo en m = some (w, m') ∧ MA A N (PF A N tr (H0 A) []).1 (PF A N tr (H0 A) []).2 v w m' ∧ kp (wl w67) m m' := by
  have hS := hRR.1
  have hen := hB.1
  obtain ⟨m2, a1, a2, a3⟩ := m50 (n := n) (by omega) (z_i m 83 40 0)
  have w50n : ∀ a k : Nat, a ≠ 109 → a ≠ 110 → wl w50 a k = false := fun a k h1 h2 => by
    unfold wl w50
    simp
    omega
  have w49n : ∀ a k : Nat, a ≠ 109 → a ≠ 110 → a ≠ 114 → wl w49 a k = false := fun a k h1 h2 h3 => by
    unfold wl w49
    simp
    omega
  have w51n : ∀ a k : Nat, a ≠ 108 → a ≠ 111 → wl w51 a k = false := fun a k h1 h2 => by
    unfold wl w51
    simp
    omega
  have A2 : AX true m2 A (N + 1) := AX_k hA (fun c q p1 p2 => by rw [(a2.1 c q (w50n c q (by omega) (by omega))).1, z_nc _ _ _ _ _ _ (by omega)])
  obtain ⟨m3, b1, b2, b3, b4⟩ := m49 hn h hne 1 0 (Or.inl rfl) 0 (by omega) m2 A2 (fun j hj => by rw [(a3 j hj).1]; omega)
  obtain ⟨m4, c1, c2, c3, c4, c5⟩ := m51 n (by omega) 0 (by omega) m3 (fun j hj => by
    rw [(b4 j hj).2, (a3 j hj).2]
    split <;> omega)
  have A4 : AX true m4 A (N + 1) := AX_k A2 (fun c q p1 p2 => by rw [(c2.1 c q (w51n c q (by omega) (by omega))).1, w49_90 b2 c q p1 p2])
  have T4 : TR (H0 A) m4 := fun j hj => by
    rw [c3 j hj, (b4 j hj).1, (a3 j hj).1, H0_len]
    congr 1
    omega
  have s4 : m4.1 83 40 = 0 := by
    rw [(c2.1 83 40 (w51n _ _ (by decide) (by decide))).1, (b2.1 83 40 (w49n _ _ (by decide) (by decide) (by decide))).1, (a2.1 83 40 (w50n _ _ (by decide) (by decide))).1, z_eq]
  have R4 : RRk S X m4 := ⟨hRR.1, fun q hq => by
    rw [(c2.1 105 q (w51n _ _ (by decide) (by decide))).1, (b2.1 105 q (w49n _ _ (by decide) (by decide) (by decide))).1, (a2.1 105 q (w50n _ _ (by decide) (by decide))).1, z_nc _ _ _ _ _ _ (by decide)]
    exact hRR.2 q hq⟩
  obtain ⟨w, m', e1, e2⟩ := m67l hn h hne hB tr [] (H0 A) lo n v m4 20 hV rfl (HO_0 h) (by decide) (by omega) hle (by show 0 + (en - lo) ≤ 150; omega) (by omega) A4 R4 T4 trivial trivial s4
  have e3 : zF67 n lo en m = some (w, m') := by
    unfold zF67
    rw [zlet, a1]
    dsimp only
    rw [show ((0 : Nat) : Int) = 0 from rfl] at b1
    rw [b1]
    dsimp only
    unfold zJ67_18
    rw [show ((0 : Nat) : Int) = 0 from rfl] at c1
    rw [c1]
    exact e1
  exact ⟨w, m', e3, e2, zF67_kp n lo en m _ _ e3⟩
end
