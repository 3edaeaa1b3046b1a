/-! follow, whole. -/
def PO (A : Nat → Nat → Int) (N : Nat) : List PE → Prop
  | [] => True
  | (Hp, _, _, _) :: t => (∃ B, HO A N B Hp) ∧ PO A N t
section
variable {C : Nat → Int} {Y A : Nat → Nat → Int} {N i0 z : Nat} {n : Nat} {X : Nat → Int} {S lo en : Nat}
theorem TV_PO (h : RX true C Y A N i0 z) (hX : ∀ p : Nat, p < en → 0 < X p) : ∀ (tr : List ((Nat → Bool) × Nat × Nat)) (H : Nat → List (List (Nat × List Nat))) (t : List PE) (p : Nat) (r B : Int), TV A N X en tr H p r → HO A N B H → 0 ≤ B → PP A N t H → PO A N t → PO A N (PF A N tr H t).2 ∧ PP A N (PF A N tr H t).2 (PF A N tr H t).1 ∧ (∃ B', HO A N B' (PF A N tr H t).1) ∧ (PF A N tr H t).2.length ≤ t.length + (en - p) := by
  intro tr
  induction tr with
  | nil => intro H t p r B _ hO _ hP hPO; exact ⟨hPO, hP, ⟨B, hO⟩, by show t.length ≤ _; omega⟩
  | cons x tr ih =>
    obtain ⟨G, p0, v⟩ := x
    intro H t p r B hV hO hB hP hPO
    obtain ⟨rfl, u1, u2, u3, u4, u5, u6⟩ := hV
    have hx0 := hX p0 u1
    have hGN : ∀ e : Nat, G e = true → e < N := by
      intro e he
      rcases u5 with ⟨d1, e0, d2, d3, d4⟩ | ⟨d1, d2, d3, d4⟩
      · obtain ⟨e', q1, q2, q3, q4, q5⟩ := ac_f1 (A := A) (H := H) (c := X p0) N d1
        rw [d4] at he
        have he := of_decide_eq_true he
        omega
      · rw [d4] at he
        have q := of_decide_eq_true he
        have h1 := q.1
        have he : e ≤ N := by
          apply Classical.byContradiction
          intro d
          have := HO_hi hO e (by omega)
          omega
        by_cases d : e = N
        · subst d
          have q2 := q.2
          unfold bf at q2
          rw [h.2.2.2.1, if_neg (by decide), if_neg (by decide), if_pos rfl] at q2
          omega
        · omega
    obtain ⟨g1, g2, g3, g4⟩ := ih (fun j => Hn A G H j N) ((H, G, p0, v) :: t) v r (B + 20) u6 (HO_n h B G H hO hB hGN N) (by omega) ⟨rfl, hP⟩ ⟨⟨B, hO⟩, hPO⟩
    rw [List.length_cons] at g4
    exact ⟨g1, g2, g3, by show (PF A N tr _ _).2.length ≤ _; omega⟩
theorem rtk_h (A : Nat → Nat → Int) (t : List PE) (a b : Nat × List Nat) (h : List (Nat × List Nat)) : rtk A t (a :: h) = rtk A t (b :: h) := by
  cases t with
  | nil => rfl
  | cons x t =>
    obtain ⟨Hp, G, p, v⟩ := x
    cases h with
    | nil => rfl
    | cons w h =>
      obtain ⟨e, w⟩ := w
      rfl
theorem PTH_j {t : List PE} {j : Nat} {m : ZM} (h : PTH A N t j m) : m.1 116 t.length = j := by
  cases t with
  | nil => exact h
  | cons x t =>
    obtain ⟨Hp, G, p, v⟩ := x
    exact h.1
theorem m73l (hn : 2000 ≤ n) (h : RX true C Y A N i0 z) (hne : ∀ e : Nat, e < N → ¬ em A e) (T : Nat) (hT : T ≤ 150) : ∀ (t : List PE) (H : Nat → List (List (Nat × List Nat))) (j : Nat) (m : ZM), PP A N t H → PO A N t → (∃ B, HO A N B H) → PTH A N t j m → PM t m → H j ≠ [] → t.length ≤ T → m.1 83 40 = T → AX true m A (N + 1) → IS zs0.1 zs0.2 0 m → KR [] m →
    ∃ (x : Nat) (s : (Nat → Int) × (Nat → Int → Int)) (h' : List (Nat × List Nat)) (m' : ZM) (k : Nat), (∀ f, zL73_36 n (f + t.length) 0 0 m = zL73_36 n f x t.length m') ∧ HEAD A N t j x s h' ∧ IS s.1 s.2 k m' ∧ k ≤ 2 * t.length ∧ sbd (20 * t.length) s ∧ KR (rtk A t ((j, []) :: h')) m' ∧ kp (wl w73) m m' := by
  have hN := x_N119 h
  intro t
  induction t with
  | nil =>
    intro H j m hP hPO hO hPT hPM hj hl h40 hA hI hK
    exact ⟨0, zs0, [], m, 0, fun f => rfl, ⟨rfl, rfl, rfl⟩, hI, Nat.le_refl _, ⟨fun _ => ⟨Int.le_refl _, Int.le_refl _⟩, fun _ _ => ⟨Int.le_refl _, Int.le_refl _⟩⟩, hK, kp_refl _ m⟩
  | cons y t ih =>
    obtain ⟨Hp, G, p, v⟩ := y
    intro H j m hP hPO hO hPT hPM hj hl h40 hA hI hK
    rw [List.length_cons] at hl
    obtain ⟨hP1, hP2⟩ := hP
    obtain ⟨hPT1, i, hPV, hPT2⟩ := hPT
    obtain ⟨hPM1, hPM2⟩ := hPM
    obtain ⟨⟨B0, hPO1⟩, hPO2⟩ := hPO
    have hi : Hp i ≠ [] := fun c => by have := hPV.2.2.1; rw [c] at this; exact absurd this (Nat.lt_irrefl 0)
    obtain ⟨x, s, h'', m1, k, g1, g2, g3, g4, g5, g6, g7⟩ := ih Hp i m hP2 hPO2 ⟨B0, hPO1⟩ hPT2 hPM2 hi (by omega) h40 hA hI hK
    have hiN : i < N := hPV.1
    have hO' : ∃ B : Int, ∀ Hp' G' p' v' t', t = (Hp', G', p', v') :: t' → HO A N B Hp' := by
      cases t with
      | nil => exact ⟨0, fun _ _ _ _ _ e => by cases e⟩
      | cons y2 t2 =>
        obtain ⟨Hp2, G2, p2, v2⟩ := y2
        obtain ⟨⟨B2, hB2⟩, _⟩ := hPO2
        refine ⟨B2, fun Hp' G' p' v' t' e => ?_⟩
        cases e
        exact hB2
    obtain ⟨B1, hO1⟩ := hO'
    obtain ⟨w1, w2, w3⟩ := HEAD_w h t Hp B1 i x s h'' hP2 hO1 hi g2
    have A1 : AX true m1 A (N + 1) := AX_k hA (fun c q p1 p2 => (g7.1 c q (w73_n c q (by omega))).1)
    obtain ⟨F, m2, k2, c1, c2, c3, c4, c5⟩ := m71 (n := n) hn h hne x i k w1 w2 s (20 * t.length) m1 A1 g3 (by omega) g5 (by omega) (by omega)
    have w71s : ∀ q ∈ w71, q ∈ w73 := by simp [w71, w73]
    have c5' := kp_sub w71s c5
    have A2 : AX true m2 A (N + 1) := AX_k A1 (fun c q p1 p2 => (c5'.1 c q (w73_n c q (by omega))).1)
    obtain ⟨hm, hf⟩ := w3 (x :: F) c2
    have hlen := Wy_len A i 17 x (x :: F) c2
    have sb1 := sbd_f (A := A) (x :: F) (20 * t.length) s g5 (by omega)
    have sb2 : sbd 80000 (fls A (x :: F) s) := ⟨fun a => by have := sb1.1 a; omega, fun a o => by have := sb1.2 a o; omega⟩
    have hsi := (hPO1 i _ hm).2.1
    have K2 : KR (rtk A t ((i, x :: F) :: h'')) m2 := by
      rw [rtk_h A t (i, x :: F) (i, []) h'']
      exact KR_k g6 (c5.1 83 56 rfl).1 (fun a q p1 p2 => (c5.1 a q (by unfold wl w71; simp; omega)).1)
    have hrl := rtk_len A t ((i, x :: F) :: h'')
    obtain ⟨m3, k3, d1, d2, d3, d4, d5⟩ := m73s (n := n) (by omega) h i t.length (by omega) (by omega) m2 A2 (fls A (x :: F) s) k2 c3 (by omega) sb2 (rtk A t ((i, x :: F) :: h'')) K2 (by omega) hsi.1 p v (fun _ => by
      rw [(c5'.1 112 _ (w73_n _ _ (by omega))).1, (c5'.1 113 _ (w73_n _ _ (by omega))).1, (g7.1 112 _ (w73_n _ _ (by omega))).1, (g7.1 113 _ (w73_n _ _ (by omega))).1]
      exact hPM1)
    have h3w := hPT2
    have st : ∀ f, zL73_36 n (f + 1) x t.length m1 = zL73_36 n f (nx A i) ((t.length : Int) + 1) m3 := by
      intro f
      have e116 : m1.1 116 t.length = i := by
        rw [(g7.1 116 _ (w73_n _ _ (by omega))).1]
        exact PTH_j hPT2
      rw [zL73_36, (g7.1 83 40 (w73_n _ _ (by omega))).1, h40, if_neg (by omega), if_neg (by omega), Int.toNat_natCast, e116, c1]
      dsimp only
      exact d1 (zL73_36 n f)
    have fe := hf
    rw [fe] at d2 d4
    refine ⟨nx A i, trs A i (nx A i) (shs A ((i, x :: F) :: h'')), (i, x :: F) :: h'', m3, k3, fun f => ?_, ⟨i, hPV, hm, rfl, rfl⟩, d2, by rw [List.length_cons]; omega, ?_, d4, kp_tr g7 (kp_tr c5' d5)⟩
    · rw [List.length_cons, show f + (t.length + 1) = (f + 1) + t.length by omega, g1 (f + 1), st f, show ((t.length + 1 : Nat) : Int) = (t.length : Int) + 1 by omega]
    · rw [fe] at sb1
      have sb3 := sbd_t (A := A) sb1 i (nx A i)
      refine ⟨fun a => ?_, fun a o => ?_⟩
      · have := sb3.1 a
        rw [List.length_cons (as := t)]
        omega
      · have := sb3.2 a o
        rw [List.length_cons (as := t)]
        omega
/-- what follow leaves -/
theorem m73 (hn : 2000 ≤ n) (h : RX true C Y A N i0 z) (hne : ∀ e : Nat, e < N → ¬ em A e) (t : List PE) (H : Nat → List (List (Nat × List Nat))) (hh : List (Nat × List Nat)) (m : ZM) (hP : PP A N t H) (hPO : PO A N t) (hO : ∃ B, HO A N B H) (hPT : PTH A N t N m) (hPM : PM t m) (hH : H N = [hh]) (hl : t.length ≤ 150) (h40 : m.1 83 40 = t.length) (hA : AX true m A (N + 1)) :
    ∃ m' k, zF73 n m = some ((), m') ∧ IS (shs A hh).1 (shs A hh).2 k m' ∧ k ≤ 400 ∧ KR (rtk A t hh) m' ∧ kp (wl w73) m m' ∧ sbd 5000 (shs A hh) := by
  have hN := x_N119 h
  have h6 := h.2.2.2.1
  have key : ∀ (f x : Nat) (m : ZM), 129 ≤ f + x → x ≤ 128 → (∀ v : Nat, v < x → m.1 118 v = 0) → ∃ m', zL73_2 n f x m = zL73_36 n n 0 0 (z_i (z_i m' 83 52 0) 83 56 0) ∧ (∀ v : Nat, v < 128 → m'.1 118 v = 0) ∧ kp (wl [(118, 1000)]) m m' := by
    intro f
    induction f with
    | zero => intro x m h1 h2; omega
    | succ f ih =>
      intro x m h1 h2 h3
      by_cases q : x = 128
      · subst q
        exact ⟨m, by rw [zL73_2, if_pos (by decide), zlet, zlet], h3, kp_refl _ m⟩
      · obtain ⟨m', e1, e2, e3⟩ := ih (x + 1) (z_i m 118 x 0) (by omega) (by omega) (fun v hv => by
          by_cases c : v = x
          · subst c; rw [z_eq]
          · rw [z_nk _ _ _ _ _ _ c]; exact h3 v (by omega))
        refine ⟨m', ?_, e2, kp_tr (kp_ia (kp_refl _ m) (by simp)) e3⟩
        rw [zL73_2, if_neg (by omega), if_neg (by omega), zlet, if_pos (by omega), Int.toNat_natCast]
        rw [show ((x + 1 : Nat) : Int) = (x : Int) + 1 by omega] at e1
        exact e1
  obtain ⟨m1, a1, a2, a3⟩ := key n 0 m (by omega) (by omega) (fun v hv => by omega)
  obtain ⟨m2, hm2⟩ : ∃ m2, m2 = z_i (z_i m1 83 52 0) 83 56 0 := ⟨_, rfl⟩
  have k2 : kp (wl w73) m m2 := by
    rw [hm2]
    exact kp_i (kp_i (kp_sub (by simp [w73]) a3) (by simp [w73])) (by simp [w73])
  have I2 : IS zs0.1 zs0.2 0 m2 := by
    refine ⟨fun v hv => ?_, ?_, fun b o => Or.inr ⟨fun i hi => by omega, rfl⟩⟩
    · rw [hm2, z_nc _ _ _ _ _ _ (by decide), z_nc _ _ _ _ _ _ (by decide)]; exact a2 v hv
    · rw [hm2, z_nk _ _ _ _ _ _ (by decide), z_eq]; rfl
  have K2 : KR [] m2 := ⟨by rw [hm2, z_eq]; rfl, fun i x hx => by cases hx⟩
  have A2 : AX true m2 A (N + 1) := AX_k hA (fun c q p1 p2 => (k2.1 c q (w73_n c q (by omega))).1)
  have s2 : m2.1 83 40 = t.length := by rw [(k2.1 83 40 (w73_n _ _ (by omega))).1]; exact h40
  obtain ⟨x, s, h', m3, k, g1, g2, g3, g4, g5, g6, g7⟩ := m73l (n := n) hn h hne t.length hl t H N m2 hP hPO hO (PTH_k t N hPT (fun q _ => (k2.1 116 q (w73_n _ _ (by omega))).1)) (PM_k t hPM (fun q _ => ⟨(k2.1 112 q (w73_n _ _ (by omega))).1, (k2.1 113 q (w73_n _ _ (by omega))).1⟩)) (by rw [hH]; exact List.cons_ne_nil _ _) (Nat.le_refl _) s2 A2 I2 K2
  have hO' : ∃ B : Int, ∀ Hp' G' p' v' t', t = (Hp', G', p', v') :: t' → HO A N B Hp' := by
    cases t with
    | nil => exact ⟨0, fun _ _ _ _ _ e => by cases e⟩
    | cons y2 t2 =>
      obtain ⟨Hp2, G2, p2, v2⟩ := y2
      obtain ⟨⟨B2, hB2⟩, _⟩ := hPO
      refine ⟨B2, fun Hp' G' p' v' t' e => ?_⟩
      cases e
      exact hB2
  obtain ⟨B1, hO1⟩ := hO'
  obtain ⟨w1, w2, w3⟩ := HEAD_w h t H B1 N x s h' hP hO1 (by rw [hH]; exact List.cons_ne_nil _ _) g2
  have A3 : AX true m3 A (N + 1) := AX_k A2 (fun c q p1 p2 => (g7.1 c q (w73_n c q (by omega))).1)
  obtain ⟨F, m4, k4, c1, c2, c3, c4, c5⟩ := m71 (n := n) hn h hne x N k w1 w2 s (20 * t.length) m3 A3 g3 (by omega) g5 (by omega) (by omega)
  have c5' : kp (wl w73) m3 m4 := kp_sub (by simp [w71, w73]) c5
  have A4 : AX true m4 A (N + 1) := AX_k A3 (fun c q p1 p2 => (c5'.1 c q (w73_n c q (by omega))).1)
  obtain ⟨hm, hf⟩ := w3 (x :: F) c2
  rw [hH] at hm
  have hhe := List.mem_singleton.1 hm
  have hlen := Wy_len A N 17 x (x :: F) c2
  have sb1 := sbd_f (A := A) (x :: F) (20 * t.length) s g5 (by omega)
  have sb2 : sbd 80000 (fls A (x :: F) s) := ⟨fun a => by have := sb1.1 a; omega, fun a o => by have := sb1.2 a o; omega⟩
  have K4 : KR (rtk A t ((N, x :: F) :: h')) m4 := by
    rw [rtk_h A t (N, x :: F) (N, []) h']
    exact KR_k g6 (c5.1 83 56 rfl).1 (fun a q p1 p2 => (c5.1 a q (by unfold wl w71; simp; omega)).1)
  have hrl := rtk_len A t ((N, x :: F) :: h')
  obtain ⟨m5, k5, d1, d2, d3, d4, d5⟩ := m73s (n := n) (by omega) h N t.length (Nat.le_refl _) (by omega) m4 A4 (fls A (x :: F) s) k4 c3 (by omega) sb2 (rtk A t ((N, x :: F) :: h')) K4 (by omega) (by omega) 0 0 (fun c => by omega)
  rw [if_neg (show ¬ A 0 N = 3 by omega), List.append_nil, hhe] at d4
  have htr : trs A N (nx A N) (fls A (x :: F) s) = fls A (x :: F) s := by
    have : evb A N (nx A N) = none := by
      unfold evb
      rw [if_neg (fun w => by have := w.1; omega), if_neg (fun w => by have := w.1; omega)]
    unfold trs
    rw [this]
  rw [htr, hf, hhe] at d2
  rw [hf, hhe] at sb1
  refine ⟨m5, k5, ?_, d2, by omega, d4, kp_tr k2 (kp_tr g7 (kp_tr c5' d5)), ⟨fun a => by have := sb1.1 a; omega, fun a o => by have := sb1.2 a o; omega⟩⟩
  unfold zF73
  rw [show ((0 : Nat) : Int) = 0 from rfl] at a1
  rw [a1, ← hm2]
  have g1' := g1 (n - t.length)
  rw [show n - t.length + t.length = n by omega] at g1'
  rw [g1', show n - t.length = (n - t.length - 2) + 1 + 1 by omega]
  have e40 : m3.1 83 40 = t.length := by rw [(g7.1 83 40 (w73_n _ _ (by omega))).1]; exact s2
  have e116 : m3.1 116 t.length = N := by
    rw [(g7.1 116 _ (w73_n _ _ (by omega))).1, (k2.1 116 _ (w73_n _ _ (by omega))).1]
    exact PTH_j hPT
  rw [zL73_36, e40, if_neg (by omega), if_neg (by omega), Int.toNat_natCast, e116, c1]
  dsimp only
  rw [d1, zL73_36, (d5.1 83 40 (w73_n _ _ (by omega))).1, (c5'.1 83 40 (w73_n _ _ (by omega))).1, e40, if_pos (by omega)]
end
