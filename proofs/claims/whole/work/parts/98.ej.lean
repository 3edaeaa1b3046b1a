/-! Threads go on over a token: the class's side. -/
def wC (c : Nat) : List (Nat × Nat) := (c, 3) :: wT c
theorem wC_n {c : Nat} (c' k : Nat) (h : c' ≠ c + 1 ∧ c' ≠ c + 2 ∧ c' ≠ c + 3 ∧ (c' = c → k ≠ 3)) : wl (wC c) c' k = false := by
  unfold wl wC wT
  simp
  omega
section
variable {C : Nat → Int} {Y A : Nat → Nat → Int} {N i0 z : Nat} {n b sz a r c1 c2 : Nat} {P : Nat → Nat} {H K : Nat → List (List (Nat × List Nat))} {B : Int}
/-- setOutFrom -/
theorem c191 (hn : 10 ≤ n) (x : Nat) (hx : x < 120) (m : ZM) (hcc : c2 + 3 ≠ c1 + 2 ∧ c2 + 3 ≠ c1 + 1 ∧ c2 + 3 ≠ c1) : ∃ m1, zF191 n c2 c1 x m = some ((), m1) ∧ (∀ o : Nat, o < 4 → m1.1 (c2 + 3) o = m.1 (c1 + 2) (4 * x + o)) ∧ m1.1 c2 3 = m.1 (c1 + 1) x ∧ m1.2 = m.2 ∧ ∀ a k : Nat, a ≠ c2 + 3 → (a = c2 → k ≠ 3) → m1.1 a k = m.1 a k := by
  have st : ∀ (f o : Nat) (m2 : ZM), o < 4 → (∀ k, m2.1 (c1 + 2) k = m.1 (c1 + 2) k) → zL191_2 n c2 c1 (f + 1) x o m2 = zL191_2 n c2 c1 f x ((o + 1 : Nat) : Int) (z_i m2 (c2 + 3) o (m.1 (c1 + 2) (4 * x + o))) := by
    intro f o m2 ho h2
    have e189 : zF189 n c1 x o m2 = some (m.1 (c1 + 2) (4 * x + o), m2) := by
      unfold zF189
      rw [if_neg (by omega), if_neg (by omega), if_neg (by omega), if_pos (by omega), if_pos (by omega), if_neg (by omega), show ((x : Int) * 4 + o).toNat = 4 * x + o by omega, h2]
    rw [zL191_2, if_neg (by omega), e189]
    dsimp only
    rw [if_neg (by omega), zlet, Int.toNat_natCast]
    unfold zJ191_19
    rw [if_pos (by omega), show ((o + 1 : Nat) : Int) = (o : Int) + 1 by omega]
  have k2 : ∀ (m2 : ZM) (o : Nat) (y : Int), (∀ k, m2.1 (c1 + 2) k = m.1 (c1 + 2) k) → ∀ k, (z_i m2 (c2 + 3) o y).1 (c1 + 2) k = m.1 (c1 + 2) k := fun m2 o y h k => by
    rw [z_nc _ _ _ _ _ _ (by omega)]; exact h k
  obtain ⟨n', rfl⟩ : ∃ n', n = n' + 1 + 1 + 1 + 1 + 1 := ⟨n - 5, by omega⟩
  have h0 : ∀ k, m.1 (c1 + 2) k = m.1 (c1 + 2) k := fun _ => rfl
  have h1 := k2 m 0 (m.1 (c1 + 2) (4 * x + 0)) h0
  have h2 := k2 _ 1 (m.1 (c1 + 2) (4 * x + 1)) h1
  have h3 := k2 _ 2 (m.1 (c1 + 2) (4 * x + 2)) h2
  have e0 := st (n' + 1 + 1 + 1 + 1) 0 m (by omega) h0
  have e1 := st (n' + 1 + 1 + 1) 1 _ (by omega) h1
  have e2 := st (n' + 1 + 1) 2 _ (by omega) h2
  have e3 := st (n' + 1) 3 _ (by omega) h3
  have e4 : ∀ m2 : ZM, zL191_2 (n' + 1 + 1 + 1 + 1 + 1) c2 c1 (n' + 1) x ((3 + 1 : Nat) : Int) m2 = some ((), z_i m2 c2 3 (m2.1 (c1 + 1) x)) := by
    intro m2
    have e188 : zF188 (n' + 1 + 1 + 1 + 1 + 1) c1 x m2 = some (m2.1 (c1 + 1) x, m2) := c188 c1 x hx m2
    rw [zL191_2, if_pos (by omega), e188]
    rfl
  refine ⟨_, e0.trans (e1.trans (e2.trans (e3.trans (e4 _)))), fun o ho => ?_, ?_, rfl, fun a k h1 h2 => ?_⟩
  · rw [z_nc _ _ _ _ _ _ (by omega)]
    obtain rfl | rfl | rfl | rfl : o = 0 ∨ o = 1 ∨ o = 2 ∨ o = 3 := by omega
    · rw [z_nk _ _ _ _ _ _ (by decide), z_nk _ _ _ _ _ _ (by decide), z_nk _ _ _ _ _ _ (by decide), z_eq]
    · rw [z_nk _ _ _ _ _ _ (by decide), z_nk _ _ _ _ _ _ (by decide), z_eq]
    · rw [z_nk _ _ _ _ _ _ (by decide), z_eq]
    · rw [z_eq]
  · rw [z_eq, z_nc _ _ _ _ _ _ (by omega), z_nc _ _ _ _ _ _ (by omega), z_nc _ _ _ _ _ _ (by omega), z_nc _ _ _ _ _ _ (by omega)]
  · by_cases q : a = c2
    · rw [z_nk _ _ _ _ _ _ (h2 q), z_nc _ _ _ _ _ _ h1, z_nc _ _ _ _ _ _ h1, z_nc _ _ _ _ _ _ h1, z_nc _ _ _ _ _ _ h1]
    · rw [z_nc _ _ _ _ _ _ q, z_nc _ _ _ _ _ _ h1, z_nc _ _ _ _ _ _ h1, z_nc _ _ _ _ _ _ h1, z_nc _ _ _ _ _ _ h1]
theorem TH_rg {m : ZM} (hT : TH A N b c1 H m) (p : Nat) (hp : p < 120) : 0 ≤ m.1 (c1 + 1) p ∧ m.1 (c1 + 1) p ≤ 2 := by
  by_cases q : ∃ j : Nat, j ≤ N ∧ sd A j ∧ p = sp A j
  · obtain ⟨j, j1, j2, j3⟩ := q
    rw [j3, hT.2.1 j j1 j2]
    unfold mn
    split <;> omega
  · rw [hT.2.2.1 p hp (fun j j1 j2 j3 => q ⟨j, j1, j2, j3⟩)]
    omega
/-- what arrives, joined with what was there -/
theorem TH_EF (hO : HO A N B H) (e : Nat) (m m1 m2 : ZM) (hK : TH A N b c2 K m) (h21 : m1.2 = m.2) (h1 : ∀ k, m1.1 (c2 + 1) k = m.1 (c2 + 1) k) (h2 : ∀ k, m1.1 (c2 + 2) k = m.1 (c2 + 2) k) (h : List (Nat × List Nat)) (hh : h ∈ H e) (ho : ∀ o : Nat, o < 4 → m1.1 (c2 + 3) o = Rd A h o + inc A e (nx A e) o)
    (hE : EF A N c2 (mn ((H e).length : Int)) (ways A (nx A e)) m1 m2) : TH A N b c2 (fun j => K j ++ hx A e j (H e)) m2 := by
  obtain ⟨a1, a2, a3, a4⟩ := hE
  obtain ⟨k1, k2, k3, k4⟩ := hK
  obtain ⟨_, _, ⟨p', h', e3⟩, _⟩ := hO e h hh
  refine ⟨?_, fun j hj hs => ?_, fun p hp hs => ?_, fun j hj hs hne => ?_⟩
  · rw [(a1.1 c2 4 (wT_n c2 4 (by omega))).2, h21]; exact k1
  · rw [(a4 j hj hs).1, h1, k2 j hj hs, List.length_append, hx_len]
    have h0 : (0 : Int) ≤ mn ((H e).length : Int) * ((ways A (nx A e) j).length : Int) := by
      apply Int.mul_nonneg
      · unfold mn; split <;> omega
      · omega
    rw [mn_mn _ _ h0, mn_mul _ (by omega), Int.natCast_add]
    rfl
  · rw [a3 p hp hs, h1]; exact k3 p hp hs
  · rcases (a4 j hj hs).2 with ⟨b1, b2⟩ | ⟨p, b1, b2⟩
    · have hx0 : hx A e j (H e) = [] := by
        apply List.eq_nil_of_length_eq_zero
        have : wc A (nx A e) j = 0 := by unfold wc; rw [b1]; rfl
        rw [hx_len, this, Nat.mul_zero]
      dsimp only at hne ⊢
      rw [hx0, List.append_nil] at hne ⊢
      obtain ⟨h2', c1', c2'⟩ := k4 j hj hs hne
      exact ⟨h2', c1', fun o ho' => by rw [b2 o ho', h2]; exact c2' o ho'⟩
    · refine ⟨(j, p) :: h, List.mem_append_right _ ((hx_mem A e j (H e) _).2 ⟨h, hh, p, b1, rfl⟩), fun o ho' => ?_⟩
      rw [b2 o ho', ho o ho']
      have : hin A h o = inc A e (nx A e) o := by rw [e3]; rfl
      show _ = Rd A h o + hin A h o + rho A p o
      rw [this]
/-- one element's threads go on -/
theorem cgo (hn : 10 ≤ n) (h : RX true C Y A N i0 z) (hne : ∀ e : Nat, e < N → ¬ em A e) (hb : isD b) (hz : z + 1 < sz) (hc : (c1 = 23 ∧ c2 = 27) ∨ (c1 = 27 ∧ c2 = 23)) (m : ZM) (hD : DM b sz a C Y P m) (hT : TH A N b c1 H m) (hK : TH A N b c2 K m) (hO : HO A N B H) (hB : B ≤ 100000) (e : Nat) (he : e < N) (hs : sd A e) (hl : 0 < (H e).length) :
    ∃ m1, zF191 n c2 c1 (sp A e) m = some ((), m1) ∧ kp (wl (wC c2)) m m1 ∧ (A 0 e ≠ 5 → ∃ m2, zF192 n c2 (pl A (nx A e)) m1 = some ((), m2) ∧ kp (wl (wC c2)) m m2 ∧ TH A N b c2 (fun j => K j ++ hx A e j (H e)) m2) ∧
      (∀ e' : Nat, A 0 e = 5 → A 2 e = e' → ∃ m2, zF193 n c2 (pl A e') m1 = some ((), m2) ∧ kp (wl (wC c2)) m m2 ∧ TH A N b c2 (fun j => K j ++ hx A e j (H e)) m2) := by
  have hge := isD_ge hb
  have h120 := h.2.2.2.2.2.2.2.1
  have spb := (sp_b h e (by omega)).2.2 he
  obtain ⟨m1, a1, a2, a3, a4, a5⟩ := c191 (n := n) (c1 := c1) (c2 := c2) hn (sp A e) (by omega) m (by omega)
  have hm := mn_p hl
  obtain ⟨hh, q1, q2⟩ := hT.2.2.2 e (by omega) hs (fun q => by rw [q] at hl; exact absurd hl (Nat.lt_irrefl 0))
  obtain ⟨_, _, _, q3⟩ := hO e hh q1
  have k1 : kp (wl (wC c2)) m m1 := by
    refine ⟨fun c k hw => ⟨?_, by rw [a4]⟩, fun k _ => by rw [a4]⟩
    apply a5
    · intro d
      rw [d] at hw
      unfold wl wC wT at hw
      simp at hw
    · intro d d2
      rw [d, d2] at hw
      unfold wl wC wT at hw
      simp at hw
  have d1 : DM b sz a C Y P m1 := DM_kp hD k1 (fun c k p1 p2 => wC_n c k (by omega))
  have hnx := nx_le h e he
  have ph := phi_16 h (nx A e)
  have T1 : TC c2 b sz a C Y P (mn ((H e).length : Int)) 100000 m1 := by
    refine ⟨by rw [a4]; exact hK.1, d1, by rw [a3]; exact hT.2.1 e (by omega) hs, fun p hp => ?_, fun o ho => ?_⟩
    · rw [a5 (c2 + 1) p (by omega) (by omega)]
      exact TH_rg hK p hp
    · rw [a2 o ho, q2 o ho]
      have := q3 o ho
      omega
  refine ⟨m1, a1, k1, fun c5 => ?_, fun e' c5 he' => ?_⟩
  · obtain ⟨m2, w1, w2⟩ := wk (n := n) h hne (by omega) hb (show c2 + 3 < 41 by omega) hz (by omega) 18 (nx A e) 0 100000 m1 hnx (by omega) (by omega) (by omega) T1
    refine ⟨m2, ?_, kp_tr k1 (kp_sub (fun p hp => List.mem_cons_of_mem _ hp) w2.1), TH_EF hO e m m1 m2 hK a4 (fun k => a5 _ k (by omega) (by omega)) (fun k => a5 _ k (by omega) (by omega)) hh q1 (fun o ho => ?_) w2⟩
    · unfold zF192 zF194
      rw [show ((0 : Nat) : Int) = 0 from rfl] at w1
      rw [w1]
    · rw [a2 o ho, q2 o ho]
      have : inc A e (nx A e) o = 0 := by
        unfold inc
        rw [if_neg (fun d => hs.1 d.1), if_neg (fun d => c5 d.1)]
      omega
  · obtain ⟨t, g1, g2, g3, g4, g5⟩ := x_end h e (by omega) c5
    have : t = e' := by omega
    subst this
    have hnxe : nx A e = t + 1 := by
      unfold nx
      rw [if_pos c5]; omega
    have pe := x_pl h t (by omega)
    have xn := x_nx h t (by omega)
    have l2 : lnf A t = 2 := by
      unfold lnf
      rw [if_neg (by omega), if_pos (Or.inl g4)]
    have hor := ordf_le A (t + 1) N (by omega)
    rw [ordf_4 A t g4] at hor
    have ho4 := h.2.2.2.2.2.2.2.2.2.2.2.2.2.2 rfl
    have ho0 := ordf_0 A t
    have hinc : ∀ o : Nat, inc A e (nx A e) o = if A 5 t < 0 ∧ ordf A t = o then 1 else 0 := fun o => by
      unfold inc
      rw [if_neg (fun d => hs.1 d.1), if_pos ⟨c5, by rw [hnxe, g1]; omega⟩, g1, Int.toNat_natCast]
    have s28 : ∀ m3 : ZM, zJ193_28 n c2 (pl A t) m3 = (match zF194 n c2 (pl A (t + 1)) 0 m3 with | some (v8, M9) => (some ((), M9)) | none => none) := by
      intro m3
      unfold zJ193_28
      rw [if_pos (by omega), show (pl A t : Int) + 2 = pl A (t + 1) by omega] <;> rfl
    by_cases q5 : A 5 t < 0
    · obtain ⟨o, ho⟩ : ∃ o : Nat, ordf A t = o := ⟨(ordf A t).toNat, by omega⟩
      have r5 := T1.2.2.2.2 o (by omega)
      obtain ⟨m2, w1, w2⟩ := wk (n := n) h hne (by omega) hb (show c2 + 3 < 41 by omega) hz (by omega) 18 (nx A e) 0 (100000 + 1) (z_i m1 (c2 + 3) o (m1.1 (c2 + 3) o + 1)) hnx (by omega) (by omega) (by omega) (TC_i hb (by omega) T1 (by omega))
      refine ⟨m2, ?_, kp_tr (kp_ia k1 (by simp [wC, wT])) (kp_sub (fun p hp => List.mem_cons_of_mem _ hp) w2.1), TH_EF hO e m (z_i m1 (c2 + 3) o (m1.1 (c2 + 3) o + 1)) m2 hK a4 (fun k => by rw [z_nc _ _ _ _ _ _ (by omega)]; exact a5 _ k (by omega) (by omega)) (fun k => by rw [z_nc _ _ _ _ _ _ (by omega)]; exact a5 _ k (by omega) (by omega)) hh q1 (fun o' ho' => ?_) w2⟩
      · unfold zF193
        rw [T1.1]
        dsimp only
        rw [if_pos hb, y_oo d1 h (by omega) t (by omega) g4, if_pos q5, ho]
        dsimp only
        rw [if_neg (by omega)]
        unfold zJ193_13
        rw [if_neg (by omega), if_neg (by omega), Int.toNat_natCast, if_pos (by omega), zlet, s28]
        unfold zF194
        rw [hnxe, show ((0 : Nat) : Int) = 0 from rfl] at w1
        rw [w1]
      · rw [hinc]
        by_cases q : o' = o
        · subst q
          rw [z_eq, a2 o' ho', q2 o' ho', if_pos ⟨q5, ho⟩]
        · rw [z_nk _ _ _ _ _ _ q, a2 o' ho', q2 o' ho', if_neg (fun d => q (by omega))]
          omega
    · obtain ⟨m2, w1, w2⟩ := wk (n := n) h hne (by omega) hb (show c2 + 3 < 41 by omega) hz (by omega) 18 (nx A e) 0 100000 m1 hnx (by omega) (by omega) (by omega) T1
      refine ⟨m2, ?_, kp_tr k1 (kp_sub (fun p hp => List.mem_cons_of_mem _ hp) w2.1), TH_EF hO e m m1 m2 hK a4 (fun k => a5 _ k (by omega) (by omega)) (fun k => a5 _ k (by omega) (by omega)) hh q1 (fun o' ho' => ?_) w2⟩
      · unfold zF193
        rw [T1.1]
        dsimp only
        rw [if_pos hb, y_oo d1 h (by omega) t (by omega) g4, if_neg q5]
        dsimp only
        rw [if_pos (by decide), s28]
        unfold zF194
        rw [hnxe, show ((0 : Nat) : Int) = 0 from rfl] at w1
        rw [w1]
      · rw [hinc, if_neg (fun d => q5 d.1), a2 o' ho', q2 o' ho']
        omega
end
