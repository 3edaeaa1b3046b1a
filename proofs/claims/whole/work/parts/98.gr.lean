/-! The reference replaces a call, and loads an arm. -/
theorem xf_app (a b : OL) (p : Nat) : (a ++ b)[p]? = if p < a.length then a[p]? else b[p - a.length]? := by
  by_cases c : p < a.length
  · rw [if_pos c, List.getElem?_append_left c]
  · rw [if_neg c, List.getElem?_append_right (by omega)]
theorem nw_get (l x : OL) (k en p : Nat) (hk : k ≤ l.length) : (nwL l k en x)[p]? = if p < k then l[p]? else if p < k + x.length then x[p - k]? else l[en + 1 + (p - (k + x.length))]? := by
  unfold nwL
  rw [xf_app, List.length_take, Nat.min_eq_left hk]
  by_cases c : p < k
  · rw [if_pos c, if_pos c, List.getElem?_take, if_pos c]
  · rw [if_neg c, if_neg c, xf_app]
    by_cases d : p - k < x.length
    · rw [if_pos d, if_pos (by omega)]
    · rw [if_neg d, if_neg (by omega), List.getElem?_drop, show en + 1 + (p - k - x.length) = en + 1 + (p - (k + x.length)) by omega]
theorem nw_len (l x : OL) (k en : Nat) (hk : k ≤ l.length) : (nwL l k en x).length = k + (x.length + (l.length - (en + 1))) := by
  unfold nwL
  rw [List.length_append, List.length_append, List.length_take, List.length_drop, Nat.min_eq_left hk]
theorem getx {l : OL} {p : Nat} {x : Int × Int} (h : l[p]? = some x) : xf l p = x.1 ∧ kf l p = x.2 := by
  unfold xf kf
  rw [h]
  exact ⟨rfl, rfl⟩
section
variable {n : Nat}
/-- replace: the tokens behind are moved, then what was made is put in -/
theorem m80 (hn : 1000 ≤ n) (l x : OL) (hl : l.length ≤ 150) (k en : Nat) (hk : k ≤ en) (hen : en < l.length) (hx : x.length ≤ 2000000000) (m : ZM) (hT : RT2 l m) (hM : MK x m) :
    (150 < (nwL l k en x).length ∧ zF80 n k ((en : Int) + 1) m = some (0, m)) ∨ ((nwL l k en x).length ≤ 150 ∧ ∃ m', zF80 n k ((en : Int) + 1) m = some (1, m') ∧ RT2 (nwL l k en x) m' ∧ kp (wl w80) m m') := by
  obtain ⟨t1, t2⟩ := hT
  obtain ⟨x1, x2⟩ := hM
  have hnl := nw_len l x k en (by omega)
  obtain ⟨dd, hdd⟩ : ∃ dd : Int, dd = (x.length : Int) - ((en : Int) + 1 - k) := ⟨_, rfl⟩
  by_cases q : 150 < (nwL l k en x).length
  · left
    refine ⟨q, ?_⟩
    unfold zF80
    rw [t1, x1, ← hdd, if_pos (by omega), if_neg (by omega)]
  · right
    refine ⟨by omega, ?_⟩
    -- what is moved
    have cp : ∀ (f j : Nat) (m2 : ZM), x.length + 1 ≤ j + f → j ≤ x.length → kp (wl w80) m m2 → m2.1 83 34 = l.length → (∀ p : Nat, p < k → m2.1 105 p = xf l p ∧ m2.1 106 p = kf l p) → (∀ t : Nat, en + 1 ≤ t → t < l.length → m2.1 105 (k + x.length + (t - (en + 1))) = xf l t ∧ m2.1 106 (k + x.length + (t - (en + 1))) = kf l t) → (∀ t : Nat, t < j → m2.1 105 (k + t) = xf x t ∧ m2.1 106 (k + t) = kf x t) → ∃ m', zL80_135 n f k dd j m2 = some (1, m') ∧ RT2 (nwL l k en x) m' ∧ kp (wl w80) m m' := by
      intro f
      induction f with
      | zero => intro j m2 h1 h2; omega
      | succ f ih =>
        intro j m2 h1 h2 k2 h34 a1 a2 a3
        have h62 : m2.1 83 62 = x.length := by rw [(k2.1 83 62 rfl).1]; exact x1
        by_cases qj : j = x.length
        · subst qj
          refine ⟨z_i m2 83 34 ((l.length : Int) + dd), ?_, ⟨?_, fun p hp => ?_⟩, kp_i k2 (by simp [w80])⟩
          · rw [zL80_135, h62, if_pos (Int.le_refl _), h34, if_pos (by omega), zlet]
          · rw [z_eq]
            omega
          · rw [z_nc _ _ _ _ _ _ (by decide), z_nc _ _ _ _ _ _ (by decide)]
            have hg := nw_get l x k en p (by omega)
            by_cases c1 : p < k
            · rw [if_pos c1, xf_lo l p (by omega)] at hg
              rw [(getx hg).1, (getx hg).2]
              exact a1 p c1
            · rw [if_neg c1] at hg
              by_cases c2 : p < k + x.length
              · rw [if_pos c2, xf_lo x (p - k) (by omega)] at hg
                rw [(getx hg).1, (getx hg).2]
                have := a3 (p - k) (by omega)
                rw [show k + (p - k) = p by omega] at this
                exact this
              · rw [if_neg c2, xf_lo l (en + 1 + (p - (k + x.length))) (by omega)] at hg
                rw [(getx hg).1, (getx hg).2]
                have := a2 (en + 1 + (p - (k + x.length))) (by omega) (by omega)
                rw [show k + x.length + (en + 1 + (p - (k + x.length)) - (en + 1)) = p by omega] at this
                exact this
        · have hxj := xf_lo x j (by omega)
          obtain ⟨y1, y2⟩ := x2 j _ (by omega) hxj
          have z127 : m2.1 127 j = xf x j := by rw [(k2.1 127 j rfl).1]; exact y1
          have z128 : m2.1 128 j = kf x j := by rw [(k2.1 128 j rfl).1]; exact y2
          obtain ⟨m3, hm3⟩ : ∃ m3, m3 = z_i (z_i m2 105 (k + j) (xf x j)) 106 (k + j) (kf x j) := ⟨_, rfl⟩
          have k3 : kp (wl w80) m m3 := by rw [hm3]; exact kp_ia (kp_ia k2 (by simp [w80])) (by simp [w80])
          have r5 : ∀ p : Nat, m3.1 105 p = if p = k + j then xf x j else m2.1 105 p := fun p => by
            rw [hm3, z_nc _ _ _ _ _ _ (by decide), z_i_rd]
            by_cases c : p = k + j
            · rw [if_pos ⟨rfl, c⟩, if_pos c]
            · rw [if_neg (fun w => c w.2), if_neg c]
          have r6 : ∀ p : Nat, m3.1 106 p = if p = k + j then kf x j else m2.1 106 p := fun p => by
            rw [hm3, z_i_rd]
            by_cases c : p = k + j
            · rw [if_pos ⟨rfl, c⟩, if_pos c]
            · rw [if_neg (fun w => c w.2), if_neg c, z_nc _ _ _ _ _ _ (by decide)]
          obtain ⟨m', e1, e2, e3⟩ := ih (j + 1) m3 (by omega) (by omega) k3 (by rw [hm3, z_nc _ _ _ _ _ _ (by decide), z_nc _ _ _ _ _ _ (by decide)]; exact h34) (fun p hp => by rw [r5, r6, if_neg (by omega), if_neg (by omega)]; exact a1 p hp) (fun t h1 h2 => by rw [r5, r6, if_neg (by omega), if_neg (by omega)]; exact a2 t h1 h2) (fun t ht => by
            rw [r5, r6]
            by_cases c : t = j
            · rw [if_pos (by omega), if_pos (by omega), c]; exact ⟨rfl, rfl⟩
            · rw [if_neg (by omega), if_neg (by omega)]; exact a3 t (by omega))
          refine ⟨m', ?_, e2, e3⟩
          rw [zL80_135, h62, if_neg (by omega), if_neg (by omega), if_pos (by omega), if_neg (by omega), zlet, show ((k : Int) + (j : Int)).toNat = k + j by omega, Int.toNat_natCast, z127]
          unfold zJ80_160
          rw [if_neg (by omega), if_pos (by omega), if_neg (by omega), zlet, show ((k : Int) + (j : Int)).toNat = k + j by omega, Int.toNat_natCast, z_nc _ _ _ _ _ _ (show 128 ≠ 105 by decide), z128, ← hm3, if_pos (by omega)]
          rw [show ((j + 1 : Nat) : Int) = (j : Int) + 1 by omega] at e1
          exact e1
    have mv : ∀ (m2 : ZM) (t : Nat), en + 1 ≤ t → t < l.length → ((t : Int) + dd).toNat = k + x.length + (t - (en + 1)) := fun m2 t h1 h2 => by omega
    -- one token is moved
    have one : ∀ (t w : Nat) (m2 : ZM), ∃ m3, m3 = z_i (z_i m2 105 w (m2.1 105 t)) 106 w (m2.1 106 t) ∧ (∀ p : Nat, m3.1 105 p = if p = w then m2.1 105 t else m2.1 105 p) ∧ (∀ p : Nat, m3.1 106 p = if p = w then m2.1 106 t else m2.1 106 p) ∧ kp (wl w80) m2 m3 ∧ m3.1 83 34 = m2.1 83 34 := by
      intro t w m2
      refine ⟨_, rfl, fun p => ?_, fun p => ?_, kp_ia (kp_ia (kp_refl _ m2) (by simp [w80])) (by simp [w80]), ?_⟩
      · rw [z_nc _ _ _ _ _ _ (by decide), z_i_rd]
        by_cases c : p = w
        · rw [if_pos ⟨rfl, c⟩, if_pos c]
        · rw [if_neg (fun w => c w.2), if_neg c]
      · rw [z_i_rd]
        by_cases c : p = w
        · rw [if_pos ⟨rfl, c⟩, if_pos c]
        · rw [if_neg (fun w => c w.2), if_neg c, z_nc _ _ _ _ _ _ (by decide)]
      · rw [z_nc _ _ _ _ _ _ (by decide), z_nc _ _ _ _ _ _ (by decide)]
    have fin : ∀ m2 : ZM, kp (wl w80) m m2 → m2.1 83 34 = l.length → (∀ p : Nat, p < k → m2.1 105 p = xf l p ∧ m2.1 106 p = kf l p) → (∀ t : Nat, en + 1 ≤ t → t < l.length → m2.1 105 (k + x.length + (t - (en + 1))) = xf l t ∧ m2.1 106 (k + x.length + (t - (en + 1))) = kf l t) → ∃ m', zJ80_132 n k dd m2 = some (1, m') ∧ RT2 (nwL l k en x) m' ∧ kp (wl w80) m m' := by
      intro m2 k2 h34 a1 a2
      have := cp n 0 m2 (by omega) (Nat.zero_le _) k2 h34 a1 a2 (fun t ht => by omega)
      unfold zJ80_132
      exact this
    have up : ∀ (f j : Nat) (m2 : ZM), dd ≤ 0 → l.length + 1 ≤ j + f → en + 1 ≤ j → j ≤ l.length → kp (wl w80) m m2 → m2.1 83 34 = l.length → (∀ p : Nat, p < k → m2.1 105 p = xf l p ∧ m2.1 106 p = kf l p) → (∀ t : Nat, en + 1 ≤ t → t < j → m2.1 105 (k + x.length + (t - (en + 1))) = xf l t ∧ m2.1 106 (k + x.length + (t - (en + 1))) = kf l t) → (∀ t : Nat, j ≤ t → t < l.length → m2.1 105 t = xf l t ∧ m2.1 106 t = kf l t) → ∃ m', zL80_85 n f k dd j m2 = some (1, m') ∧ RT2 (nwL l k en x) m' ∧ kp (wl w80) m m' := by
      intro f
      induction f with
      | zero => intro j m2 _ h1 h2 h3; omega
      | succ f ih =>
        intro j m2 hd h1 h2 h3 k2 h34 a1 a2 a3
        by_cases qj : j = l.length
        · subst qj
          rw [zL80_85, h34, if_pos (Int.le_refl _)]
          exact fin m2 k2 h34 a1 a2
        · obtain ⟨m3, e0, e5, e6, ek, e34⟩ := one j (k + x.length + (j - (en + 1))) m2
          obtain ⟨b1, b2⟩ := a3 j (Nat.le_refl _) (by omega)
          obtain ⟨m', f1, f2, f3⟩ := ih (j + 1) m3 hd (by omega) (by omega) (by omega) (kp_tr k2 ek) (by rw [e34]; exact h34) (fun p hp => by rw [e5, e6, if_neg (by omega), if_neg (by omega)]; exact a1 p hp) (fun t g1 g2 => by
            rw [e5, e6]
            by_cases c : t = j
            · rw [if_pos (by omega), if_pos (by omega), c]; exact ⟨b1, b2⟩
            · rw [if_neg (by omega), if_neg (by omega)]; exact a2 t g1 (by omega)) (fun t g1 g2 => by rw [e5, e6, if_neg (by omega), if_neg (by omega)]; exact a3 t (by omega) g2)
          refine ⟨m', ?_, f2, f3⟩
          rw [zL80_85, h34, if_neg (by omega), if_neg (by omega), if_pos (by omega), if_neg (by omega), zlet, mv m2 j h2 (by omega), Int.toNat_natCast]
          unfold zJ80_110
          rw [if_neg (by omega), if_pos (by omega), if_neg (by omega), zlet, mv m2 j h2 (by omega), Int.toNat_natCast, z_nc _ _ _ _ _ _ (show 106 ≠ 105 by decide), ← e0, if_pos (by omega)]
          rw [show ((j + 1 : Nat) : Int) = (j : Int) + 1 by omega] at f1
          exact f1
    have dn : ∀ (f j : Nat) (m2 : ZM), 0 < dd → j + 1 ≤ f + (en + 1) → en + 1 ≤ j → j ≤ l.length → kp (wl w80) m m2 → m2.1 83 34 = l.length → (∀ t : Nat, t < j → m2.1 105 t = xf l t ∧ m2.1 106 t = kf l t) → (∀ t : Nat, j ≤ t → t < l.length → m2.1 105 (k + x.length + (t - (en + 1))) = xf l t ∧ m2.1 106 (k + x.length + (t - (en + 1))) = kf l t) → ∃ m', zL80_35 n f k ((en : Int) + 1) dd ((j : Int) - 1) m2 = some (1, m') ∧ RT2 (nwL l k en x) m' ∧ kp (wl w80) m m' := by
      intro f
      induction f with
      | zero => intro j m2 _ h1 h2 h3; omega
      | succ f ih =>
        intro j m2 hd h1 h2 h3 k2 h34 a1 a2
        by_cases qj : j = en + 1
        · subst qj
          rw [zL80_35, if_pos (by omega)]
          exact fin m2 k2 h34 (fun p hp => a1 p (by omega)) a2
        · obtain ⟨t, rfl⟩ : ∃ t, j = t + 1 := ⟨j - 1, by omega⟩
          obtain ⟨m3, e0, e5, e6, ek, e34⟩ := one t (k + x.length + (t - (en + 1))) m2
          obtain ⟨b1, b2⟩ := a1 t (by omega)
          obtain ⟨m', f1, f2, f3⟩ := ih t m3 hd (by omega) (by omega) (by omega) (kp_tr k2 ek) (by rw [e34]; exact h34) (fun p hp => by rw [e5, e6, if_neg (by omega), if_neg (by omega)]; exact a1 p (by omega)) (fun t' g1 g2 => by
            rw [e5, e6]
            by_cases c : t' = t
            · rw [if_pos (by omega), if_pos (by omega), c]; exact ⟨b1, b2⟩
            · rw [if_neg (by omega), if_neg (by omega)]; exact a2 t' (by omega) g2)
          refine ⟨m', ?_, f2, f3⟩
          rw [show ((t + 1 : Nat) : Int) - 1 = (t : Int) by omega, zL80_35, if_neg (by omega), if_neg (by omega), if_pos (by omega), if_neg (by omega), zlet, mv m2 t (by omega) (by omega), Int.toNat_natCast]
          unfold zJ80_57
          rw [if_neg (by omega), if_pos (by omega), if_neg (by omega), zlet, mv m2 t (by omega) (by omega), Int.toNat_natCast, z_nc _ _ _ _ _ _ (show 106 ≠ 105 by decide), ← e0, if_pos (by omega), show (t : Int) + -1 = (t : Int) - 1 by omega]
          exact f1
    unfold zF80
    rw [t1, x1, ← hdd, if_pos (by omega), if_pos (by omega), if_pos (by omega)]
    by_cases qd : dd ≤ 0
    · rw [if_pos qd]
      have := up n (en + 1) m qd (by omega) (Nat.le_refl _) (by omega) (kp_refl _ m) t1 (fun p hp => t2 p (by omega)) (fun t g1 g2 => by omega) (fun t g1 g2 => t2 t g2)
      rw [show ((en + 1 : Nat) : Int) = (en : Int) + 1 by omega] at this
      exact this
    · rw [if_neg qd, if_pos (by omega)]
      exact dn n l.length m (by omega) (by omega) (by omega) (Nat.le_refl _) (kp_refl _ m) t1 (fun t ht => t2 t ht) (fun t g1 g2 => by omega)
def w33x : List (Nat × Nat) := [(83, 3), (85, 1000)] ++ w34x
/-- loadArm -/
theorem m33 (hn : 200 ≤ n) {T : Nat → Int} {L : Nat} (hL : L ≤ 120) (hch : chs T L) (hd : (dfn (tc T L)).1 = 2) (d u : Nat) (hd5 : d < 5) (hu : u < (dfn (tc T L)).2.2) (m : ZM) (hK : KT d T L m) : ∃ m', zF33 n d u m = some ((), m') ∧ AA (tc T L) (armst (tc T L) u) m' ∧ kp (wl w33x) m m' := by
  obtain ⟨k1, k2, k3, k4⟩ := hK
  have key : ∀ (f j : Nat) (m2 : ZM), L + 1 ≤ j + f → j ≤ L → kp (wl [(83, 3), (85, 1000)]) m m2 → m2.1 83 3 = L → (∀ t : Nat, t < j → m2.1 85 t = T t) → ∃ m', zL33_12 n f d u j m2 = some ((), m') ∧ AA (tc T L) (armst (tc T L) u) m' ∧ kp (wl w33x) m m' := by
    intro f
    induction f with
    | zero => intro j m2 h1 h2; omega
    | succ f ih =>
      intro j m2 h1 h2 k h3 a1
      by_cases q : j = L
      · subst q
        obtain ⟨m', e1, e2, e3⟩ := m34 hn m2 ⟨hL, hch, h3, a1⟩ hd u hu
        refine ⟨m', ?_, e2, kp_tr (kp_sub (fun p hp => List.mem_append_left _ hp) k) (kp_sub (fun p hp => List.mem_append_right _ hp) e3)⟩
        rw [zL33_12, h3, if_pos (Int.le_refl _), e1]
      · have hc : m2.1 86 (120 * d + j) = T j := by
          rw [(k.1 86 _ rfl).1]
          exact k2 j (by omega)
        obtain ⟨m', e1, e2, e3⟩ := ih (j + 1) (z_i m2 85 j (T j)) (by omega) (by omega) (kp_ia k (by simp)) (by rw [z_nc _ _ _ _ _ _ (by decide)]; exact h3) (fun t ht => by
          by_cases c : t = j
          · rw [c, z_eq]
          · rw [z_nk _ _ _ _ _ _ c]; exact a1 t (by omega))
        refine ⟨m', ?_, e2, e3⟩
        rw [zL33_12, h3, if_neg (by omega), if_pos (by omega), if_neg (by omega), if_neg (by omega), zlet, show ((120 : Int) * (d : Int) + (j : Int)).toNat = 120 * d + j by omega, Int.toNat_natCast, hc]
        unfold zJ33_37
        rw [if_pos (by omega)]
        rw [show ((j + 1 : Nat) : Int) = (j : Int) + 1 by omega] at e1
        exact e1
  unfold zF33
  rw [if_neg (by omega), zlet, Int.toNat_natCast, k1]
  exact key n 0 (z_i m 83 3 L) (by omega) (Nat.zero_le _) (kp_i (kp_refl _ m) (by simp)) (z_eq _ _ _ _) (fun t ht => by omega)
end
