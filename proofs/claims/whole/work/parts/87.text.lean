/-! A text to be expanded is read: brackets balanced on both sides alike. -/
theorem zF168_eq (n b : Nat) (a o : Int) (m : ZM) (i : Nat) (h : m.1 b 2 = i) (hi : i < 150) : zF168 n b a o m = some ((), z_i (z_i (z_i m (b + 1) i a) (b + 2) i o) b 2 (i + 1)) := by
  unfold zF168 zJ168_26
  rw [h, if_pos (by omega), if_neg (by omega), Int.toNat_natCast, zlet]
  rw [z_nc m (b + 1) i a b 2 (by omega), h, if_neg (by omega), Int.toNat_natCast, zlet, z_nc _ (b + 2) i o b 2 (by omega), z_nc m (b + 1) i a b 2 (by omega), h, if_pos (by omega), zlet]
theorem zF168_full (n b : Nat) (a o : Int) (m : ZM) (h : ¬ m.1 b 2 < 150) : zF168 n b a o m = some ((), z_i m b 3 1) := by
  unfold zF168
  rw [if_neg h, zlet]
theorem zF162_eq (n b : Nat) (a c : Int) (m : ZM) (d : Nat) (h : m.1 b 2 = d) : zF162 n b a c m = if d < 10 then some (1, z_i (z_i (z_i m (b + 1) d a) (b + 2) d (clo c)) b 2 (d + 1)) else some (0, m) := by
  unfold zF162 zJ162_21 zJ162_34
  by_cases q : d < 10
  · rw [h, if_pos (by omega), if_neg (by omega), Int.toNat_natCast, zlet, zF17_eq]
    dsimp only
    rw [z_nc m (b + 1) d a b 2 (by omega), h, if_neg (by omega), Int.toNat_natCast, zlet, z_nc _ (b + 2) d (clo c) b 2 (by omega), z_nc m (b + 1) d a b 2 (by omega), h, if_pos (by omega), zlet, if_pos q]
  · rw [h, if_neg (by omega), if_neg q]
theorem zF163_eq (n b : Nat) (c : Int) (m : ZM) (d : Nat) (h : m.1 b 2 = d) (hd : d ≤ 10) : zF163 n b c m = if d = 0 then some (-1, m) else if m.1 (b + 2) (d - 1) = c then some (m.1 (b + 1) (d - 1), z_i m b 2 (d - 1 : Nat)) else some (-1, m) := by
  unfold zF163 zJ163_22 zJ163_24
  by_cases q : d = 0
  · rw [h, if_pos (by omega), if_pos q]
  · rw [h, if_neg (by omega), if_pos (by omega), if_neg (by omega), if_neg q, show Int.toNat ((d : Int) - 1) = d - 1 by omega]
    by_cases q2 : m.1 (b + 2) (d - 1) = c
    · rw [if_pos q2, if_pos q2, if_pos (by omega), zlet, z_eq, if_neg (by omega), show Int.toNat ((d : Int) - 1) = d - 1 by omega, show ((d - 1 : Nat) : Int) = (d : Int) - 1 by omega, z_nc _ b 2 _ (b + 1) (d - 1) (by omega)]
    · rw [if_neg q2, if_neg q2]
/-- brackets balanced; true and the number of tokens, or false and the first faulty one -/
def bal (C : Nat → Int) : Nat → Nat → Nat → (Nat → Int) → Bool × Nat
  | 0, i, _, _ => (false, i)
  | f + 1, i, d, s => if C i = 0 then (if d = 0 then (true, i) else (false, i)) else if C i < 0 then (false, i) else if opn (C i) then (if 10 ≤ d then (false, i) else bal C f (i + 1) (d + 1) (fun k => if k = d then clo (C i) else s k)) else if cls (C i) then (if d = 0 then (false, i) else if C i = s (d - 1) then bal C f (i + 1) (d - 1) s else (false, i)) else bal C f (i + 1) d s
def wrt (r : Nat) : List (Nat × Nat) := [(1, 2), (1, 3), (13, 2), (14, 1000), (15, 1000), (r, 2), (r + 1, 1000), (r + 2, 1000)]
theorem end140 (n d L : Nat) (m : ZM) (h : m.1 13 2 = d) (h1 : m.1 1 1 = L) : zJ140_54 n m = some (if d = 0 then -1 else (L : Int), m) := by
  unfold zJ140_54 zF161 zJ161_12 zF199 zJ140_72
  by_cases q : d = 0
  · rw [if_pos (by omega), if_pos (by decide), if_pos q]
    rfl
  · rw [if_neg (by omega), if_pos (by decide), if_neg q]
    dsimp only
    rw [if_pos rfl, h1]
/-- where a text is read to its end or its fault -/
def rtp (T : Nat → Int) (L r : Nat) (m m' : ZM) (b : Bool × Nat) (v : Int) : Prop := v = (if b.1 = true then -1 else (ts T L b.2 : Int)) ∧ kp (wl (wrt r)) m m' ∧
  (b.1 = true → m'.1 r 2 = b.2 ∧ b.2 ≤ 120 ∧ (∀ j : Nat, j < b.2 → m'.1 (r + 1) j = tc T L j ∧ m'.1 (r + 2) j = 0 ∧ 0 < tc T L j))
theorem rt_c (n : Nat) (hn : 200 ≤ n) (T : Nat → Int) (L r : Nat) (hr : isR r) : ∀ (k i d : Nat) (s : Nat → Int) (m : ZM), CC T L i m → m.1 13 2 = d → d ≤ 10 → (∀ j : Nat, j < d → m.1 15 j = s j ∧ 0 ≤ m.1 14 j) → m.2.1 12 4 = some r → m.1 r 2 = i → (∀ j : Nat, j < i → m.1 (r + 1) j = tc T L j ∧ m.1 (r + 2) j = 0 ∧ 0 < tc T L j) → i ≤ 120 → 121 - i ≤ k →
    ∃ v m', zL140_2 n k i m = some (v, m') ∧ rtp T L r m m' (bal (tc T L) k i d s) v := by
  have hrr : r = 34 ∨ r = 37 := hr
  have w1 : ∀ j, wl w201 r j = false ∧ wl w201 (r + 1) j = false ∧ wl w201 (r + 2) j = false := by
    rcases hrr with rfl | rfl <;> exact fun j => ⟨rfl, rfl, rfl⟩
  intro k
  induction k with
  | zero => intro i d s m _ _ _ _ _ _ _ _ hk; exact absurd hk (by omega)
  | succ k ih =>
    intro i d s m hcc hd hd10 hst hrow hsz hrw hi hk
    rw [zL140_2, bal]
    by_cases q120 : i = 120
    · have hL := hcc.1.1
      have h0 : tc T L i = 0 := tc_end T L i (by omega)
      rw [if_pos (by omega), end140 n d L m hd hcc.1.2.2.1, if_pos h0]
      refine ⟨_, m, rfl, ?_⟩
      by_cases q : d = 0
      · rw [if_pos q, if_pos q]
        exact ⟨rfl, kp_refl _ m, fun _ => ⟨hsz, hi, hrw⟩⟩
      · rw [if_neg q, if_neg q]
        exact ⟨by rw [ts_end T L i h0]; rfl, kp_refl _ m, fun z => by cases z⟩
    · rw [if_neg (by omega)]
      obtain ⟨m1, e1, e2, e3, g⟩ := rd_cc n hn hcc
      rw [e1]
      dsimp only
      have gk : kp (wl (wrt r)) m m1 := kp_sub (by simp [w201, wrt]) g
      have d1 : m1.1 13 2 = d := by rw [(g.1 13 2 rfl).1, hd]
      have s1 : m1.1 r 2 = i := by rw [(g.1 r 2 (w1 2).1).1, hsz]
      have r1 : m1.2.1 12 4 = some r := by rw [(g.1 12 4 rfl).2, hrow]
      have rw1 : ∀ j : Nat, j < i → m1.1 (r + 1) j = tc T L j ∧ m1.1 (r + 2) j = 0 ∧ 0 < tc T L j := by
        intro j hj
        rw [(g.1 (r + 1) j (w1 j).2.1).1, (g.1 (r + 2) j (w1 j).2.2).1]
        exact hrw j hj
      have st1 : ∀ j : Nat, j < d → m1.1 15 j = s j ∧ 0 ≤ m1.1 14 j := by
        intro j hj
        rw [(g.1 15 j rfl).1, (g.1 14 j rfl).1]
        exact hst j hj
      by_cases q0 : tc T L i = 0
      · rw [if_pos q0, if_pos q0, end140 n d L m1 d1 e2.1.2.2.1]
        refine ⟨_, m1, rfl, ?_⟩
        by_cases q : d = 0
        · rw [if_pos q, if_pos q]
          exact ⟨rfl, gk, fun _ => ⟨s1, hi, rw1⟩⟩
        · rw [if_neg q, if_neg q]
          exact ⟨by rw [ts_end T L i q0]; rfl, gk, fun z => by cases z⟩
      · rw [if_neg q0, if_neg q0]
        have fail : ∀ m2 : ZM, kp (wl (wrt r)) m m2 → m2.1 1 3 = ts T L i → ∃ v m', zJ140_34 n m2 = some (v, m') ∧ rtp T L r m m' (false, i) v := by
          intro m2 g2 h3
          exact ⟨m2.1 1 3, m2, rfl, by rw [h3]; rfl, g2, fun z => by cases z⟩
        rcases tc_vt T L i hcc.1.2.1 with h | h | h
        · exact absurd h q0
        · rw [if_pos h, if_pos (by omega)]
          exact fail m1 gk e3
        · rw [if_neg (by omega), if_neg (by omega)]
          unfold zJ140_25 zF141
          rw [zF13_eq]
          dsimp only
          rw [ib]
          -- the token is taken into the row
          have take : ∀ (d' : Nat) (s' : Nat → Int) (m2 : ZM), kp (wl (wrt r)) m m2 → CC T L (i + 1) m2 → m2.1 13 2 = d' → d' ≤ 10 → (∀ j : Nat, j < d' → m2.1 15 j = s' j ∧ 0 ≤ m2.1 14 j) → m2.2.1 12 4 = some r → m2.1 r 2 = i → (∀ j : Nat, j < i → m2.1 (r + 1) j = tc T L j ∧ m2.1 (r + 2) j = 0 ∧ 0 < tc T L j) →
              ∃ v m', (match m2.2.1 12 4 with | some p21 => (if isR p21 then (match zF168 n p21 (tc T L i) 0 m2 with | some (v24, M25) => (zJ140_48 n (zL140_2 n k) i M25) | none => none) else (none)) | none => (none)) = some (v, m') ∧ rtp T L r m m' (bal (tc T L) k (i + 1) d' s') v := by
            intro d' s' m2 g2 c2 hd2 hd3 hst2 hr2 hs2 hrw2
            rw [hr2]
            dsimp only
            rw [if_pos hr, zF168_eq n r _ _ m2 i hs2 (by omega)]
            dsimp only
            unfold zJ140_48
            rw [if_pos (by omega)]
            have g3 : kp (wl (wrt r)) m2 (z_i (z_i (z_i m2 (r + 1) i (tc T L i)) (r + 2) i 0) r 2 (i + 1)) := kp_i (kp_ia (kp_ia (kp_refl _ m2) (by simp [wrt])) (by simp [wrt])) (by simp [wrt])
            have y1 : CC T L (i + 1) (z_i (z_i (z_i m2 (r + 1) i (tc T L i)) (r + 2) i 0) r 2 (i + 1)) := by
              refine ⟨⟨c2.1.1, c2.1.2.1, ?_, ?_⟩, ?_⟩
              · rw [z_nc _ _ _ _ _ _ (by omega), z_nc _ _ _ _ _ _ (by omega), z_nc _ _ _ _ _ _ (by omega)]; exact c2.1.2.2.1
              · intro j hj
                rw [z_nc _ _ _ _ _ _ (by omega), z_nc _ _ _ _ _ _ (by omega), z_nc _ _ _ _ _ _ (by omega)]; exact c2.1.2.2.2 j hj
              · rw [z_nc _ _ _ _ _ _ (by omega), z_nc _ _ _ _ _ _ (by omega), z_nc _ _ _ _ _ _ (by omega)]; exact c2.2
            have y2 : (z_i (z_i (z_i m2 (r + 1) i (tc T L i)) (r + 2) i 0) r 2 (i + 1)).1 13 2 = d' := by
              rw [z_nc _ _ _ _ _ _ (by omega), z_nc _ _ _ _ _ _ (by omega), z_nc _ _ _ _ _ _ (by omega)]; exact hd2
            have y3 : ∀ j : Nat, j < d' → (z_i (z_i (z_i m2 (r + 1) i (tc T L i)) (r + 2) i 0) r 2 (i + 1)).1 15 j = s' j ∧ 0 ≤ (z_i (z_i (z_i m2 (r + 1) i (tc T L i)) (r + 2) i 0) r 2 (i + 1)).1 14 j := by
              intro j hj
              rw [z_nc _ _ _ _ 15 _ (by omega), z_nc _ _ _ _ 15 _ (by omega), z_nc _ _ _ _ 15 _ (by omega), z_nc _ _ _ _ 14 _ (by omega), z_nc _ _ _ _ 14 _ (by omega), z_nc _ _ _ _ 14 _ (by omega)]
              exact hst2 j hj
            have y4 : ∀ j : Nat, j < i + 1 → (z_i (z_i (z_i m2 (r + 1) i (tc T L i)) (r + 2) i 0) r 2 (i + 1)).1 (r + 1) j = tc T L j ∧ (z_i (z_i (z_i m2 (r + 1) i (tc T L i)) (r + 2) i 0) r 2 (i + 1)).1 (r + 2) j = 0 ∧ 0 < tc T L j := by
              intro j hj
              rw [z_nc _ r 2 _ (r + 1) _ (by omega), z_nc _ r 2 _ (r + 2) _ (by omega), z_nc _ (r + 2) _ _ (r + 1) _ (by omega)]
              by_cases e : j = i
              · subst e
                rw [z_eq, z_eq]
                exact ⟨rfl, rfl, by omega⟩
              · rw [z_nk _ _ _ _ _ _ e, z_nk _ _ _ _ _ _ e, z_nk _ _ _ _ _ _ e]
                exact hrw2 j (by omega)
            have y5 : (z_i (z_i (z_i m2 (r + 1) i (tc T L i)) (r + 2) i 0) r 2 (i + 1)).1 r 2 = ((i + 1 : Nat) : Int) := by rw [z_eq, Int.natCast_add]; rfl
            obtain ⟨v, m', x1, x2, x3, x4⟩ := ih (i + 1) d' s' _ y1 y2 hd3 y3 hr2 y5 y4 (by omega) (by omega)
            rw [Int.natCast_add] at x1
            exact ⟨v, m', x1, x2, kp_tr g2 (kp_tr g3 x3), x4⟩
          by_cases qo : opn (tc T L i)
          · rw [if_pos qo, if_pos qo, zF162_eq n 13 _ _ m1 d d1]
            by_cases q10 : d < 10
            · rw [if_pos q10, if_neg (show ¬ 10 ≤ d by omega)]
              dsimp only
              rw [if_pos (by decide)]
              dsimp only
              rw [if_neg (by decide)]
              refine take (d + 1) _ _ (kp_tr gk (kp_i (kp_ia (kp_ia (kp_refl _ m1) (by simp [wrt])) (by simp [wrt])) (by simp [wrt]))) ?_ (by rw [z_eq, Int.natCast_add]; rfl) (by omega) ?_ r1 ?_ ?_
              · refine ⟨⟨e2.1.1, e2.1.2.1, ?_, ?_⟩, ?_⟩
                · rw [z_nc _ _ _ _ _ _ (by decide), z_nc _ _ _ _ _ _ (by decide), z_nc _ _ _ _ _ _ (by decide)]; exact e2.1.2.2.1
                · intro j hj
                  rw [z_nc _ _ _ _ _ _ (by decide), z_nc _ _ _ _ _ _ (by decide), z_nc _ _ _ _ _ _ (by decide)]; exact e2.1.2.2.2 j hj
                · rw [z_nc _ _ _ _ _ _ (by decide), z_nc _ _ _ _ _ _ (by decide), z_nc _ _ _ _ _ _ (by decide)]; exact e2.2
              · intro j hj
                rw [z_nc _ 13 _ _ 15 _ (by decide), z_nc _ 13 _ _ 14 _ (by decide), z_nc _ (13 + 2) _ _ 14 _ (by decide)]
                by_cases e : j = d
                · subst e
                  rw [if_pos rfl, show (15 : Nat) = 13 + 2 from rfl, show (14 : Nat) = 13 + 1 from rfl, z_eq, z_eq]
                  exact ⟨rfl, by omega⟩
                · rw [if_neg e, z_nk _ _ _ _ _ _ e, z_nk _ _ _ _ _ _ e, z_nk _ _ _ _ _ _ e]
                  exact st1 j (by omega)
              · rw [z_nc _ _ _ _ _ _ (by omega), z_nc _ _ _ _ _ _ (by omega), z_nc _ _ _ _ _ _ (by omega)]; exact s1
              · intro j hj
                rw [z_nc _ _ _ _ (r + 1) _ (by omega), z_nc _ _ _ _ (r + 1) _ (by omega), z_nc _ _ _ _ (r + 1) _ (by omega), z_nc _ _ _ _ (r + 2) _ (by omega), z_nc _ _ _ _ (r + 2) _ (by omega), z_nc _ _ _ _ (r + 2) _ (by omega)]
                exact rw1 j hj
            · rw [if_neg q10, if_pos (show 10 ≤ d by omega)]
              dsimp only
              rw [if_pos (by decide)]
              dsimp only
              rw [if_pos rfl]
              exact fail m1 gk e3
          · rw [if_neg qo, if_neg qo, zF14_eq]
            dsimp only
            rw [ib]
            by_cases qc : cls (tc T L i)
            · rw [if_pos qc, if_pos qc]
              unfold zJ141_24
              rw [zF163_eq n 13 _ m1 d d1 hd10]
              by_cases qd0 : d = 0
              · rw [if_pos qd0, if_pos qd0]
                dsimp only
                rw [if_pos rfl]
                unfold zJ141_41
                rw [if_pos (by decide)]
                dsimp only
                rw [if_pos rfl]
                exact fail m1 gk e3
              · rw [if_neg qd0, if_neg qd0, (st1 (d - 1) (by omega)).1]
                by_cases qs : s (d - 1) = tc T L i
                · rw [if_pos qs, if_pos qs.symm]
                  dsimp only
                  have h14 := (st1 (d - 1) (by omega)).2
                  rw [if_neg (show ¬ m1.1 (13 + 1) (d - 1) = -1 from by show ¬ m1.1 14 (d - 1) = -1; omega)]
                  unfold zJ141_36 zJ141_41
                  rw [if_pos (by decide)]
                  dsimp only
                  rw [if_neg (by decide)]
                  refine take (d - 1) s _ (kp_tr gk (kp_i (kp_refl _ m1) (by simp [wrt]))) ?_ (by rw [z_eq]) (by omega) ?_ r1 ?_ ?_
                  · refine ⟨⟨e2.1.1, e2.1.2.1, ?_, ?_⟩, ?_⟩
                    · rw [z_nc _ _ _ _ _ _ (by decide)]; exact e2.1.2.2.1
                    · intro j hj
                      rw [z_nc _ _ _ _ _ _ (by decide)]; exact e2.1.2.2.2 j hj
                    · rw [z_nc _ _ _ _ _ _ (by decide)]; exact e2.2
                  · intro j hj
                    rw [z_nc _ 13 _ _ 15 _ (by decide), z_nc _ 13 _ _ 14 _ (by decide)]
                    exact st1 j (by omega)
                  · rw [z_nc _ _ _ _ _ _ (by omega)]; exact s1
                  · intro j hj
                    rw [z_nc _ _ _ _ (r + 1) _ (by omega), z_nc _ _ _ _ (r + 2) _ (by omega)]
                    exact rw1 j hj
                · rw [if_neg qs, if_neg (fun z => qs z.symm)]
                  dsimp only
                  rw [if_pos rfl]
                  unfold zJ141_41
                  rw [if_pos (by decide)]
                  dsimp only
                  rw [if_pos rfl]
                  exact fail m1 gk e3
            · rw [if_neg qc, if_neg qc]
              unfold zJ141_36 zJ141_41
              rw [if_pos (by decide)]
              dsimp only
              rw [if_neg (by decide)]
              exact take d s m1 gk e2 d1 hd10 st1 r1 s1 rw1
