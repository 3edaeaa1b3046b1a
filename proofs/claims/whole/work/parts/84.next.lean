/-! The reference's next, whole; the class's read. -/
theorem nx_191 (n : Nat) (s L : Nat) (c v len to : Int) (m : ZM) (h3 : m.1 83 3 = L) (hs : s < L) (hv : 0 ≤ v ∧ v ≤ 1000000) :
    ∃ m', zJ28_191 n s c v len to m = some ((), m') ∧ m'.1 83 7 = to ∧ m'.1 83 6 = m.1 83 6 ∧
      m'.1 83 4 = (if ltr c then (if 3 < len then 0 else 1) else if dgt c then (if len = 1 ∨ (len = 2 ∧ c ≠ 48) then 2 else 0) else if opn c then 4 else if cls c then 5 else if sgn c then 3 else 0) ∧
      m'.1 83 5 = (if ltr c then 1000 + v else if dgt c then 300 + v else c) := by
  unfold zJ28_191
  rw [zlet, zlet]
  have r3 : (z_i (z_i m 83 7 to) 83 5 c).1 83 3 = L := by simp [z_i_rd, h3]
  have r6 : (z_i (z_i m 83 7 to) 83 5 c).1 83 6 = m.1 83 6 := by simp [z_i_rd]
  have r7 : (z_i (z_i m 83 7 to) 83 5 c).1 83 7 = to := by simp [z_i_rd]
  have r5 : (z_i (z_i m 83 7 to) 83 5 c).1 83 5 = c := by simp [z_i_rd]
  generalize z_i (z_i m 83 7 to) 83 5 c = m2 at *
  rw [if_pos (by omega), zF25_eq]
  dsimp only
  rw [ib]
  have st : ∀ x : Int, zJ28_338 n x m2 = some ((), z_i m2 83 4 x) := fun x => rfl
  have s7 : ∀ x : Int, (z_i m2 83 4 x).1 83 7 = to := fun x => by simp [z_i_rd, r7]
  have s6 : ∀ x : Int, (z_i m2 83 4 x).1 83 6 = m.1 83 6 := fun x => by simp [z_i_rd, r6]
  have s5 : ∀ x : Int, (z_i m2 83 4 x).1 83 5 = c := fun x => by simp [z_i_rd, r5]
  have s4 : ∀ x : Int, (z_i m2 83 4 x).1 83 4 = x := fun x => by simp [z_i_rd]
  have t7 : ∀ x y : Int, (z_i (z_i m2 83 4 x) 83 5 y).1 83 7 = to := fun x y => by simp [z_i_rd, r7]
  have t6 : ∀ x y : Int, (z_i (z_i m2 83 4 x) 83 5 y).1 83 6 = m.1 83 6 := fun x y => by simp [z_i_rd, r6]
  have t5 : ∀ x y : Int, (z_i (z_i m2 83 4 x) 83 5 y).1 83 5 = y := fun x y => by simp [z_i_rd]
  have t4 : ∀ x y : Int, (z_i (z_i m2 83 4 x) 83 5 y).1 83 4 = x := fun x y => by simp [z_i_rd]
  by_cases q : ltr c
  · rw [if_pos q]
    have u : ∀ x : Int, zJ28_240 n v x m2 = some ((), z_i (z_i m2 83 4 x) 83 5 (1000 + v)) := by
      intro x
      unfold zJ28_240
      rw [zlet, if_pos (by omega)]
      rfl
    unfold zJ28_228
    by_cases q2 : 3 < len
    · rw [if_pos q2, u]
      exact ⟨_, rfl, t7 _ _, t6 _ _, by rw [t4, if_pos q, if_pos q2], by rw [t5, if_pos q]⟩
    · rw [if_neg q2, u]
      exact ⟨_, rfl, t7 _ _, t6 _ _, by rw [t4, if_pos q, if_neg q2], by rw [t5, if_pos q]⟩
  · rw [if_neg q]
    unfold zJ28_256
    rw [zF26_eq]
    dsimp only
    rw [ib]
    by_cases q2 : dgt c
    · rw [if_pos q2]
      have u : ∀ x : Int, zJ28_287 n v x m2 = some ((), z_i (z_i m2 83 4 x) 83 5 (300 + v)) := by
        intro x
        unfold zJ28_287
        rw [zlet, if_pos (by omega)]
        rfl
      unfold zJ28_282 zJ28_286
      by_cases q3 : len = 1
      · rw [if_pos q3, u]
        exact ⟨_, rfl, t7 _ _, t6 _ _, by rw [t4, if_neg q, if_pos q2, if_pos (Or.inl q3)], by rw [t5, if_neg q, if_pos q2]⟩
      · rw [if_neg q3]
        by_cases q4 : len = 2
        · rw [if_pos q4]
          by_cases q5 : c = 48
          · rw [if_pos q5, u]
            exact ⟨_, rfl, t7 _ _, t6 _ _, by rw [t4, if_neg q, if_pos q2, if_neg (by omega)], by rw [t5, if_neg q, if_pos q2]⟩
          · rw [if_neg q5, u]
            exact ⟨_, rfl, t7 _ _, t6 _ _, by rw [t4, if_neg q, if_pos q2, if_pos (Or.inr ⟨q4, q5⟩)], by rw [t5, if_neg q, if_pos q2]⟩
        · rw [if_neg q4, u]
          exact ⟨_, rfl, t7 _ _, t6 _ _, by rw [t4, if_neg q, if_pos q2, if_neg (by omega)], by rw [t5, if_neg q, if_pos q2]⟩
    · rw [if_neg q2, zF21_eq]
      dsimp only
      rw [ib]
      by_cases q3 : opn c
      · rw [if_pos q3, st]
        exact ⟨_, rfl, s7 _, s6 _, by rw [s4, if_neg q, if_neg q2, if_pos q3], by rw [s5, if_neg q, if_neg q2]⟩
      · rw [if_neg q3, zF22_eq]
        dsimp only
        rw [ib]
        by_cases q4 : cls c
        · rw [if_pos q4, st]
          exact ⟨_, rfl, s7 _, s6 _, by rw [s4, if_neg q, if_neg q2, if_neg q3, if_pos q4], by rw [s5, if_neg q, if_neg q2]⟩
        · rw [if_neg q4, zF24_eq]
          dsimp only
          rw [ib]
          by_cases q5 : sgn c
          · rw [if_pos q5, st]
            exact ⟨_, rfl, s7 _, s6 _, by rw [s4, if_neg q, if_neg q2, if_neg q3, if_neg q4, if_pos q5], by rw [s5, if_neg q, if_neg q2]⟩
          · rw [if_neg q5, st]
            exact ⟨_, rfl, s7 _, s6 _, by rw [s4, if_neg q, if_neg q2, if_neg q3, if_neg q4, if_neg q5], by rw [s5, if_neg q, if_neg q2]⟩
/-- the reference stands before the token at p: its text is T -/
def NT (T : Nat → Int) (L : Nat) (m : ZM) : Prop := L ≤ 120 ∧ chs T L ∧ m.1 83 3 = L ∧ ∀ k : Nat, k < L → m.1 85 k = T k
theorem nx_eq (n : Nat) (hn : 200 ≤ n) (T : Nat → Int) (L p : Nat) (m : ZM) (h : NT T L m) (h7 : m.1 83 7 = p) (hp : p ≤ L) :
    ∃ m', zF28 n m = some ((), m') ∧ m'.1 83 4 = srt (tkc T L p) ∧ (0 < tkc T L p → m'.1 83 5 = tkc T L p) ∧ m'.1 83 6 = sk T L p ∧ m'.1 83 7 = tke T L p := by
  obtain ⟨hL, hch, h3, hT⟩ := h
  have hs := sk_le T L p
  unfold zF28
  rw [h7, nx_sk n hL h3 hT n p hp (by omega)]
  unfold zJ28_31
  rw [zlet]
  have r3 : (z_i m 83 6 (sk T L p)).1 83 3 = L := by simp [z_i_rd, h3]
  have r6 : (z_i m 83 6 (sk T L p)).1 83 6 = sk T L p := by simp [z_i_rd]
  have rT : ∀ k : Nat, k < L → (z_i m 83 6 (sk T L p)).1 85 k = T k := fun k hk => by simp [z_i_rd, hT k hk]
  generalize z_i m 83 6 (sk T L p) = m2 at *
  by_cases q : L ≤ sk T L p
  · rw [if_pos (by omega)]
    unfold zJ28_54
    rw [nx_o n (sk T L p) 0 (by omega) (by omega) n (by omega)]
    unfold zJ28_173
    rw [if_pos (by omega), if_pos (by omega), if_pos (by omega)]
    unfold zJ28_191 zJ28_213
    rw [zlet, zlet]
    have u3 : (z_i (z_i m2 83 7 ((sk T L p : Int) + 1)) 83 5 0).1 83 3 = L := by simp [z_i_rd, r3]
    rw [u3, if_neg (by omega), zlet, zlet]
    refine ⟨_, rfl, ?_, ?_, ?_, ?_⟩
    · simp [z_i_rd, tkc, q, srt]
    · intro z; simp [tkc, q] at z
    · simp [z_i_rd, r6]
    · simp [z_i_rd, tke, q]
  · have hlt : sk T L p < L := by omega
    have hne := sk_ch T L (L - p) p (by omega) hlt
    have hc := hch _ hlt
    rw [if_neg (by omega), if_neg (by omega), Int.toNat_natCast, rT _ hlt]
    unfold zJ28_54
    by_cases ql : ltr (T (sk T L p))
    · have hr := rn_gt isl T L (sk T L p) hlt (decide_eq_true ql)
      have hr2 := (rn_le isl T L (sk T L p)).2 (by omega)
      have hall := rn_all isl T L _ (sk T L p) (Nat.le_refl _)
      have hb := vl_27 T (sk T L p) (rn isl T L (sk T L p) - sk T L p) (fun k hk => of_decide_eq_true (hall _ (by omega) (by omega)))
      rw [nx_l n (sk T L p) _ ql hL r3 rT n (sk T L p) 0 (by omega) (by omega) (by omega) (fun k h1 h2 => by omega) (by rw [Nat.sub_self, if_pos (by omega), vl])]
      unfold zJ28_173
      rw [if_pos (by omega), if_neg (by omega)]
      obtain ⟨m', e1, e2, e3, e4, e5⟩ := nx_191 n (sk T L p) L (T (sk T L p)) (if rn isl T L (sk T L p) - sk T L p ≤ 4 then vl 27 96 T (sk T L p) (rn isl T L (sk T L p) - sk T L p) else 0) (((rn isl T L (sk T L p) : Nat) : Int) - (sk T L p : Nat)) (rn isl T L (sk T L p)) m2 r3 hlt (by split <;> omega)
      refine ⟨m', e1, ?_, ?_, ?_, ?_⟩
      · rw [e4, if_pos ql]
        unfold tkc
        rw [if_neg q, if_pos ql]
        by_cases q3 : rn isl T L (sk T L p) - sk T L p ≤ 3
        · rw [if_neg (by omega), if_pos q3]
          unfold srt
          rw [if_neg (by omega), if_neg (by omega), if_pos (by omega)]
        · rw [if_pos (by omega), if_neg q3]
          rfl
      · intro z
        unfold tkc at z ⊢
        rw [if_neg q, if_pos ql] at z ⊢
        by_cases q3 : rn isl T L (sk T L p) - sk T L p ≤ 3
        · rw [if_pos q3, e5, if_pos ql, if_pos (by omega)]
        · rw [if_neg q3] at z
          omega
      · rw [e3, r6]
      · rw [e2]
        unfold tke
        rw [if_neg q, if_pos ql]
    · by_cases qd : dgt (T (sk T L p))
      · have hr := rn_gt isd T L (sk T L p) hlt (decide_eq_true qd)
        have hr2 := (rn_le isd T L (sk T L p)).2 (by omega)
        have hall := rn_all isd T L _ (sk T L p) (Nat.le_refl _)
        have hb := vl_10 T (sk T L p) (rn isd T L (sk T L p) - sk T L p) (fun k hk => of_decide_eq_true (hall _ (by omega) (by omega)))
        rw [nx_d n (sk T L p) _ qd hL r3 rT n (sk T L p) 0 (by omega) (by omega) (by omega) (fun k h1 h2 => by omega) (by rw [Nat.sub_self, if_pos (by omega), vl])]
        unfold zJ28_173
        rw [if_pos (by omega), if_neg (by omega)]
        obtain ⟨m', e1, e2, e3, e4, e5⟩ := nx_191 n (sk T L p) L (T (sk T L p)) (if rn isd T L (sk T L p) - sk T L p ≤ 4 then vl 10 48 T (sk T L p) (rn isd T L (sk T L p) - sk T L p) else 0) (((rn isd T L (sk T L p) : Nat) : Int) - (sk T L p : Nat)) (rn isd T L (sk T L p)) m2 r3 hlt (by split <;> omega)
        refine ⟨m', e1, ?_, ?_, ?_, ?_⟩
        · rw [e4, if_neg ql, if_pos qd]
          unfold tkc
          rw [if_neg q, if_neg ql, if_pos qd]
          by_cases q3 : rn isd T L (sk T L p) - sk T L p = 1 ∨ (rn isd T L (sk T L p) - sk T L p = 2 ∧ T (sk T L p) ≠ 48)
          · rw [if_pos (by omega), if_pos q3]
            unfold srt
            rw [if_neg (by omega), if_neg (by omega), if_neg (by omega), if_pos (by omega)]
          · rw [if_neg (by omega), if_neg q3]
            rfl
        · intro z
          unfold tkc at z ⊢
          rw [if_neg q, if_neg ql, if_pos qd] at z ⊢
          by_cases q3 : rn isd T L (sk T L p) - sk T L p = 1 ∨ (rn isd T L (sk T L p) - sk T L p = 2 ∧ T (sk T L p) ≠ 48)
          · rw [if_pos q3, e5, if_neg ql, if_pos qd, if_pos (by omega)]
          · rw [if_neg q3] at z
            omega
        · rw [e3, r6]
        · rw [e2]
          unfold tke
          rw [if_neg q, if_neg ql, if_pos qd]
      · rw [nx_o n (sk T L p) _ ql qd n (by omega)]
        unfold zJ28_173
        rw [if_pos (by omega), if_pos (by omega), if_pos (by omega)]
        obtain ⟨m', e1, e2, e3, e4, e5⟩ := nx_191 n (sk T L p) L (T (sk T L p)) 0 (((sk T L p : Nat) : Int) - (sk T L p : Nat)) ((sk T L p : Nat) + 1) m2 r3 hlt (by omega)
        refine ⟨m', e1, ?_, ?_, ?_, ?_⟩
        · rw [e4, if_neg ql, if_neg qd]
          unfold tkc srt
          rw [if_neg q, if_neg ql, if_neg qd]
          by_cases q3 : opn (T (sk T L p))
          · rw [if_pos q3, if_pos (Or.inl q3), if_neg (by omega), if_neg (by omega), if_neg (by omega), if_neg (by omega), if_pos q3]
          · rw [if_neg q3]
            by_cases q4 : cls (T (sk T L p))
            · rw [if_pos q4, if_pos (Or.inr (Or.inl q4)), if_neg (by omega), if_neg (by omega), if_neg (by omega), if_neg (by omega), if_neg q3, if_pos q4]
            · rw [if_neg q4]
              by_cases q5 : sgn (T (sk T L p))
              · rw [if_pos q5, if_pos (Or.inr (Or.inr q5)), if_neg (by omega), if_neg (by omega), if_neg (by omega), if_neg (by omega), if_neg q3, if_neg q4]
              · rw [if_neg q5, if_neg (show ¬ (opn (T (sk T L p)) ∨ cls (T (sk T L p)) ∨ sgn (T (sk T L p))) by omega)]
                rfl
        · intro z
          unfold tkc at z ⊢
          rw [if_neg q, if_neg ql, if_neg qd] at z ⊢
          by_cases q3 : opn (T (sk T L p)) ∨ cls (T (sk T L p)) ∨ sgn (T (sk T L p))
          · rw [if_pos q3, e5, if_neg ql, if_neg qd]
          · rw [if_neg q3] at z
            omega
        · rw [e3, r6]
        · rw [e2]
          unfold tke
          rw [if_neg q, if_neg ql, if_neg qd]
          rfl
