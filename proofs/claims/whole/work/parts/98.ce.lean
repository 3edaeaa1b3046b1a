/-! The automaton's bounds; the class's run over the tokens of a text. -/
theorem WS_mk {i : Nat} {ph rp inn cl : Int} {pat : Bool} {d a : Nat} {S Y : Nat → Nat → Int} {P : Nat → Int} (h1 : 0 ≤ ph ∧ ph ≤ 9) (h3 : 2 ≤ ph → 0 ≤ rp ∧ rp ≤ 4) (h5 : -1 ≤ inn ∧ inn < i) (h9 : d ≤ 10) (h10 : ∀ k : Nat, k < d → 0 ≤ S 0 k ∧ S 0 k < i) (h11 : ∀ p : Nat, p < i → -1 ≤ Y 3 p ∧ Y 3 p < i) (h12 : a ≤ 3) (h13 : ph = 1 → a < 3) (h14 : ph = 5 → 0 < i) (h15 : ph = 8 ∨ ph = 9 → 0 ≤ cl ∧ cl < i) (h16 : ph = 0 → a = 0) : WS i (ph, pat, rp, inn, cl, d, S, Y, a, P) := ⟨h1.1, h1.2, h3, h5.1, h5.2, h9, h10, h11, h12, h13, h14, h15, h16⟩
theorem WS_st (c : Int) (i : Nat) (s s' : CS) (h : WS i s) (e : cst c i s = some s') : WS (i + 1) s' := by
  obtain ⟨ph, pat, rp, inn, cl, d, S, Y, a, P⟩ := s
  obtain ⟨w1, w2, w3, w5, w6, w9, w10, w11, w12, w13, w14, w15, w16⟩ := h
  dsimp only at w1 w2 w3 w5 w6 w9 w10 w11 w12 w13 w14 w15 w16
  have hY : ∀ p : Nat, p < i + 1 → -1 ≤ c_app Y i c inn 3 p ∧ c_app Y i c inn 3 p < ((i + 1 : Nat) : Int) := by
    intro p hp
    unfold c_app
    by_cases q : p = i
    · rw [if_pos q]; simp; omega
    · rw [if_neg q]; have := w11 p (by omega); omega
  have hYs : ∀ (j p0 : Nat) (x : Int) (Z : Nat → Nat → Int), j ≠ 3 → (∀ p : Nat, p < i + 1 → -1 ≤ Z 3 p ∧ Z 3 p < ((i + 1 : Nat) : Int)) → ∀ p : Nat, p < i + 1 → -1 ≤ r_set Z j p0 x 3 p ∧ r_set Z j p0 x 3 p < ((i + 1 : Nat) : Int) := by
    intro j p0 x Z hj hZ p hp
    unfold r_set
    rw [if_neg (fun z => hj z.1.symm)]
    exact hZ p hp
  have hS : ∀ k : Nat, k < d → 0 ≤ S 0 k ∧ S 0 k < ((i + 1 : Nat) : Int) := fun k hk => by have := w10 k hk; omega
  have hSp : ∀ k : Nat, k < d + 1 → 0 ≤ c_psh S d i c 0 k ∧ c_psh S d i c 0 k < ((i + 1 : Nat) : Int) := by
    intro k hk
    unfold c_psh
    by_cases q : k = d
    · rw [if_pos q]; simp; omega
    · rw [if_neg q]; have := w10 k (by omega); omega
  unfold cst at e
  dsimp only at e
  by_cases c0 : ph = 0
  · rw [if_pos c0] at e
    split at e
    · cases e
      exact WS_mk (by omega) (by omega) (by omega) w9 hS hY w12 (fun _ => by have := w16 c0; omega) (by omega) (by omega) (by omega)
    · cases e
  rw [if_neg c0] at e
  by_cases c1 : ph = 1
  · rw [if_pos c1] at e
    split at e
    · rename_i z
      cases e
      exact WS_mk (by omega) (by omega) (by omega) (by omega) hSp hY (by omega) (by omega) (by omega) (by omega) (by omega)
    · cases e
  rw [if_neg c1] at e
  by_cases c2 : ph = 2
  · rw [if_pos c2] at e
    split at e
    · rename_i z
      cases e
      exact WS_mk (by omega) (fun _ => w3 (by omega)) (by omega) (by omega) hSp hY (by omega) (by omega) (by omega) (by omega) (by omega)
    · cases e
  rw [if_neg c2] at e
  by_cases c3 : ph = 3
  · rw [if_pos c3] at e
    split at e
    · rename_i z
      cases e
      exact WS_mk (by omega) (by omega) (by omega) w9 hS hY (by omega) (by omega) (by omega) (by omega) (by omega)
    · cases e
  rw [if_neg c3] at e
  have hr := w3 (by omega)
  by_cases c4 : ph = 4
  · rw [if_pos c4] at e
    by_cases q1 : c = 36
    · rw [if_pos q1] at e
      cases e
      exact WS_mk (by omega) (fun _ => hr) (by omega) w9 hS hY (by omega) (by omega) (by omega) (by omega) (by omega)
    rw [if_neg q1] at e
    by_cases q2 : opn c
    · rw [if_pos q2] at e
      split at e
      · rename_i z
        cases e
        exact WS_mk (by omega) (fun _ => hr) (by omega) (by omega) hSp hY (by omega) (by omega) (by omega) (by omega) (by omega)
      · cases e
    rw [if_neg q2] at e
    by_cases q3 : cls c
    · rw [if_pos q3] at e
      by_cases q4 : d = 0
      · rw [if_pos q4] at e; cases e
      rw [if_neg q4] at e
      by_cases q5 : S 1 (d - 1) = c
      · rw [if_pos q5] at e
        have hs0 := w10 (d - 1) (by omega)
        have hY2 := hYs 2 i (S 0 (d - 1)) _ (by omega) (hYs 2 (S 0 (d - 1)).toNat i _ (by omega) hY)
        have hp2 : r_set (r_set (c_app Y i c inn) 2 (S 0 (d - 1)).toNat i) 2 i (S 0 (d - 1)) 2 i = S 0 (d - 1) := by simp [r_set]
        generalize r_set (r_set (c_app Y i c inn) 2 (S 0 (d - 1)).toNat i) 2 i (S 0 (d - 1)) = Y2 at e hY2 hp2
        have hS' : ∀ k : Nat, k < d - 1 → 0 ≤ S 0 k ∧ S 0 k < ((i + 1 : Nat) : Int) := fun k hk => hS k (by omega)
        by_cases q6 : d = 1
        · rw [if_pos q6] at e
          cases e
          refine WS_mk ?_ (fun _ => hr) (by omega) (by omega) hS' hY2 (by omega) ?_ ?_ ?_ ?_ <;> split <;> omega
        rw [if_neg q6] at e
        by_cases q7 : c_rpe Y2 i = -1
        · rw [if_pos q7] at e
          cases e
          exact WS_mk (by omega) (fun _ => hr) (by omega) (by omega) hS' hY2 (by omega) (by omega) (by omega) (by omega) (by omega)
        · rw [if_neg q7] at e
          have hcl : 0 ≤ c_rpe Y2 i ∧ c_rpe Y2 i < i := by
            unfold c_rpe at q7 ⊢
            split at q7
            · rename_i z
              rw [if_pos z]
              rw [hp2] at z ⊢
              omega
            · exact absurd rfl q7
          have := hY2 (c_rpe Y2 i).toNat (by omega)
          cases e
          exact WS_mk (by omega) (fun _ => hr) (by omega) (by omega) hS' hY2 (by omega) (by omega) (by omega) (by omega) (by omega)
      · rw [if_neg q5] at e; cases e
    rw [if_neg q3] at e
    cases e
    exact WS_mk (by omega) (fun _ => hr) (by omega) w9 hS hY (by omega) (by omega) (by omega) (by omega) (by omega)
  rw [if_neg c4] at e
  by_cases c5 : ph = 5
  · rw [if_pos c5] at e
    have hi0 := w14 c5
    split at e
    · cases e
      refine WS_mk ?_ (fun _ => hr) (by omega) w9 hS hY (by omega) ?_ ?_ ?_ ?_ <;> split <;> omega
    · split at e
      · rename_i z
        split at e
        · split at e
          · cases e
            exact WS_mk (by omega) (by omega) (by omega) (by omega) hSp (hYs 5 (i - 1) rp _ (by omega) hY) (by omega) (by omega) (by omega) (by omega) (by omega)
          · cases e
        · cases e
          exact WS_mk (by omega) (fun _ => hr) (by omega) (by omega) hSp hY (by omega) (by omega) (by omega) (by omega) (by omega)
      · cases e
  rw [if_neg c5] at e
  by_cases c6 : ph = 6
  · rw [if_pos c6] at e
    split at e
    · cases e
      exact WS_mk (by omega) (fun _ => hr) (by omega) w9 hS hY (by omega) (by omega) (by omega) (by omega) (by omega)
    · cases e
  rw [if_neg c6] at e
  by_cases c7 : ph = 7
  · rw [if_pos c7] at e
    split at e
    · cases e
      exact WS_mk (by omega) (fun _ => hr) (by omega) w9 hS hY (by omega) (by omega) (by omega) (by omega) (by omega)
    · cases e
  rw [if_neg c7] at e
  have hcl := w15 (by omega)
  by_cases c8 : ph = 8
  · rw [if_pos c8] at e
    split at e
    · cases e
      exact WS_mk (by omega) (fun _ => hr) (by omega) w9 hS (hYs 4 cl.toNat i _ (by omega) hY) (by omega) (by omega) (by omega) (by omega) (by omega)
    · split at e
      · cases e
        exact WS_mk (by omega) (fun _ => hr) (by omega) w9 hS hY (by omega) (by omega) (by omega) (by omega) (by omega)
      · cases e
  rw [if_neg c8] at e
  split at e
  · cases e
    exact WS_mk (by omega) (fun _ => hr) (by omega) w9 hS (hYs 4 cl.toNat i _ (by omega) hY) (by omega) (by omega) (by omega) (by omega) (by omega)
  · cases e
/-- the run: 2 and the number of tokens, or 1 and the faulty one -/
def crn (C : Nat → Int) : Nat → Nat → CS → Nat × Nat × CS
  | 0, i, s => (1, i, s)
  | f + 1, i, s => if C i = 0 then (if s.1 = 3 then (2, i, s) else (1, i, s)) else if C i < 0 then (1, i, s) else match cst (C i) i s with
    | some s' => crn C f (i + 1) s'
    | none => (1, i, s)
def wre (b : Nat) : List (Nat × Nat) := [(1, 2), (1, 3)] ++ wrd b
theorem CQ_kp {b i : Nat} {s : CS} {m m' : ZM} {l : List (Nat × Nat)} (hb : isD b) (h : CQ b i s m) (g : kp (wl l) m m') (hl : ∀ c k, c = 3 ∨ c = 4 ∨ c = 5 ∨ c = 6 ∨ 41 ≤ c → wl l c k = false) : CQ b i s m' := by
  have hge := isD_ge hb
  obtain ⟨h1, h2, h3, h4, h5, h6, h7, h8, h9, h10, h11, h12⟩ := h
  refine ⟨?_, ?_, ?_, ?_, ?_, ?_, ?_, ?_, ?_, ?_, ?_, ?_⟩
  · rw [(g.1 3 1 (hl 3 1 (by omega))).2]; exact h1
  · rw [(g.1 3 2 (hl 3 2 (by omega))).1]; exact h2
  · rw [(g.1 3 4 (hl 3 4 (by omega))).1]; exact h3
  · rw [(g.1 3 5 (hl 3 5 (by omega))).1]; exact h4
  · rw [(g.1 3 6 (hl 3 6 (by omega))).1]; exact h5
  · rw [(g.1 3 7 (hl 3 7 (by omega))).1]; exact h6
  · rw [(g.1 4 2 (hl 4 2 (by omega))).1]; exact h7
  · intro k hk
    rw [(g.1 5 k (hl 5 k (by omega))).1, (g.1 6 k (hl 6 k (by omega))).1]; exact h8 k hk
  · rw [(g.1 b 6 (hl b 6 (by omega))).1]; exact h9
  · intro p hp
    rw [(g.1 (b + 1) p (hl _ p (by omega))).1, (g.1 (b + 2) p (hl _ p (by omega))).1, (g.1 (b + 3) p (hl _ p (by omega))).1, (g.1 (b + 4) p (hl _ p (by omega))).1, (g.1 (b + 5) p (hl _ p (by omega))).1]; exact h10 p hp
  · rw [(g.1 b 7 (hl b 7 (by omega))).1]; exact h11
  · intro k hk
    rw [(g.1 (b + 6) k (hl _ k (by omega))).1]; exact h12 k hk
theorem w201_hi : ∀ c k, c = 3 ∨ c = 4 ∨ c = 5 ∨ c = 6 ∨ 41 ≤ c → wl w201 c k = false := by
  intro c k h
  unfold wl w201
  simp
  constructor <;> intro z <;> omega
theorem cl_run (n : Nat) (hn : 200 ≤ n) (T : Nat → Int) (L b : Nat) (hb : isD b) : ∀ (f i : Nat) (s : CS) (m : ZM), CC T L i m → CQ b i s m → WS i s → i ≤ 120 → 121 - i ≤ f →
    ∃ m', zL127_31 n b f i m = some (if (crn (tc T L) f i s).1 = 2 then -1 else (ts T L (crn (tc T L) f i s).2.1 : Int), m') ∧ kp (wl (wre b)) m m' ∧ ((crn (tc T L) f i s).1 = 2 → CQ b (crn (tc T L) f i s).2.1 (crn (tc T L) f i s).2.2 m') := by
  have hge := isD_ge hb
  intro f
  induction f with
  | zero => intro i s m _ _ _ _ hf; exact absurd hf (by omega)
  | succ f ih =>
    intro i s m hcc hq hw hi hf
    have hL := hcc.1.1
    have fin : ∀ m2 : ZM, kp (wl (wre b)) m m2 → CQ b i s m2 → m2.1 1 1 = L → tc T L i = 0 → ∃ m', zJ127_78 n b m2 = some (if (if s.1 = 3 then ((2, i, s) : Nat × Nat × CS) else (1, i, s)).1 = 2 then -1 else (ts T L (if s.1 = 3 then ((2, i, s) : Nat × Nat × CS) else (1, i, s)).2.1 : Int), m') ∧ kp (wl (wre b)) m m' ∧ ((if s.1 = 3 then ((2, i, s) : Nat × Nat × CS) else (1, i, s)).1 = 2 → CQ b (if s.1 = 3 then ((2, i, s) : Nat × Nat × CS) else (1, i, s)).2.1 (if s.1 = 3 then ((2, i, s) : Nat × Nat × CS) else (1, i, s)).2.2 m') := by
      intro m2 g2 q2 h11 h0
      unfold zJ127_78 zJ127_94 zF199
      rw [show m2.1 3 2 = s.1 from q2.2.1]
      by_cases z : s.1 = 3
      · rw [if_pos z, if_pos z]
        exact ⟨m2, rfl, g2, fun _ => q2⟩
      · rw [if_neg z, if_neg z]
        refine ⟨m2, ?_, g2, fun w => by cases w⟩
        rw [h11, ts_end T L i h0]
        rfl
    rw [zL127_31, crn]
    by_cases q120 : i = 120
    · have h0 := tc_end T L i (by omega)
      rw [if_pos (by omega), if_pos h0]
      exact fin m (kp_refl _ m) hq hcc.1.2.2.1 h0
    · rw [if_neg (by omega)]
      obtain ⟨m1, e1, e2, e3, g⟩ := rd_cc n hn hcc
      rw [e1]
      dsimp only
      have gk : kp (wl (wre b)) m m1 := kp_sub (by simp [w201, wre]) g
      have hq1 := CQ_kp hb hq g w201_hi
      by_cases q0 : tc T L i = 0
      · rw [if_pos q0, if_pos q0]
        exact fin m1 gk hq1 e2.1.2.2.1 q0
      · rw [if_neg q0, if_neg q0]
        have fail : ∀ m2 : ZM, kp (wl (wre b)) m m2 → m2.1 1 3 = ts T L i → ∃ m', zJ127_67 n b m2 = some (if ((1, i, s) : Nat × Nat × CS).1 = 2 then -1 else (ts T L ((1, i, s) : Nat × Nat × CS).2.1 : Int), m') ∧ kp (wl (wre b)) m m' ∧ (((1, i, s) : Nat × Nat × CS).1 = 2 → CQ b ((1, i, s) : Nat × Nat × CS).2.1 ((1, i, s) : Nat × Nat × CS).2.2 m') := by
          intro m2 g2 h3
          refine ⟨m2, ?_, g2, fun w => by cases w⟩
          unfold zJ127_67 zF200
          rw [h3]
          rfl
        rcases tc_vt T L i hcc.1.2.1 with z | z | z
        · exact absurd z q0
        · rw [if_pos z, if_pos (show tc T L i < 0 by omega)]
          exact fail m1 gk e3
        · rw [if_neg (show ¬ tc T L i = -1 by omega), if_neg (show ¬ tc T L i < 0 by omega)]
          unfold zJ127_57
          have ha := ac_st n b i hb (tc T L i) s m1 hq1 hw (by omega)
          cases hs : cst (tc T L i) i s with
          | none =>
            rw [hs] at ha
            obtain ⟨m2, x1, x2⟩ := ha
            rw [x1]
            dsimp only
            rw [if_pos rfl]
            refine fail m2 (kp_tr gk (kp_sub (fun p hp => List.mem_append_right _ hp) x2)) ?_
            rw [(x2.1 1 3 (by
              unfold wl wrd
              simp
              omega)).1]
            exact e3
          | some s' =>
            rw [hs] at ha
            obtain ⟨m2, x1, x2, x3⟩ := ha
            rw [x1]
            dsimp only
            rw [if_neg (by decide), if_pos (by omega)]
            have hw1 : ∀ c k, c = 1 ∨ c = 2 → wl (wrd b) c k = false := by
              intro c k hc
              unfold wl wrd
              simp
              omega
            have cc2 : CC T L (i + 1) m2 := ⟨⟨e2.1.1, e2.1.2.1, by rw [(x3.1 1 1 (hw1 1 1 (by omega))).1]; exact e2.1.2.2.1, fun k hk => by rw [(x3.1 2 k (hw1 2 k (by omega))).1]; exact e2.1.2.2.2 k hk⟩, by rw [(x3.1 1 2 (hw1 1 2 (by omega))).1]; exact e2.2⟩
            obtain ⟨m', y1, y2, y3⟩ := ih (i + 1) s' m2 cc2 x2 (WS_st _ i s s' hw hs) (by omega) (by omega)
            rw [Int.natCast_add] at y1
            exact ⟨m', y1, kp_tr gk (kp_tr (kp_sub (fun p hp => List.mem_append_right _ hp) x3) y2), y3⟩
