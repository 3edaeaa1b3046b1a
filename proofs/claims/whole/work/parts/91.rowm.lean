/-! The reference reads a row as the pure reading does. -/
/-- what a row writes: the arrays of the pattern, or of the body -/
def w44x (pat : Bool) : List (Nat × Nat) := [(83, 4), (83, 5), (83, 6), (83, 7), (83, 8), (83, 27), (83, 30), (83, 31), (83, 32), (83, 33), (103, 1000), (104, 1000)] ++ (if pat = true then [(90, 1000), (91, 1000), (92, 1000), (93, 1000), (94, 1000), (95, 1000), (96, 1000)] else [(97, 1000), (98, 1000), (99, 1000), (100, 1000), (101, 1000), (102, 1000)])
theorem s28 (pat : Bool) : ∀ p ∈ w28, p ∈ w44x pat := by cases pat <;> simp [w28, w44x]
theorem s8 (pat : Bool) : ∀ p ∈ [((83, 8) : Nat × Nat)], p ∈ w44x pat := by cases pat <;> simp [w44x]
theorem s33 (pat : Bool) : ∀ p ∈ [((83, 33) : Nat × Nat)], p ∈ w44x pat := by cases pat <;> simp [w44x]
theorem s27 (pat : Bool) : ∀ p ∈ [((83, 27) : Nat × Nat)], p ∈ w44x pat := by cases pat <;> simp [w44x]
theorem s35 : ∀ p ∈ w35, p ∈ w44x true := by simp [w35, w44x]
theorem s36 : ∀ p ∈ w36, p ∈ w44x false := by simp [w36, w44x]
theorem s37 (pat : Bool) : ∀ p ∈ w37, p ∈ w44x pat := by cases pat <;> simp [w37, w44x]
theorem s38 (pat : Bool) : ∀ p ∈ w38, p ∈ w44x pat := by cases pat <;> simp [w38, w44x]
theorem s39 (pat : Bool) : ∀ p ∈ w39, p ∈ w44x pat := by cases pat <;> simp [w39, w44x]
theorem s40 (pat : Bool) : ∀ p ∈ w40, p ∈ w44x pat := by cases pat <;> simp [w40, w44x]
theorem s92 : ∀ p ∈ [((92, 1000) : Nat × Nat), (93, 1000), (94, 1000)], p ∈ w44x true := by simp [w44x]
theorem s99 : ∀ p ∈ [((99, 1000) : Nat × Nat), (100, 1000)], p ∈ w44x false := by simp [w44x]
def pb (pat : Bool) : Int := if pat = true then 1 else 0
def lb (pat : Bool) : Int := if pat = true then 41 else 125
theorem tc_lt {T : Nat → Int} {L i : Nat} (hL : L ≤ 120) (h : 0 < tc T L i) : i < 120 := by
  by_cases z : i < 120
  · exact z
  · have := tc_end T L i (by omega)
    omega
def RT (pat : Bool) (T : Nat → Int) (L : Nat) (E : Option (Int × ZM)) (m : ZM) (t : Nat × RS) (K : ZM → Option (Int × ZM)) : Prop :=
  (t.1 = 0 → ∃ m', E = K m' ∧ MR pat T L t.2 m' ∧ kp (wl (w44x pat)) m m') ∧ (t.1 = 1 → ∃ m', E = some (0, m') ∧ BD T L t.2.1 m m' (w44x pat)) ∧ (t.1 = 2 → ∃ m', E = some (1, m') ∧ MR pat T L t.2 m' ∧ kp (wl (w44x pat)) m m')
section RTS
variable {pat : Bool} {T : Nat → Int} {L : Nat} {E : Option (Int × ZM)} {m : ZM} {K : ZM → Option (Int × ZM)} {s : RS}
theorem RT_go (h : ∃ m', E = K m' ∧ MR pat T L s m' ∧ kp (wl (w44x pat)) m m') : RT pat T L E m (0, s) K := ⟨fun _ => h, (fun z => by cases z), (fun z => by cases z)⟩
theorem RT_bad (h : ∃ m', E = some (0, m') ∧ BD T L s.1 m m' (w44x pat)) : RT pat T L E m (1, s) K := ⟨(fun z => by cases z), fun _ => h, (fun z => by cases z)⟩
theorem RT_done (h : ∃ m', E = some (1, m') ∧ MR pat T L s m' ∧ kp (wl (w44x pat)) m m') : RT pat T L E m (2, s) K := ⟨(fun z => by cases z), (fun z => by cases z), fun _ => h⟩
end RTS
theorem ca_w28 : ∀ (pat : Bool), ∀ c ∈ ca pat, ∀ k, wl w28 c k = false := by
  intro pat c hc k
  cases pat <;> simp [ca] at hc <;> rcases hc with rfl | rfl | rfl | rfl | rfl | rfl | rfl <;> rfl
theorem ca_w37 : ∀ (pat : Bool), ∀ c ∈ ca pat, ∀ k, wl w37 c k = false := by
  intro pat c hc k
  cases pat <;> simp [ca] at hc <;> rcases hc with rfl | rfl | rfl | rfl | rfl | rfl | rfl <;> rfl
theorem ca_w40 : ∀ (pat : Bool), ∀ c ∈ ca pat, ∀ k, wl w40 c k = false := by
  intro pat c hc k
  cases pat <;> simp [ca] at hc <;> rcases hc with rfl | rfl | rfl | rfl | rfl | rfl | rfl <;> rfl
/-- the next token -/
theorem MR_nx (pat : Bool) (n : Nat) (hn : 200 ≤ n) {T : Nat → Int} {L i d N : Nat} {S A : Nat → Nat → Int} {u v q : Int} {m : ZM} (h : MR pat T L (i, d, S, u, v, N, q, A) m) : ∃ m', zF28 n m = some ((), m') ∧ MR pat T L (i + 1, d, S, u, v, N, q, A) m' ∧ kp (wl w28) m m' := by
  obtain ⟨h1, h2, h3, h4, h5, h6, h7, h8⟩ := h
  obtain ⟨m', e1, e2, e3⟩ := nx_cu n hn h1
  refine ⟨m', e1, ⟨e2, ?_, ?_, ?_, ?_, ?_, ?_, AX_kp h8 e3 (ca_w28 pat)⟩, e3⟩
  · rw [(e3.1 83 27 rfl).1]; exact h2
  · intro k hk
    rw [(e3.1 103 k rfl).1, (e3.1 104 k rfl).1]; exact h3 k hk
  · rw [(e3.1 83 30 rfl).1]; exact h4
  · rw [(e3.1 83 31 rfl).1]; exact h5
  · rw [(e3.1 83 32 rfl).1]; exact h6
  · rw [(e3.1 83 33 rfl).1]; exact h7
theorem fin_add (pat : Bool) (n : Nat) (k1 k2 c mk p : Int) {T : Nat → Int} {L i d N : Nat} {S A : Nat → Nat → Int} {u v q : Int} {m : ZM} (h : MR pat T L (i, d, S, u, v, N, q, A) m) (hN : N < 128) (X : ZM → Option (Int × ZM)) :
    ∃ m', (if pb pat = 0 then (match zF36 n k1 c m with | some (v51, M52) => (X M52) | none => none) else (match zF35 n k2 c mk m with | some (v54, M55) => (X M55) | none => none)) = X m' ∧ MR pat T L (i, d, S, u, v, N + 1, q, r_add A N (if pat = true then k2 else k1) c mk u v p) m' ∧ kp (wl (w44x pat)) m m' := by
  obtain ⟨h1, h2, h3, h4, h5, h6, h7, h8⟩ := h
  dsimp only at h1 h2 h3 h4 h5 h6 h7 h8
  cases pat with
  | true =>
    obtain ⟨m', e1, e2, e3, e4⟩ := ad_p n N k2 c mk p A m h6 hN h8
    rw [h4, h5] at e2
    rw [if_neg (by decide), e1]
    refine ⟨m', rfl, ⟨CU_kp h1 e4 rfl (fun _ => rfl) rfl rfl rfl rfl, ?_, ?_, ?_, ?_, ?_, ?_, e2⟩, kp_sub s35 e4⟩
    · rw [(e4.1 83 27 rfl).1]; exact h2
    · intro k hk
      rw [(e4.1 103 k rfl).1, (e4.1 104 k rfl).1]; exact h3 k hk
    · rw [(e4.1 83 30 rfl).1]; exact h4
    · rw [(e4.1 83 31 rfl).1]; exact h5
    · rw [e3, Int.natCast_add]; rfl
    · rw [(e4.1 83 33 rfl).1]; exact h7
  | false =>
    obtain ⟨m', e1, e2, e3, e4⟩ := ad_b n N k1 c mk p A m h6 hN h8
    rw [h4, h5] at e2
    rw [if_pos (by decide), e1]
    refine ⟨m', rfl, ⟨CU_kp h1 e4 rfl (fun _ => rfl) rfl rfl rfl rfl, ?_, ?_, ?_, ?_, ?_, ?_, e2⟩, kp_sub s36 e4⟩
    · rw [(e4.1 83 27 rfl).1]; exact h2
    · intro k hk
      rw [(e4.1 103 k rfl).1, (e4.1 104 k rfl).1]; exact h3 k hk
    · rw [(e4.1 83 30 rfl).1]; exact h4
    · rw [(e4.1 83 31 rfl).1]; exact h5
    · rw [e3, Int.natCast_add]; rfl
    · rw [(e4.1 83 33 rfl).1]; exact h7
theorem bd44 {pat : Bool} {T : Nat → Int} {L i : Nat} {m m' : ZM} (h : BD T L i m m' [(83, 8)]) : BD T L i m m' (w44x pat) := ⟨h.1, kp_sub (s8 _) h.2⟩
theorem row_lit (pat : Bool) (n : Nat) (hn : 200 ≤ n) (k1 k2 : Int) (c : Int) {T : Nat → Int} {L i d N : Nat} {S A : Nat → Nat → Int} {u v q : Int} {m : ZM} (h : MR pat T L (i, d, S, u, v, N, q, A) m) (hN : N < 128) (K : Int → Int → Int → ZM → Option (Int × ZM)) (x2 x3 : Int) :
    ∃ m', zJ44_221 n K (pb pat) x2 x3 c m = K (pb pat) x2 x3 m' ∧ MR pat T L (i + 1, d, S, u, v, N + 1, q, r_add A N 0 c 0 u v i) m' ∧ kp (wl (w44x pat)) m m' := by
  obtain ⟨m1, e1, e2, e3⟩ := MR_nx pat n hn h
  obtain ⟨m', f1, f2, f3⟩ := fin_add pat n 0 0 c 0 i e2 hN (fun M => zJ44_247 n K (pb pat) x2 x3 M)
  refine ⟨m', ?_, ?_, kp_tr (kp_sub (s28 _) e3) f3⟩
  · unfold zJ44_221
    rw [e1]
    exact f1
  · have : (if pat = true then (0 : Int) else 0) = 0 := by split <;> rfl
    rw [this] at f2
    exact f2
theorem row_opn (pat : Bool) (n : Nat) (hn : 200 ≤ n) {T : Nat → Int} {L i d N : Nat} {S A : Nat → Nat → Int} {u v q : Int} {m : ZM} (h : MR pat T L (i, d, S, u, v, N, q, A) m) (hd : d < 9) (h0 : 0 < tc T L i) (hN : N < 128) (K : Int → Int → Int → ZM → Option (Int × ZM)) (x2 x3 : Int) :
    ∃ m', zJ44_180 n K (pb pat) x2 x3 (tc T L i) m = K (pb pat) x2 x3 m' ∧ MR pat T L (i + 1, d + 1, r_psh S d (tc T L i) (-1) i, u, v, N + 1, q, r_add A N (if pat = true then 1 else 0) (tc T L i) 0 u v i) m' ∧ kp (wl (w44x pat)) m m' := by
  have h' := h
  obtain ⟨h1, h2, h3, h4, h5, h6, h7, h8⟩ := h
  dsimp only at h1 h2 h3 h4 h5 h6 h7 h8
  obtain ⟨m1, e1, e2, e3, e4, e5⟩ := op_yes n hn (-1) h1 h2 hd h0
  have hm : MR pat T L (i + 1, d + 1, r_psh S d (tc T L i) (-1) i, u, v, N, q, A) m1 := by
    refine ⟨e2, e3, ?_, ?_, ?_, ?_, ?_, AX_kp h8 e5 (ca_w37 pat)⟩
    · intro k hk
      have := e4 k (by show k ≤ d; have : k < d + 1 := hk; omega)
      rw [this.1, this.2]
      unfold r_psh
      by_cases e : k = d
      · subst e; simp
      · simp only [if_neg e]
        exact h3 k (by have : k < d + 1 := hk; omega)
    · rw [(e5.1 83 30 rfl).1]; exact h4
    · rw [(e5.1 83 31 rfl).1]; exact h5
    · rw [(e5.1 83 32 rfl).1]; exact h6
    · rw [(e5.1 83 33 rfl).1]; exact h7
  obtain ⟨m', f1, f2, f3⟩ := fin_add pat n 0 1 (tc T L i) 0 i hm hN (fun M => zJ44_212 n K (pb pat) x2 x3 M)
  refine ⟨m', ?_, f2, kp_tr (kp_sub (s37 _) e5) f3⟩
  unfold zJ44_180
  rw [e1]
  dsimp only
  rw [if_neg (by decide)]
  exact f1
