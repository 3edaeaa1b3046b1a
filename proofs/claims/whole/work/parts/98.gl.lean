/-! The brackets of a body are balanced in each of its repetitions. -/
def dB (A : Nat → Nat → Int) : Nat → Int
  | 0 => 0
  | e + 1 => dB A e + (if A 0 e = 0 then br (A 1 e) else 0)
def cS (S : Nat → Nat → Int) : Nat → Int
  | 0 => 0
  | j + 1 => cS S j + (if S 1 j < 0 then 1 else 0)
theorem cS_s (S : Nat → Nat → Int) (j : Nat) : cS S j ≤ cS S (j + 1) := by
  rw [cS]
  split <;> omega
theorem cS_m (S : Nat → Nat → Int) (i : Nat) : ∀ k : Nat, cS S i ≤ cS S (i + k) := by
  intro k
  induction k with
  | zero => exact Int.le_refl _
  | succ k ih =>
    have := cS_s S (i + k)
    rw [show i + (k + 1) = i + k + 1 by omega]
    omega
theorem cS_0 (S : Nat → Nat → Int) (i : Nat) : 0 ≤ cS S i := by
  have := cS_m S 0 i
  rw [Nat.zero_add] at this
  exact this
theorem cS_p (S : Nat → Nat → Int) (d : Nat) (c b p : Int) : ∀ j : Nat, j ≤ d → cS (r_psh S d c b p) j = cS S j := by
  intro j
  induction j with
  | zero => intro _; rfl
  | succ j ih =>
    intro hj
    rw [cS, cS, ih (by omega)]
    have : r_psh S d c b p 1 j = S 1 j := by
      unfold r_psh
      rw [if_neg (by omega)]
    rw [this]
theorem dB_k {A A' : Nat → Nat → Int} : ∀ n : Nat, (∀ e : Nat, e < n → A' 0 e = A 0 e ∧ A' 1 e = A 1 e) → dB A' n = dB A n := by
  intro n
  induction n with
  | zero => intro _; rfl
  | succ n ih =>
    intro h
    rw [dB, dB, ih (fun e he => h e (by omega)), (h n (by omega)).1, (h n (by omega)).2]
/-- closed repetitions are balanced -/
def BE (n : Nat) (A : Nat → Nat → Int) : Prop := ∀ e t : Nat, e < n → A 0 e = 4 → A 2 e = t → t < n ∧ dB A t = dB A e ∧ ∀ q : Nat, e ≤ q → q ≤ t → dB A e ≤ dB A q
def BV (d : Nat) (S : Nat → Nat → Int) (n : Nat) (A : Nat → Nat → Int) : Prop :=
  dB A n = cS S d ∧ (∀ j : Nat, j < d → 0 ≤ S 1 j → (S 1 j).toNat < n ∧ dB A (S 1 j).toNat = cS S j ∧ ∀ q : Nat, (S 1 j).toNat ≤ q → q ≤ n → cS S j ≤ dB A q) ∧ (∀ q : Nat, q ≤ n → 0 ≤ dB A q) ∧ BE n A
/-- one element more, and perhaps a bracket more or less -/
theorem BV_g {d d' : Nat} {S S' : Nat → Nat → Int} {n : Nat} {A A' : Nat → Nat → Int} (h : BV d S n A) (h01 : ∀ e : Nat, e < n → A' 0 e = A 0 e ∧ A' 1 e = A 1 e) (hd : d' ≤ d + 1) (hS : ∀ j : Nat, j < d' → j < d → S' 1 j = S 1 j) (hn : d' = d + 1 → S' 1 d < 0 ∨ S' 1 d = n) (hc : dB A n + (if A' 0 n = 0 then br (A' 1 n) else 0) = cS S' d')
    (hE : ∀ e t : Nat, e < n + 1 → A' 0 e = 4 → A' 2 e = t → (e < n ∧ A 2 e = t) ∨ (e < n ∧ t = n ∧ dB A n = dB A e ∧ ∀ q : Nat, e ≤ q → q ≤ n → dB A e ≤ dB A q)) : BV d' S' (n + 1) A' := by
  obtain ⟨b1, b2, b3, b4⟩ := h
  have dk : ∀ q : Nat, q ≤ n → dB A' q = dB A q := fun q hq => dB_k q (fun e he => h01 e (by omega))
  have hn1 : dB A' (n + 1) = cS S' d' := by
    rw [dB, dk n (Nat.le_refl _)]
    exact hc
  have ck : ∀ j : Nat, j ≤ d' → j ≤ d → cS S' j = cS S j := by
    intro j
    induction j with
    | zero => intro _ _; rfl
    | succ j ih =>
      intro h1 h2
      rw [cS, cS, ih (by omega) (by omega), hS j (by omega) (by omega)]
  refine ⟨hn1, fun j hj hj0 => ?_, fun q hq => ?_, fun e t he h4 ht => ?_⟩
  · by_cases c : j < d
    · rw [hS j hj c] at hj0 ⊢
      obtain ⟨g1, g2, g3⟩ := b2 j c hj0
      rw [ck j (by omega) (by omega)]
      refine ⟨by omega, by rw [dk _ (by omega)]; exact g2, fun q q1 q2 => ?_⟩
      by_cases e : q = n + 1
      · rw [e, hn1, ← ck j (by omega) (by omega)]
        have := cS_m S' j (d' - j)
        rw [show j + (d' - j) = d' by omega] at this
        exact this
      · rw [dk q (by omega)]
        exact g3 q q1 (by omega)
    · have hjd : j = d := by omega
      subst hjd
      have hd' : d' = j + 1 := by omega
      rcases hn hd' with w | w
      · omega
      · rw [w, Int.toNat_natCast, ck j (by omega) (Nat.le_refl _)]
        refine ⟨by omega, by rw [dk n (Nat.le_refl _)]; exact b1, fun q q1 q2 => ?_⟩
        by_cases e : q = n
        · rw [e, dk n (Nat.le_refl _), b1]
          exact Int.le_refl _
        · rw [show q = n + 1 by omega, hn1, hd', ← ck j (by omega) (Nat.le_refl _)]
          exact cS_s S' j
  · by_cases e : q = n + 1
    · rw [e, hn1]
      exact cS_0 _ _
    · rw [dk q (by omega)]
      exact b3 q (by omega)
  · rcases hE e t he h4 ht with ⟨c1, c2⟩ | ⟨c1, c2, c3, c4⟩
    · obtain ⟨g1, g2, g3⟩ := b4 e t c1 (by rw [← (h01 e c1).1]; exact h4) c2
      refine ⟨by omega, by rw [dk t (by omega), dk e (by omega)]; exact g2, fun q q1 q2 => ?_⟩
      rw [dk e (by omega), dk q (by omega)]
      exact g3 q q1 q2
    · subst c2
      refine ⟨by omega, by rw [dk t (by omega), dk e (by omega)]; exact c3, fun q q1 q2 => ?_⟩
      rw [dk e (by omega), dk q (by omega)]
      exact c4 q q1 q2
theorem BV_add {d d' : Nat} {S S' : Nat → Nat → Int} {n : Nat} {A : Nat → Nat → Int} (h : BV d S n A) (k c mk u v p : Int) (hd : d' ≤ d + 1) (hS : ∀ j : Nat, j < d' → j < d → S' 1 j = S 1 j) (hn : d' = d + 1 → S' 1 d < 0 ∨ S' 1 d = n) (hc : dB A n + (if k = 0 then br c else 0) = cS S' d') : BV d' S' (n + 1) (r_add A n k c mk u v p) := by
  have ro : ∀ a e : Nat, e < n → r_add A n k c mk u v p a e = A a e := fun a e he => by
    unfold r_add
    rw [if_neg (by omega)]
  have rn := ra A n k c mk u v p
  refine BV_g h (fun e he => ⟨ro 0 e he, ro 1 e he⟩) hd hS hn (by rw [rn.1, rn.2.1]; exact hc) (fun e t he h4 ht => Or.inl ?_)
  by_cases q : e = n
  · subst q
    rw [rn.2.2.1] at ht
    omega
  · exact ⟨by omega, by rw [← ro 2 e (by omega)]; exact ht⟩
theorem BV_end {d : Nat} {S : Nat → Nat → Int} {n : Nat} {A : Nat → Nat → Int} (h : BV d S n A) (sp mk u p : Int) (hd : 0 < d) (hs : ¬ S 1 (d - 1) < 0) : BV (d - 1) S (n + 1) (r_end false A n (S 1 (d - 1)).toNat sp mk u p) := by
  obtain ⟨g1, g2, g3⟩ := h.2.1 (d - 1) (by omega) (by omega)
  have hak := re_AK false A n (S 1 (d - 1)).toNat sp mk u p g1
  have hen := re_n false A n (S 1 (d - 1)).toNat sp mk u p g1
  have heb := re_b false A n (S 1 (d - 1)).toNat sp mk u p g1
  have hcd : cS S d = cS S (d - 1) := by
    have : cS S (d - 1 + 1) = cS S (d - 1) := by
      rw [cS, if_neg hs]
      omega
    rw [show d - 1 + 1 = d by omega] at this
    exact this
  refine BV_g h (fun e he => ⟨hak.2 0 e he (by decide), hak.2 1 e he (by decide)⟩) (by omega) (fun _ _ _ => rfl) (fun c => by omega) ?_ (fun e t he h4 ht => ?_)
  · rw [hen.1, if_neg (by decide), h.1, hcd]
    omega
  · by_cases q : e = n
    · subst q
      rw [hen.1] at h4
      exact absurd h4 (by decide)
    · by_cases qb : e = (S 1 (d - 1)).toNat
      · right
        rw [qb, heb.1] at ht
        rw [qb, h.1, hcd, g2]
        exact ⟨g1, by omega, rfl, fun q q1 q2 => g3 q q1 q2⟩
      · left
        exact ⟨by omega, by rw [← hak.1 2 e (by omega) qb]; exact ht⟩
theorem BV_st (C : Nat → Int) (s : RS) (h : BV s.2.1 s.2.2.1 s.2.2.2.2.2.1 s.2.2.2.2.2.2.2) (s' : RS) (z : Nat) (hz : z ≠ 1) (hr : rst false C s = (z, s')) : BV s'.2.1 s'.2.2.1 s'.2.2.2.2.2.1 s'.2.2.2.2.2.2.2 ∧ (z = 2 → s'.2.1 = 0) := by
  obtain ⟨i, d, S, u, v, n, q, A⟩ := s
  dsimp only at h
  have h1 := h.1
  have hdm : 0 < d → S 1 (d - 1) < 0 → cS S d = cS S (d - 1) + 1 := fun hd hs => by
    have : cS S (d - 1 + 1) = cS S (d - 1) + 1 := by
      rw [cS, if_pos hs]
    rw [show d - 1 + 1 = d by omega] at this
    exact this
  unfold rst at hr
  dsimp only at hr
  by_cases c0 : C i ≤ 0
  · rw [if_pos c0] at hr; cases hr; exact absurd rfl hz
  rw [if_neg c0] at hr
  by_cases c1 : cls (C i)
  · rw [if_pos c1] at hr
    by_cases c2 : d = 0
    · rw [if_pos c2] at hr
      by_cases c3 : C i = (if false = true then 41 else 125)
      · rw [if_pos c3] at hr
        cases hr
        subst c2
        exact ⟨BV_add (d' := 0) (S' := S) h _ _ _ _ _ _ (by omega) (fun _ _ _ => rfl) (fun w => by omega) (by rw [if_neg (by decide), h1]; omega), fun _ => rfl⟩
      · rw [if_neg c3] at hr; cases hr; exact absurd rfl hz
    rw [if_neg c2] at hr
    by_cases c3 : C i ≠ clo (S 0 (d - 1))
    · rw [if_pos c3] at hr; cases hr; exact absurd rfl hz
    rw [if_neg c3] at hr
    by_cases c4 : S 1 (d - 1) < 0
    · rw [if_pos c4] at hr
      cases hr
      refine ⟨BV_add (d' := d - 1) (S' := S) h _ _ _ _ _ _ (by omega) (fun _ _ _ => rfl) (fun w => by omega) ?_, fun w => by cases w⟩
      have hb : br (C i) = -1 := by
        unfold br
        rw [if_neg (by omega), if_pos c1]
      rw [if_pos (show (if false = true then (2 : Int) else 0) = 0 from rfl), h1, hb, hdm (by omega) c4]
      omega
    rw [if_neg c4] at hr
    by_cases c5 : C (i + 1) = 42 ∨ C (i + 1) = 43 ∨ C (i + 1) = 63
    · rw [if_pos c5] at hr
      cases hr
      exact ⟨BV_end h _ _ _ _ (by omega) c4, fun w => by cases w⟩
    rw [if_neg c5] at hr
    by_cases c6 : 0 < C (i + 1) ∧ ¬ opn (C (i + 1)) ∧ ¬ cls (C (i + 1)) ∧ C (i + 1) ≠ 36
    · rw [if_pos c6] at hr
      by_cases c7 : C (i + 2) = 42 ∨ C (i + 2) = 43
      · rw [if_pos c7] at hr
        cases hr
        exact ⟨BV_end h _ _ _ _ (by omega) c4, fun w => by cases w⟩
      · rw [if_neg c7] at hr; cases hr; exact absurd rfl hz
    · rw [if_neg c6] at hr; cases hr; exact absurd rfl hz
  rw [if_neg c1] at hr
  by_cases c2 : C i = 36
  · rw [if_pos c2] at hr
    by_cases c3 : wd (C (i + 1))
    · rw [if_pos c3, if_neg (by decide)] at hr
      cases hr
      exact ⟨BV_add (d' := d) (S' := S) h _ _ _ _ _ _ (by omega) (fun _ _ _ => rfl) (fun w => by omega) (by rw [if_neg (by decide), h1]; omega), fun w => by cases w⟩
    rw [if_neg c3] at hr
    by_cases c4 : C (i + 1) ≠ 40 ∨ 0 ≤ v ∨ (false = true ∧ 4 ≤ q) ∨ 9 ≤ d
    · rw [if_pos c4] at hr; cases hr; exact absurd rfl hz
    rw [if_neg c4] at hr
    cases hr
    have hp : r_psh S d 40 n (i + 1 : Nat) 1 d = n := by
      unfold r_psh
      rw [if_pos rfl, if_neg (by decide), if_pos rfl]
    refine ⟨BV_add (d' := d + 1) (S' := r_psh S d 40 n (i + 1 : Nat)) h _ _ _ _ _ _ (Nat.le_refl _) (fun j _ hj => ?_) (fun _ => Or.inr hp) ?_, fun w => by cases w⟩
    · unfold r_psh
      rw [if_neg (by omega)]
    · rw [cS, cS_p S d _ _ _ d (Nat.le_refl _), hp, if_neg (by decide), if_neg (by omega), h1]
  rw [if_neg c2] at hr
  by_cases c3 : opn (C i)
  · rw [if_pos c3] at hr
    by_cases c4 : 9 ≤ d
    · rw [if_pos c4] at hr; cases hr; exact absurd rfl hz
    · rw [if_neg c4] at hr
      cases hr
      have hp : r_psh S d (C i) (-1) i 1 d = -1 := by
        unfold r_psh
        rw [if_pos rfl, if_neg (by decide), if_pos rfl]
      refine ⟨BV_add (d' := d + 1) (S' := r_psh S d (C i) (-1) i) h _ _ _ _ _ _ (Nat.le_refl _) (fun j _ hj => ?_) (fun _ => Or.inl (by rw [hp]; decide)) ?_, fun w => by cases w⟩
      · unfold r_psh
        rw [if_neg (by omega)]
      · have hb : br (C i) = 1 := by
          unfold br
          rw [if_pos c3]
        rw [cS, cS_p S d _ _ _ d (Nat.le_refl _), hp, if_pos (show (if false = true then (1 : Int) else 0) = 0 from rfl), if_pos (show (-1 : Int) < 0 by decide), h1, hb]
  rw [if_neg c3] at hr
  cases hr
  have hb : br (C i) = 0 := by
    unfold br
    rw [if_neg c3, if_neg c1]
  exact ⟨BV_add (d' := d) (S' := S) h _ _ _ _ _ _ (by omega) (fun _ _ _ => rfl) (fun w => by omega) (by rw [if_pos rfl, hb, h1]; omega), fun w => by cases w⟩
theorem BV_row (C : Nat → Int) : ∀ (f : Nat) (s : RS), BV s.2.1 s.2.2.1 s.2.2.2.2.2.1 s.2.2.2.2.2.2.2 → (rrn false C f s).1 = 2 → BV 0 (rrn false C f s).2.2.2.1 (rrn false C f s).2.2.2.2.2.2.1 (rrn false C f s).2.2.2.2.2.2.2.2 := by
  intro f
  induction f with
  | zero => intro s _ h2; cases h2
  | succ f ih =>
    intro s h h2
    rw [rrn] at h2 ⊢
    by_cases z : (rst false C s).1 = 0
    · rw [if_pos z] at h2 ⊢
      exact ih _ (BV_st C s h (rst false C s).2 0 (by decide) (by rw [← z])).1 h2
    · rw [if_neg z] at h2 ⊢
      obtain ⟨g1, g2⟩ := BV_st C s h (rst false C s).2 2 (by decide) (by rw [← h2])
      rw [g2 rfl] at g1
      exact g1
/-- a body is balanced -/
def BBX (B : Nat → Nat → Int) (NB : Nat) : Prop := dB B NB = 0 ∧ (∀ q : Nat, q ≤ NB → 0 ≤ dB B q) ∧ ∀ e t : Nat, e < NB → B 0 e = 4 → B 2 e = t → dB B t = dB B e ∧ ∀ q : Nat, e ≤ q → q ≤ t → dB B e ≤ dB B q
theorem BB_prw (C : Nat → Int) (i : Nat) (h2 : (prw false C i).1 = 2) (h6 : (prw false C i).2.2.2.2.2.2.2.2 0 ((prw false C i).2.2.2.2.2.2.1 - 1) = 6) (h1 : 1 ≤ (prw false C i).2.2.2.2.2.2.1) : BBX (prw false C i).2.2.2.2.2.2.2.2 ((prw false C i).2.2.2.2.2.2.1 - 1) := by
  have h0 : BV (r0 i).2.1 (r0 i).2.2.1 (r0 i).2.2.2.2.2.1 (r0 i).2.2.2.2.2.2.2 := ⟨rfl, fun j hj => absurd hj (by show ¬ j < 0; omega), fun q hq => by
    have : q = 0 := by have : q ≤ 0 := hq; omega
    rw [this]; exact Int.le_refl _, fun e t he => absurd he (by show ¬ e < 0; omega)⟩
  have := BV_row C 130 (r0 i) h0 h2
  have this : BV 0 (prw false C i).2.2.2.1 (prw false C i).2.2.2.2.2.2.1 (prw false C i).2.2.2.2.2.2.2.2 := this
  generalize (prw false C i).2.2.2.2.2.2.2.2 = A at *
  generalize (prw false C i).2.2.2.2.2.2.1 = n at *
  obtain ⟨b1, b2, b3, b4⟩ := this
  obtain ⟨k, rfl⟩ : ∃ k, n = k + 1 := ⟨n - 1, by omega⟩
  rw [Nat.add_sub_cancel] at h6 ⊢
  refine ⟨?_, fun q hq => b3 q (by omega), fun e t he h4 ht => (b4 e t (by omega) h4 ht).2⟩
  rw [dB, h6, if_neg (by decide)] at b1
  have : cS (prw false C i).2.2.2.1 0 = 0 := rfl
  omega
theorem dfs_arm (C : Nat → Int) : ∀ (f a : Nat), (dfs C f a).1 = 2 → ∀ u : Nat, a ≤ u → u < (dfs C f a).2.2 → (armr C (armst C u)).1 ≠ 1 := by
  intro f
  induction f with
  | zero => intro a h; cases h
  | succ f ih =>
    intro a h u h1 h2
    rw [dfs] at h h2
    by_cases c1 : (armr C (armst C a)).1 = 1
    · rw [if_pos c1] at h; cases h
    rw [if_neg c1] at h h2
    by_cases q : u = a
    · rw [q]; exact c1
    by_cases c2 : C (armr C (armst C a)).2 = 59 ∧ a + 1 < 3
    · rw [if_pos c2] at h h2
      exact ih (a + 1) h u (by omega) h2
    · rw [if_neg c2] at h h2
      by_cases c3 : C (armr C (armst C a)).2 = 0
      · rw [if_pos c3] at h h2
        have : u < a + 1 := h2
        omega
      · rw [if_neg c3] at h; cases h
theorem dfn_arm (C : Nat → Int) (h : (dfn C).1 = 2) (u : Nat) (hu : u < (dfn C).2.2) : (armB C (armst C u)).1 = 2 := by
  unfold dfn at h hu
  by_cases c : wd (C 0)
  · rw [if_pos c] at h hu
    have h1 := dfs_arm C 3 0 h u (Nat.zero_le _) hu
    have h12 : (armr C (armst C u)).1 = 2 := by
      revert h1
      unfold armr
      repeat' split
      all_goals intro h1
      all_goals first | rfl | exact absurd rfl h1
    exact (armr_2 C (armst C u) h12 (rrn_12 true C 130 _) (rrn_12 false C 130 _)).2.2.2
  · rw [if_neg c] at h; cases h
/-- an arm's body is balanced -/
theorem BB_arm {C : Nat → Int} {Y : Nat → Nat → Int} (h : (dfn C).1 = 2) (u : Nat) (hu : u < (dfn C).2.2) (hM : RM C (armst C u) Y) : BBX (eB C (armst C u)) (eM C (armst C u)) :=
  BB_prw C _ (dfn_arm C h u hu) hM.2.1.2.2.2.1 hM.2.2.2.2.2
