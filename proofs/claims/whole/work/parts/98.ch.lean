/-! Behind a $: the row against the class's automaton. -/
theorem app_at (Y : Nat → Nat → Int) (i : Nat) (c inn : Int) : c_app Y i c inn 1 i = c ∧ c_app Y i c inn 2 i = -1 ∧ c_app Y i c inn 3 i = inn ∧ c_app Y i c inn 4 i = -1 ∧ c_app Y i c inn 5 i = -1 := by
  simp [c_app]
theorem YK_tr {Y Y1 Y2 : Nat → Nat → Int} {i i' : Nat} (h1 : YK Y Y1 i) (h2 : YK Y1 Y2 i') (hi : i ≤ i') : YK Y Y2 i := by
  intro p hp
  obtain ⟨a1, a2, a3, a4, a5⟩ := h1 p hp
  obtain ⟨b1, b2, b3, b4, b5⟩ := h2 p (by omega)
  exact ⟨b1.trans a1, b2.trans a2, b3.trans a3, fun z => (b4 (by rw [a4 z]; exact z)).trans (a4 z), fun z => (b5 (by rw [a5 z]; exact z)).trans (a5 z)⟩
/-! the automaton's steps behind a $ -/
section STP
variable {i d a : Nat} {pat : Bool} {rp inn cl : Int} {St Y : Nat → Nat → Int} {P : Nat → Int}
theorem c_dol : cst 36 i (4, pat, rp, inn, cl, d, St, Y, a, P) = some (5, pat, rp, inn, cl, d, St, c_app Y i 36 inn, a, P) := by
  unfold cst
  dsimp only
  rw [if_neg (by decide), if_neg (by decide), if_neg (by decide), if_neg (by decide), if_pos rfl, if_pos rfl]
theorem c_5w (c : Int) (h : wd c) : cst c i (5, pat, rp, inn, cl, d, St, Y, a, P) = some ((if pat = true then 6 else 4), pat, rp, inn, cl, d, St, c_app Y i c inn, a, P) := by
  unfold cst
  dsimp only
  rw [if_neg (by decide), if_neg (by decide), if_neg (by decide), if_neg (by decide), if_neg (by decide), if_pos rfl, if_pos h]
theorem c_6 (c : Int) : cst c i (6, pat, rp, inn, cl, d, St, Y, a, P) = if c = 58 then some (7, pat, rp, inn, cl, d, St, c_app Y i c inn, a, P) else none := by
  unfold cst
  dsimp only
  rw [if_neg (by decide), if_neg (by decide), if_neg (by decide), if_neg (by decide), if_neg (by decide), if_neg (by decide), if_pos rfl]
theorem c_7 (c : Int) : cst c i (7, pat, rp, inn, cl, d, St, Y, a, P) = if knd c then some (4, pat, rp, inn, cl, d, St, c_app Y i c inn, a, P) else none := by
  unfold cst
  dsimp only
  rw [if_neg (by decide), if_neg (by decide), if_neg (by decide), if_neg (by decide), if_neg (by decide), if_neg (by decide), if_neg (by decide), if_pos rfl]
theorem c_5n (c : Int) (h : ¬ wd c) : cst c i (5, pat, rp, inn, cl, d, St, Y, a, P) = if c = 40 ∧ c_dep (c_app Y i c inn) (i - 1) ≤ 1 ∧ d < 10 then
        (if pat = true then (if rp + 1 ≤ 4 then some (4, pat, rp + 1, (i : Int) - 1, cl, d + 1, c_psh St d i c, r_set (c_app Y i c inn) 5 (i - 1) rp, a, P) else none)
        else some (4, pat, rp, (i : Int) - 1, cl, d + 1, c_psh St d i c, c_app Y i c inn, a, P))
      else none := by
  unfold cst
  dsimp only
  rw [if_neg (by decide), if_neg (by decide), if_neg (by decide), if_neg (by decide), if_neg (by decide), if_pos rfl, if_neg h]
end STP
section DOLS
variable {pat : Bool} {C : Nat → Int} {i0 i d n : Nat} {S A Y St : Nat → Nat → Int} {u v q rp cl : Int} {a : Nat} {P : Nat → Int}
theorem sim_use (h : XR false C i0 (i, d, S, u, v, n, q, A) (4, false, rp, innf A u v, cl, d + 1, St, Y, a, P)) (h0 : C i = 36) (hw : wd (C (i + 1))) :
    ∃ t', (∀ f, crn C (f + 2) i (4, false, rp, innf A u v, cl, d + 1, St, Y, a, P) = crn C f (i + 2) t') ∧ XR false C i0 (i + 2, d, S, u, v, n + 1, q, r_add A n 7 (C (i + 1)) 0 u v i) t' ∧ t'.2.2.2.2.2.2.2.2 = (a, P) ∧ (0 ≤ rp ∧ rp ≤ 4 → 0 ≤ t'.2.2.1 ∧ t'.2.2.1 ≤ 4) := by
  refine ⟨(4, false, rp, innf A u v, cl, d + 1, St, c_app (c_app Y i 36 (innf A u v)) (i + 1) (C (i + 1)) (innf A u v), a, P), ?_, ?_, rfl, fun z => z⟩
  · intro f
    rw [crn_go (f + 1) (by omega) (by rw [h0]; exact c_dol), crn_go f (by omega) (c_5w _ hw)]
    rfl
  · obtain ⟨x1, x2, x3, x4, x5, x6, x7, x8, x9, x10, xa, xs⟩ := h
    dsimp only at x3 x6 x7 x8 xa xs
    have hu : -1 ≤ u ∧ u < n := ⟨xs.2.2.2.2.2.2.1, xs.2.2.2.2.2.2.2.1⟩
    have hv : -1 ≤ v ∧ v < n := ⟨xs.2.2.2.2.2.2.2.2.1, xs.2.2.2.2.2.2.2.2.2.1⟩
    have hyk := YK_tr (YK_app Y i 36 (innf A u v)) (YK_app (c_app Y i 36 (innf A u v)) (i + 1) (C (i + 1)) (innf A u v)) (by omega)
    refine ⟨rfl, rfl, x3, ?_, rfl, x6, x7, x8, x9, x10, ?_, ?_⟩
    · exact (innf_k (AK_add A n 7 (C (i + 1)) 0 u v i n) u v hu.2 hv.2).symm
    · have := XA_add xa 7 (C (i + 1)) 0 u v 2 hyk (EK_use (C (i + 1)) rfl h0 rfl hw hu hv _ (by rw [app_lt _ _ _ _ _ _ (by omega)]; exact (app_at Y i 36 (innf A u v)).2.2.1)) (by rw [ln_add]; rfl) (by omega) ?_ ?_
      · rw [if_neg (by decide), Int.add_zero] at this
        exact this
      · intro p hp
        by_cases z : p = i + 1
        · subst z; exact (app_at _ _ _ _).1
        · rw [app_lt _ _ _ _ _ _ z]
          by_cases z2 : p = i
          · subst z2; rw [(app_at _ _ _ _).1, h0]
          · rw [app_lt _ _ _ _ _ _ z2]; exact xa.2.2.1 p (by omega)
      · rw [show i + 2 - 1 = i + 1 by omega]; omega
    · exact XS_k (i' := i + 2) (n' := n + 1) (A' := r_add A n 7 (C (i + 1)) 0 u v i) (Y' := c_app (c_app Y i 36 (innf A u v)) (i + 1) (C (i + 1)) (innf A u v)) xs (by omega) (by omega) (fun a e he => by unfold r_add; rw [if_neg (by omega)]) (fun p hp => ⟨by rw [app_lt _ _ _ _ _ _ (by omega), app_lt _ _ _ _ _ _ (by omega)], by rw [app_lt _ _ _ _ _ _ (by omega), app_lt _ _ _ _ _ _ (by omega)]⟩) (XA_lt xa)
theorem sim_frag (h : XR true C i0 (i, d, S, u, v, n, q, A) (4, true, rp, innf A u v, cl, d + 1, St, Y, a, P)) (h0 : C i = 36) (hw : wd (C (i + 1))) (h2 : C (i + 2) = 58) (h3 : knd (C (i + 3))) :
    ∃ t', (∀ f, crn C (f + 4) i (4, true, rp, innf A u v, cl, d + 1, St, Y, a, P) = crn C f (i + 4) t') ∧ XR true C i0 (i + 4, d, S, u, v, n + 1, q, r_add A n 3 (C (i + 1)) (r_kd (C (i + 3))) u v i) t' ∧ t'.2.2.2.2.2.2.2.2 = (a, P) ∧ (0 ≤ rp ∧ rp ≤ 4 → 0 ≤ t'.2.2.1 ∧ t'.2.2.1 ≤ 4) := by
  refine ⟨(4, true, rp, innf A u v, cl, d + 1, St, c_app (c_app (c_app (c_app Y i 36 (innf A u v)) (i + 1) (C (i + 1)) (innf A u v)) (i + 2) (C (i + 2)) (innf A u v)) (i + 3) (C (i + 3)) (innf A u v), a, P), ?_, ?_, rfl, fun z => z⟩
  · intro f
    rw [crn_go (f + 3) (by omega) (by rw [h0]; exact c_dol), crn_go (f + 2) (by omega) (c_5w _ hw), crn_go (f + 1) (show 0 < C (i + 1 + 1) by rw [show i + 1 + 1 = i + 2 by omega]; omega) (by rw [if_pos rfl, c_6, if_pos (show C (i + 1 + 1) = 58 from h2)]), crn_go f (show 0 < C (i + 1 + 1 + 1) by rw [show i + 1 + 1 + 1 = i + 3 by omega]; omega) (by rw [c_7, if_pos (show knd (C (i + 1 + 1 + 1)) from h3)])]
  · obtain ⟨x1, x2, x3, x4, x5, x6, x7, x8, x9, x10, xa, xs⟩ := h
    dsimp only at x3 x6 x7 x8 xa xs
    have hu : -1 ≤ u ∧ u < n := ⟨xs.2.2.2.2.2.2.1, xs.2.2.2.2.2.2.2.1⟩
    have hv : -1 ≤ v ∧ v < n := ⟨xs.2.2.2.2.2.2.2.2.1, xs.2.2.2.2.2.2.2.2.2.1⟩
    have y1 : ∀ j p : Nat, p < i → c_app (c_app (c_app (c_app Y i 36 (innf A u v)) (i + 1) (C (i + 1)) (innf A u v)) (i + 2) (C (i + 2)) (innf A u v)) (i + 3) (C (i + 3)) (innf A u v) j p = Y j p := by
      intro j p hp
      rw [app_lt _ _ _ _ _ _ (by omega), app_lt _ _ _ _ _ _ (by omega), app_lt _ _ _ _ _ _ (by omega), app_lt _ _ _ _ _ _ (by omega)]
    have hyk : YK Y (c_app (c_app (c_app (c_app Y i 36 (innf A u v)) (i + 1) (C (i + 1)) (innf A u v)) (i + 2) (C (i + 2)) (innf A u v)) (i + 3) (C (i + 3)) (innf A u v)) i := fun p hp => ⟨y1 3 p hp, y1 5 p hp, y1 1 p hp, fun _ => y1 2 p hp, fun _ => y1 4 p hp⟩
    have y3 : c_app (c_app (c_app (c_app Y i 36 (innf A u v)) (i + 1) (C (i + 1)) (innf A u v)) (i + 2) (C (i + 2)) (innf A u v)) (i + 3) (C (i + 3)) (innf A u v) 3 i = innf A u v := by
      rw [app_lt _ _ _ _ _ _ (by omega), app_lt _ _ _ _ _ _ (by omega), app_lt _ _ _ _ _ _ (by omega)]
      exact (app_at Y i 36 (innf A u v)).2.2.1
    have yc : ∀ p : Nat, p < i + 4 → c_app (c_app (c_app (c_app Y i 36 (innf A u v)) (i + 1) (C (i + 1)) (innf A u v)) (i + 2) (C (i + 2)) (innf A u v)) (i + 3) (C (i + 3)) (innf A u v) 1 p = C p := by
      intro p hp
      by_cases z : p = i + 3
      · subst z; exact (app_at _ _ _ _).1
      rw [app_lt _ _ _ _ _ _ z]
      by_cases z : p = i + 2
      · subst z; exact (app_at _ _ _ _).1
      rw [app_lt _ _ _ _ _ _ z]
      by_cases z : p = i + 1
      · subst z; exact (app_at _ _ _ _).1
      rw [app_lt _ _ _ _ _ _ z]
      by_cases z : p = i
      · subst z; rw [(app_at _ _ _ _).1, h0]
      rw [app_lt _ _ _ _ _ _ z]
      exact xa.2.2.1 p (by omega)
    generalize c_app (c_app (c_app (c_app Y i 36 (innf A u v)) (i + 1) (C (i + 1)) (innf A u v)) (i + 2) (C (i + 2)) (innf A u v)) (i + 3) (C (i + 3)) (innf A u v) = Y' at y1 hyk y3 yc
    refine ⟨rfl, rfl, x3, ?_, rfl, x6, x7, x8, x9, x10, ?_, ?_⟩
    · exact (innf_k (AK_add A n 3 (C (i + 1)) (r_kd (C (i + 3))) u v i n) u v hu.2 hv.2).symm
    · have := XA_add xa 3 (C (i + 1)) (r_kd (C (i + 3))) u v 4 hyk (EK_frag (C (i + 1)) _ rfl h0 rfl hw h2 h3 rfl hu hv _ y3) (by rw [ln_add]; rfl) (by omega) yc (by rw [show i + 4 - 1 = i + 3 by omega]; omega)
      rw [if_neg (by decide), Int.add_zero] at this
      exact this
    · exact XS_k (i' := i + 4) (n' := n + 1) (A' := r_add A n 3 (C (i + 1)) (r_kd (C (i + 3))) u v i) (Y' := Y') xs (by omega) (by omega) (fun a e he => by unfold r_add; rw [if_neg (by omega)]) (fun p hp => ⟨y1 2 p hp, y1 4 p hp⟩) (XA_lt xa)
/-- how many repetitions are around a place -/
theorem dep_in (xa : XA pat C i0 i n q A Y) (xs : XS C i0 i d S u v n A Y) (Y' : Nat → Nat → Int) (hY : ∀ p : Nat, p < i → Y' 3 p = Y 3 p) (hi : Y' 3 i = innf A u v) : c_dep Y' i = if 0 ≤ v then 2 else if 0 ≤ u then 1 else 0 := by
  have hu : -1 ≤ u ∧ u < n := ⟨xs.2.2.2.2.2.2.1, xs.2.2.2.2.2.2.2.1⟩
  have hv : -1 ≤ v ∧ v < n := ⟨xs.2.2.2.2.2.2.2.2.1, xs.2.2.2.2.2.2.2.2.2.1⟩
  have h11 := xs.2.2.2.2.2.2.2.2.2.2.1
  have h12 := xs.2.2.2.2.2.2.2.2.2.2.2
  have lt := XA_lt xa
  have ge : ∀ e : Nat, e < n → 0 ≤ A 7 e := fun e he => (xa.2.1 e he).1
  unfold c_dep
  rw [hi]
  unfold innf
  by_cases z : 0 ≤ v
  · rw [if_pos z, if_pos z]
    have g1 := ge v.toNat (by omega)
    have g2 := lt v.toNat (by omega)
    obtain ⟨b1, b2, b3, b4⟩ := h12 z
    have ek := (xa.2.1 v.toNat (by omega)).2.2.2.2.2.2.2.2.2.1 b4
    have e1 : innf A u (-1) = A 7 u.toNat := by
      unfold innf
      rw [if_neg (by decide), if_pos b1]
    have g3 := ge u.toNat (by omega)
    rw [if_neg (by omega), hY _ (by omega), ek.2.2.1, b2, b3, e1, if_neg (by omega)]
  · rw [if_neg z, if_neg z]
    by_cases w : 0 ≤ u
    · rw [if_pos w, if_pos w]
      have g1 := ge u.toNat (by omega)
      have g2 := lt u.toNat (by omega)
      obtain ⟨b1, b2, b3⟩ := h11 w
      have ek := (xa.2.1 u.toNat (by omega)).2.2.2.2.2.2.2.2.2.1 b3
      rw [if_neg (by omega), hY _ (by omega), ek.2.2.1, b1, b2]
      rfl
    · rw [if_neg w, if_neg w]
      rfl
theorem sim_rep (h : XR pat C i0 (i, d, S, u, v, n, q, A) (4, pat, rp, innf A u v, cl, d + 1, St, Y, a, P)) (h0 : C i = 36) (h1 : C (i + 1) = 40) (hv0 : v < 0) (hq4 : ¬ (pat = true ∧ 4 ≤ q)) (hd : d < 9) :
    ∃ t', (∀ f, crn C (f + 2) i (4, pat, rp, innf A u v, cl, d + 1, St, Y, a, P) = crn C f (i + 2) t') ∧ XR pat C i0 (i + 2, d + 1, r_psh S d 40 n (i + 1 : Nat), (if u < 0 then (n : Int) else u), (if u < 0 then -1 else (n : Int)), n + 1, q + 1, r_add A n 4 0 0 u v i) t' ∧ t'.2.2.2.2.2.2.2.2 = (a, P) ∧ (0 ≤ rp ∧ rp ≤ 4 → 0 ≤ t'.2.2.1 ∧ t'.2.2.1 ≤ 4) := by
  obtain ⟨x1, x2, x3, x4, x5, x6, x7, x8, x9, x10, xa, xs⟩ := h
  dsimp only at x3 x6 x7 x8 xa xs
  have hu : -1 ≤ u ∧ u < n := ⟨xs.2.2.2.2.2.2.1, xs.2.2.2.2.2.2.2.1⟩
  have hv : -1 ≤ v ∧ v < n := ⟨xs.2.2.2.2.2.2.2.2.1, xs.2.2.2.2.2.2.2.2.2.1⟩
  have ya : ∀ j p : Nat, p < i → c_app (c_app Y i 36 (innf A u v)) (i + 1) 40 (innf A u v) j p = Y j p := fun j p hp => by rw [app_lt _ _ _ _ _ _ (by omega), app_lt _ _ _ _ _ _ (by omega)]
  have yi : c_app (c_app Y i 36 (innf A u v)) (i + 1) 40 (innf A u v) 3 i = innf A u v ∧ c_app (c_app Y i 36 (innf A u v)) (i + 1) 40 (innf A u v) 4 i = -1 ∧ c_app (c_app Y i 36 (innf A u v)) (i + 1) 40 (innf A u v) 1 i = 36 := by
    have := app_at Y i 36 (innf A u v)
    exact ⟨(app_lt _ _ _ _ 3 i (by omega)).trans this.2.2.1, (app_lt _ _ _ _ 4 i (by omega)).trans this.2.2.2.1, (app_lt _ _ _ _ 1 i (by omega)).trans this.1⟩
  have yi1 := app_at (c_app Y i 36 (innf A u v)) (i + 1) 40 (innf A u v)
  have hdep := dep_in xa xs _ (fun p hp => ya 3 p hp) yi.1
  generalize hYY : c_app (c_app Y i 36 (innf A u v)) (i + 1) 40 (innf A u v) = Y2 at ya yi yi1 hdep
  have hdep1 : c_dep Y2 i ≤ 1 := by rw [hdep, if_neg (by omega)]; split <;> omega
  -- the array behind both tokens, with the order set in a pattern
  have key : ∃ Y3 : Nat → Nat → Int, (∀ j p : Nat, j ≠ 5 → Y3 j p = Y2 j p) ∧ (∀ p : Nat, p ≠ i → Y3 5 p = Y2 5 p) ∧ (pat = true → Y3 5 i = rp) ∧ ∀ f, crn C (f + 2) i (4, pat, rp, innf A u v, cl, d + 1, St, Y, a, P) = crn C f (i + 2) (4, pat, (if pat = true then rp + 1 else rp), (i : Int), cl, d + 1 + 1, c_psh St (d + 1) (i + 1 : Nat) 40, Y3, a, P) := by
    cases pat with
    | true =>
      refine ⟨r_set Y2 5 i rp, ?_, ?_, ?_, ?_⟩
      · intro j p hj; unfold r_set; rw [if_neg (fun z => hj z.1)]
      · intro p hp; unfold r_set; rw [if_neg (fun z => hp z.2)]
      · intro _; simp [r_set]
      · intro f
        have hrp : rp + 1 ≤ 4 := by
          have h5 : ¬ 4 ≤ q := fun z => hq4 ⟨rfl, z⟩
          have h6 := x3 rfl
          omega
        rw [crn_go (f + 1) (by omega) (by rw [h0]; exact c_dol), crn_go f (by omega) (by rw [h1, c_5n 40 (by decide), hYY, show i + 1 - 1 = i by omega, if_pos ⟨rfl, hdep1, by omega⟩, if_pos rfl, if_pos hrp])]
        rw [if_pos rfl, show ((i + 1 : Nat) : Int) - 1 = (i : Int) by omega]
    | false =>
      refine ⟨Y2, fun _ _ _ => rfl, fun _ _ => rfl, (fun z => by cases z), ?_⟩
      intro f
      rw [crn_go (f + 1) (by omega) (by rw [h0]; exact c_dol), crn_go f (by omega) (by rw [h1, c_5n 40 (by decide), hYY, show i + 1 - 1 = i by omega, if_pos ⟨rfl, hdep1, by omega⟩, if_neg (by decide)])]
      rw [if_neg (by decide), show ((i + 1 : Nat) : Int) - 1 = (i : Int) by omega]
  obtain ⟨Y3, k1, k2, k3, k4⟩ := key
  refine ⟨_, k4, ?_, rfl, fun z => ?_⟩
  rotate_left
  · show 0 ≤ (if pat = true then rp + 1 else rp) ∧ (if pat = true then rp + 1 else rp) ≤ 4
    by_cases w : pat = true
    · rw [if_pos w]
      have h5 : ¬ 4 ≤ q := fun y => hq4 ⟨w, y⟩
      have h6 := x3 w
      omega
    · rw [if_neg w]; exact z
  have hyk : YK Y Y3 i := fun p hp => ⟨by rw [k1 3 p (by omega)]; exact ya 3 p hp, by rw [k2 p (by omega)]; exact ya 5 p hp, by rw [k1 1 p (by omega)]; exact ya 1 p hp, fun _ => by rw [k1 2 p (by omega)]; exact ya 2 p hp, fun _ => by rw [k1 4 p (by omega)]; exact ya 4 p hp⟩
  obtain ⟨r0', r1, r2, r3, r4, r5, r6, r7⟩ := ra A n 4 0 0 u v i
  refine ⟨rfl, rfl, ?_, ?_, rfl, ?_, ?_, ?_, x9, x10, ?_, ?_⟩
  · intro z
    show (if pat = true then rp + 1 else rp) = q + 1
    rw [if_pos z, x3 z]
  · show (i : Int) = innf (r_add A n 4 0 0 u v i) (if u < 0 then (n : Int) else u) (if u < 0 then -1 else (n : Int))
    unfold innf
    by_cases z : u < 0
    · simp only [if_pos z]
      rw [if_neg (by decide), if_pos (by omega), Int.toNat_natCast, r7]
    · simp only [if_neg z]
      rw [if_pos (by omega), Int.toNat_natCast, r7]
  · show c_psh St (d + 1) (i + 1 : Nat) 40 0 0 = i0
    unfold c_psh
    rw [if_neg (by omega)]; exact x6
  · show c_psh St (d + 1) (i + 1 : Nat) 40 1 0 = lb pat
    unfold c_psh
    rw [if_neg (by omega)]; exact x7
  · intro k hk
    have hk' : k < d + 1 := hk
    show c_psh St (d + 1) (i + 1 : Nat) 40 0 (k + 1) = r_psh S d 40 n (i + 1 : Nat) 2 k ∧ c_psh St (d + 1) (i + 1 : Nat) 40 1 (k + 1) = clo (r_psh S d 40 n (i + 1 : Nat) 0 k)
    unfold c_psh r_psh
    by_cases z : k = d
    · subst z; simp
    · have z2 : ¬ k + 1 = d + 1 := by omega
      simp only [if_neg z, if_neg z2]
      exact x8 k (by omega)
  · have := XA_add xa 4 0 0 u v 2 hyk (EK_beg h0 h1 hu (by omega) Y3 (by rw [k1 3 i (by omega)]; exact yi.1) (fun z => by rw [k3 z, x3 z]; exact xa.2.2.2.1)) (by rw [ln_add]; rfl) (by omega) ?_ ?_
    · rw [if_pos rfl] at this
      exact this
    · intro p hp
      rw [k1 1 p (by omega)]
      by_cases z : p = i + 1
      · subst z; rw [yi1.1, h1]
      · by_cases z2 : p = i
        · subst z2; rw [yi.2.2, h0]
        · rw [ya 1 p (by omega)]; exact xa.2.2.1 p (by omega)
    · rw [show i + 2 - 1 = i + 1 by omega]; omega
  · exact XS_rep (A' := r_add A n 4 0 0 u v i) (Y' := Y3) xs (fun a e he => by unfold r_add; rw [if_neg (by omega)]) (fun p hp => ⟨by rw [k1 2 p (by omega)]; exact ya 2 p hp, by rw [k1 4 p (by omega)]; exact ya 4 p hp⟩) (XA_lt xa) hv0 (by rw [k1 2 _ (by omega)]; exact yi1.2.1) (by rw [k1 4 _ (by omega)]; exact yi.2.1) h1 r0' r2 r7 r5 (by rw [r6]; omega)
end DOLS
