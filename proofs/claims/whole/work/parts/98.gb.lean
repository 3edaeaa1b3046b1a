/-! A use is written: the reference's side. -/
abbrev EN := Nat × Int × Int × Nat × Nat
/-- what a taking gives -/
def uo (X K : Nat → Int) (mk k4 : Int) (p v : Nat) : List (Int × Int) := if k4 = 4 ∧ p + 1 < v then (40, mk) :: (slc X K p (v - p) ++ [(41, mk)]) else slc X K p (v - p)
abbrev um (A : Nat → Nat → Int) (f : Nat) (o nn : Int) (x : EN) : Prop := x.1 = f ∧ (A 5 f < 0 ∨ x.2.1 = o) ∧ (A 6 f < 0 ∨ x.2.2.1 = nn)
def uL (X K : Nat → Int) (A : Nat → Nat → Int) (mk : Int) (f : Nat) (o nn : Int) : List EN → List (Int × Int)
  | [] => []
  | x :: xs => (if um A f o nn x then uo X K mk (A 4 f) x.2.2.2.1 x.2.2.2.2 else []) ++ uL X K A mk f o nn xs
def wMK : List (Nat × Nat) := [(127, 1000), (128, 1000), (83, 62)]
/-- the reference's row -/
def MRw (S : Nat) (X K : Nat → Int) (m : ZM) : Prop := S ≤ 150 ∧ ∀ p : Nat, p < S → m.1 105 p = X p ∧ m.1 106 p = K p
theorem wMK_n (a x : Nat) (h : a ≠ 127 ∧ a ≠ 128 ∧ (a = 83 → x ≠ 62)) : wl wMK a x = false := by
  unfold wl wMK
  simp
  omega
section
variable {C : Nat → Int} {Y A : Nat → Nat → Int} {N i0 z : Nat} {n S : Nat} {X K : Nat → Int}
theorem slc_cons (q : Nat) : ∀ k, slc X K q (k + 1) = (X q, K q) :: slc X K (q + 1) k := by
  intro k
  induction k with
  | zero => rfl
  | succ k ihk =>
    rw [slc, ihk]
    show (X q, K q) :: (slc X K (q + 1) k ++ [(X (q + (k + 1)), K (q + (k + 1)))]) = (X q, K q) :: (slc X K (q + 1) k ++ [(X (q + 1 + k), K (q + 1 + k))])
    rw [show q + (k + 1) = q + 1 + k by omega]
theorem uo_len (mk k4 : Int) (p v : Nat) : (uo X K mk k4 p v).length ≤ v - p + 2 := by
  unfold uo
  split
  · rw [List.length_cons, List.length_append, slc_len]
    show v - p + 1 + 1 ≤ v - p + 2
    omega
  · rw [slc_len]; omega
theorem m75 (hn : 2000 ≤ n) (h : RX true C Y A N i0 z) (f : Nat) (hf : f < N) (o nn mk : Int) (κ : List EN) (hκ : κ.length ≤ 155) (hpv : ∀ x ∈ κ, x.2.2.2.1 ≤ x.2.2.2.2 ∧ x.2.2.2.2 ≤ S) : ∀ (i g : Nat) (L : List (Int × Int)) (m : ZM), i ≤ κ.length → κ.length + 1 ≤ g + i → L.length + 160 * (κ.length - i) ≤ 2000000000 → MK L m → KR κ m → MRw S X K m → AX true m A (N + 1) →
    ∃ m', zL75_3 n g f o nn mk i m = some ((), m') ∧ MK (L ++ uL X K A mk f o nn (κ.drop i)) m' ∧ kp (wl wMK) m m' := by
  have hN := x_N119 h
  intro i
  suffices hs : ∀ (k i g : Nat) (L : List (Int × Int)) (m : ZM), κ.length ≤ i + k → i ≤ κ.length → κ.length + 1 ≤ g + i → L.length + 160 * (κ.length - i) ≤ 2000000000 → MK L m → KR κ m → MRw S X K m → AX true m A (N + 1) → ∃ m', zL75_3 n g f o nn mk i m = some ((), m') ∧ MK (L ++ uL X K A mk f o nn (κ.drop i)) m' ∧ kp (wl wMK) m m' from fun g L m h1 h2 h3 => hs κ.length i g L m (by omega) h1 h2 h3
  intro k
  induction k with
  | zero =>
    intro i g L m h1 h2 h3 _ hM hK _ _
    have : i = κ.length := by omega
    subst this
    obtain ⟨g, rfl⟩ : ∃ g', g = g' + 1 := ⟨g - 1, by omega⟩
    refine ⟨m, ?_, ?_, kp_refl _ m⟩
    · rw [zL75_3, hK.1, if_pos (by omega)]
    · rw [List.drop_length, uL, List.append_nil]
      exact hM
  | succ k ih =>
    intro i g L m h1 h2 h3 h4 hM hK hR hA
    obtain ⟨g, rfl⟩ : ∃ g', g = g' + 1 := ⟨g - 1, by omega⟩
    by_cases qe : i = κ.length
    · subst qe
      refine ⟨m, ?_, ?_, kp_refl _ m⟩
      · rw [zL75_3, hK.1, if_pos (by omega)]
      · rw [List.drop_length, uL, List.append_nil]
        exact hM
    obtain ⟨x, hx⟩ : ∃ x, κ[i]? = some x := ⟨κ[i]'(by omega), List.getElem?_eq_getElem (by omega)⟩
    obtain ⟨x1, x2, x3, x4, x5⟩ := hK.2 i x hx
    have hmem : x ∈ κ := List.mem_of_getElem? hx
    obtain ⟨hp1, hp2⟩ := hpv x hmem
    have hS := hR.1
    have ax := hA f (by omega)
    rw [if_pos rfl] at ax
    have hdrop : κ.drop i = x :: κ.drop (i + 1) := by
      have hxi : κ[i]'(by omega) = x := Option.some.inj ((List.getElem?_eq_getElem (l := κ) (i := i) (by omega)).symm.trans hx)
      rw [← hxi]
      exact List.drop_eq_getElem_cons (by omega)
    rw [hdrop, uL]
    have nxt : ∀ (m2 : ZM) (L2 : List (Int × Int)), L2.length ≤ L.length + 160 → MK L2 m2 → kp (wl wMK) m m2 → ∃ m', zL75_3 n g f o nn mk ((i : Int) + 1) m2 = some ((), m') ∧ MK (L2 ++ uL X K A mk f o nn (κ.drop (i + 1))) m' ∧ kp (wl wMK) m m' := by
      intro m2 L2 hl2 hM2 k2
      obtain ⟨m', e1, e2, e3⟩ := ih (i + 1) g L2 m2 (by omega) (by omega) (by omega) (by omega) hM2 (KR_k hK (k2.1 83 56 (wMK_n _ _ (by omega))).1 (fun a q p1 p2 => (k2.1 a q (wMK_n _ _ (by omega))).1)) ⟨hR.1, fun p hp => by rw [(k2.1 105 p (wMK_n _ _ (by omega))).1, (k2.1 106 p (wMK_n _ _ (by omega))).1]; exact hR.2 p hp⟩ (AX_k hA (fun a q p1 p2 => (k2.1 a q (wMK_n _ _ (by omega))).1))
      rw [show ((i + 1 : Nat) : Int) = (i : Int) + 1 by omega] at e1
      exact ⟨m', e1, e2, kp_tr k2 e3⟩
    have e192 : ∀ m2 : ZM, zJ75_192 n (zL75_3 n g) f o nn mk i m2 = zL75_3 n g f o nn mk ((i : Int) + 1) m2 := by
      intro m2
      unfold zJ75_192
      rw [if_pos (by omega)]
    have wrp : ∀ s0 : Int, zJ75_68 n (zL75_3 n g) f o nn mk i s0 m = zJ75_104 n (zL75_3 n g) f o nn mk i s0 (if A 4 f = 4 ∧ x.2.2.2.1 + 1 < x.2.2.2.2 then 1 else 0) m := by
      intro s0
      unfold zJ75_68 zJ75_103 zJ75_99
      rw [if_neg (show ¬ ((f : Int) < 0 ∨ 128 ≤ (f : Int)) by omega), Int.toNat_natCast, ax.2.2.2.2.1, if_neg (show ¬ ((i : Int) < 0 ∨ 160 ≤ (i : Int)) by omega), Int.toNat_natCast, x4, x5, if_pos (show rg ((x.2.2.2.2 : Nat) - (x.2.2.2.1 : Nat) : Int) by omega)]
      by_cases c4 : A 4 f = 4
      · rw [if_pos c4]
        by_cases cl : x.2.2.2.1 + 1 < x.2.2.2.2
        · rw [if_neg (by omega), if_pos ⟨c4, cl⟩]
        · rw [if_pos (by omega), if_neg (fun w => cl w.2)]
      · rw [if_neg c4, if_neg (fun w => c4 w.1)]
    have no : ∀ w : Int, zJ75_104 n (zL75_3 n g) f o nn mk i 0 w m = zL75_3 n g f o nn mk ((i : Int) + 1) m := by
      intro w
      have e174 : zJ75_174 n (zL75_3 n g) f o nn mk i 0 w m = zL75_3 n g f o nn mk ((i : Int) + 1) m := by
        unfold zJ75_174
        rw [if_pos rfl]
        exact e192 m
      unfold zJ75_104 zJ75_124
      rw [if_pos rfl, if_neg (by omega)]
      obtain ⟨n', rfl⟩ : ∃ n', n = n' + 1 := ⟨n - 1, by omega⟩
      rw [zL75_133, if_neg (by omega), Int.toNat_natCast, x4, x5]
      by_cases c : ((x.2.2.2.2 : Nat) : Int) ≤ (x.2.2.2.1 : Nat)
      · rw [if_pos c]
        exact e174
      · rw [if_neg c, if_pos rfl]
        exact e174
    have sel : zL75_3 n (g + 1) f o nn mk i m = zJ75_68 n (zL75_3 n g) f o nn mk i (if um A f o nn x then 1 else 0) m := by
      have hrf : ¬ ((f : Int) < 0 ∨ 128 ≤ (f : Int)) := by omega
      have hri : ¬ ((i : Int) < 0 ∨ 160 ≤ (i : Int)) := by omega
      have e43 : ∀ rec : Int → Int → Int → Int → Int → ZM → Option (Unit × ZM), zJ75_43 n rec f o nn mk i m = (if A 6 f < 0 then zJ75_68 n rec f o nn mk i 1 m else if x.2.2.1 = nn then zJ75_68 n rec f o nn mk i 1 m else zJ75_68 n rec f o nn mk i 0 m) := by
        intro rec
        unfold zJ75_43 zJ75_63 zJ75_67
        rw [if_neg hrf, Int.toNat_natCast, ax.2.2.2.2.2.2, if_neg hri, Int.toNat_natCast, x3]
      have e32 : ∀ rec : Int → Int → Int → Int → Int → ZM → Option (Unit × ZM), zJ75_32 n rec f o nn mk i m = (if x.2.1 = o then zJ75_43 n rec f o nn mk i m else zJ75_68 n rec f o nn mk i 0 m) := by
        intro rec
        unfold zJ75_32 zJ75_67
        rw [if_neg hri, Int.toNat_natCast, x2]
      rw [zL75_3, hK.1, if_neg (by omega), if_neg hri, Int.toNat_natCast, x1, if_neg hrf, Int.toNat_natCast, ax.2.2.2.2.2.1, e32, e43]
      unfold zJ75_67
      generalize zL75_3 n g = rec
      by_cases c1 : x.1 = f
      · rw [if_pos (show (x.1 : Int) = f by omega)]
        by_cases c5 : A 5 f < 0 ∨ x.2.1 = o
        · have s43 : (if A 5 f < 0 then (if A 6 f < 0 then zJ75_68 n rec f o nn mk i 1 m else if x.2.2.1 = nn then zJ75_68 n rec f o nn mk i 1 m else zJ75_68 n rec f o nn mk i 0 m) else if x.2.1 = o then (if A 6 f < 0 then zJ75_68 n rec f o nn mk i 1 m else if x.2.2.1 = nn then zJ75_68 n rec f o nn mk i 1 m else zJ75_68 n rec f o nn mk i 0 m) else zJ75_68 n rec f o nn mk i 0 m) = (if A 6 f < 0 then zJ75_68 n rec f o nn mk i 1 m else if x.2.2.1 = nn then zJ75_68 n rec f o nn mk i 1 m else zJ75_68 n rec f o nn mk i 0 m) := by
            by_cases d : A 5 f < 0
            · rw [if_pos d]
            · rw [if_neg d, if_pos (by rcases c5 with w | w; exact absurd w d; exact w)]
          refine s43.trans ?_
          by_cases c6 : A 6 f < 0
          · rw [if_pos c6, if_pos ⟨c1, c5, Or.inl c6⟩]
          · rw [if_neg c6]
            by_cases c7 : x.2.2.1 = nn
            · rw [if_pos c7, if_pos ⟨c1, c5, Or.inr c7⟩]
            · rw [if_neg c7, if_neg (fun w => by rcases w.2.2 with d | d; exact c6 d; exact c7 d)]
        · rw [if_neg (fun w => c5 (Or.inl w)), if_neg (fun w => c5 (Or.inr w)), if_neg (fun w => c5 w.2.1)]
      · rw [if_neg (show ¬ (x.1 : Int) = f by omega), if_neg (fun w => c1 w.1)]
    rw [sel, wrp]
    by_cases hu : um A f o nn x
    · rw [if_pos hu, if_pos hu]
      have toks : ∀ (w : Int) (d q gg : Nat) (L2 : List (Int × Int)) (m2 : ZM), q + d = x.2.2.2.2 → d + 1 ≤ gg → L2.length + d ≤ 2000000000 → MK L2 m2 → kp (wl wMK) m m2 → ∃ m3, zL75_133 n (zL75_3 n g) gg f o nn mk i 1 w q m2 = zJ75_174 n (zL75_3 n g) f o nn mk i 1 w m3 ∧ MK (L2 ++ slc X K q d) m3 ∧ kp (wl wMK) m m3 := by
        intro w d
        induction d with
        | zero =>
          intro q gg L2 m2 hq hg _ hM2 k2
          obtain ⟨gg, rfl⟩ : ∃ g', gg = g' + 1 := ⟨gg - 1, by omega⟩
          refine ⟨m2, ?_, by rw [slc, List.append_nil]; exact hM2, k2⟩
          rw [zL75_133, if_neg (by omega), Int.toNat_natCast, (k2.1 126 i (wMK_n _ _ (by omega))).1, x5, if_pos (by omega)]
        | succ d ihd =>
          intro q gg L2 m2 hq hg hl2 hM2 k2
          obtain ⟨gg, rfl⟩ : ∃ g', gg = g' + 1 := ⟨gg - 1, by omega⟩
          have hrq := hR.2 q (by omega)
          obtain ⟨m3, a1, a2, a3⟩ := m74 (n := n) L2 (by omega) hM2 (X q) (K q)
          have k3 : kp (wl wMK) m m3 := kp_tr k2 a3
          obtain ⟨m4, b1, b2, b3⟩ := ihd (q + 1) gg (L2 ++ [(X q, K q)]) m3 (by omega) (by omega) (by rw [List.length_append]; show L2.length + 1 + d ≤ 2000000000; omega) a2 k3
          refine ⟨m4, ?_, by rw [slc_cons]; rw [List.append_assoc] at b2; exact b2, b3⟩
          rw [zL75_133, if_neg (by omega), Int.toNat_natCast, (k2.1 126 i (wMK_n _ _ (by omega))).1, x5, if_neg (by omega), if_neg (by decide), if_neg (by omega), Int.toNat_natCast, (k2.1 105 q (wMK_n _ _ (by omega))).1, (k2.1 106 q (wMK_n _ _ (by omega))).1, hrq.1, hrq.2, a1]
          dsimp only
          unfold zJ75_168
          rw [if_pos (by omega)]
          rw [show ((q + 1 : Nat) : Int) = (q : Int) + 1 by omega] at b1
          exact b1
      by_cases hw : A 4 f = 4 ∧ x.2.2.2.1 + 1 < x.2.2.2.2
      · rw [if_pos hw]
        obtain ⟨m2, a1, a2, a3⟩ := m74 (n := n) L (by omega) hM 40 mk
        obtain ⟨m3, b1, b2, b3⟩ := toks 1 (x.2.2.2.2 - x.2.2.2.1) x.2.2.2.1 n (L ++ [(40, mk)]) m2 (by omega) (by omega) (by rw [List.length_append]; show L.length + 1 + (x.2.2.2.2 - x.2.2.2.1) ≤ 2000000000; omega) a2 a3
        have l3 : ((L ++ [(40, mk)]) ++ slc X K x.2.2.2.1 (x.2.2.2.2 - x.2.2.2.1)).length = L.length + 1 + (x.2.2.2.2 - x.2.2.2.1) := by
          rw [List.length_append, List.length_append, slc_len]
          rfl
        obtain ⟨m4, c1, c2, c3⟩ := m74 (n := n) _ (by rw [l3]; omega) b2 41 mk
        have hu2 : uo X K mk (A 4 f) x.2.2.2.1 x.2.2.2.2 = (40, mk) :: (slc X K x.2.2.2.1 (x.2.2.2.2 - x.2.2.2.1) ++ [(41, mk)]) := by unfold uo; rw [if_pos hw]
        have ee : (L ++ [(40, mk)]) ++ slc X K x.2.2.2.1 (x.2.2.2.2 - x.2.2.2.1) ++ [(41, mk)] = L ++ uo X K mk (A 4 f) x.2.2.2.1 x.2.2.2.2 := by
          rw [hu2, List.append_assoc, List.append_assoc]
          rfl
        rw [ee] at c2
        obtain ⟨m5, d1, d2, d3⟩ := nxt m4 _ (by rw [← ee, List.length_append, l3]; show L.length + 1 + (x.2.2.2.2 - x.2.2.2.1) + 1 ≤ L.length + 160; omega) c2 (kp_tr b3 c3)
        refine ⟨m5, ?_, by rw [← List.append_assoc]; exact d2, d3⟩
        unfold zJ75_104
        rw [if_neg (by decide), if_neg (by decide), a1]
        dsimp only
        unfold zJ75_124
        rw [if_neg (by omega), Int.toNat_natCast, (a3.1 125 i (wMK_n _ _ (by omega))).1, x4, b1]
        unfold zJ75_174
        rw [if_neg (by decide), if_neg (by decide), c1]
        dsimp only
        rw [e192]
        exact d1
      · rw [if_neg hw]
        obtain ⟨m3, b1, b2, b3⟩ := toks 0 (x.2.2.2.2 - x.2.2.2.1) x.2.2.2.1 n L m (by omega) (by omega) (by omega) hM (kp_refl _ m)
        have hu2 : uo X K mk (A 4 f) x.2.2.2.1 x.2.2.2.2 = slc X K x.2.2.2.1 (x.2.2.2.2 - x.2.2.2.1) := by unfold uo; rw [if_neg hw]
        rw [← hu2] at b2
        obtain ⟨m5, d1, d2, d3⟩ := nxt m3 _ (by rw [List.length_append, hu2, slc_len]; omega) b2 b3
        refine ⟨m5, ?_, by rw [← List.append_assoc]; exact d2, d3⟩
        unfold zJ75_104
        rw [if_neg (by decide), if_pos rfl]
        unfold zJ75_124
        rw [if_neg (by omega), Int.toNat_natCast, x4, b1]
        unfold zJ75_174
        rw [if_neg (by decide), if_pos rfl, e192]
        exact d1
    · rw [if_neg hu, if_neg hu, no, List.nil_append]
      exact nxt m L (by omega) hM (kp_refl _ m)
end
