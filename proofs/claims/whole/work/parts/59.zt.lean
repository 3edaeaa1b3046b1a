/-! Whole numbers in the place of Int32. -/
abbrev ZM : Type := (Nat → Nat → Int) × (Nat → Nat → Option Nat) × (Nat → Int64)
abbrev rg (z : Int) : Prop := -2147483648 ≤ z ∧ z < 2147483648
def iz (z : Int) : Int32 := Int32.ofInt z
def rp (X : Int32) (z : Int) : Prop := X.toInt = z
def rm (M : Mem) (m : ZM) : Prop := M.2 = m.2 ∧ ∀ c k, rp (M.1 c k) (m.1 c k)
def z_i (m : ZM) (c k : Nat) (x : Int) : ZM := (fun a j => if a = c ∧ j = k then x else m.1 a j, m.2)
def z_r (m : ZM) (c k : Nat) (v : Option Nat) : ZM := (m.1, fun a => if a = c then va_up (m.2.1 a) k v else m.2.1 a, m.2.2)
def z_l (m : ZM) (k : Nat) (x : Int64) : ZM := (m.1, m.2.1, vp_updL m.2.2 k x)
def z_f (m : ZM) (c : Nat) (v : Int) (n : Nat) : ZM := (fun a j => if a = c ∧ j < n then v else m.1 a j, m.2)
def zlet {α : Type} (m : ZM) (f : ZM → Option α) : Option α := f m
def sI (F : Option (Int32 × Mem)) (r : Int) (m : ZM) : Prop := ∃ R M, F = some (R, M) ∧ rp R r ∧ rm M m
def sU (F : Option (Unit × Mem)) (m : ZM) : Prop := ∃ M, F = some ((), M) ∧ rm M m
def sO (F : Option (Option Nat × Mem)) (r : Option Nat) (m : ZM) : Prop := ∃ M, F = some (r, M) ∧ rm M m
theorem rp_iz {X : Int32} {x : Int} (h : rp X x) : X = iz x := by
  unfold rp at h
  subst h
  exact (Int32.ofInt_toInt X).symm
theorem iz_rp {x : Int} (h : rg x) : rp (iz x) x := Int32.toInt_ofInt_of_le h.1 h.2
theorem rw_add {X Y : Int32} {x y : Int} (h : X = iz x) (k : Y = iz y) : X + Y = iz (x + y) := by rw [h, k]; exact (Int32.ofInt_add x y).symm
theorem rw_sub {X Y : Int32} {x y : Int} (h : X = iz x) (k : Y = iz y) : X - Y = iz (x - y) := by rw [h, k]; exact (Int32.ofInt_sub x y).symm
theorem rw_mul {X Y : Int32} {x y : Int} (h : X = iz x) (k : Y = iz y) : X * Y = iz (x * y) := by rw [h, k]; exact (Int32.ofInt_mul x y).symm
theorem rp_add {X Y : Int32} {x y : Int} (h : X = iz x) (k : Y = iz y) (w : rg (x + y)) : rp (X + Y) (x + y) := by rw [rw_add h k]; exact iz_rp w
theorem rp_sub {X Y : Int32} {x y : Int} (h : X = iz x) (k : Y = iz y) (w : rg (x - y)) : rp (X - Y) (x - y) := by rw [rw_sub h k]; exact iz_rp w
theorem rp_mul {X Y : Int32} {x y : Int} (h : X = iz x) (k : Y = iz y) (w : rg (x * y)) : rp (X * Y) (x * y) := by rw [rw_mul h k]; exact iz_rp w
theorem rp_div {X Y : Int32} {x y : Int} (h : rp X x) (k : rp Y y) (w : 1 < y) : rp (X / Y) (Int.tdiv x y) := by
  unfold rp at h k ⊢
  subst h k
  refine Int32.toInt_div_of_ne_right _ _ ?_
  intro e
  rw [e] at w
  exact absurd w (by decide)
theorem rp_lt {X Y : Int32} {x y : Int} (h : rp X x) (k : rp Y y) : X < Y ↔ x < y := by unfold rp at h k; subst h k; exact Int32.lt_iff_toInt_lt
theorem rp_le {X Y : Int32} {x y : Int} (h : rp X x) (k : rp Y y) : X ≤ Y ↔ x ≤ y := by unfold rp at h k; subst h k; exact Int32.le_iff_toInt_le
theorem rp_eq {X Y : Int32} {x y : Int} (h : rp X x) (k : rp Y y) : X = Y ↔ x = y := by unfold rp at h k; subst h k; exact Int32.toInt_inj.symm
theorem rp_ix {X : Int32} {x : Int} (h : rp X x) : X.toNatClampNeg = Int.toNat x := by unfold rp at h; subst h; rfl
theorem rp_ob {X : Int32} {x : Int} (h : rp X x) (n : Nat) : (X < 0 ∨ n ≤ X.toNatClampNeg) ↔ (x < 0 ∨ (n : Int) ≤ x) := by
  rw [rp_ix h, rp_lt h (show rp 0 0 from rfl)]
  omega
theorem rp_ts {X : Int32} {x lo hi : Int} (h : rp X x) : (X.toInt < lo ∨ hi < X.toInt) ↔ (x < lo ∨ hi < x) := by unfold rp at h; subst h; exact Iff.rfl
theorem rp_ite {C c : Prop} [Decidable C] [Decidable c] {X Y : Int32} {x y : Int} (e : C ↔ c) (h : rp X x) (k : rp Y y) : rp (if C then X else Y) (if c then x else y) := by
  by_cases q : c
  · rw [if_pos q, if_pos (e.mpr q)]; exact h
  · rw [if_neg q, if_neg (fun z => q (e.mp z))]; exact k
section RM
variable {M : Mem} {m : ZM} {X V : Int32} {x v : Int}
theorem rm_rd (g : rm M m) (c k : Nat) : rp (M.1 c k) (m.1 c k) := g.2 c k
theorem rm_rdx (g : rm M m) (c : Nat) (h : rp X x) : rp (M.1 c X.toNatClampNeg) (m.1 c (Int.toNat x)) := by rw [rp_ix h]; exact g.2 c _
theorem rm_rf (g : rm M m) (c k : Nat) : M.2.1 c k = m.2.1 c k := by rw [g.1]
theorem rm_rl (g : rm M m) (k : Nat) : M.2.2 k = m.2.2 k := by rw [g.1]
theorem rm_rlx (g : rm M m) (h : rp X x) : M.2.2 X.toNatClampNeg = m.2.2 (Int.toNat x) := by rw [g.1, rp_ix h]
theorem rm_pl (h : rp X x) : m_pl X.toNatClampNeg = m_pl (Int.toNat x) := by rw [rp_ix h]
theorem rm_i (g : rm M m) (c k : Nat) (h : rp V v) : rm (m_i M c k V) (z_i m c k v) := by
  refine ⟨g.1, fun a j => ?_⟩
  unfold m_i z_i
  dsimp only
  by_cases ha : a = c
  · subst ha
    rw [if_pos rfl]
    by_cases hj : j = k
    · subst hj
      rw [if_pos ⟨rfl, rfl⟩]
      simp [upd, h]
    · rw [if_neg (fun z => hj z.2)]
      simp [upd, hj, g.2 a j]
  · rw [if_neg ha, if_neg (fun z => ha z.1)]
    exact g.2 a j
theorem rm_ix (g : rm M m) (c : Nat) (h : rp X x) (k : rp V v) : rm (m_i M c X.toNatClampNeg V) (z_i m c (Int.toNat x) v) := by rw [rp_ix h]; exact rm_i g c _ k
theorem rm_r (g : rm M m) (c k : Nat) (q : Option Nat) : rm (m_r M c k q) (z_r m c k q) := by
  refine ⟨?_, g.2⟩
  unfold m_r z_r
  dsimp only
  rw [g.1]
theorem rm_lx {W w : Int64} (g : rm M m) (h : rp X x) (e : W = w) : rm (m_l M X.toNatClampNeg W) (z_l m (Int.toNat x) w) := by
  refine ⟨?_, g.2⟩
  unfold m_l z_l
  dsimp only
  rw [g.1, rp_ix h, e]
end RM
theorem rm_fk {V : Int32} {v : Int} (c : Nat) (h : rp V v) : ∀ (n i : Nat) (M : Mem) (m : ZM), rm M m → rm (m_fill c V n i M) (fun a j => if a = c ∧ i ≤ j ∧ j < i + n then v else m.1 a j, m.2) := by
  intro n
  induction n with
  | zero =>
    intro i M m g
    refine ⟨g.1, fun a j => ?_⟩
    dsimp only
    rw [if_neg (by omega)]
    exact g.2 a j
  | succ n ih =>
    intro i M m g
    rw [m_fill]
    have g1 := ih (i + 1) _ _ (rm_i g c i h)
    refine ⟨g1.1, fun a j => ?_⟩
    have g2 := g1.2 a j
    unfold z_i at g2
    dsimp only at g2 ⊢
    by_cases q : a = c ∧ i ≤ j ∧ j < i + (n + 1)
    · rw [if_pos q]
      by_cases q2 : a = c ∧ i + 1 ≤ j ∧ j < i + 1 + n
      · rw [if_pos q2] at g2; exact g2
      · rw [if_neg q2, if_pos ⟨q.1, by omega⟩] at g2; exact g2
    · rw [if_neg q]
      rw [if_neg (by omega), if_neg (by omega)] at g2
      exact g2
theorem rm_f {M : Mem} {m : ZM} {V : Int32} {v : Int} (g : rm M m) (c : Nat) (h : rp V v) (n : Nat) : rm (m_fill c V n 0 M) (z_f m c v n) := by
  have g1 := rm_fk c h n 0 M m g
  refine ⟨g1.1, fun a j => ?_⟩
  have g2 := g1.2 a j
  unfold z_f
  dsimp only at g2 ⊢
  by_cases q : a = c ∧ j < n
  · rw [if_pos q]; rw [if_pos (by omega)] at g2; exact g2
  · rw [if_neg q]; rw [if_neg (by omega)] at g2; exact g2
/-- the numbers of a memory -/
def zm (M : Mem) : ZM := (fun c k => (M.1 c k).toInt, M.2)
theorem zm_rm (M : Mem) : rm M (zm M) := ⟨rfl, fun _ _ => rfl⟩
