/-! Rows on memory in whole numbers. -/
theorem z_i_rd (m : ZM) (c k : Nat) (x : Int) (a j : Nat) : (z_i m c k x).1 a j = if a = c ∧ j = k then x else m.1 a j := rfl
theorem z_i_2 (m : ZM) (c k : Nat) (x : Int) : (z_i m c k x).2 = m.2 := rfl
theorem z_f_rd (m : ZM) (c : Nat) (v : Int) (n a j : Nat) : (z_f m c v n).1 a j = if a = c ∧ j < n then v else m.1 a j := rfl
theorem z_f_2 (m : ZM) (c : Nat) (v : Int) (n : Nat) : (z_f m c v n).2 = m.2 := rfl
theorem z_r_1 (m : ZM) (c k : Nat) (v : Option Nat) : (z_r m c k v).1 = m.1 := rfl
theorem z_r_rd (m : ZM) (c k : Nat) (v : Option Nat) (a j : Nat) : (z_r m c k v).2.1 a j = if a = c ∧ j = k then v else m.2.1 a j := by
  unfold z_r
  dsimp only
  by_cases ha : a = c
  · subst ha
    rw [if_pos rfl]
    by_cases hj : j = k
    · subst hj
      rw [va_up_self, if_pos ⟨rfl, rfl⟩]
    · rw [va_up_ne _ _ hj, if_neg (fun z => hj z.2)]
  · rw [if_neg ha, if_neg (fun z => ha z.1)]
theorem z_l_1 (m : ZM) (k : Nat) (x : Int64) : (z_l m k x).1 = m.1 := rfl
/-- nothing changed but where w says so -/
def kp (w : Nat → Nat → Bool) (m m' : ZM) : Prop := (∀ c k, w c k = false → m'.1 c k = m.1 c k ∧ m'.2.1 c k = m.2.1 c k) ∧ ∀ k, w 111 k = false → m'.2.2 k = m.2.2 k
def wl (l : List (Nat × Nat)) (c k : Nat) : Bool := l.any (fun p => p.1 == c && (p.2 == 1000 || p.2 == k))
theorem kp_refl (w : Nat → Nat → Bool) (m : ZM) : kp w m m := ⟨fun _ _ _ => ⟨rfl, rfl⟩, fun _ _ => rfl⟩
theorem kp_tr {w : Nat → Nat → Bool} {a b c : ZM} (g : kp w a b) (h : kp w b c) : kp w a c := ⟨fun x k e => ⟨(h.1 x k e).1.trans (g.1 x k e).1, (h.1 x k e).2.trans (g.1 x k e).2⟩, fun k e => (h.2 k e).trans (g.2 k e)⟩
theorem kp_sub {l1 l2 : List (Nat × Nat)} (hs : ∀ p ∈ l1, p ∈ l2) {a b : ZM} (g : kp (wl l1) a b) : kp (wl l2) a b := by
  have key : ∀ c k, wl l2 c k = false → wl l1 c k = false := by
    intro c k h
    unfold wl at h ⊢
    rw [List.any_eq_false] at h ⊢
    exact fun p hp => h p (hs p hp)
  exact ⟨fun c k e => g.1 c k (key c k e), fun k e => g.2 k (key 111 k e)⟩
theorem wl_t {l : List (Nat × Nat)} {c k : Nat} (h : (c, k) ∈ l) : wl l c k = true := by
  unfold wl
  rw [List.any_eq_true]
  exact ⟨(c, k), h, by simp⟩
theorem wl_a {l : List (Nat × Nat)} {c : Nat} (k : Nat) (h : (c, 1000) ∈ l) : wl l c k = true := by
  unfold wl
  rw [List.any_eq_true]
  exact ⟨(c, 1000), h, by simp⟩
section KP
variable {l : List (Nat × Nat)} {a m : ZM} {c k : Nat} {x : Int}
theorem kp_iw (g : kp (wl l) a m) (h : wl l c k = true) : kp (wl l) a (z_i m c k x) := by
  refine ⟨fun y j e => ⟨?_, (g.1 y j e).2⟩, g.2⟩
  rw [z_i_rd, if_neg]
  · exact (g.1 y j e).1
  · rintro ⟨rfl, rfl⟩
    rw [h] at e
    cases e
theorem kp_i (g : kp (wl l) a m) (h : (c, k) ∈ l) : kp (wl l) a (z_i m c k x) := kp_iw g (wl_t h)
theorem kp_ia (g : kp (wl l) a m) (h : (c, 1000) ∈ l) : kp (wl l) a (z_i m c k x) := kp_iw g (wl_a k h)
theorem kp_r {v : Option Nat} (g : kp (wl l) a m) (h : (c, k) ∈ l) : kp (wl l) a (z_r m c k v) := by
  refine ⟨fun y j e => ⟨(g.1 y j e).1, ?_⟩, g.2⟩
  rw [z_r_rd, if_neg]
  · exact (g.1 y j e).2
  · rintro ⟨rfl, rfl⟩
    rw [wl_t h] at e
    cases e
theorem kp_l {y : Int64} (g : kp (wl l) a m) (h : (111, 1000) ∈ l) : kp (wl l) a (z_l m k y) := by
  refine ⟨g.1, fun j e => ?_⟩
  rw [wl_a j h] at e
  cases e
theorem kp_f {n : Nat} (g : kp (wl l) a m) (h : (c, 1000) ∈ l) : kp (wl l) a (z_f m c x n) := by
  refine ⟨fun y j e => ⟨?_, (g.1 y j e).2⟩, g.2⟩
  rw [z_f_rd, if_neg]
  · exact (g.1 y j e).1
  · rintro ⟨rfl, -⟩
    rw [wl_a j h] at e
    cases e
end KP
theorem kp_eq (w : Nat → Nat → Bool) {a b : ZM} (h : b = a) : kp w a b := by
  subst h
  exact kp_refl w b
