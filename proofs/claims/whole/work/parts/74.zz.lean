/-! A part behind the large ones. -/
theorem kp_cell {l : List (Nat × Nat)} {a b : ZM} (g : kp (wl l) a b) (c : Nat) (h : ∀ k, wl l c k = false) : b.1 c = a.1 c := funext fun k => (g.1 c k (h k)).1
