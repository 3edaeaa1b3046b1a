/-! Arrays.fill(int[], int) over a cell. -/
def m_fill (a : Nat) (v : Int32) : Nat → Nat → Mem → Mem
  | 0, _, M => M
  | k + 1, i, M => m_fill a v k (i + 1) (m_i M a i v)
theorem fill_loop (sc : Option (Nat × (Nat → Int32))) (e a n : Nat) (v : Int32) (ha : a < 129) (hn : n < 2 ^ 31) (hc : ∀ M : Mem, hp M a = .inl (0, n, .inl (M.1 a))) : ∀ (k i : Nat) (M : Mem), i + k = n → pm_ev pmT sc e 223 false (5, [some (.ref a), some (.int v), some (.int (nI i)), some (.int (nI n))], [], 129, 17845, hp M) (none, 129, 17845, hp (m_fill a v k i M)) := by
  intro k
  induction k with
  | zero =>
    intro i M h
    have hi : i = n := by omega
    subst hi
    refine pe_blk mm_223 2 (s' := (7, [some (.ref a), some (.int v), some (.int (nI i)), some (.int (nI i))], [.int (nI i), .int (nI i)], _, _, _)) rfl ?_
    refine pe_blk mm_223 1 (s' := (if nI i ≤ nI i then 20 else 10, [some (.ref a), some (.int v), some (.int (nI i)), some (.int (nI i))], [], _, _, _)) rfl ?_
    rw [if_pos (nI_le (Nat.le_refl _) hn)]
    exact pe_ret mm_223 rfl rfl
  | succ k ih =>
    intro i M h
    refine pe_blk mm_223 2 (s' := (7, [some (.ref a), some (.int v), some (.int (nI i)), some (.int (nI n))], [.int (nI n), .int (nI i)], _, _, _)) rfl ?_
    refine pe_blk mm_223 1 (s' := (if nI n ≤ nI i then 20 else 10, [some (.ref a), some (.int v), some (.int (nI i)), some (.int (nI n))], [], _, _, _)) rfl ?_
    rw [if_neg (nI_ge (by omega) hn)]
    refine pe_blk mm_223 3 (s' := (13, [some (.ref a), some (.int v), some (.int (nI i)), some (.int (nI n))], [.int v, .int (nI i), .ref a], _, _, _)) rfl ?_
    refine pe_iasti mm_223 rfl (hc M) ha (nI_in (by omega) hn) (by rw [hc, m_i_self]) ?_
    rw [nI_clamp (by omega)]
    refine pe_blk mm_223 2 (s' := (5, [some (.ref a), some (.int v), some (.int (nI i + 1)), some (.int (nI n))], [], _, _, _)) rfl ?_
    rw [nI_1]
    exact ih (i + 1) (m_i M a i v) (by omega)
theorem fill_ev (sc : Option (Nat × (Nat → Int32))) (e a n : Nat) (v : Int32) (M : Mem) (ha : a < 129) (hn : n < 2 ^ 31) (hc : ∀ M : Mem, hp M a = .inl (0, n, .inl (M.1 a))) : pm_ev pmT sc e 223 false (0, [some (.ref a), some (.int v), none, none], [], 129, 17845, hp M) (none, 129, 17845, hp (m_fill a v n 0 M)) := by
  refine pe_blk mm_223 3 (s' := (3, [some (.ref a), some (.int v), some (.int 0), none], [.ref a], _, _, _)) rfl ?_
  refine pe_alen mm_223 rfl (hc M) ha (by decide) ?_
  refine pe_blk mm_223 1 (s' := (5, [some (.ref a), some (.int v), some (.int (nI 0)), some (.int (nI n))], [], _, _, _)) rfl ?_
  exact fill_loop sc e a n v ha hn hc n 0 M (by omega)
