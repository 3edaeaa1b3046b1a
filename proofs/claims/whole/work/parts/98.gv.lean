/-! The law's run, whole. -/
theorem pm_whole (L : Nat) (xs : Nat → Int32) (hL : L ≤ 1536) : ∃ d N' S' h', d ≤ 1400 ∧ N' ≤ 600000 ∧ S' ≤ 7302250 ∧ pm_ev pmT (some (L, xs)) d pm_law true (0, [some (.retAddr 0), none, none, none], [], 0, 0, pm_h0) (some (.int 1), N', S', h') :=
  pm_whole_of Inv Inv_0 (fun m h op a b ha hb => Inv_call m h op a b ha hb) L xs hL
