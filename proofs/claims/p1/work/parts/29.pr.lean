/-! every script of at most 4 ints -/
theorem p1_run {xs : Nat → Int32} {L : Nat} (hL : L ≤ 4) : ∃ h', pm_ev (pj_P xs L) 40 0 (0, [some (.ref 1000000), none, none, none, none, none, none], [], (0, 0, 0, fun _ => pm_dead)) (.inl (some (.int 1)), h') ∧ h'.2.1 ≤ 600002 ∧ h'.2.2.1 ≤ 7302232 := by
  by_cases h4 : L = 4
  · subst h4
    obtain ⟨q, h1, h2⟩ := okL_ex (p1_call (xs := xs))
    refine ⟨(223, 223 + q.2.2, 4639 + 6 * q.2.2, pd_H q.2.1 q.1), law_start (s_law (d := 17) h1 (fun y5 y6 => law_exit (by decide))), ?_, ?_⟩
    · show 223 + q.2.2 ≤ 600002
      omega
    · show 4639 + 6 * q.2.2 ≤ 7302232
      omega
  · refine ⟨(223, 223, 4639, pd_H pd_g pd_0), law_start (law_exit ?_), by decide, by decide⟩
    have h : L = 0 ∨ L = 1 ∨ L = 2 ∨ L = 3 := by omega
    rcases h with rfl | rfl | rfl | rfl <;> decide
