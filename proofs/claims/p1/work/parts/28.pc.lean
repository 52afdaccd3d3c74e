/-! every call on fresh objects goes well -/
set_option maxRecDepth 100000 in
theorem p1_compile : okL ((d_De_compile 40 pd_0).bind fun q20 => (d_Mo_compile 40 q20.2).bind fun q21 => bif decide (q20.1 = q21.1) then some (Sum.inl (q21.2, pd_g, 0)) else some (Sum.inr (0 : Int32))) = true := by decide +kernel
set_option maxRecDepth 100000 in
set_option maxHeartbeats 4000000 in
theorem p1_call {xs : Nat → Int32} : okL (d_law 40 xs 4 0 pd_0 pd_g) = true := by
  have hF := p1_F0
  have hc := p1_compile
  generalize pd_0 = v at hF hc ⊢
  generalize pd_g = g at hc ⊢
  obtain ⟨f02, f03, f11, fs, ff, m2, m5, m7, m20, m26, m27⟩ := id hF
  have e0 : decide ((Int32.ofNat 4) - (4 : Int32) < (0 : Int32)) = false := by decide
  have e1 : pm_in (0 : Int32) 4 = true := by decide
  have e2 : pm_in ((0 : Int32) + (1 : Int32)) 4 = true := by decide
  have e3 : pm_in ((0 : Int32) + (2 : Int32)) 4 = true := by decide
  have e4 : pm_in ((0 : Int32) + (3 : Int32)) 4 = true := by decide
  unfold d_law
  simp only [e0, e1, e2, e3, e4, cond_true, cond_false]
  generalize xs (0 : Int32).toNatClampNeg = a0
  generalize xs ((0 : Int32) + (1 : Int32)).toNatClampNeg = a1
  generalize xs ((0 : Int32) + (2 : Int32)).toNatClampNeg = a2
  generalize xs ((0 : Int32) + (3 : Int32)).toNatClampNeg = a3
  refine okL_bif (fun _ => ?_) (fun _ => ?_)
  · exact eT hF
  refine okL_bif (fun _ => rfl) (fun _ => ?_)
  refine okL_bif (fun _ => hc) (fun _ => ?_)
  refine okL_bif (fun _ => ?_) (fun _ => ?_)
  · show okL (bif decide (v 0 3 = v 198 7) then _ else _) = true
    rw [f03, m7]
    rfl
  refine okL_bif (fun _ => ?_) (fun _ => ?_)
  · have c1 : d_La_varies a1 v g = some (1, v, g, 1) := by unfold d_La_varies d_De_varies d_De_needKernel; rw [f02]; rfl
    have c2 : d_Mo_varies a1 v = some (0, pd_w v 198 0 1) := by unfold d_Mo_varies; rw [m5]; rfl
    rw [c1]
    show okL ((d_Mo_varies a1 v).bind _) = true
    rw [c2]
    show okL (bif decide (pd_w v 198 0 1 198 0 = 1) then some (Sum.inl (pd_w v 198 0 1, g, 1)) else some (Sum.inr 0)) = true
    rw [pd_w_self]
    rfl
  refine okL_bif (fun _ => ?_) (fun _ => ?_)
  · by_cases h0 : a1 < 0
    · exact fin_v (v' := v) (d_Mo_input a1 a2) (k := 1) (n := 1) rfl (by unfold d_La_input d_De_input; rw [decide_eq_true h0]; rfl) (by unfold d_Mo_input; rw [bey_lo h0]; rfl) pd_w_self
    · by_cases h1 : a1 < 16
      · have hi : pm_in a1 16 = true := pd_in h0 (by have := Int32.lt_iff_toInt_lt.mp h1; exact this)
        refine fin_v (v' := pd_w v 172 a1.toNatClampNeg a2) (d_Mo_input a1 a2) (k := 0) (n := 0) rfl (by unfold d_La_input d_De_input d_De_needNothingUnderWay; rw [decide_eq_false h0, decide_eq_true h1, fs, hi]; rfl) (v2 := pd_w (pd_w (pd_w v 172 a1.toNatClampNeg a2) 198 0 0) 203 a1.toNatClampNeg a2) ?_ ?_
        · unfold d_Mo_input
          rw [bey_in h0 (lt16.mp h1), pd_w_ne (show (198 : Nat) ≠ 172 by decide), m26, thr_0, hi]
          rfl
        · rw [pd_w_ne (show (198 : Nat) ≠ 203 by decide), pd_w_self]
      · exact fin_v (v' := v) (d_Mo_input a1 a2) (k := 1) (n := 1) rfl (by unfold d_La_input d_De_input; rw [decide_eq_false h0, decide_eq_false h1]; rfl) (by unfold d_Mo_input; rw [bey_hi h0 (fun q => h1 (lt16.mpr q))]; rfl) pd_w_self
  refine okL_bif (fun _ => ?_) (fun _ => ?_)
  · by_cases h0 : a1 < 1
    · exact fin_v (v' := v) (d_Mo_lanes a1) (k := 1) (n := 1) rfl (by unfold d_La_lanes d_De_lanes; rw [decide_eq_true h0]; rfl) (by unfold d_Mo_lanes; rw [bey_lo h0]; rfl) pd_w_self
    · by_cases h1 : a1 ≤ 8
      · refine fin_v (v' := pd_w v 0 5 a1) (d_Mo_lanes a1) (k := 0) (n := 0) rfl (by unfold d_La_lanes d_De_lanes d_De_needNothingUnderWay; rw [decide_eq_false h0, decide_eq_true h1, fs]; rfl) (v2 := pd_w (pd_w (pd_w v 0 5 a1) 198 0 0) 198 12 a1) ?_ ?_
        · unfold d_Mo_lanes
          rw [bey_in h0 h1, pd_w_ne (show (198 : Nat) ≠ 0 by decide), m26, thr_0]
          rfl
        · rw [pd_w_nk (show (0 : Nat) ≠ 12 by decide), pd_w_self]
      · exact fin_v (v' := v) (d_Mo_lanes a1) (k := 1) (n := 1) rfl (by unfold d_La_lanes d_De_lanes; rw [decide_eq_false h0, decide_eq_false h1]; rfl) (by unfold d_Mo_lanes; rw [bey_hi h0 h1]; rfl) pd_w_self
  refine okL_bif (fun _ => ?_) (fun _ => ?_)
  · exact fin_v (v' := v) (d_Mo_start 40) (k := 1) (n := 1) rfl (by unfold d_La_start d_De_start d_De_needKernel; rw [f02]; rfl) (by unfold d_Mo_start; rw [m5]; rfl) pd_w_self
  refine okL_bif (fun _ => ?_) (fun _ => ?_)
  · exact fin_i (v := v) (d_Mo_run 40 a1) b1 (by unfold d_La_run d_De_run d_De_needStarted; rw [fs]; rfl) (by unfold d_Mo_run; rw [m20]; rfl)
  refine okL_bif (fun _ => ?_) (fun _ => ?_)
  · show okL (bif decide (d_De_mask v = v 198 26) then _ else _) = true
    unfold d_De_mask
    rw [fs, m26]
    rfl
  refine okL_bif (fun _ => ?_) (fun _ => ?_)
  · obtain ⟨k, h1, h2, h3⟩ := eA_spent (a1 := a1) (g := g) hF
    exact fin_i (d_Mo_spent a1) h1 h2 h3
  refine okL_bif (fun _ => ?_) (fun _ => ?_)
  · exact fin_i (v := v) (d_Mo_alone 40 a1) b1 (by unfold d_La_alone d_De_alone d_De_needKernel; rw [f02]; rfl) (by unfold d_Mo_alone; rw [m5]; rfl)
  refine okL_bif (fun _ => ?_) (fun _ => ?_)
  · obtain ⟨k, h1, h2, h3⟩ := eA_lane (a2 := a2) (a3 := a3) (g := g) (b := 0) hF (Or.inl rfl)
    obtain ⟨k', h1', h2', h3'⟩ := eA_lane (a2 := a2) (a3 := a3) (g := g) (b := 1) hF (Or.inr rfl)
    refine okL_bif (fun q => ?_) (fun q => ?_)
    · simp only [q, cond_true]
      exact fin_i (d_Mo_lane 0 a2 a3) h1 h2 h3
    · simp only [q, cond_false]
      exact fin_i (d_Mo_lane 1 a2 a3) h1' h2' h3'
  refine okL_bif (fun _ => ?_) (fun _ => ?_)
  · obtain ⟨k, h1, h2, h3⟩ := eA_out (a2 := a2) (a3 := a3) (g := g) (b := 0) hF (Or.inl rfl)
    obtain ⟨k', h1', h2', h3'⟩ := eA_out (a2 := a2) (a3 := a3) (g := g) (b := 1) hF (Or.inr rfl)
    refine okL_bif (fun q => ?_) (fun q => ?_)
    · simp only [q, cond_true]
      exact fin_i (d_Mo_out 0 a2 a3) h1 h2 h3
    · simp only [q, cond_false]
      exact fin_i (d_Mo_out 1 a2 a3) h1' h2' h3'
  refine okL_bif (fun _ => ?_) (fun _ => ?_)
  · obtain ⟨k, h1, h2, h3⟩ := eA_cell (a2 := a2) (a3 := a3) (g := g) (b := 0) hF (Or.inl rfl)
    obtain ⟨k', h1', h2', h3'⟩ := eA_cell (a2 := a2) (a3 := a3) (g := g) (b := 1) hF (Or.inr rfl)
    refine okL_bif (fun q => ?_) (fun q => ?_)
    · simp only [q, cond_true]
      exact fin_i (d_Mo_cell 0 a2 a3) h1 h2 h3
    · simp only [q, cond_false]
      exact fin_i (d_Mo_cell 1 a2 a3) h1' h2' h3'
  rfl
