/-! the reference's other calls -/
section QS
variable {w : Nat} {v u q : pd_V} {a1 a2 a3 b x : Int32} {c : Int}
def QP (v : pd_V) (r : Int32 × pd_V) : Prop := ∃ k : Int32, r.2 = pd_w v 198 0 k
theorem QP_J {r : Int32 × pd_V} (h : QP v r) (hJ : JM c v) : JM c r.2 ∧ FM v r.2 := by
  obtain ⟨k, e⟩ := h
  rw [e]
  exact ⟨JM_k hJ (by decide), FM_k FM_r (by decide)⟩
theorem zl0 : decide ((0 : Int32) = 0) = true := by decide
theorem zl1 : decide ((1 : Int32) = 0) = false := by decide
theorem z00 : ((0 : Int32) = 0) = True := eq_true rfl
theorem z10 : ((1 : Int32) = 0) = False := eq_false (by decide)
theorem in_l16 (h : 0 ≤ a2.toInt ∧ a2.toInt ≤ 7) : pm_in a2 16 = true := pin (by omega)
theorem in_8l (h : 0 ≤ a2.toInt ∧ a2.toInt ≤ 7) : pm_in ((8 : Int32) + a2) 16 = true := by
  have e := sI_8
  refine pin ?_
  rw [sI_add (by rw [e]; omega), e]
  omega
theorem bey7 (h : d_Mo_beyond a2 0 7 = 0) : 0 ≤ a2.toInt ∧ a2.toInt ≤ 7 := by
  have := bey0 h
  have e0 := sI_0
  have e7 : (7 : Int32).toInt = 7 := by decide
  omega
theorem isNot01 (hb : b = 0 ∨ b = 1) : d_Mo_isNot b v = 0 ∨ d_Mo_isNot b v = 1 := by
  unfold d_Mo_isNot
  rcases hb with rfl | rfl
  · show (bif !(decide (v 198 20 = 0)) then (0 : Int32) else 1) = 0 ∨ (bif !(decide (v 198 20 = 0)) then (0 : Int32) else 1) = 1
    cases decide (v 198 20 = 0)
    · exact Or.inl rfl
    · exact Or.inr rfl
  · show (bif !(decide (v 198 27 = 0)) then (0 : Int32) else 1) = 0 ∨ (bif !(decide (v 198 27 = 0)) then (0 : Int32) else 1) = 1
    cases decide (v 198 27 = 0)
    · exact Or.inl rfl
    · exact Or.inr rfl
set_option maxRecDepth 10000 in
theorem q_lane (hb : b = 0 ∨ b = 1) : Sf (d_Mo_lane b a2 a3 v) (QP v) := by
  rcases bey01 (a := a2) (l := 0) (h := 7) with h2 | h2
  rotate_left
  · exact ⟨_, mA_lane_1 h2, 1, rfl⟩
  rcases bey01 (a := a3) (l := 0) (h := 2) with h3 | h3
  rotate_left
  · exact ⟨_, mA_lane_2 h2 h3, 1, rfl⟩
  rcases isNot01 (v := v) hb with h4 | h4
  rotate_left
  · exact ⟨_, mA_lane_3 h2 h3 h4, 2, rfl⟩
  have i1 := in_l16 (bey7 h2)
  have i2 := in_8l (bey7 h2)
  unfold d_Mo_lane
  rw [h2, h3, h4]
  simp only [z00, z10, decide_true, decide_false, Bool.not_true, Bool.not_false, cond_true, cond_false, thr_0, thr_1, thr_2, thr_3, Option.bind_some]
  rcases hb with rfl | rfl
  · simp only [z00, z10, decide_true, decide_false, Bool.not_true, Bool.not_false, cond_true, cond_false, thr_0, thr_1, thr_2, thr_3, Option.bind_some]
    repeat' first
      | exact sf_some ⟨0, rfl⟩
      | refine sf_c (by assumption) ?_
      | refine sf_n (fun _ => ?_) (fun _ => ?_)
      | refine sf_d (fun _ => ?_) (fun _ => ?_)
  · simp only [z00, z10, decide_true, decide_false, Bool.not_true, Bool.not_false, cond_true, cond_false, thr_0, thr_1, thr_2, thr_3, Option.bind_some]
    repeat' first
      | exact sf_some ⟨0, rfl⟩
      | refine sf_c (by assumption) ?_
      | refine sf_n (fun _ => ?_) (fun _ => ?_)
      | refine sf_d (fun _ => ?_) (fun _ => ?_)
theorem in_c1 (h : 0 ≤ a2.toInt ∧ a2.toInt ≤ 7) (h3 : 0 ≤ a3.toInt ∧ a3.toInt ≤ 15) : ((8 : Int32) * a2 + a3).toInt = 8 * a2.toInt + a3.toInt := by
  have e := sI_8
  have e2 : ((8 : Int32) * a2).toInt = 8 * a2.toInt := by rw [sI_mul (by rw [e]; omega), e]
  rw [sI_add (by rw [e2]; omega), e2]
theorem in_c2 (h : 0 ≤ a2.toInt ∧ a2.toInt ≤ 7) (h3 : 0 ≤ a3.toInt ∧ a3.toInt ≤ 15) : ((8 : Int32) * ((8 : Int32) + a2) + a3).toInt = 64 + 8 * a2.toInt + a3.toInt := by
  have e := sI_8
  have e1 : ((8 : Int32) + a2).toInt = 8 + a2.toInt := by rw [sI_add (by rw [e]; omega), e]
  have e2 : ((8 : Int32) * ((8 : Int32) + a2)).toInt = 8 * (8 + a2.toInt) := by rw [sI_mul (by rw [e, e1]; omega), e, e1]
  rw [sI_add (by rw [e2]; omega), e2]
  omega
theorem m8 {y : Int32} {d : Int} (h : y.toInt = d) (hd : 8 ≤ d ∧ d < 1000) : (y - (8 : Int32)).toInt = d - 8 := by
  have e := sI_8
  rw [sI_sub (by rw [e]; omega), e, h]
set_option maxRecDepth 10000 in
theorem q_cell (hb : b = 0 ∨ b = 1) : Sf (d_Mo_cell b a2 a3 v) (QP v) := by
  rcases bey01 (a := a2) (l := 0) (h := 7) with h2 | h2
  rotate_left
  · exact ⟨_, mA_cell_1 h2, 1, rfl⟩
  rcases bey01 (a := a3) (l := 0) (h := 15) with h3 | h3
  rotate_left
  · exact ⟨_, mA_cell_2 h2 h3, 1, rfl⟩
  rcases isNot01 (v := v) hb with h4 | h4
  rotate_left
  · exact ⟨_, mA_cell_3 h2 h3 h4, 2, rfl⟩
  have b2 := bey7 h2
  have b3 : 0 ≤ a3.toInt ∧ a3.toInt ≤ 15 := by
    have := bey0 h3
    have e0 := sI_0
    have e7 : (15 : Int32).toInt = 15 := by decide
    omega
  have c1 := in_c1 b2 b3
  have c2 := in_c2 b2 b3
  unfold d_Mo_cell
  rw [h2, h3, h4]
  simp only [z00, z10, decide_true, decide_false, Bool.not_true, Bool.not_false, cond_true, cond_false, thr_0, thr_1, thr_2, thr_3, Option.bind_some]
  rcases hb with rfl | rfl
  · simp only [z00, z10, decide_true, decide_false, Bool.not_true, Bool.not_false, cond_true, cond_false, thr_0, thr_1, thr_2, thr_3, Option.bind_some]
    refine sf_le (show (8 : Int32).toInt = 8 from by decide) rfl (fun k => sf_c (pin ?_) (sf_some ⟨0, rfl⟩)) (fun k => sf_c (pin ?_) (sf_some ⟨0, rfl⟩))
    · rw [m8 c1 (by omega)]; omega
    · rw [c1]; omega
  · simp only [z00, z10, decide_true, decide_false, Bool.not_true, Bool.not_false, cond_true, cond_false, thr_0, thr_1, thr_2, thr_3, Option.bind_some]
    refine sf_le (show (8 : Int32).toInt = 8 from by decide) rfl (fun k => sf_c (pin ?_) (sf_some ⟨0, rfl⟩)) (fun k => sf_c (pin ?_) (sf_some ⟨0, rfl⟩))
    · rw [m8 c2 (by omega)]; omega
    · rw [c2]; omega
theorem in_o1 (h : 0 ≤ a2.toInt ∧ a2.toInt ≤ 7) (h3 : 0 ≤ a3.toInt ∧ a3.toInt < 20) : pm_in ((20 : Int32) * a2 + a3) 320 = true := by
  have e := sI_20
  have e2 : ((20 : Int32) * a2).toInt = 20 * a2.toInt := by rw [sI_mul (by rw [e]; omega), e]
  refine pin ?_
  rw [sI_add (by rw [e2]; omega), e2]
  omega
theorem in_o2 (h : 0 ≤ a2.toInt ∧ a2.toInt ≤ 7) (h3 : 0 ≤ a3.toInt ∧ a3.toInt < 20) : pm_in ((20 : Int32) * ((8 : Int32) + a2) + a3) 320 = true := by
  have e := sI_20
  have f := sI_8
  have e1 : ((8 : Int32) + a2).toInt = 8 + a2.toInt := by rw [sI_add (by rw [f]; omega), f]
  have e2 : ((20 : Int32) * ((8 : Int32) + a2)).toInt = 20 * (8 + a2.toInt) := by rw [sI_mul (by rw [e, e1]; omega), e, e1]
  refine pin ?_
  rw [sI_add (by rw [e2]; omega), e2]
  omega
set_option maxRecDepth 10000 in
theorem q_out (hb : b = 0 ∨ b = 1) : Sf (d_Mo_out b a2 a3 v) (QP v) := by
  rcases bey01 (a := a2) (l := 0) (h := 7) with h2 | h2
  rotate_left
  · exact ⟨_, mA_out_1 hb h2, 1, rfl⟩
  rcases isNot01 (v := v) hb with h4 | h4
  rotate_left
  · exact ⟨_, mA_out_2 hb h2 h4, 2, rfl⟩
  have b2 := bey7 h2
  have i1 := in_l16 b2
  have i2 := in_8l b2
  unfold d_Mo_out
  rw [h2, h4]
  simp only [z00, z10, decide_true, decide_false, Bool.not_true, Bool.not_false, cond_true, cond_false, thr_0, thr_1, thr_2, thr_3, Option.bind_some]
  unfold d_Mo_out_26
  rcases hb with rfl | rfl
  · simp only [z00, z10, decide_true, decide_false, Bool.not_true, Bool.not_false, cond_true, cond_false, thr_0, thr_1, thr_2, thr_3, Option.bind_some]
    refine sf_lt rfl (show (0 : Int32).toInt = 0 from by decide) (fun k => sf_some ⟨3, rfl⟩) (fun k => ?_)
    refine sf_le (show (20 : Int32).toInt = 20 from by decide) rfl (fun k2 => sf_some ⟨3, rfl⟩) (fun k2 => sf_c i1 ?_)
    exact sf_d (fun _ => sf_c (in_o1 b2 (by omega)) (sf_some ⟨0, rfl⟩)) (fun _ => sf_some ⟨3, rfl⟩)
  · simp only [z00, z10, decide_true, decide_false, Bool.not_true, Bool.not_false, cond_true, cond_false, thr_0, thr_1, thr_2, thr_3, Option.bind_some]
    refine sf_lt rfl (show (0 : Int32).toInt = 0 from by decide) (fun k => sf_some ⟨3, rfl⟩) (fun k => ?_)
    refine sf_le (show (20 : Int32).toInt = 20 from by decide) rfl (fun k2 => sf_some ⟨3, rfl⟩) (fun k2 => sf_c i2 ?_)
    exact sf_d (fun _ => sf_c (in_o2 b2 (by omega)) (sf_some ⟨0, rfl⟩)) (fun _ => sf_some ⟨3, rfl⟩)
theorem q_varies : Sf (d_Mo_varies a1 v) (QP v) := by
  unfold d_Mo_varies
  rcases bey01 (a := a1) (l := 0) (h := 7) with h2 | h2
  · have i : pm_in a1 8 = true := pin (by have := bey7 h2; omega)
    rw [h2]
    simp only [z00, z10, decide_true, decide_false, Bool.not_true, Bool.not_false, cond_true, cond_false, thr_0, thr_1, thr_2, thr_3, Option.bind_some]
    by_cases c5 : v 198 5 = 0
    · rw [decide_eq_true c5]
      exact sf_some ⟨1, rfl⟩
    · rw [decide_eq_false c5]
      exact sf_c i (sf_d (fun _ => sf_some ⟨0, rfl⟩) (fun _ => sf_some ⟨0, rfl⟩))
  · rw [h2]
    simp only [z00, z10, decide_true, decide_false, Bool.not_true, Bool.not_false, cond_true, cond_false, thr_0, thr_1, thr_2, thr_3, Option.bind_some]
    by_cases c5 : v 198 5 = 0
    · rw [decide_eq_true c5]
      exact sf_some ⟨1, rfl⟩
    · rw [decide_eq_false c5]
      exact sf_some ⟨2, rfl⟩
theorem q_place : Sf (d_Mo_place v) (QP v) := by
  unfold d_Mo_place
  exact sf_some ⟨0, rfl⟩
theorem q_mask : Sf (d_Mo_mask v) (QP v) := by
  unfold d_Mo_mask
  exact sf_some ⟨0, rfl⟩
theorem q_spent : Sf (d_Mo_spent a1 v) (QP v) := by
  unfold d_Mo_spent
  rcases bey01 (a := a1) (l := 0) (h := 1) with h2 | h2
  · rw [h2]
    simp only [z00, z10, decide_true, decide_false, Bool.not_true, Bool.not_false, cond_true, cond_false, thr_0, thr_1, thr_2, thr_3, Option.bind_some]
    by_cases c5 : v 198 20 = 0
    · rw [decide_eq_true c5]
      simp only [z00, z10, decide_true, decide_false, Bool.not_true, Bool.not_false, cond_true, cond_false, thr_0, thr_1, thr_2, thr_3, Option.bind_some]
      exact sf_some ⟨2, rfl⟩
    · rw [decide_eq_false c5]
      simp only [z00, z10, decide_true, decide_false, Bool.not_true, Bool.not_false, cond_true, cond_false, thr_0, thr_1, thr_2, thr_3, Option.bind_some]
      exact sf_n (fun _ => sf_some ⟨0, rfl⟩) (fun _ => sf_some ⟨0, rfl⟩)
  · rw [h2]
    simp only [z00, z10, decide_true, decide_false, Bool.not_true, Bool.not_false, cond_true, cond_false, thr_0, thr_1, thr_2, thr_3, Option.bind_some]
    exact sf_some ⟨1, rfl⟩
theorem q_input (hJ : JM c v) : Sf (d_Mo_input a1 a2 v) (fun q => JM c q ∧ FM v q) := by
  have J0 : ∀ k : Int32, JM c (pd_w v 198 0 k) ∧ FM v (pd_w v 198 0 k) := fun k => ⟨JM_k hJ (by decide), FM_k FM_r (by decide)⟩
  unfold d_Mo_input
  rcases bey01 (a := a1) (l := 0) (h := 15) with h2 | h2
  · have i : pm_in a1 16 = true := by
      have := bey0 h2
      have e0 := sI_0
      have e7 : (15 : Int32).toInt = 15 := by decide
      exact pin (by omega)
    rw [h2]
    simp only [z00, z10, decide_true, decide_false, Bool.not_true, Bool.not_false, cond_true, cond_false, thr_0, thr_1, thr_2, thr_3, Option.bind_some]
    refine sf_d (fun _ => sf_c i (sf_some ⟨JM_e (J0 0).1 (fun a ha => pd_wa (by omega)) (fun k _ => pd_w_ne (by decide)), FM_w (J0 0).2 (by decide)⟩)) (fun _ => sf_some (J0 2))
  · rw [h2]
    simp only [z00, z10, decide_true, decide_false, Bool.not_true, Bool.not_false, cond_true, cond_false, thr_0, thr_1, thr_2, thr_3, Option.bind_some]
    exact sf_some (J0 1)
theorem q_lanes (hJ : JM c v) : Sf (d_Mo_lanes a1 v) (fun q => JM c q ∧ FM v q) := by
  have J0 : ∀ k : Int32, JM c (pd_w v 198 0 k) ∧ FM v (pd_w v 198 0 k) := fun k => ⟨JM_k hJ (by decide), FM_k FM_r (by decide)⟩
  unfold d_Mo_lanes
  rcases bey01 (a := a1) (l := 1) (h := 8) with h2 | h2
  · rw [h2]
    simp only [z00, z10, decide_true, decide_false, Bool.not_true, Bool.not_false, cond_true, cond_false, thr_0, thr_1, thr_2, thr_3, Option.bind_some]
    exact sf_d (fun _ => sf_some ⟨JM_k (J0 0).1 (by decide), FM_k (J0 0).2 (by decide)⟩) (fun _ => sf_some (J0 2))
  · rw [h2]
    simp only [z00, z10, decide_true, decide_false, Bool.not_true, Bool.not_false, cond_true, cond_false, thr_0, thr_1, thr_2, thr_3, Option.bind_some]
    exact sf_some (J0 1)
end QS
