/-! the class goes well -/
theorem t_Ke_empty {l0 : Nat} {v : pd_V} (hl0 : ker l0) : Sf (d_Ke_empty l0 v) (fun q => TC v q) := by
  unfold d_Ke_empty
  have pl0 : l0 = 3 ∨ l0 = 88 := hl0
  exact sf_some (TC_k (TC_k TC_r hl0 (by intro _; decide)) hl0 (by intro _; decide))
theorem t_Re_next {v : pd_V} (hK : KO v) : Sf (d_Re_next v) (fun _ => True) := by
  unfold d_Re_next
  have ⟨⟨k1, k2⟩, ⟨k3, k4⟩, ⟨k5, k6⟩, k7, k8⟩ := hK
  refine sf_lt rfl (show (0 : Int32).toInt = 0 from by decide) (fun c1 => ?_) (fun c1 => ?_)
  · exact sf_some trivial
  · refine sf_le rfl rfl (fun c2 => ?_) (fun c2 => ?_)
    · exact sf_some trivial
    · refine sf_c (by exact pin (by omega)) ?_
      exact sf_some trivial
theorem t_Ke_stepAt {l0 : Nat} {l1 : Int32} {v : pd_V} (hl0 : ker l0) : Sf (d_Ke_stepAt l0 l1 v) (fun q => stp q) := by
  have h : Sf (d_Ke_stepAt l0 l1 v) (fun _ => True) := by
    unfold d_Ke_stepAt
    refine sf_lt rfl (show (0 : Int32).toInt = 0 from by decide) (fun c1 => ?_) (fun c1 => ?_)
    · exact sf_c (by decide) (sf_some trivial)
    · refine sf_le (show (80 : Int32).toInt = 80 from by decide) rfl (fun c2 => ?_) (fun c2 => ?_)
      · exact sf_c (by decide) (sf_some trivial)
      · exact sf_c (pin (by omega)) (sf_some trivial)
  obtain ⟨q, e, -⟩ := h
  exact ⟨q, e, r_Ke_stepAt hl0 e⟩
theorem t_Re_take {l1 : Int32} {v : pd_V} (hK : KO v) : Sf (d_Re_take l1 v) (fun q => RM v q.2) := by
  unfold d_Re_take
  have ⟨⟨k1, k2⟩, ⟨k3, k4⟩, ⟨k5, k6⟩, k7, k8⟩ := hK
  refine sf_lt rfl (show (0 : Int32).toInt = 0 from by decide) (fun c1 => ?_) (fun c1 => ?_)
  · exact sf_some RM_r
  · refine sf_le rfl rfl (fun c2 => ?_) (fun c2 => ?_)
    · exact sf_some RM_r
    · refine sf_c (by exact pin (by omega)) ?_
      refine sf_d (fun c3 => ?_) (fun c3 => ?_)
      · exact sf_some (RM_w RM_r)
      · exact sf_some RM_r
theorem t_St_set {l0 : Nat} {l1 : Int32} {l2 : Int32} {l3 : Int32} {v : pd_V} (hl0 : stp l0) : Sf (d_St_set l0 l1 l2 l3 v) (fun q => TC v q) := by
  unfold d_St_set
  have pl0 : (7 ≤ l0 ∧ l0 < 87) ∨ (92 ≤ l0 ∧ l0 < 172) := hl0
  exact sf_some (TC_g (TC_g (TC_g (TC_g TC_r (by omega)) (by omega)) (by omega)) (by omega))
theorem min79 {a : Int32} (h : 0 ≤ a.toInt) : 0 ≤ (d_Mat_min a 79).toInt ∧ (d_Mat_min a 79).toInt ≤ 79 := by
  unfold d_Mat_min
  have e : (79 : Int32).toInt = 79 := by decide
  by_cases c : (79 : Int32) < a
  · rw [decide_eq_true c]
    show 0 ≤ (79 : Int32).toInt ∧ (79 : Int32).toInt ≤ 79
    omega
  · rw [decide_eq_false c]
    have h2 : ¬ (79 : Int32).toInt < a.toInt := fun q => c (Int32.lt_iff_toInt_lt.mpr q)
    show 0 ≤ a.toInt ∧ a.toInt ≤ 79
    omega
theorem t_Ke_addStep {l0 : Nat} {l1 l2 l3 : Int32} {v : pd_V} (hl0 : ker l0) (hK : KO v) : Sf (d_Ke_addStep l0 l1 l2 l3 v) (fun q => stp q.1 ∧ TC v q.2) := by
  unfold d_Ke_addStep
  have kk := KO_k hK hl0
  have mm := min79 kk.1
  have hi : pm_in (d_Mat_min (v l0 3) (79 : Int32)) 80 = true := pin (by omega)
  refine sf_c hi ?_
  refine sf_bind (t_St_set (stp_of hl0 hi)) (fun q3 hq3 => ?_)
  refine sf_c hi ?_
  exact sf_some ⟨stp_of hl0 hi, TC_t (TC_k TC_r hl0 (by intro _; rw [sI_add1 (by omega)]; omega)) hq3⟩
theorem t_Re_closeBlock {v : pd_V} (hK : KO v) : Sf (d_Re_closeBlock v) (fun q => TC v q) := by
  unfold d_Re_closeBlock
  have ⟨⟨k1, k2⟩, ⟨k3, k4⟩, ⟨k5, k6⟩, k7, k8⟩ := hK
  refine sf_lt rfl (show (1 : Int32).toInt = 1 from by decide) (fun c1 => ?_) (fun c1 => ?_)
  · exact sf_some TC_r
  · refine sf_le rfl (show (4 : Int32).toInt = 4 from by decide) (fun c2 => ?_) (fun c2 => ?_)
    · refine sf_c (by exact pin (by rw [sI_sub1 (by omega)]; omega)) ?_
      refine sf_bind (t_Ke_stepAt (ker_of _)) (fun q4 hq4 => ?_)
      have pq4 : (7 ≤ q4 ∧ q4 < 87) ∨ (92 ≤ q4 ∧ q4 < 172) := hq4
      refine sf_n (fun c3 => ?_) (fun c3 => ?_)
      · refine sf_n (fun c4 => ?_) (fun c4 => ?_)
        · refine sf_bind (t_Ke_addStep (ker_of _) ((TC_5 (TC_1 TC_r (by decide)) (by rw [sI_sub1 (by omega)]; omega)).2.2 hK)) (fun q7 hq7 => ?_)
          have pq7 : (7 ≤ q7.1 ∧ q7.1 < 87) ∨ (92 ≤ q7.1 ∧ q7.1 < 172) := hq7.1
          have rq7 := TC_t (TC_5 (TC_1 TC_r (by decide)) (by rw [sI_sub1 (by omega)]; omega)) hq7.2
          refine sf_n (fun c5 => ?_) (fun c5 => ?_)
          · refine sf_bind (t_Ke_stepAt (ker_of _)) (fun q9 hq9 => ?_)
            have pq9 : (7 ≤ q9 ∧ q9 < 87) ∨ (92 ≤ q9 ∧ q9 < 172) := hq9
            exact sf_some (TC_g (TC_g (TC_g rq7 (by omega)) (by omega)) (by omega))
          · exact sf_some (TC_g (TC_g (TC_g rq7 (by omega)) (by omega)) (by omega))
        · refine sf_bind (t_Ke_addStep (ker_of _) ((TC_5 (TC_1 TC_r (by decide)) (by rw [sI_sub1 (by omega)]; omega)).2.2 hK)) (fun q10 hq10 => ?_)
          have pq10 : (7 ≤ q10.1 ∧ q10.1 < 87) ∨ (92 ≤ q10.1 ∧ q10.1 < 172) := hq10.1
          have rq10 := TC_t (TC_5 (TC_1 TC_r (by decide)) (by rw [sI_sub1 (by omega)]; omega)) hq10.2
          refine sf_n (fun c6 => ?_) (fun c6 => ?_)
          · refine sf_bind (t_Ke_stepAt (ker_of _)) (fun q12 hq12 => ?_)
            have pq12 : (7 ≤ q12 ∧ q12 < 87) ∨ (92 ≤ q12 ∧ q12 < 172) := hq12
            exact sf_some (TC_g (TC_g (TC_g rq10 (by omega)) (by omega)) (by omega))
          · exact sf_some (TC_g (TC_g (TC_g rq10 (by omega)) (by omega)) (by omega))
      · refine sf_n (fun c7 => ?_) (fun c7 => ?_)
        · refine sf_n (fun c8 => ?_) (fun c8 => ?_)
          · refine sf_bind (t_Ke_addStep (ker_of _) ((TC_5 (TC_1 TC_r (by decide)) (by rw [sI_sub1 (by omega)]; omega)).2.2 hK)) (fun q15 hq15 => ?_)
            have pq15 : (7 ≤ q15.1 ∧ q15.1 < 87) ∨ (92 ≤ q15.1 ∧ q15.1 < 172) := hq15.1
            have rq15 := TC_t (TC_5 (TC_1 TC_r (by decide)) (by rw [sI_sub1 (by omega)]; omega)) hq15.2
            refine sf_n (fun c9 => ?_) (fun c9 => ?_)
            · refine sf_bind (t_Ke_stepAt (ker_of _)) (fun q17 hq17 => ?_)
              have pq17 : (7 ≤ q17 ∧ q17 < 87) ∨ (92 ≤ q17 ∧ q17 < 172) := hq17
              exact sf_some (TC_g (TC_g (TC_g rq15 (by omega)) (by omega)) (by omega))
            · exact sf_some (TC_g (TC_g (TC_g rq15 (by omega)) (by omega)) (by omega))
          · refine sf_bind (t_Ke_addStep (ker_of _) ((TC_5 (TC_1 TC_r (by decide)) (by rw [sI_sub1 (by omega)]; omega)).2.2 hK)) (fun q18 hq18 => ?_)
            have pq18 : (7 ≤ q18.1 ∧ q18.1 < 87) ∨ (92 ≤ q18.1 ∧ q18.1 < 172) := hq18.1
            have rq18 := TC_t (TC_5 (TC_1 TC_r (by decide)) (by rw [sI_sub1 (by omega)]; omega)) hq18.2
            refine sf_n (fun c10 => ?_) (fun c10 => ?_)
            · refine sf_bind (t_Ke_stepAt (ker_of _)) (fun q20 hq20 => ?_)
              have pq20 : (7 ≤ q20 ∧ q20 < 87) ∨ (92 ≤ q20 ∧ q20 < 172) := hq20
              exact sf_some (TC_g (TC_g (TC_g rq18 (by omega)) (by omega)) (by omega))
            · exact sf_some (TC_g (TC_g (TC_g rq18 (by omega)) (by omega)) (by omega))
        · refine sf_bind (t_Re_take ((TC_1 TC_r (by decide)).2.2 hK)) (fun q21 hq21 => ?_)
          have rq21 : TC v q21.2 := TC_t (TC_1 TC_r (by decide)) (TC_RM hq21)
          refine sf_d (fun c11 => ?_) (fun c11 => ?_)
          · refine sf_n (fun c12 => ?_) (fun c12 => ?_)
            · refine sf_bind (t_Ke_addStep (ker_of _) ((TC_5 rq21 (by rw [sI_sub1 (by omega)]; omega)).2.2 hK)) (fun q24 hq24 => ?_)
              have pq24 : (7 ≤ q24.1 ∧ q24.1 < 87) ∨ (92 ≤ q24.1 ∧ q24.1 < 172) := hq24.1
              have rq24 := TC_t (TC_5 rq21 (by rw [sI_sub1 (by omega)]; omega)) hq24.2
              refine sf_n (fun c13 => ?_) (fun c13 => ?_)
              · refine sf_bind (t_Ke_stepAt (ker_of _)) (fun q26 hq26 => ?_)
                have pq26 : (7 ≤ q26 ∧ q26 < 87) ∨ (92 ≤ q26 ∧ q26 < 172) := hq26
                exact sf_some (TC_g (TC_g (TC_g rq24 (by omega)) (by omega)) (by omega))
              · exact sf_some (TC_g (TC_g (TC_g rq24 (by omega)) (by omega)) (by omega))
            · refine sf_bind (t_Ke_addStep (ker_of _) ((TC_5 rq21 (by rw [sI_sub1 (by omega)]; omega)).2.2 hK)) (fun q27 hq27 => ?_)
              have pq27 : (7 ≤ q27.1 ∧ q27.1 < 87) ∨ (92 ≤ q27.1 ∧ q27.1 < 172) := hq27.1
              have rq27 := TC_t (TC_5 rq21 (by rw [sI_sub1 (by omega)]; omega)) hq27.2
              refine sf_n (fun c14 => ?_) (fun c14 => ?_)
              · refine sf_bind (t_Ke_stepAt (ker_of _)) (fun q29 hq29 => ?_)
                have pq29 : (7 ≤ q29 ∧ q29 < 87) ∨ (92 ≤ q29 ∧ q29 < 172) := hq29
                exact sf_some (TC_g (TC_g (TC_g rq27 (by omega)) (by omega)) (by omega))
              · exact sf_some (TC_g (TC_g (TC_g rq27 (by omega)) (by omega)) (by omega))
          · refine sf_bind (t_Ke_addStep (ker_of _) (rq21.2.2 hK)) (fun q30 hq30 => ?_)
            have pq30 : (7 ≤ q30.1 ∧ q30.1 < 87) ∨ (92 ≤ q30.1 ∧ q30.1 < 172) := hq30.1
            have rq30 := TC_t rq21 hq30.2
            exact sf_some (TC_g rq30 (by omega))
    · exact sf_some TC_r
theorem t_Re_takeVariable {v : pd_V} (hK : KO v) : Sf (d_Re_takeVariable v) (fun q => RM v q.2) := by
  unfold d_Re_takeVariable
  have ⟨⟨k1, k2⟩, ⟨k3, k4⟩, ⟨k5, k6⟩, k7, k8⟩ := hK
  refine sf_bind (t_Re_next ((TC_RM RM_r).2.2 hK)) (fun q1 hq1 => ?_)
  refine sf_n (fun c1 => ?_) (fun c1 => ?_)
  · exact sf_some (RM_w RM_r)
  · exact sf_some RM_r
theorem t_Re_readHead {l1 : Nat} {v : pd_V} (hl1 : stp l1) (hK : KO v) : Sf (d_Re_readHead l1 v) (fun q => TC v q.2) := by
  unfold d_Re_readHead
  have pl1 : (7 ≤ l1 ∧ l1 < 87) ∨ (92 ≤ l1 ∧ l1 < 172) := hl1
  have ⟨⟨k1, k2⟩, ⟨k3, k4⟩, ⟨k5, k6⟩, k7, k8⟩ := hK
  refine sf_n (fun c1 => ?_) (fun c1 => ?_)
  · refine sf_n (fun c2 => ?_) (fun c2 => ?_)
    · exact sf_some (TC_1 TC_r (by decide))
    · refine sf_bind (t_Re_takeVariable ((TC_1 TC_r (by decide)).2.2 hK)) (fun q3 hq3 => ?_)
      have rq3 : TC v q3.2 := TC_t (TC_1 TC_r (by decide)) (TC_RM hq3)
      refine sf_n (fun c3 => ?_) (fun c3 => ?_)
      · refine sf_bind (t_Re_takeVariable ((TC_g rq3 (by omega)).2.2 hK)) (fun q5 hq5 => ?_)
        have rq5 : TC v q5.2 := TC_t (TC_g rq3 (by omega)) (TC_RM hq5)
        refine sf_d (fun c4 => ?_) (fun c4 => ?_)
        · exact sf_some (TC_g rq5 (by omega))
        · exact sf_some (TC_g rq5 (by omega))
      · refine sf_d (fun c5 => ?_) (fun c5 => ?_)
        · exact sf_some (TC_g (TC_g rq3 (by omega)) (by omega))
        · exact sf_some (TC_g (TC_g rq3 (by omega)) (by omega))
  · refine sf_bind (t_Re_next (TC_r.2.2 hK)) (fun q8 hq8 => ?_)
    refine sf_bind (t_Re_take ((TC_1 (TC_g TC_r (by omega)) (by decide)).2.2 hK)) (fun q9 hq9 => ?_)
    have rq9 : TC v q9.2 := TC_t (TC_1 (TC_g TC_r (by omega)) (by decide)) (TC_RM hq9)
    exact sf_some rq9
theorem t_Re_readNumber_4 {w : Nat} (hw : 4294967296 < w) : ∀ (f : Nat) (l1 : Int32) (l2 : Int32) (v : pd_V) (hK : KO v) (hm : (3 - l2.toInt).toNat < f), Sf (d_Re_readNumber_4 w f l1 l2 v) (fun q => RM v q.2) := by
  intro f
  induction f with
  | zero => intro l1 l2 v hK hm; exact absurd hm (Nat.not_lt_zero _)
  | succ f ih =>
    intro l1 l2 v hK hm
    rw [d_Re_readNumber_4]
    have ⟨⟨k1, k2⟩, ⟨k3, k4⟩, ⟨k5, k6⟩, k7, k8⟩ := hK
    refine sf_le (show (3 : Int32).toInt = 3 from by decide) rfl (fun c1 => ?_) (fun c1 => ?_)
    · exact sf_some RM_r
    · refine sf_bind (t_Re_next ((TC_RM RM_r).2.2 hK)) (fun q2 hq2 => ?_)
      refine sf_d (fun c2 => ?_) (fun c2 => ?_)
      · exact sf_some RM_r
      · refine sf_bind (t_Re_next ((TC_RM RM_r).2.2 hK)) (fun q5 hq5 => ?_)
        exact sf_mono (ih _ _ _ ((TC_RM (RM_w RM_r)).2.2 hK) (by rw [sI_add1 (by omega)]; omega)) (fun q hq => RM_t (RM_w RM_r) hq)
theorem t_Re_readNumber {w : Nat} (hw : 4294967296 < w) {v : pd_V} (hK : KO v) : Sf (d_Re_readNumber w v) (fun q => RM v q.2) := by
  unfold d_Re_readNumber
  have ⟨⟨k1, k2⟩, ⟨k3, k4⟩, ⟨k5, k6⟩, k7, k8⟩ := hK
  exact sf_mono (t_Re_readNumber_4 hw _ _ _ _ ((TC_RM RM_r).2.2 hK) (by have e0 := sI_0; omega)) (fun q hq => RM_t RM_r hq)
theorem t_Ke_addItem {l0 : Nat} {l1 : Int32} {l2 : Int32} {v : pd_V} (hl0 : ker l0) (hK : KO v) : Sf (d_Ke_addItem l0 l1 l2 v) (fun q => TC v q) := by
  unfold d_Ke_addItem
  have pl0 : l0 = 3 ∨ l0 = 88 := hl0
  have ⟨⟨k1, k2⟩, ⟨k3, k4⟩, ⟨k5, k6⟩, k7, k8⟩ := hK
  have kk := KO_k hK hl0
  refine sf_le (show (160 : Int32).toInt = 160 from by decide) rfl (fun c1 => ?_) (fun c1 => ?_)
  · exact sf_some TC_r
  · refine sf_c (by exact pin (by omega)) ?_
    refine sf_c (by rw [pd_w_ne (by omega)]; exact pin (by omega)) ?_
    exact sf_some (TC_k (TC_g (TC_g TC_r (by omega)) (by omega)) hl0 (by intro h; rw [pd_w_ne (by omega), pd_w_ne (by omega), sI_add1 (by omega)]; omega))
theorem t_Re_readBracket {E : Int32 → pd_V → Option (Int32 × pd_V)} {l1 l2 l3 : Int32} {v : pd_V} {m : Int} (hE : ∀ (l : Int32) (u : pd_V), m ≤ l.toInt → l.toInt ≤ 4 → KO u → Sf (E l u) (fun q => TC u q.2)) (hl : m - 1 ≤ l3.toInt) (hK : KO v) : Sf (d_Re_readBracket E l1 l2 l3 v) (fun q => TC v q.2) := by
  unfold d_Re_readBracket
  refine sf_le (show (4 : Int32).toInt = 4 from by decide) rfl (fun c1 => ?_) (fun c1 => ?_)
  · exact sf_some TC_r
  · refine sf_bind (t_Re_take hK) (fun q2 hq2 => ?_)
    have r2 := TC_RM hq2
    refine sf_d (fun c2 => ?_) (fun c2 => ?_)
    · exact sf_some r2
    · refine sf_bind (hE _ _ (by rw [sI_add1 (by omega)]; omega) (by rw [sI_add1 (by omega)]; omega) (r2.2.2 hK)) (fun q4 hq4 => ?_)
      have r4 := TC_t r2 hq4
      refine sf_d (fun c3 => ?_) (fun c3 => ?_)
      · exact sf_some r4
      · refine sf_bind (t_Re_take (r4.2.2 hK)) (fun q6 hq6 => ?_)
        have r6 := TC_t r4 (TC_RM hq6)
        refine sf_d (fun c4 => ?_) (fun c4 => ?_)
        · exact sf_some r6
        · exact sf_some r6
theorem t_Re_readTerm {w : Nat} (hw : 4294967296 < w) {E : Int32 → pd_V → Option (Int32 × pd_V)} {l1 : Int32} {v : pd_V} {m : Int} (hE : ∀ (l : Int32) (u : pd_V), m ≤ l.toInt → l.toInt ≤ 4 → KO u → Sf (E l u) (fun q => TC u q.2)) (hl : m - 1 ≤ l1.toInt) (hK : KO v) : Sf (d_Re_readTerm w E l1 v) (fun q => TC v q.2) := by
  unfold d_Re_readTerm
  have ⟨⟨k1, k2⟩, ⟨k3, k4⟩, ⟨k5, k6⟩, k7, k8⟩ := hK
  refine sf_bind (t_Re_next (TC_r.2.2 hK)) (fun q1 hq1 => ?_)
  refine sf_d (fun c1 => ?_) (fun c1 => ?_)
  · refine sf_d (fun c2 => ?_) (fun c2 => ?_)
    · refine sf_n (fun c3 => ?_) (fun c3 => ?_)
      · refine sf_d (fun c4 => ?_) (fun c4 => ?_)
        · refine sf_n (fun c5 => ?_) (fun c5 => ?_)
          · refine sf_d (fun c6 => ?_) (fun c6 => ?_)
            · refine sf_bind (t_Ke_addItem (ker_of _) ((TC_1 (TC_1 TC_r (by decide)) (by decide)).2.2 hK)) (fun q10 hq10 => ?_)
              have rq10 : TC v q10 := TC_t (TC_1 (TC_1 TC_r (by decide)) (by decide)) hq10
              exact sf_some rq10
            · refine sf_bind (t_Re_readBracket hE hl ((TC_1 (TC_1 TC_r (by decide)) (by decide)).2.2 hK)) (fun q11 hq11 => ?_)
              have rq11 : TC v q11.2 := TC_t (TC_1 (TC_1 TC_r (by decide)) (by decide)) hq11
              refine sf_n (fun c7 => ?_) (fun c7 => ?_)
              · refine sf_bind (t_Ke_addItem (ker_of _) (rq11.2.2 hK)) (fun q13 hq13 => ?_)
                have rq13 : TC v q13 := TC_t rq11 hq13
                exact sf_some rq13
              · exact sf_some rq11
          · refine sf_d (fun c8 => ?_) (fun c8 => ?_)
            · refine sf_bind (t_Ke_addItem (ker_of _) ((TC_1 (TC_1 TC_r (by decide)) (by decide)).2.2 hK)) (fun q15 hq15 => ?_)
              have rq15 : TC v q15 := TC_t (TC_1 (TC_1 TC_r (by decide)) (by decide)) hq15
              exact sf_some rq15
            · refine sf_bind (t_Re_readBracket hE hl ((TC_1 (TC_1 TC_r (by decide)) (by decide)).2.2 hK)) (fun q16 hq16 => ?_)
              have rq16 : TC v q16.2 := TC_t (TC_1 (TC_1 TC_r (by decide)) (by decide)) hq16
              refine sf_n (fun c9 => ?_) (fun c9 => ?_)
              · refine sf_bind (t_Ke_addItem (ker_of _) (rq16.2.2 hK)) (fun q18 hq18 => ?_)
                have rq18 : TC v q18 := TC_t rq16 hq18
                exact sf_some rq18
              · exact sf_some rq16
        · refine sf_d (fun c10 => ?_) (fun c10 => ?_)
          · refine sf_n (fun c11 => ?_) (fun c11 => ?_)
            · refine sf_d (fun c12 => ?_) (fun c12 => ?_)
              · refine sf_bind (t_Ke_addItem (ker_of _) ((TC_1 (TC_1 TC_r (by decide)) (by decide)).2.2 hK)) (fun q22 hq22 => ?_)
                have rq22 : TC v q22 := TC_t (TC_1 (TC_1 TC_r (by decide)) (by decide)) hq22
                exact sf_some rq22
              · refine sf_bind (t_Re_readBracket hE hl ((TC_1 (TC_1 TC_r (by decide)) (by decide)).2.2 hK)) (fun q23 hq23 => ?_)
                have rq23 : TC v q23.2 := TC_t (TC_1 (TC_1 TC_r (by decide)) (by decide)) hq23
                refine sf_n (fun c13 => ?_) (fun c13 => ?_)
                · refine sf_bind (t_Ke_addItem (ker_of _) (rq23.2.2 hK)) (fun q25 hq25 => ?_)
                  have rq25 : TC v q25 := TC_t rq23 hq25
                  exact sf_some rq25
                · exact sf_some rq23
            · refine sf_d (fun c14 => ?_) (fun c14 => ?_)
              · refine sf_bind (t_Ke_addItem (ker_of _) ((TC_1 (TC_1 TC_r (by decide)) (by decide)).2.2 hK)) (fun q27 hq27 => ?_)
                have rq27 : TC v q27 := TC_t (TC_1 (TC_1 TC_r (by decide)) (by decide)) hq27
                exact sf_some rq27
              · refine sf_bind (t_Re_readBracket hE hl ((TC_1 (TC_1 TC_r (by decide)) (by decide)).2.2 hK)) (fun q28 hq28 => ?_)
                have rq28 : TC v q28.2 := TC_t (TC_1 (TC_1 TC_r (by decide)) (by decide)) hq28
                refine sf_n (fun c15 => ?_) (fun c15 => ?_)
                · refine sf_bind (t_Ke_addItem (ker_of _) (rq28.2.2 hK)) (fun q30 hq30 => ?_)
                  have rq30 : TC v q30 := TC_t rq28 hq30
                  exact sf_some rq30
                · exact sf_some rq28
          · refine sf_d (fun c16 => ?_) (fun c16 => ?_)
            · refine sf_n (fun c17 => ?_) (fun c17 => ?_)
              · refine sf_d (fun c18 => ?_) (fun c18 => ?_)
                · refine sf_bind (t_Ke_addItem (ker_of _) ((TC_1 (TC_1 TC_r (by decide)) (by decide)).2.2 hK)) (fun q34 hq34 => ?_)
                  have rq34 : TC v q34 := TC_t (TC_1 (TC_1 TC_r (by decide)) (by decide)) hq34
                  exact sf_some rq34
                · refine sf_bind (t_Re_readBracket hE hl ((TC_1 (TC_1 TC_r (by decide)) (by decide)).2.2 hK)) (fun q35 hq35 => ?_)
                  have rq35 : TC v q35.2 := TC_t (TC_1 (TC_1 TC_r (by decide)) (by decide)) hq35
                  refine sf_n (fun c19 => ?_) (fun c19 => ?_)
                  · refine sf_bind (t_Ke_addItem (ker_of _) (rq35.2.2 hK)) (fun q37 hq37 => ?_)
                    have rq37 : TC v q37 := TC_t rq35 hq37
                    exact sf_some rq37
                  · exact sf_some rq35
              · refine sf_d (fun c20 => ?_) (fun c20 => ?_)
                · refine sf_bind (t_Ke_addItem (ker_of _) ((TC_1 (TC_1 TC_r (by decide)) (by decide)).2.2 hK)) (fun q39 hq39 => ?_)
                  have rq39 : TC v q39 := TC_t (TC_1 (TC_1 TC_r (by decide)) (by decide)) hq39
                  exact sf_some rq39
                · refine sf_bind (t_Re_readBracket hE hl ((TC_1 (TC_1 TC_r (by decide)) (by decide)).2.2 hK)) (fun q40 hq40 => ?_)
                  have rq40 : TC v q40.2 := TC_t (TC_1 (TC_1 TC_r (by decide)) (by decide)) hq40
                  refine sf_n (fun c21 => ?_) (fun c21 => ?_)
                  · refine sf_bind (t_Ke_addItem (ker_of _) (rq40.2.2 hK)) (fun q42 hq42 => ?_)
                    have rq42 : TC v q42 := TC_t rq40 hq42
                    exact sf_some rq42
                  · exact sf_some rq40
            · exact sf_some TC_r
      · refine sf_bind (t_Re_readBracket hE hl (TC_r.2.2 hK)) (fun q43 hq43 => ?_)
        have rq43 : TC v q43.2 := TC_t TC_r hq43
        exact sf_some rq43
    · refine sf_bind (t_Ke_addItem (ker_of _) ((TC_1 (TC_1 TC_r (by decide)) (by decide)).2.2 hK)) (fun q44 hq44 => ?_)
      have rq44 : TC v q44 := TC_t (TC_1 (TC_1 TC_r (by decide)) (by decide)) hq44
      exact sf_some rq44
  · refine sf_bind (t_Re_readNumber hw (TC_r.2.2 hK)) (fun q45 hq45 => ?_)
    have rq45 : TC v q45.2 := TC_t TC_r (TC_RM hq45)
    refine sf_bind (t_Ke_addItem (ker_of _) (rq45.2.2 hK)) (fun q46 hq46 => ?_)
    have rq46 : TC v q46 := TC_t rq45 hq46
    exact sf_some rq46
theorem t_Re_readExpression_12 {w : Nat} (hw : 4294967296 < w) {E : Int32 → pd_V → Option (Int32 × pd_V)} {l1 : Int32} {m : Int} (hE : ∀ (l : Int32) (u : pd_V), m ≤ l.toInt → l.toInt ≤ 4 → KO u → Sf (E l u) (fun q => TC u q.2)) (hl : m - 1 ≤ l1.toInt) : ∀ (f : Nat) (l2 : Int32) (v : pd_V) (hK : KO v) (hm : ((v 1 1).toInt - l2.toInt).toNat < f), Sf (d_Re_readExpression_12 w E f l1 l2 v) (fun q => TC v q.2) := by
  intro f
  induction f with
  | zero => intro l2 v hK hm; exact absurd hm (Nat.not_lt_zero _)
  | succ f ih =>
    intro l2 v hK hm
    rw [d_Re_readExpression_12]
    have ⟨⟨k1, k2⟩, ⟨k3, k4⟩, ⟨k5, k6⟩, k7, k8⟩ := hK
    refine sf_le rfl rfl (fun c1 => ?_) (fun c1 => ?_)
    · exact sf_some TC_r
    · refine sf_bind (t_Re_next (TC_r.2.2 hK)) (fun q2 hq2 => ?_)
      refine sf_n (fun c2 => ?_) (fun c2 => ?_)
      · refine sf_bind (t_Re_readTerm hw hE hl ((TC_1 TC_r (by decide)).2.2 hK)) (fun q5 hq5 => ?_)
        have rq5 : TC v q5.2 := TC_t (TC_1 TC_r (by decide)) hq5
        refine sf_n (fun c3 => ?_) (fun c3 => ?_)
        · refine sf_bind (t_Ke_addItem (ker_of _) (rq5.2.2 hK)) (fun q7 hq7 => ?_)
          have rq7 : TC v q7 := TC_t rq5 hq7
          exact sf_mono (ih _ _ (rq7.2.2 hK) (by rw [rq7.2.1]; rw [sI_add1 (by omega)]; omega)) (fun q hq => TC_t rq7 hq)
        · exact sf_some rq5
      · exact sf_some TC_r
theorem t_Re_readExpression {w : Nat} (hw : 4294967296 < w) {E : Int32 → pd_V → Option (Int32 × pd_V)} {l1 : Int32} {v : pd_V} {m : Int} (hE : ∀ (l : Int32) (u : pd_V), m ≤ l.toInt → l.toInt ≤ 4 → KO u → Sf (E l u) (fun q => TC u q.2)) (hl : m - 1 ≤ l1.toInt) (hK : KO v) : Sf (d_Re_readExpression w E l1 v) (fun q => TC v q.2) := by
  unfold d_Re_readExpression
  have ⟨⟨k1, k2⟩, ⟨k3, k4⟩, ⟨k5, k6⟩, k7, k8⟩ := hK
  refine sf_bind (t_Re_readTerm hw hE hl (TC_r.2.2 hK)) (fun q1 hq1 => ?_)
  have rq1 : TC v q1.2 := TC_t TC_r hq1
  refine sf_n (fun c1 => ?_) (fun c1 => ?_)
  · exact sf_mono (t_Re_readExpression_12 hw hE hl _ _ _ (rq1.2.2 hK) (by rw [rq1.2.1]; have e0 := sI_0; omega)) (fun q hq => TC_t rq1 hq)
  · exact sf_some rq1
theorem t_RE {w : Nat} (hw : 4294967296 < w) : ∀ (n : Nat) (l1 : Int32) (v : pd_V), (5 : Int) - (n : Int) ≤ l1.toInt → l1.toInt ≤ 4 → KO v → Sf (d_RE w n l1 v) (fun q => TC v q.2) := by
  intro n
  induction n with
  | zero => intro l1 v h1 h2 _; exact absurd h1 (by omega)
  | succ n ih => intro l1 v h1 h2 hK; exact t_Re_readExpression hw (m := 5 - (n : Int)) (fun l u a b c => ih l u a b c) (by omega) hK
theorem t_RE5 {w : Nat} (hw : 4294967296 < w) {l1 : Int32} {v : pd_V} (h : 0 ≤ l1.toInt ∧ l1.toInt ≤ 4) (hK : KO v) : Sf (d_RE5 w l1 v) (fun q => TC v q.2) := t_RE hw 5 l1 v (by omega) h.2 hK
theorem t_Re_readStoring {w : Nat} (hw : 4294967296 < w) {l1 : Nat} {v : pd_V} (hl1 : stp l1) (hK : KO v) : Sf (d_Re_readStoring w l1 v) (fun q => TC v q.2) := by
  unfold d_Re_readStoring
  have pl1 : (7 ≤ l1 ∧ l1 < 87) ∨ (92 ≤ l1 ∧ l1 < 172) := hl1
  have ⟨⟨k1, k2⟩, ⟨k3, k4⟩, ⟨k5, k6⟩, k7, k8⟩ := hK
  refine sf_bind (t_Re_take ((TC_g TC_r (by omega)).2.2 hK)) (fun q1 hq1 => ?_)
  have rq1 : TC v q1.2 := TC_t (TC_g TC_r (by omega)) (TC_RM hq1)
  refine sf_d (fun c1 => ?_) (fun c1 => ?_)
  · exact sf_some rq1
  · refine sf_bind (t_RE5 hw (by decide) (rq1.2.2 hK)) (fun q3 hq3 => ?_)
    have rq3 : TC v q3.2 := TC_t rq1 hq3
    refine sf_d (fun c2 => ?_) (fun c2 => ?_)
    · exact sf_some rq3
    · refine sf_bind (t_Re_take (rq3.2.2 hK)) (fun q5 hq5 => ?_)
      have rq5 : TC v q5.2 := TC_t rq3 (TC_RM hq5)
      refine sf_n (fun c3 => ?_) (fun c3 => ?_)
      · refine sf_bind (t_Re_take ((TC_g rq5 (by omega)).2.2 hK)) (fun q7 hq7 => ?_)
        have rq7 : TC v q7.2 := TC_t (TC_g rq5 (by omega)) (TC_RM hq7)
        refine sf_d (fun c4 => ?_) (fun c4 => ?_)
        · exact sf_some rq7
        · refine sf_bind (t_RE5 hw (by decide) (rq7.2.2 hK)) (fun q9 hq9 => ?_)
          have rq9 : TC v q9.2 := TC_t rq7 hq9
          refine sf_n (fun c5 => ?_) (fun c5 => ?_)
          · exact sf_some (TC_g rq9 (by omega))
          · exact sf_some rq9
      · exact sf_some rq5
theorem t_Re_readWhole {w : Nat} (hw : 4294967296 < w) {l1 : Nat} {v : pd_V} (hl1 : stp l1) (hK : KO v) : Sf (d_Re_readWhole w l1 v) (fun q => TC v q.2) := by
  unfold d_Re_readWhole
  have pl1 : (7 ≤ l1 ∧ l1 < 87) ∨ (92 ≤ l1 ∧ l1 < 172) := hl1
  have ⟨⟨k1, k2⟩, ⟨k3, k4⟩, ⟨k5, k6⟩, k7, k8⟩ := hK
  refine sf_bind (t_RE5 hw (by decide) ((TC_g (TC_1 TC_r (by decide)) (by omega)).2.2 hK)) (fun q1 hq1 => ?_)
  have rq1 : TC v q1.2 := TC_t (TC_g (TC_1 TC_r (by decide)) (by omega)) hq1
  refine sf_n (fun c1 => ?_) (fun c1 => ?_)
  · exact sf_some (TC_g (TC_g (TC_g rq1 (by omega)) (by omega)) (by omega))
  · exact sf_some rq1
theorem t_Re_openBlock {l1 : Int32} {v : pd_V} (hK : KO v) : Sf (d_Re_openBlock l1 v) (fun q => TC v q.2) := by
  unfold d_Re_openBlock
  have ⟨⟨k1, k2⟩, ⟨k3, k4⟩, ⟨k5, k6⟩, k7, k8⟩ := hK
  refine sf_le (show (4 : Int32).toInt = 4 from by decide) rfl (fun c1 => ?_) (fun c1 => ?_)
  · exact sf_some TC_r
  · refine sf_bind (t_Re_take (TC_r.2.2 hK)) (fun q2 hq2 => ?_)
    have rq2 : TC v q2.2 := TC_t TC_r (TC_RM hq2)
    refine sf_n (fun c2 => ?_) (fun c2 => ?_)
    · refine sf_c (by rw [hq2.2 5 (by decide)]; exact pin (by omega)) ?_
      exact sf_some (TC_5 (TC_g rq2 (by omega)) (by rw [hq2.2 5 (by decide), sI_add1 (by omega)]; omega))
    · exact sf_some rq2
theorem t_Re_readStatement {w : Nat} (hw : 4294967296 < w) {v : pd_V} (hK : KO v) : Sf (d_Re_readStatement w v) (fun q => TC v q.2) := by
  unfold d_Re_readStatement
  have ⟨⟨k1, k2⟩, ⟨k3, k4⟩, ⟨k5, k6⟩, k7, k8⟩ := hK
  refine sf_bind (t_Re_next (TC_r.2.2 hK)) (fun q1 hq1 => ?_)
  refine sf_n (fun c1 => ?_) (fun c1 => ?_)
  · refine sf_bind (t_Ke_addStep (ker_of _) (TC_r.2.2 hK)) (fun q4 hq4 => ?_)
    have pq4 : (7 ≤ q4.1 ∧ q4.1 < 87) ∨ (92 ≤ q4.1 ∧ q4.1 < 172) := hq4.1
    have rq4 := TC_t TC_r hq4.2
    refine sf_bind (t_Re_readHead hq4.1 (rq4.2.2 hK)) (fun q5 hq5 => ?_)
    have rq5 : TC v q5.2 := TC_t rq4 hq5
    refine sf_n (fun c2 => ?_) (fun c2 => ?_)
    · refine sf_d (fun c3 => ?_) (fun c3 => ?_)
      · refine sf_bind (t_Re_readStoring hw hq4.1 (rq5.2.2 hK)) (fun q8 hq8 => ?_)
        have rq8 : TC v q8.2 := TC_t rq5 hq8
        refine sf_d (fun c4 => ?_) (fun c4 => ?_)
        · exact sf_some rq8
        · refine sf_bind (t_Re_take (rq8.2.2 hK)) (fun q10 hq10 => ?_)
          have rq10 : TC v q10.2 := TC_t rq8 (TC_RM hq10)
          refine sf_d (fun c5 => ?_) (fun c5 => ?_)
          · exact sf_some rq10
          · exact sf_some rq10
      · refine sf_d (fun c6 => ?_) (fun c6 => ?_)
        · refine sf_bind (t_Re_readWhole hw hq4.1 (rq5.2.2 hK)) (fun q13 hq13 => ?_)
          have rq13 : TC v q13.2 := TC_t rq5 hq13
          refine sf_d (fun c7 => ?_) (fun c7 => ?_)
          · exact sf_some rq13
          · refine sf_bind (t_Re_take (rq13.2.2 hK)) (fun q15 hq15 => ?_)
            have rq15 : TC v q15.2 := TC_t rq13 (TC_RM hq15)
            refine sf_d (fun c8 => ?_) (fun c8 => ?_)
            · exact sf_some rq15
            · exact sf_some rq15
        · refine sf_d (fun c9 => ?_) (fun c9 => ?_)
          · refine sf_bind (t_Re_take (rq5.2.2 hK)) (fun q18 hq18 => ?_)
            have rq18 : TC v q18.2 := TC_t rq5 (TC_RM hq18)
            exact sf_some rq18
          · refine sf_d (fun c10 => ?_) (fun c10 => ?_)
            · refine sf_bind (t_Re_readWhole hw hq4.1 (rq5.2.2 hK)) (fun q20 hq20 => ?_)
              have rq20 : TC v q20.2 := TC_t rq5 hq20
              refine sf_d (fun c11 => ?_) (fun c11 => ?_)
              · exact sf_some rq20
              · refine sf_bind (t_Re_openBlock (rq20.2.2 hK)) (fun q22 hq22 => ?_)
                have rq22 : TC v q22.2 := TC_t rq20 hq22
                refine sf_d (fun c12 => ?_) (fun c12 => ?_)
                · exact sf_some rq22
                · exact sf_some rq22
            · refine sf_d (fun c13 => ?_) (fun c13 => ?_)
              · refine sf_bind (t_Re_readWhole hw hq4.1 (rq5.2.2 hK)) (fun q25 hq25 => ?_)
                have rq25 : TC v q25.2 := TC_t rq5 hq25
                refine sf_d (fun c14 => ?_) (fun c14 => ?_)
                · exact sf_some rq25
                · refine sf_bind (t_Re_openBlock (rq25.2.2 hK)) (fun q27 hq27 => ?_)
                  have rq27 : TC v q27.2 := TC_t rq25 hq27
                  refine sf_d (fun c15 => ?_) (fun c15 => ?_)
                  · exact sf_some rq27
                  · exact sf_some rq27
              · refine sf_bind (t_Re_readWhole hw hq4.1 (rq5.2.2 hK)) (fun q29 hq29 => ?_)
                have rq29 : TC v q29.2 := TC_t rq5 hq29
                refine sf_d (fun c16 => ?_) (fun c16 => ?_)
                · exact sf_some rq29
                · refine sf_bind (t_Re_take (rq29.2.2 hK)) (fun q31 hq31 => ?_)
                  have rq31 : TC v q31.2 := TC_t rq29 (TC_RM hq31)
                  refine sf_d (fun c17 => ?_) (fun c17 => ?_)
                  · exact sf_some rq31
                  · exact sf_some rq31
    · exact sf_some rq5
  · exact sf_some TC_r
theorem t_Re_read_19 {w : Nat} (hw : 4294967296 < w) : ∀ (f : Nat) (l1 : Int32) (v : pd_V) (hK : KO v) (hm : ((v 1 1).toInt + 1 - l1.toInt).toNat < f), Sf (d_Re_read_19 w f l1 v) (fun q => TC v q.2) := by
  intro f
  induction f with
  | zero => intro l1 v hK hm; exact absurd hm (Nat.not_lt_zero _)
  | succ f ih =>
    intro l1 v hK hm
    rw [d_Re_read_19]
    have ⟨⟨k1, k2⟩, ⟨k3, k4⟩, ⟨k5, k6⟩, k7, k8⟩ := hK
    refine sf_lt rfl rfl (fun c1 => ?_) (fun c1 => ?_)
    · exact sf_some TC_r
    · refine sf_lt rfl rfl (fun c2 => ?_) (fun c2 => ?_)
      · refine sf_le rfl (show (0 : Int32).toInt = 0 from by decide) (fun c3 => ?_) (fun c3 => ?_)
        · refine sf_bind (t_Re_readStatement hw (TC_r.2.2 hK)) (fun q4 hq4 => ?_)
          have rq4 : TC v q4.2 := TC_t TC_r hq4
          refine sf_n (fun c4 => ?_) (fun c4 => ?_)
          · exact sf_mono (ih _ _ (rq4.2.2 hK) (by rw [rq4.2.1]; rw [sI_add1 (by omega)]; omega)) (fun q hq => TC_t rq4 hq)
          · exact sf_some rq4
        · refine sf_bind (t_Re_next (TC_r.2.2 hK)) (fun q6 hq6 => ?_)
          refine sf_n (fun c5 => ?_) (fun c5 => ?_)
          · refine sf_bind (t_Re_readStatement hw (TC_r.2.2 hK)) (fun q8 hq8 => ?_)
            have rq8 : TC v q8.2 := TC_t TC_r hq8
            refine sf_n (fun c6 => ?_) (fun c6 => ?_)
            · exact sf_mono (ih _ _ (rq8.2.2 hK) (by rw [rq8.2.1]; rw [sI_add1 (by omega)]; omega)) (fun q hq => TC_t rq8 hq)
            · exact sf_some rq8
          · refine sf_bind (t_Re_closeBlock (TC_r.2.2 hK)) (fun q10 hq10 => ?_)
            have rq10 : TC v q10 := TC_t TC_r hq10
            exact sf_mono (ih _ _ (rq10.2.2 hK) (by rw [rq10.2.1]; rw [sI_add1 (by omega)]; omega)) (fun q hq => TC_t rq10 hq)
      · refine sf_n (fun c7 => ?_) (fun c7 => ?_)
        · exact sf_some TC_r
        · exact sf_some TC_r
theorem t_Re_read {w : Nat} (hw : 4294967296 < w) {v : pd_V} (hK : KO v) : Sf (d_Re_read w v) (fun q => TC v q.2) := by
  unfold d_Re_read
  have ⟨⟨k1, k2⟩, ⟨k3, k4⟩, ⟨k5, k6⟩, k7, k8⟩ := hK
  refine sf_bind (t_Ke_empty (ker_of _)) (fun q1 hq1 => ?_)
  have rq1 : TC v q1 := TC_t (TC_5 (TC_1 TC_r (by decide)) (by decide)) hq1
  exact sf_mono (t_Re_read_19 hw _ _ _ (rq1.2.2 hK) (by rw [rq1.2.1]; have e0 := sI_0; omega)) (fun q hq => TC_t rq1 hq)
theorem t_Ke_spread_6 {w : Nat} (hw : 4294967296 < w) {l0 : Nat} (hl0 : ker l0) : ∀ (f : Nat) (l1 : Int32) (l2 : Int32) (l3 : Int32) (v : pd_V) (hm : ((v l0 3).toInt - l3.toInt).toNat < f), Sf (d_Ke_spread_6 w f l0 l1 l2 l3 v) (fun q => RV l0 v q.2) := by
  intro f
  induction f with
  | zero => intro l1 l2 l3 v hm; exact absurd hm (Nat.not_lt_zero _)
  | succ f ih =>
    intro l1 l2 l3 v hm
    rw [d_Ke_spread_6]
    have pl0 : l0 = 3 ∨ l0 = 88 := hl0
    have bb := toInt_b (v l0 3)
    refine sf_le rfl rfl (fun c1 => ?_) (fun c1 => ?_)
    · exact sf_some RV_r
    · refine sf_bind (t_Ke_stepAt hl0) (fun q2 hq2 => ?_)
      have pq2 : (7 ≤ q2 ∧ q2 < 87) ∨ (92 ≤ q2 ∧ q2 < 172) := hq2
      refine sf_d (fun c2 => ?_) (fun c2 => ?_)
      · refine sf_d (fun c3 => ?_) (fun c3 => ?_)
        · refine sf_n (fun c4 => ?_) (fun c4 => ?_)
          · exact sf_mono (ih _ _ _ _ (by rw [(RV_w RV_r).2 3 (by decide)]; rw [sI_add1 (by omega)]; omega)) (fun q hq => RV_t (RV_w RV_r) hq)
          · refine sf_d (fun c5 => ?_) (fun c5 => ?_)
            · exact sf_mono (ih _ _ _ _ (by rw [(RV_w RV_r).2 3 (by decide)]; rw [sI_add1 (by omega)]; omega)) (fun q hq => RV_t (RV_w RV_r) hq)
            · exact sf_mono (ih _ _ _ _ (by rw [(RV_w RV_r).2 3 (by decide)]; rw [sI_add1 (by omega)]; omega)) (fun q hq => RV_t (RV_w RV_r) hq)
        · refine sf_d (fun c6 => ?_) (fun c6 => ?_)
          · exact sf_mono (ih _ _ _ _ (by rw [sI_add1 (by omega)]; omega)) (fun q hq => RV_t RV_r hq)
          · refine sf_d (fun c7 => ?_) (fun c7 => ?_)
            · exact sf_mono (ih _ _ _ _ (by rw [sI_add1 (by omega)]; omega)) (fun q hq => RV_t RV_r hq)
            · refine sf_d (fun c8 => ?_) (fun c8 => ?_)
              · refine sf_d (fun c9 => ?_) (fun c9 => ?_)
                · exact sf_mono (ih _ _ _ _ (by rw [(RV_w RV_r).2 3 (by decide)]; rw [sI_add1 (by omega)]; omega)) (fun q hq => RV_t (RV_w RV_r) hq)
                · refine sf_n (fun c10 => ?_) (fun c10 => ?_)
                  · exact sf_mono (ih _ _ _ _ (by rw [(RV_w RV_r).2 3 (by decide)]; rw [sI_add1 (by omega)]; omega)) (fun q hq => RV_t (RV_w RV_r) hq)
                  · exact sf_mono (ih _ _ _ _ (by rw [(RV_w RV_r).2 3 (by decide)]; rw [sI_add1 (by omega)]; omega)) (fun q hq => RV_t (RV_w RV_r) hq)
              · refine sf_d (fun c11 => ?_) (fun c11 => ?_)
                · exact sf_mono (ih _ _ _ _ (by rw [sI_add1 (by omega)]; omega)) (fun q hq => RV_t RV_r hq)
                · refine sf_d (fun c12 => ?_) (fun c12 => ?_)
                  · refine sf_d (fun c13 => ?_) (fun c13 => ?_)
                    · exact sf_mono (ih _ _ _ _ (by rw [sI_add1 (by omega)]; omega)) (fun q hq => RV_t RV_r hq)
                    · exact sf_mono (ih _ _ _ _ (by rw [sI_add1 (by omega)]; omega)) (fun q hq => RV_t RV_r hq)
                  · refine sf_d (fun c14 => ?_) (fun c14 => ?_)
                    · refine sf_d (fun c15 => ?_) (fun c15 => ?_)
                      · exact sf_mono (ih _ _ _ _ (by rw [sI_add1 (by omega)]; omega)) (fun q hq => RV_t RV_r hq)
                      · exact sf_mono (ih _ _ _ _ (by rw [sI_add1 (by omega)]; omega)) (fun q hq => RV_t RV_r hq)
                    · refine sf_d (fun c16 => ?_) (fun c16 => ?_)
                      · exact sf_mono (ih _ _ _ _ (by rw [sI_add1 (by omega)]; omega)) (fun q hq => RV_t RV_r hq)
                      · refine sf_d (fun c17 => ?_) (fun c17 => ?_)
                        · exact sf_mono (ih _ _ _ _ (by rw [sI_add1 (by omega)]; omega)) (fun q hq => RV_t RV_r hq)
                        · refine sf_d (fun c18 => ?_) (fun c18 => ?_)
                          · exact sf_mono (ih _ _ _ _ (by rw [sI_add1 (by omega)]; omega)) (fun q hq => RV_t RV_r hq)
                          · exact sf_mono (ih _ _ _ _ (by rw [sI_add1 (by omega)]; omega)) (fun q hq => RV_t RV_r hq)
      · refine sf_d (fun c19 => ?_) (fun c19 => ?_)
        · refine sf_n (fun c20 => ?_) (fun c20 => ?_)
          · exact sf_mono (ih _ _ _ _ (by rw [(RV_w RV_r).2 3 (by decide)]; rw [sI_add1 (by omega)]; omega)) (fun q hq => RV_t (RV_w RV_r) hq)
          · refine sf_d (fun c21 => ?_) (fun c21 => ?_)
            · exact sf_mono (ih _ _ _ _ (by rw [(RV_w RV_r).2 3 (by decide)]; rw [sI_add1 (by omega)]; omega)) (fun q hq => RV_t (RV_w RV_r) hq)
            · exact sf_mono (ih _ _ _ _ (by rw [(RV_w RV_r).2 3 (by decide)]; rw [sI_add1 (by omega)]; omega)) (fun q hq => RV_t (RV_w RV_r) hq)
        · refine sf_d (fun c22 => ?_) (fun c22 => ?_)
          · exact sf_mono (ih _ _ _ _ (by rw [sI_add1 (by omega)]; omega)) (fun q hq => RV_t RV_r hq)
          · refine sf_d (fun c23 => ?_) (fun c23 => ?_)
            · exact sf_mono (ih _ _ _ _ (by rw [sI_add1 (by omega)]; omega)) (fun q hq => RV_t RV_r hq)
            · refine sf_d (fun c24 => ?_) (fun c24 => ?_)
              · refine sf_d (fun c25 => ?_) (fun c25 => ?_)
                · exact sf_mono (ih _ _ _ _ (by rw [(RV_w RV_r).2 3 (by decide)]; rw [sI_add1 (by omega)]; omega)) (fun q hq => RV_t (RV_w RV_r) hq)
                · refine sf_n (fun c26 => ?_) (fun c26 => ?_)
                  · exact sf_mono (ih _ _ _ _ (by rw [(RV_w RV_r).2 3 (by decide)]; rw [sI_add1 (by omega)]; omega)) (fun q hq => RV_t (RV_w RV_r) hq)
                  · exact sf_mono (ih _ _ _ _ (by rw [(RV_w RV_r).2 3 (by decide)]; rw [sI_add1 (by omega)]; omega)) (fun q hq => RV_t (RV_w RV_r) hq)
              · refine sf_d (fun c27 => ?_) (fun c27 => ?_)
                · exact sf_mono (ih _ _ _ _ (by rw [sI_add1 (by omega)]; omega)) (fun q hq => RV_t RV_r hq)
                · refine sf_d (fun c28 => ?_) (fun c28 => ?_)
                  · refine sf_d (fun c29 => ?_) (fun c29 => ?_)
                    · exact sf_mono (ih _ _ _ _ (by rw [sI_add1 (by omega)]; omega)) (fun q hq => RV_t RV_r hq)
                    · exact sf_mono (ih _ _ _ _ (by rw [sI_add1 (by omega)]; omega)) (fun q hq => RV_t RV_r hq)
                  · refine sf_d (fun c30 => ?_) (fun c30 => ?_)
                    · refine sf_d (fun c31 => ?_) (fun c31 => ?_)
                      · exact sf_mono (ih _ _ _ _ (by rw [sI_add1 (by omega)]; omega)) (fun q hq => RV_t RV_r hq)
                      · exact sf_mono (ih _ _ _ _ (by rw [sI_add1 (by omega)]; omega)) (fun q hq => RV_t RV_r hq)
                    · refine sf_d (fun c32 => ?_) (fun c32 => ?_)
                      · exact sf_mono (ih _ _ _ _ (by rw [sI_add1 (by omega)]; omega)) (fun q hq => RV_t RV_r hq)
                      · refine sf_d (fun c33 => ?_) (fun c33 => ?_)
                        · exact sf_mono (ih _ _ _ _ (by rw [sI_add1 (by omega)]; omega)) (fun q hq => RV_t RV_r hq)
                        · refine sf_d (fun c34 => ?_) (fun c34 => ?_)
                          · exact sf_mono (ih _ _ _ _ (by rw [sI_add1 (by omega)]; omega)) (fun q hq => RV_t RV_r hq)
                          · exact sf_mono (ih _ _ _ _ (by rw [sI_add1 (by omega)]; omega)) (fun q hq => RV_t RV_r hq)
theorem t_Ke_spread {w : Nat} (hw : 4294967296 < w) {l0 : Nat} {v : pd_V} (hl0 : ker l0) : Sf (d_Ke_spread w l0 v) (fun q => RV l0 v q.2) := by
  unfold d_Ke_spread
  have pl0 : l0 = 3 ∨ l0 = 88 := hl0
  exact sf_mono (t_Ke_spread_6 hw hl0 _ _ _ _ _ (by have e0 := sI_0; have b1 := toInt_b (v l0 3); omega)) (fun q hq => RV_t RV_r hq)
theorem t_Ke_findVarying_9 {w : Nat} (hw : 4294967296 < w) {l0 : Nat} (hl0 : ker l0) : ∀ (f : Nat) (l1 : Int32) (l2 : Int32) (v : pd_V) (hm : (9 - l2.toInt).toNat < f), Sf (d_Ke_findVarying_9 w f l0 l1 l2 v) (fun q => RV l0 v q.2) := by
  intro f
  induction f with
  | zero => intro l1 l2 v hm; exact absurd hm (Nat.not_lt_zero _)
  | succ f ih =>
    intro l1 l2 v hm
    rw [d_Ke_findVarying_9]
    have pl0 : l0 = 3 ∨ l0 = 88 := hl0
    refine sf_lt (show (8 : Int32).toInt = 8 from by decide) rfl (fun c1 => ?_) (fun c1 => ?_)
    · exact sf_some RV_r
    · refine sf_bind (t_Ke_spread hw hl0) (fun q2 hq2 => ?_)
      have rq2 : RV l0 v q2.2 := RV_t RV_r hq2
      refine sf_n (fun c2 => ?_) (fun c2 => ?_)
      · exact sf_mono (ih _ _ _ (by rw [sI_add1 (by omega)]; omega)) (fun q hq => RV_t rq2 hq)
      · exact sf_some rq2
theorem t_Ke_findVarying {w : Nat} (hw : 4294967296 < w) {l0 : Nat} {v : pd_V} (hl0 : ker l0) : Sf (d_Ke_findVarying w l0 v) (fun q => RV l0 v q.2) := by
  unfold d_Ke_findVarying
  have pl0 : l0 = 3 ∨ l0 = 88 := hl0
  exact sf_mono (t_Ke_findVarying_9 hw hl0 _ _ _ _ (by have e0 := sI_0; omega)) (fun q hq => RV_t (RV_w RV_r) hq)
theorem t_Re_handOver {l1 : Nat} {v : pd_V} (hl1 : ker l1) : Sf (d_Re_handOver l1 v) (fun q => ker q.1 ∧ TC v q.2) := by
  unfold d_Re_handOver
  have pl1 : l1 = 3 ∨ l1 = 88 := hl1
  exact sf_some ⟨(ker_of _), (TC_1 TC_r (by decide))⟩
