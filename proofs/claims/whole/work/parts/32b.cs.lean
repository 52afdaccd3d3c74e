/-! the class goes well -/
theorem ofN1 (k : Nat) : Int32.ofNat k + (1 : Int32) = Int32.ofNat (k + 1) := (Int32.ofNat_add k 1).symm
theorem t_Arr_fill_5 {w a n : Nat} {x : Int32} (hn : n ≤ 1000) : ∀ (f k : Nat) (v : pd_V), k ≤ n → n - k < f → Sf (d_Arr_fill_5 w f a n x (Int32.ofNat k) (Int32.ofNat n) v) (fun q => ∀ b, b ≠ a → q b = v b) := by
  intro f
  induction f with
  | zero => intro k v _ h; exact absurd h (Nat.not_lt_zero _)
  | succ f ih =>
    intro k v hk hf
    rw [d_Arr_fill_5, le_nat hn (by omega)]
    refine sf_d (fun c => sf_some (fun _ _ => rfl)) (fun c => ?_)
    refine sf_c (in_nat (by omega) hn) ?_
    rw [ofN1]
    exact sf_mono (ih (k + 1) _ (by omega) (by omega)) (fun q hq b hb => (hq b hb).trans (pd_wa hb))
theorem t_Arr_fill {w a n : Nat} (hw : 4294967296 < w) {x : Int32} {v : pd_V} (hn : n ≤ 1000) : Sf (d_Arr_fill w a n x v) (fun q => ∀ b, b ≠ a → q b = v b) := by
  unfold d_Arr_fill
  exact t_Arr_fill_5 hn w 0 v (Nat.zero_le _) (by omega)
theorem RB_f {l a : Nat} {v u q : pd_V} (h : RB l v u) (hq : ∀ b, b ≠ a → q b = u b) (ha : l < a ∧ a < l + 10) : RB l v q :=
  ⟨fun b hb => (hq b (by omega)).trans (h.1 b hb), fun z => by have := h.2 z; unfold Bz at *; rw [hq l (by omega)]; exact this⟩
theorem t_Cr_gather {w : Nat} (hw : 4294967296 < w) {l0 l1 : Nat} {l2 : Int32} {v : pd_V} (hl0 : crw l0) : Sf (d_Cr_gather w l0 l1 16 l2 v) (fun q => RB l0 v q) := by
  unfold d_Cr_gather
  refine sf_c (by decide) ?_
  refine sf_bind (t_Arr_fill hw (by decide)) (fun q3 hq3 => ?_)
  have r3 := RB_f (RB_f (l := l0) RB_r (fun b hb => va_up_ne _ _ hb) (by omega)) hq3 (by omega)
  refine sf_bind (t_Arr_fill hw (by decide)) (fun q4 hq4 => ?_)
  have r4 := RB_f r3 hq4 (by omega)
  refine sf_bind (t_Arr_fill hw (by decide)) (fun q5 hq5 => ?_)
  have r5 := RB_f r4 hq5 (by omega)
  refine sf_bind (t_Arr_fill hw (by decide)) (fun q6 hq6 => ?_)
  have r6 := RB_f r5 hq6 (by omega)
  exact sf_some (RB_k r6 (by decide))
theorem t_To_comeTogether {l1 : Int32} {v : pd_V} : Sf (d_To_comeTogether l1 v) (fun q => Fr 173 186 v q) := by
  unfold d_To_comeTogether
  refine sf_c (by exact in3) ?_
  refine sf_c (by exact in3) ?_
  exact sf_some (Fr_w (Fr_w Fr_r (by omega)) (by omega))
theorem t_To_passOver {l1 : Nat} {v : pd_V} (hl1 : stp l1) : Sf (d_To_passOver l1 v) (fun q => Fr 173 186 v q.2) := by
  unfold d_To_passOver
  have pl1 : (7 ≤ l1 ∧ l1 < 87) ∨ (92 ≤ l1 ∧ l1 < 172) := hl1
  refine sf_d (fun c1 => ?_) (fun c1 => ?_)
  · exact sf_some Fr_r
  · refine sf_d (fun c2 => ?_) (fun c2 => ?_)
    · exact sf_some Fr_r
    · refine sf_d (fun c3 => ?_) (fun c3 => ?_)
      · refine sf_c (by exact in3) ?_
        exact sf_some (Fr_w Fr_r (by omega))
      · refine sf_d (fun c4 => ?_) (fun c4 => ?_)
        · refine sf_bind (t_To_comeTogether) (fun q6 hq6 => ?_)
          have rq6 : Fr 173 186 v q6 := Fr_t Fr_r (Fr_m hq6 (by omega))
          exact sf_some rq6
        · refine sf_d (fun c5 => ?_) (fun c5 => ?_)
          · refine sf_d (fun c6 => ?_) (fun c6 => ?_)
            · refine sf_bind (t_To_comeTogether) (fun q9 hq9 => ?_)
              have rq9 : Fr 173 186 v q9 := Fr_t Fr_r (Fr_m hq9 (by omega))
              exact sf_some rq9
            · exact sf_some Fr_r
          · exact sf_some Fr_r
theorem t_To_moveToNext_2 {w : Nat} (hw : 4294967296 < w) {l1 : Nat} (hl1 : ker l1) : ∀ (f : Nat) (l2 : Int32) (v : pd_V) (hm : (82 - l2.toInt).toNat < f), Sf (d_To_moveToNext_2 w f l1 l2 v) (fun q => Fr 173 186 v q) := by
  intro f
  induction f with
  | zero => intro l2 v hm; exact absurd hm (Nat.not_lt_zero _)
  | succ f ih =>
    intro l2 v hm
    rw [d_To_moveToNext_2]
    have pl1 : l1 = 3 ∨ l1 = 88 := hl1
    refine sf_lt (show (81 : Int32).toInt = 81 from by decide) rfl (fun c1 => ?_) (fun c1 => ?_)
    · exact sf_some (Fr_w (Fr_w Fr_r (by omega)) (by omega))
    · refine sf_lt rfl rfl (fun c2 => ?_) (fun c2 => ?_)
      · refine sf_bind (t_Ke_stepAt hl1) (fun q3 hq3 => ?_)
        have pq3 : (7 ≤ q3 ∧ q3 < 87) ∨ (92 ≤ q3 ∧ q3 < 172) := hq3
        refine sf_d (fun c3 => ?_) (fun c3 => ?_)
        · refine sf_bind (t_To_passOver hq3) (fun q6 hq6 => ?_)
          have rq6 : Fr 173 186 v q6.2 := Fr_t Fr_r (Fr_m hq6 (by omega))
          exact sf_mono (ih _ _ (by rw [sI_add1 (by omega)]; omega)) (fun q hq => Fr_t (Fr_w rq6 (by omega)) hq)
        · refine sf_d (fun c4 => ?_) (fun c4 => ?_)
          · refine sf_bind (t_To_passOver hq3) (fun q8 hq8 => ?_)
            have rq8 : Fr 173 186 v q8.2 := Fr_t Fr_r (Fr_m hq8 (by omega))
            exact sf_mono (ih _ _ (by rw [sI_add1 (by omega)]; omega)) (fun q hq => Fr_t (Fr_w rq8 (by omega)) hq)
          · exact sf_some Fr_r
      · exact sf_some (Fr_w (Fr_w Fr_r (by omega)) (by omega))
theorem t_To_moveToNext {w : Nat} (hw : 4294967296 < w) {l1 : Nat} {v : pd_V} (hl1 : ker l1) : Sf (d_To_moveToNext w l1 v) (fun q => Fr 173 186 v q) := by
  unfold d_To_moveToNext
  have pl1 : l1 = 3 ∨ l1 = 88 := hl1
  exact sf_mono (t_To_moveToNext_2 hw hl1 _ _ _ (by have e0 := sI_0; omega)) (fun q hq => Fr_t Fr_r (Fr_m hq (by omega)))
theorem t_To_begin {w : Nat} (hw : 4294967296 < w) {l1 l2 : Nat} {l3 : Int32} {v : pd_V} (hl1 : ker l1) : Sf (d_To_begin w l1 l2 16 l3 v) (fun q => Fr 173 186 v q) := by
  unfold d_To_begin
  refine sf_bind (t_Cr_gather hw crw_174) (fun q1 hq1 => ?_)
  have r1 : Fr 173 186 v q1 := Fr_m hq1.1 (by omega)
  refine sf_bind (t_Arr_fill hw (by decide)) (fun q2 hq2 => ?_)
  have r2 : Fr 173 186 v q2 := Fr_t r1 (fun b hb => hq2 b (by omega))
  refine sf_bind (t_To_moveToNext hw hl1) (fun q3 hq3 => ?_)
  exact sf_some (Fr_t (Fr_w (Fr_w (Fr_w (Fr_w (Fr_w (Fr_w r2 (by omega)) (by omega)) (by omega)) (by omega)) (by omega)) (by omega)) hq3)
theorem t_Ke_kindAt {l0 : Nat} {l1 : Int32} {v : pd_V} (hl0 : ker l0) : Sf (d_Ke_kindAt l0 l1 v) (fun _ => True) := by
  unfold d_Ke_kindAt
  have pl0 : l0 = 3 ∨ l0 = 88 := hl0
  refine sf_lt rfl (show (0 : Int32).toInt = 0 from by decide) (fun c1 => ?_) (fun c1 => ?_)
  · exact sf_some trivial
  · refine sf_le (show (160 : Int32).toInt = 160 from by decide) rfl (fun c2 => ?_) (fun c2 => ?_)
    · exact sf_some trivial
    · refine sf_c (by exact pin (by omega)) ?_
      exact sf_some trivial
theorem t_Ke_valueAt {l0 : Nat} {l1 : Int32} {v : pd_V} (hl0 : ker l0) : Sf (d_Ke_valueAt l0 l1 v) (fun _ => True) := by
  unfold d_Ke_valueAt
  have pl0 : l0 = 3 ∨ l0 = 88 := hl0
  refine sf_lt rfl (show (0 : Int32).toInt = 0 from by decide) (fun c1 => ?_) (fun c1 => ?_)
  · exact sf_some trivial
  · refine sf_le (show (160 : Int32).toInt = 160 from by decide) rfl (fun c2 => ?_) (fun c2 => ?_)
    · exact sf_some trivial
    · refine sf_c (by exact pin (by omega)) ?_
      exact sf_some trivial
theorem t_Cr_variableOf {l0 : Nat} {l1 : Int32} {l2 : Int32} {v : pd_V} (hl0 : crw l0) : Sf (d_Cr_variableOf l0 l1 l2 v) (fun _ => True) := by
  unfold d_Cr_variableOf
  have pl0 : l0 = 174 ∨ l0 = 187 := hl0
  refine sf_c (by exact inslot) ?_
  exact sf_some trivial
theorem cr_out {k n : Int32} (h : d_Cr_isOutside k n = 0) : 0 ≤ k.toInt ∧ k.toInt < n.toInt := by
  unfold d_Cr_isOutside at h
  have e : (0 : Int32).toInt = 0 := by decide
  by_cases c : k < 0
  · rw [decide_eq_true c] at h
    exact absurd (show (1 : Int32) = 0 from h) (by decide)
  · have c' : ¬ k.toInt < (0 : Int32).toInt := fun q => c (Int32.lt_iff_toInt_lt.mpr q)
    rw [decide_eq_false c] at h
    by_cases c2 : k < n
    · have := Int32.lt_iff_toInt_lt.mp c2
      omega
    · rw [decide_eq_false c2] at h
      exact absurd (show (1 : Int32) = 0 from h) (by decide)
theorem t_Cr_inputAt {l0 : Nat} {l1 : Int32} {v : pd_V} (hl0 : crw l0) : Sf (d_Cr_inputAt l0 l1 v) (fun q => RB l0 v q.2) := by
  unfold d_Cr_inputAt
  refine sf_d (fun c1 => ?_) (fun c1 => ?_)
  · have h := cr_out c1
    have e : (16 : Int32).toInt = 16 := by decide
    exact sf_c (pin (by omega)) (sf_some RB_r)
  · exact sf_some (RB_9 RB_r (Or.inr rfl))
theorem t_Cr_ownCellAt {l0 : Nat} {l1 : Int32} {l2 : Int32} {v : pd_V} (hl0 : crw l0) : Sf (d_Cr_ownCellAt l0 l1 l2 v) (fun q => RB l0 v q.2) := by
  unfold d_Cr_ownCellAt
  have pl0 : l0 = 174 ∨ l0 = 187 := hl0
  refine sf_d (fun c1 => ?_) (fun c1 => ?_)
  · refine sf_c (by exact inslot) ?_
    exact sf_some RB_r
  · exact sf_some (RB_9 RB_r (Or.inr rfl))
theorem t_Cr_reckon_6 {w : Nat} (hw : 4294967296 < w) {l0 : Nat} {l1 : Nat} {l3 : Int32} {l4 : Int32} (hl0 : crw l0) (hl1 : ker l1) : ∀ (f : Nat) (l5 : Int32) (l6 : Int32) (v : pd_V) (hm : (l3.toInt - l6.toInt).toNat < f), Sf (d_Cr_reckon_6 w f l0 l1 l3 l4 l5 l6 v) (fun q => RB l0 v q.2) := by
  intro f
  induction f with
  | zero => intro l5 l6 v hm; exact absurd hm (Nat.not_lt_zero _)
  | succ f ih =>
    intro l5 l6 v hm
    rw [d_Cr_reckon_6]
    have pl0 : l0 = 174 ∨ l0 = 187 := hl0
    have pl1 : l1 = 3 ∨ l1 = 88 := hl1
    have bb := toInt_b l3
    refine sf_le rfl rfl (fun c1 => ?_) (fun c1 => ?_)
    · refine sf_c (by exact in7) ?_
      exact sf_some RB_r
    · refine sf_n (fun c2 => ?_) (fun c2 => ?_)
      · refine sf_c (by exact in7) ?_
        exact sf_some RB_r
      · refine sf_bind (t_Ke_kindAt hl1) (fun q5 hq5 => ?_)
        refine sf_d (fun c3 => ?_) (fun c3 => ?_)
        · refine sf_bind (t_Ke_valueAt hl1) (fun q7 hq7 => ?_)
          refine sf_c (by exact in7) ?_
          exact sf_mono (ih _ _ _ (by rw [sI_add1 (by omega)]; omega)) (fun q hq => RB_t (RB_a RB_r (by omega)) hq)
        · refine sf_d (fun c4 => ?_) (fun c4 => ?_)
          · refine sf_c (by exact in7) ?_
            refine sf_bind (t_Cr_inputAt hl0) (fun q11 hq11 => ?_)
            have rq11 : RB l0 v q11.2 := RB_t RB_r hq11
            refine sf_c (by exact in7) ?_
            exact sf_mono (ih _ _ _ (by rw [sI_add1 (by omega)]; omega)) (fun q hq => RB_t (RB_a rq11 (by omega)) hq)
          · refine sf_d (fun c5 => ?_) (fun c5 => ?_)
            · refine sf_c (by exact in7) ?_
              refine sf_bind (t_Cr_ownCellAt hl0) (fun q15 hq15 => ?_)
              have rq15 : RB l0 v q15.2 := RB_t RB_r hq15
              refine sf_c (by exact in7) ?_
              exact sf_mono (ih _ _ _ (by rw [sI_add1 (by omega)]; omega)) (fun q hq => RB_t (RB_a rq15 (by omega)) hq)
            · refine sf_d (fun c6 => ?_) (fun c6 => ?_)
              · refine sf_bind (t_Ke_valueAt hl1) (fun q18 hq18 => ?_)
                refine sf_bind (t_Cr_variableOf hl0) (fun q19 hq19 => ?_)
                refine sf_c (by exact in7) ?_
                exact sf_mono (ih _ _ _ (by rw [sI_add1 (by omega)]; omega)) (fun q hq => RB_t (RB_a RB_r (by omega)) hq)
              · refine sf_d (fun c7 => ?_) (fun c7 => ?_)
                · refine sf_c (by exact in7) ?_
                  exact sf_mono (ih _ _ _ (by rw [sI_add1 (by omega)]; omega)) (fun q hq => RB_t (RB_a RB_r (by omega)) hq)
                · refine sf_c (by exact in7) ?_
                  refine sf_c (by exact in7) ?_
                  refine sf_c (by exact in7) ?_
                  exact sf_mono (ih _ _ _ (by rw [sI_add1 (by omega)]; omega)) (fun q hq => RB_t (RB_a RB_r (by omega)) hq)
theorem t_Cr_reckon {w : Nat} (hw : 4294967296 < w) {l0 : Nat} {l1 : Nat} {l2 : Int32} {l3 : Int32} {l4 : Int32} {v : pd_V} (hl0 : crw l0) (hl1 : ker l1) : Sf (d_Cr_reckon w l0 l1 l2 l3 l4 v) (fun q => RB l0 v q.2) := by
  unfold d_Cr_reckon
  have pl0 : l0 = 174 ∨ l0 = 187 := hl0
  have pl1 : l1 = 3 ∨ l1 = 88 := hl1
  exact sf_mono (t_Cr_reckon_6 hw hl0 hl1 _ _ _ _ (by have b1 := toInt_b l3; have b2 := toInt_b l2; omega)) (fun q hq => RB_t RB_r hq)
theorem t_Cr_trap {l0 : Nat} {l1 : Nat} {l2 : Int32} {v : pd_V} (hl0 : crw l0) (hl1 : stp l1) : Sf (d_Cr_trap l0 l1 l2 v) (fun q => RB l0 v q) := by
  unfold d_Cr_trap
  have pl0 : l0 = 174 ∨ l0 = 187 := hl0
  have pl1 : (7 ≤ l1 ∧ l1 < 87) ∨ (92 ≤ l1 ∧ l1 < 172) := hl1
  refine sf_c (by exact in7) ?_
  exact sf_some (RB_k (RB_a RB_r (by omega)) (by decide))
theorem t_Cr_decide {w : Nat} (hw : 4294967296 < w) {l0 : Nat} {l1 : Nat} {l2 : Nat} {l3 : Int32} {v : pd_V} (hl0 : crw l0) (hl1 : ker l1) (hl2 : stp l2) : Sf (d_Cr_decide w l0 l1 l2 l3 v) (fun q => RB l0 v q.2) := by
  unfold d_Cr_decide
  have pl0 : l0 = 174 ∨ l0 = 187 := hl0
  have pl1 : l1 = 3 ∨ l1 = 88 := hl1
  have pl2 : (7 ≤ l2 ∧ l2 < 87) ∨ (92 ≤ l2 ∧ l2 < 172) := hl2
  refine sf_bind (t_Cr_reckon hw hl0 hl1) (fun q1 hq1 => ?_)
  have rq1 : RB l0 v q1.2 := RB_t (RB_9 RB_r (Or.inl rfl)) hq1
  refine sf_d (fun c1 => ?_) (fun c1 => ?_)
  · exact sf_some rq1
  · refine sf_bind (t_Cr_trap hl0 hl2) (fun q3 hq3 => ?_)
    have rq3 : RB l0 v q3 := RB_t rq1 hq3
    exact sf_some rq3
theorem t_To_part_5 {w : Nat} (hw : 4294967296 < w) {l1 : Nat} {l2 : Nat} (hl1 : ker l1) (hl2 : stp l2) : ∀ (f : Nat) (l3 : Int32) (l4 : Int32) (v : pd_V) (hm : (8 - l4.toInt).toNat < f), Sf (d_To_part_5 w f l1 l2 l3 l4 v) (fun q => Fr 173 186 v q) := by
  intro f
  induction f with
  | zero => intro l3 l4 v hm; exact absurd hm (Nat.not_lt_zero _)
  | succ f ih =>
    intro l3 l4 v hm
    rw [d_To_part_5]
    have pl1 : l1 = 3 ∨ l1 = 88 := hl1
    have pl2 : (7 ≤ l2 ∧ l2 < 87) ∨ (92 ≤ l2 ∧ l2 < 172) := hl2
    refine sf_le (show (8 : Int32).toInt = 8 from by decide) rfl (fun c1 => ?_) (fun c1 => ?_)
    · refine sf_c (by exact in3) ?_
      refine sf_c (by exact in3) ?_
      refine sf_c (by exact in3) ?_
      exact sf_some (Fr_w (Fr_w (Fr_w Fr_r (by omega)) (by omega)) (by omega))
    · refine sf_d (fun c2 => ?_) (fun c2 => ?_)
      · exact sf_mono (ih _ _ _ (by rw [sI_add1 (by omega)]; omega)) (fun q hq => Fr_t Fr_r hq)
      · refine sf_bind (t_Cr_decide hw crw_174 hl1 hl2) (fun q7 hq7 => ?_)
        have rq7 : Fr 173 186 v q7.2 := Fr_t Fr_r (Fr_m hq7.1 (by omega))
        refine sf_d (fun c3 => ?_) (fun c3 => ?_)
        · exact sf_mono (ih _ _ _ (by rw [sI_add1 (by omega)]; omega)) (fun q hq => Fr_t rq7 hq)
        · exact sf_mono (ih _ _ _ (by rw [sI_add1 (by omega)]; omega)) (fun q hq => Fr_t rq7 hq)
theorem t_To_part {w : Nat} (hw : 4294967296 < w) {l1 : Nat} {l2 : Nat} {v : pd_V} (hl1 : ker l1) (hl2 : stp l2) : Sf (d_To_part w l1 l2 v) (fun q => Fr 173 186 v q) := by
  unfold d_To_part
  have pl1 : l1 = 3 ∨ l1 = 88 := hl1
  have pl2 : (7 ≤ l2 ∧ l2 < 87) ∨ (92 ≤ l2 ∧ l2 < 172) := hl2
  exact sf_mono (t_To_part_5 hw hl1 hl2 _ _ _ _ (by have e0 := sI_0; omega)) (fun q hq => Fr_t Fr_r (Fr_m hq (by omega)))
theorem t_Mat_floorMod {l0 : Int32} {v : pd_V} : Sf (d_Mat_floorMod l0 (8 : Int32) v) (fun _ => True) := by
  unfold d_Mat_floorMod
  refine sf_c (by decide) ?_
  refine sf_d (fun _ => sf_some trivial) (fun _ => ?_)
  exact sf_d (fun _ => sf_some trivial) (fun _ => sf_some trivial)
theorem t_Cr_exchange_118 {w : Nat} (hw : 4294967296 < w) {l0 : Nat} {l2 : Nat} {l4 : Int32} (hl0 : crw l0) (hl2 : stp l2) : ∀ (f : Nat) (l5 : Int32) (v : pd_V) (hn : 0 ≤ l5.toInt) (hm : (8 - l5.toInt).toNat < f), Sf (d_Cr_exchange_118 w f l0 l2 l4 l5 v) (fun q => RB l0 v q) := by
  intro f
  induction f with
  | zero => intro l5 v hn hm; exact absurd hm (Nat.not_lt_zero _)
  | succ f ih =>
    intro l5 v hn hm
    rw [d_Cr_exchange_118]
    have pl0 : l0 = 174 ∨ l0 = 187 := hl0
    have pl2 : (7 ≤ l2 ∧ l2 < 87) ∨ (92 ≤ l2 ∧ l2 < 172) := hl2
    refine sf_le (show (8 : Int32).toInt = 8 from by decide) rfl (fun c1 => ?_) (fun c1 => ?_)
    · exact sf_some RB_r
    · refine sf_d (fun c2 => ?_) (fun c2 => ?_)
      · exact sf_mono (ih _ _ (by rw [sI_add1 (by omega)]; omega) (by rw [sI_add1 (by omega)]; omega)) (fun q hq => RB_t RB_r hq)
      · refine sf_c (by exact pin (by omega)) ?_
        refine sf_c (by exact inslot) ?_
        exact sf_mono (ih _ _ (by rw [sI_add1 (by omega)]; omega) (by rw [sI_add1 (by omega)]; omega)) (fun q hq => RB_t (RB_a RB_r (by omega)) hq)
theorem t_Cr_exchange_58 {w : Nat} (hw : 4294967296 < w) {l0 : Nat} {l2 : Nat} {l4 : Int32} (hl0 : crw l0) (hl2 : stp l2) : ∀ (f : Nat) (l5 : Int32) (v : pd_V) (hn : 0 ≤ l5.toInt) (hm : (8 - l5.toInt).toNat < f), Sf (d_Cr_exchange_58 w f l0 l2 l4 l5 v) (fun q => RB l0 v q) := by
  intro f
  induction f with
  | zero => intro l5 v hn hm; exact absurd hm (Nat.not_lt_zero _)
  | succ f ih =>
    intro l5 v hn hm
    rw [d_Cr_exchange_58]
    have pl0 : l0 = 174 ∨ l0 = 187 := hl0
    have pl2 : (7 ≤ l2 ∧ l2 < 87) ∨ (92 ≤ l2 ∧ l2 < 172) := hl2
    refine sf_le (show (8 : Int32).toInt = 8 from by decide) rfl (fun c1 => ?_) (fun c1 => ?_)
    · exact sf_mono (t_Cr_exchange_118 hw hl0 hl2 _ _ _ (by decide) (by have e0 := sI_0; omega)) (fun q hq => RB_t RB_r hq)
    · refine sf_c (by exact pin (by omega)) ?_
      refine sf_d (fun c2 => ?_) (fun c2 => ?_)
      · refine sf_c (by exact pin (by omega)) ?_
        exact sf_mono (ih _ _ (by rw [sI_add1 (by omega)]; omega) (by rw [sI_add1 (by omega)]; omega)) (fun q hq => RB_t (RB_a RB_r (by omega)) hq)
      · refine sf_c (by exact inslot) ?_
        refine sf_c (by exact pin (by omega)) ?_
        exact sf_mono (ih _ _ (by rw [sI_add1 (by omega)]; omega) (by rw [sI_add1 (by omega)]; omega)) (fun q hq => RB_t (RB_a RB_r (by omega)) hq)
theorem t_Cr_exchange_3 {w : Nat} (hw : 4294967296 < w) {l0 : Nat} {l1 : Nat} {l2 : Nat} {l3 : Int32} (hl0 : crw l0) (hl1 : ker l1) (hl2 : stp l2) : ∀ (f : Nat) (l4 : Int32) (v : pd_V) (hn : 0 ≤ l4.toInt) (hm : (8 - l4.toInt).toNat < f), Sf (d_Cr_exchange_3 w f l0 l1 l2 l3 l4 v) (fun q => RB l0 v q) := by
  intro f
  induction f with
  | zero => intro l4 v hn hm; exact absurd hm (Nat.not_lt_zero _)
  | succ f ih =>
    intro l4 v hn hm
    rw [d_Cr_exchange_3]
    have pl0 : l0 = 174 ∨ l0 = 187 := hl0
    have pl1 : l1 = 3 ∨ l1 = 88 := hl1
    have pl2 : (7 ≤ l2 ∧ l2 < 87) ∨ (92 ≤ l2 ∧ l2 < 172) := hl2
    refine sf_le (show (8 : Int32).toInt = 8 from by decide) rfl (fun c1 => ?_) (fun c1 => ?_)
    · exact sf_mono (t_Cr_exchange_58 hw hl0 hl2 _ _ _ (by decide) (by have e0 := sI_0; omega)) (fun q hq => RB_t RB_r hq)
    · refine sf_d (fun c2 => ?_) (fun c2 => ?_)
      · exact sf_mono (ih _ _ (by rw [sI_add1 (by omega)]; omega) (by rw [sI_add1 (by omega)]; omega)) (fun q hq => RB_t RB_r hq)
      · refine sf_bind (t_Cr_decide hw hl0 hl1 hl2) (fun q4 hq4 => ?_)
        have rq4 : RB l0 v q4.2 := RB_t RB_r hq4
        refine sf_bind (t_Mat_floorMod) (fun q5 hq5 => ?_)
        refine sf_c (by exact pin (by omega)) ?_
        exact sf_mono (ih _ _ (by rw [sI_add1 (by omega)]; omega) (by rw [sI_add1 (by omega)]; omega)) (fun q hq => RB_t (RB_a rq4 (by omega)) hq)
theorem t_Cr_exchange {w : Nat} (hw : 4294967296 < w) {l0 : Nat} {l1 : Nat} {l2 : Nat} {l3 : Int32} {v : pd_V} (hl0 : crw l0) (hl1 : ker l1) (hl2 : stp l2) : Sf (d_Cr_exchange w l0 l1 l2 l3 v) (fun q => RB l0 v q) := by
  unfold d_Cr_exchange
  have pl0 : l0 = 174 ∨ l0 = 187 := hl0
  have pl1 : l1 = 3 ∨ l1 = 88 := hl1
  have pl2 : (7 ≤ l2 ∧ l2 < 87) ∨ (92 ≤ l2 ∧ l2 < 172) := hl2
  exact sf_mono (t_Cr_exchange_3 hw hl0 hl1 hl2 _ _ _ (by decide) (by have e0 := sI_0; omega)) (fun q hq => RB_t RB_r hq)
theorem t_Cr_put {l0 : Nat} {l1 : Int32} {l2 : Int32} {v : pd_V} (hl0 : crw l0) : Sf (d_Cr_put l0 l1 l2 v) (fun q => RB l0 v q) := by
  unfold d_Cr_put
  have pl0 : l0 = 174 ∨ l0 = 187 := hl0
  refine sf_c (by exact in7) ?_
  refine sf_lt rfl (show (0 : Int32).toInt = 0 from by decide) (fun c1 => ?_) (fun c1 => ?_)
  · refine sf_c (by exact in7) ?_
    exact sf_some (RB_a RB_r (by omega))
  · refine sf_le (show (20 : Int32).toInt = 20 from by decide) rfl (fun c2 => ?_) (fun c2 => ?_)
    · refine sf_c (by exact in7) ?_
      exact sf_some (RB_a RB_r (by omega))
    · refine sf_c (by exact inkept (by omega)) ?_
      refine sf_c (by exact in7) ?_
      exact sf_some (RB_a (RB_a RB_r (by omega)) (by omega))
theorem t_Cr_act {w : Nat} (hw : 4294967296 < w) {l0 : Nat} {l1 : Nat} {l2 : Nat} {l3 : Int32} {v : pd_V} (hl0 : crw l0) (hl1 : ker l1) (hl2 : stp l2) : Sf (d_Cr_act w l0 l1 l2 l3 v) (fun q => RB l0 v q) := by
  unfold d_Cr_act
  have pl0 : l0 = 174 ∨ l0 = 187 := hl0
  have pl1 : l1 = 3 ∨ l1 = 88 := hl1
  have pl2 : (7 ≤ l2 ∧ l2 < 87) ∨ (92 ≤ l2 ∧ l2 < 172) := hl2
  refine sf_n (fun c1 => ?_) (fun c1 => ?_)
  · refine sf_bind (t_Cr_reckon hw hl0 hl1) (fun q2 hq2 => ?_)
    have rq2 : RB l0 v q2.2 := RB_t (RB_9 RB_r (Or.inl rfl)) hq2
    refine sf_bind (t_Cr_reckon hw hl0 hl1) (fun q3 hq3 => ?_)
    have rq3 : RB l0 v q3.2 := RB_t rq2 hq3
    refine sf_n (fun c2 => ?_) (fun c2 => ?_)
    · refine sf_c (by exact bz0 (hq3.2 (hq2.2 (Bz_9 (Or.inl rfl))))) ?_
      refine sf_d (fun c3 => ?_) (fun c3 => ?_)
      · refine sf_n (fun c4 => ?_) (fun c4 => ?_)
        · refine sf_n (fun c5 => ?_) (fun c5 => ?_)
          · refine sf_n (fun c6 => ?_) (fun c6 => ?_)
            · exact sf_some (RB_9 rq3 (bx0 (hq3.2 (hq2.2 (Bz_9 (Or.inl rfl))))))
            · refine sf_c (by exact inslot) ?_
              exact sf_some (RB_a (RB_9 rq3 (bx0 (hq3.2 (hq2.2 (Bz_9 (Or.inl rfl)))))) (by omega))
          · refine sf_bind (t_Cr_put hl0) (fun q12 hq12 => ?_)
            have rq12 : RB l0 v q12 := RB_t (RB_9 rq3 (bx0 (hq3.2 (hq2.2 (Bz_9 (Or.inl rfl)))))) hq12
            exact sf_some rq12
        · refine sf_c (by exact inslot) ?_
          exact sf_some (RB_a (RB_9 rq3 (bx0 (hq3.2 (hq2.2 (Bz_9 (Or.inl rfl)))))) (by omega))
      · refine sf_bind (t_Cr_trap hl0 hl2) (fun q15 hq15 => ?_)
        have rq15 : RB l0 v q15 := RB_t (RB_9 rq3 (bx0 (hq3.2 (hq2.2 (Bz_9 (Or.inl rfl)))))) hq15
        exact sf_some rq15
    · refine sf_d (fun c7 => ?_) (fun c7 => ?_)
      · refine sf_c (by exact bz0 (hq3.2 (hq2.2 (Bz_9 (Or.inl rfl))))) ?_
        refine sf_d (fun c8 => ?_) (fun c8 => ?_)
        · refine sf_n (fun c9 => ?_) (fun c9 => ?_)
          · refine sf_n (fun c10 => ?_) (fun c10 => ?_)
            · refine sf_n (fun c11 => ?_) (fun c11 => ?_)
              · exact sf_some (RB_9 rq3 (bx0 (hq3.2 (hq2.2 (Bz_9 (Or.inl rfl))))))
              · refine sf_c (by exact inslot) ?_
                exact sf_some (RB_a (RB_9 rq3 (bx0 (hq3.2 (hq2.2 (Bz_9 (Or.inl rfl)))))) (by omega))
            · refine sf_bind (t_Cr_put hl0) (fun q25 hq25 => ?_)
              have rq25 : RB l0 v q25 := RB_t (RB_9 rq3 (bx0 (hq3.2 (hq2.2 (Bz_9 (Or.inl rfl)))))) hq25
              exact sf_some rq25
          · refine sf_c (by exact inslot) ?_
            exact sf_some (RB_a (RB_9 rq3 (bx0 (hq3.2 (hq2.2 (Bz_9 (Or.inl rfl)))))) (by omega))
        · refine sf_bind (t_Cr_trap hl0 hl2) (fun q28 hq28 => ?_)
          have rq28 : RB l0 v q28 := RB_t (RB_9 rq3 (bx0 (hq3.2 (hq2.2 (Bz_9 (Or.inl rfl)))))) hq28
          exact sf_some rq28
      · refine sf_c (by exact bz1 (hq3.2 (hq2.2 (Bz_9 (Or.inl rfl))))) ?_
        refine sf_d (fun c12 => ?_) (fun c12 => ?_)
        · refine sf_n (fun c13 => ?_) (fun c13 => ?_)
          · refine sf_n (fun c14 => ?_) (fun c14 => ?_)
            · refine sf_n (fun c15 => ?_) (fun c15 => ?_)
              · exact sf_some (RB_9 rq3 (bx1 (hq3.2 (hq2.2 (Bz_9 (Or.inl rfl))))))
              · refine sf_c (by exact inslot) ?_
                exact sf_some (RB_a (RB_9 rq3 (bx1 (hq3.2 (hq2.2 (Bz_9 (Or.inl rfl)))))) (by omega))
            · refine sf_bind (t_Cr_put hl0) (fun q36 hq36 => ?_)
              have rq36 : RB l0 v q36 := RB_t (RB_9 rq3 (bx1 (hq3.2 (hq2.2 (Bz_9 (Or.inl rfl)))))) hq36
              exact sf_some rq36
          · refine sf_c (by exact inslot) ?_
            exact sf_some (RB_a (RB_9 rq3 (bx1 (hq3.2 (hq2.2 (Bz_9 (Or.inl rfl)))))) (by omega))
        · refine sf_bind (t_Cr_trap hl0 hl2) (fun q39 hq39 => ?_)
          have rq39 : RB l0 v q39 := RB_t (RB_9 rq3 (bx1 (hq3.2 (hq2.2 (Bz_9 (Or.inl rfl)))))) hq39
          exact sf_some rq39
  · exact sf_some (RB_k RB_r (by decide))
theorem t_To_issue_78 {w : Nat} (hw : 4294967296 < w) {l1 : Nat} {l2 : Nat} (hl1 : ker l1) (hl2 : stp l2) : ∀ (f : Nat) (l3 : Int32) (v : pd_V) (hm : (8 - l3.toInt).toNat < f), Sf (d_To_issue_78 w f l1 l2 l3 v) (fun q => Fr 173 186 v q) := by
  intro f
  induction f with
  | zero => intro l3 v hm; exact absurd hm (Nat.not_lt_zero _)
  | succ f ih =>
    intro l3 v hm
    rw [d_To_issue_78]
    have pl1 : l1 = 3 ∨ l1 = 88 := hl1
    have pl2 : (7 ≤ l2 ∧ l2 < 87) ∨ (92 ≤ l2 ∧ l2 < 172) := hl2
    refine sf_le (show (8 : Int32).toInt = 8 from by decide) rfl (fun c1 => ?_) (fun c1 => ?_)
    · exact sf_some (Fr_w (Fr_w Fr_r (by omega)) (by omega))
    · refine sf_d (fun c2 => ?_) (fun c2 => ?_)
      · exact sf_mono (ih _ _ (by rw [sI_add1 (by omega)]; omega)) (fun q hq => Fr_t Fr_r hq)
      · refine sf_bind (t_Cr_act hw crw_174 hl1 hl2) (fun q4 hq4 => ?_)
        have rq4 : Fr 173 186 v q4 := Fr_t Fr_r (Fr_m hq4.1 (by omega))
        exact sf_mono (ih _ _ (by rw [sI_add1 (by omega)]; omega)) (fun q hq => Fr_t rq4 hq)
theorem t_To_issue {w : Nat} (hw : 4294967296 < w) {l1 : Nat} {l2 : Nat} {v : pd_V} (hl1 : ker l1) (hl2 : stp l2) : Sf (d_To_issue w l1 l2 v) (fun q => Fr 173 186 v q) := by
  unfold d_To_issue
  have pl1 : l1 = 3 ∨ l1 = 88 := hl1
  have pl2 : (7 ≤ l2 ∧ l2 < 87) ∨ (92 ≤ l2 ∧ l2 < 172) := hl2
  refine sf_d (fun c1 => ?_) (fun c1 => ?_)
  · refine sf_bind (t_To_part hw hl1 hl2) (fun q3 hq3 => ?_)
    have rq3 : Fr 173 186 v q3 := Fr_t (Fr_w (Fr_w Fr_r (by omega)) (by omega)) (Fr_m hq3 (by omega))
    exact sf_some (Fr_w (Fr_w rq3 (by omega)) (by omega))
  · refine sf_n (fun c2 => ?_) (fun c2 => ?_)
    · refine sf_n (fun c3 => ?_) (fun c3 => ?_)
      · exact sf_mono (t_To_issue_78 hw hl1 hl2 _ _ _ (by have e0 := sI_0; omega)) (fun q hq => Fr_t (Fr_w (Fr_w Fr_r (by omega)) (by omega)) (Fr_m hq (by omega)))
      · refine sf_bind (t_Cr_exchange hw crw_174 hl1 hl2) (fun q6 hq6 => ?_)
        have rq6 : Fr 173 186 v q6 := Fr_t (Fr_w (Fr_w Fr_r (by omega)) (by omega)) (Fr_m hq6.1 (by omega))
        exact sf_some (Fr_w (Fr_w rq6 (by omega)) (by omega))
    · refine sf_bind (t_To_part hw hl1 hl2) (fun q7 hq7 => ?_)
      have rq7 : Fr 173 186 v q7 := Fr_t (Fr_w (Fr_w Fr_r (by omega)) (by omega)) (Fr_m hq7 (by omega))
      exact sf_some (Fr_w (Fr_w rq7 (by omega)) (by omega))
theorem t_To_goOn_2 {w : Nat} (hw : 4294967296 < w) {l1 : Nat} (hl1 : ker l1) : ∀ (f : Nat) (l3 : Int32) (v : pd_V) (hm : (l3.toInt).toNat < f), Sf (d_To_goOn_2 w f l1 l3 v) (fun q => Fr 173 186 v q) := by
  intro f
  induction f with
  | zero => intro l3 v hm; exact absurd hm (Nat.not_lt_zero _)
  | succ f ih =>
    intro l3 v hm
    rw [d_To_goOn_2]
    have pl1 : l1 = 3 ∨ l1 = 88 := hl1
    refine sf_le rfl (show (0 : Int32).toInt = 0 from by decide) (fun c1 => ?_) (fun c1 => ?_)
    · exact sf_some Fr_r
    · refine sf_n (fun c2 => ?_) (fun c2 => ?_)
      · exact sf_some Fr_r
      · refine sf_bind (t_Ke_stepAt hl1) (fun q3 hq3 => ?_)
        have pq3 : (7 ≤ q3 ∧ q3 < 87) ∨ (92 ≤ q3 ∧ q3 < 172) := hq3
        refine sf_bind (t_To_issue hw hl1 hq3) (fun q4 hq4 => ?_)
        have rq4 : Fr 173 186 v q4 := Fr_t Fr_r (Fr_m hq4 (by omega))
        refine sf_bind (t_To_moveToNext hw hl1) (fun q5 hq5 => ?_)
        have rq5 : Fr 173 186 v q5 := Fr_t rq4 (Fr_m hq5 (by omega))
        exact sf_mono (ih _ _ (by rw [sI_addm (by omega)]; omega)) (fun q hq => Fr_t rq5 hq)
theorem t_To_goOn {w : Nat} (hw : 4294967296 < w) {l1 : Nat} {l2 : Int32} {v : pd_V} (hl1 : ker l1) : Sf (d_To_goOn w l1 l2 v) (fun q => Fr 173 186 v q) := by
  unfold d_To_goOn
  have pl1 : l1 = 3 ∨ l1 = 88 := hl1
  exact sf_mono (t_To_goOn_2 hw hl1 _ _ _ (by have b1 := toInt_b l2; omega)) (fun q hq => Fr_t Fr_r (Fr_m hq (by omega)))
theorem t_Cr_countOf {l0 : Nat} {l1 : Int32} {v : pd_V} (hl0 : crw l0) : Sf (d_Cr_countOf l0 l1 v) (fun _ => True) := by
  unfold d_Cr_countOf
  have pl0 : l0 = 174 ∨ l0 = 187 := hl0
  refine sf_c (by exact in7) ?_
  exact sf_some trivial
theorem t_Cr_trapOf {l0 : Nat} {l1 : Int32} {v : pd_V} (hl0 : crw l0) : Sf (d_Cr_trapOf l0 l1 v) (fun _ => True) := by
  unfold d_Cr_trapOf
  have pl0 : l0 = 174 ∨ l0 = 187 := hl0
  refine sf_c (by exact in7) ?_
  exact sf_some trivial
theorem t_Cr_keptOf {l0 : Nat} {l1 : Int32} {l2 : Int32} {v : pd_V} (hl0 : crw l0) : Sf (d_Cr_keptOf l0 l1 l2 v) (fun _ => True) := by
  unfold d_Cr_keptOf
  have pl0 : l0 = 174 ∨ l0 = 187 := hl0
  refine sf_lt rfl (show (0 : Int32).toInt = 0 from by decide) (fun c1 => ?_) (fun c1 => ?_)
  · exact sf_some trivial
  · refine sf_le (show (20 : Int32).toInt = 20 from by decide) rfl (fun c2 => ?_) (fun c2 => ?_)
    · exact sf_some trivial
    · refine sf_c (by exact inkept (by omega)) ?_
      exact sf_some trivial
theorem t_Cr_cellOf {l0 : Nat} {l1 : Int32} {l2 : Int32} {v : pd_V} (hl0 : crw l0) : Sf (d_Cr_cellOf l0 l1 l2 v) (fun _ => True) := by
  unfold d_Cr_cellOf
  have pl0 : l0 = 174 ∨ l0 = 187 := hl0
  refine sf_c (by exact inslot) ?_
  exact sf_some trivial
