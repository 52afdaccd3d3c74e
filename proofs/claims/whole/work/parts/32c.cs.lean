/-! the class goes well -/
theorem t_Ap_begin {w : Nat} (hw : 4294967296 < w) {l1 : Nat} {l2 l3 : Int32} {v : pd_V} : Sf (d_Ap_begin w l1 16 l2 l3 v) (fun q => Fr 186 198 v q) := by
  unfold d_Ap_begin
  refine sf_bind (t_Cr_gather hw crw_187) (fun q1 hq1 => ?_)
  have r1 : Fr 186 198 v q1 := Fr_m hq1.1 (by omega)
  refine sf_bind (t_Arr_fill hw (by decide)) (fun q2 hq2 => ?_)
  have r2 : Fr 186 198 v q2 := Fr_t r1 (fun b hb => hq2 b (by omega))
  exact sf_some (Fr_w (Fr_w r2 (by omega)) (by omega))
theorem t_Ap_isHeld {l1 : Nat} {l2 : Int32} {v : pd_V} (hl1 : ker l1) : Sf (d_Ap_isHeld l1 l2 v) (fun _ => True) := by
  unfold d_Ap_isHeld
  have pl1 : l1 = 3 ∨ l1 = 88 := hl1
  refine sf_c (by exact in7) ?_
  refine sf_n (fun c1 => ?_) (fun c1 => ?_)
  · exact sf_some trivial
  · refine sf_le rfl rfl (fun c2 => ?_) (fun c2 => ?_)
    · exact sf_some trivial
    · refine sf_bind (t_Ke_stepAt hl1) (fun q5 hq5 => ?_)
      have pq5 : (7 ≤ q5 ∧ q5 < 87) ∨ (92 ≤ q5 ∧ q5 < 172) := hq5
      refine sf_n (fun c3 => ?_) (fun c3 => ?_)
      · exact sf_some trivial
      · exact sf_some trivial
theorem t_Ap_afterStep {w : Nat} (hw : 4294967296 < w) {l1 : Nat} {l2 : Int32} {v : pd_V} (hl1 : ker l1) : Sf (d_Ap_afterStep w l1 l2 v) (fun q => RB 187 v q.2) := by
  unfold d_Ap_afterStep
  have pl1 : l1 = 3 ∨ l1 = 88 := hl1
  refine sf_c (by exact in7) ?_
  refine sf_bind (t_Ke_stepAt hl1) (fun q2 hq2 => ?_)
  have pq2 : (7 ≤ q2 ∧ q2 < 87) ∨ (92 ≤ q2 ∧ q2 < 172) := hq2
  refine sf_d (fun c1 => ?_) (fun c1 => ?_)
  · refine sf_bind (t_Cr_decide hw crw_187 hl1 hq2) (fun q4 hq4 => ?_)
    have rq4 : RB 187 v q4.2 := RB_t RB_r hq4
    refine sf_d (fun c2 => ?_) (fun c2 => ?_)
    · exact sf_some rq4
    · exact sf_some rq4
  · refine sf_n (fun c3 => ?_) (fun c3 => ?_)
    · refine sf_bind (t_Cr_act hw crw_187 hl1 hq2) (fun q7 hq7 => ?_)
      have rq7 : RB 187 v q7 := RB_t RB_r hq7
      exact sf_some rq7
    · refine sf_bind (t_Cr_decide hw crw_187 hl1 hq2) (fun q8 hq8 => ?_)
      have rq8 : RB 187 v q8.2 := RB_t RB_r hq8
      refine sf_d (fun c4 => ?_) (fun c4 => ?_)
      · exact sf_some rq8
      · exact sf_some rq8
theorem t_Ap_behindBraces_4 {w : Nat} (hw : 4294967296 < w) {l0 : Nat} (hl0 : ker l0) : ∀ (f : Nat) (l2 : Int32) (l3 : Int32) (v : pd_V) (hm : (81 - l3.toInt).toNat < f), Sf (d_Ap_behindBraces_4 w f l0 l2 l3 v) (fun _ => True) := by
  intro f
  induction f with
  | zero => intro l2 l3 v hm; exact absurd hm (Nat.not_lt_zero _)
  | succ f ih =>
    intro l2 l3 v hm
    rw [d_Ap_behindBraces_4]
    have pl0 : l0 = 3 ∨ l0 = 88 := hl0
    refine sf_lt (show (80 : Int32).toInt = 80 from by decide) rfl (fun c1 => ?_) (fun c1 => ?_)
    · exact sf_some trivial
    · refine sf_le rfl rfl (fun c2 => ?_) (fun c2 => ?_)
      · exact sf_some trivial
      · refine sf_bind (t_Ke_stepAt hl0) (fun q3 hq3 => ?_)
        have pq3 : (7 ≤ q3 ∧ q3 < 87) ∨ (92 ≤ q3 ∧ q3 < 172) := hq3
        refine sf_d (fun c3 => ?_) (fun c3 => ?_)
        · refine sf_n (fun c4 => ?_) (fun c4 => ?_)
          · refine sf_n (fun c5 => ?_) (fun c5 => ?_)
            · exact (ih _ _ _ (by rw [sI_add1 (by omega)]; omega))
            · exact (ih _ _ _ (by rw [sI_add1 (by omega)]; omega))
          · exact (ih _ _ _ (by rw [sI_add1 (by omega)]; omega))
        · exact sf_some trivial
theorem t_Ap_behindBraces {w : Nat} (hw : 4294967296 < w) {l0 : Nat} {l1 : Int32} {v : pd_V} (hl0 : ker l0) : Sf (d_Ap_behindBraces w l0 l1 v) (fun _ => True) := by
  unfold d_Ap_behindBraces
  have pl0 : l0 = 3 ∨ l0 = 88 := hl0
  exact (t_Ap_behindBraces_4 hw hl0 _ _ _ _ (by have e0 := sI_0; omega))
theorem t_Ap_goesOn_0 {w : Nat} (hw : 4294967296 < w) {l1 : Nat} {l2 : Int32} (hl1 : ker l1) : ∀ (f : Nat) (v : pd_V), ((v 186 3).toInt).toNat < f → Sf (d_Ap_goesOn_0 w f l1 l2 v) (fun q => Fr 186 198 v q.2) := by
  intro f
  induction f with
  | zero => intro v h; exact absurd h (Nat.not_lt_zero _)
  | succ f ih =>
    intro v hm
    rw [d_Ap_goesOn_0]
    refine sf_le rfl (show (0 : Int32).toInt = 0 from by decide) (fun c1 => ?_) (fun c1 => ?_)
    · refine sf_bind (t_Ap_isHeld hl1) (fun q2 _ => ?_)
      exact sf_some Fr_r
    · refine sf_bind (t_Ap_isHeld hl1) (fun q3 _ => ?_)
      refine sf_d (fun c2 => ?_) (fun c2 => ?_)
      · refine sf_bind (t_Ap_afterStep hw hl1) (fun q5 hq5 => ?_)
        refine sf_bind (t_Ap_behindBraces hw hl1) (fun q6 _ => ?_)
        refine sf_c in7 ?_
        exact sf_mono (ih _ (by rw [pd_w_self, hq5.1 186 (Or.inl (by decide)), sI_sub1 (by omega)]; omega)) (fun q hq => Fr_t (Fr_w (Fr_w (Fr_m hq5.1 (by omega)) (by omega)) (by omega)) hq)
      · exact sf_some Fr_r
theorem t_Ap_goesOn {w : Nat} (hw : 4294967296 < w) {l1 : Nat} {l2 : Int32} {v : pd_V} (hl1 : ker l1) : Sf (d_Ap_goesOn w l1 l2 v) (fun q => Fr 186 198 v q.2) := by
  unfold d_Ap_goesOn
  have b := toInt_b (v 186 3)
  exact t_Ap_goesOn_0 hw hl1 w v (by omega)
theorem t_Ap_lanesAtX_4 {w : Nat} (hw : 4294967296 < w) {l1 : Nat} (hl1 : ker l1) : ∀ (f : Nat) (l2 : Int32) (l3 : Int32) (v : pd_V) (hn : 0 ≤ l3.toInt) (hm : (8 - l3.toInt).toNat < f), Sf (d_Ap_lanesAtX_4 w f l1 l2 l3 v) (fun _ => True) := by
  intro f
  induction f with
  | zero => intro l2 l3 v hn hm; exact absurd hm (Nat.not_lt_zero _)
  | succ f ih =>
    intro l2 l3 v hn hm
    rw [d_Ap_lanesAtX_4]
    have pl1 : l1 = 3 ∨ l1 = 88 := hl1
    refine sf_le (show (8 : Int32).toInt = 8 from by decide) rfl (fun c1 => ?_) (fun c1 => ?_)
    · exact sf_some trivial
    · refine sf_n (fun c2 => ?_) (fun c2 => ?_)
      · exact (ih _ _ _ (by rw [sI_add1 (by omega)]; omega) (by rw [sI_add1 (by omega)]; omega))
      · refine sf_c (by exact pin (by omega)) ?_
        refine sf_le rfl rfl (fun c3 => ?_) (fun c3 => ?_)
        · exact (ih _ _ _ (by rw [sI_add1 (by omega)]; omega) (by rw [sI_add1 (by omega)]; omega))
        · exact (ih _ _ _ (by rw [sI_add1 (by omega)]; omega) (by rw [sI_add1 (by omega)]; omega))
theorem t_Ap_lanesAtX {w : Nat} (hw : 4294967296 < w) {l1 : Nat} {v : pd_V} (hl1 : ker l1) : Sf (d_Ap_lanesAtX w l1 v) (fun _ => True) := by
  unfold d_Ap_lanesAtX
  have pl1 : l1 = 3 ∨ l1 = 88 := hl1
  exact (t_Ap_lanesAtX_4 hw hl1 _ _ _ _ (by decide) (by have e0 := sI_0; omega))
theorem t_Ap_exchange_5 {w : Nat} (hw : 4294967296 < w) {l1 : Nat} {l2 : Int32} (hl1 : ker l1) : ∀ (f : Nat) (l3 : Int32) (l4 : Int32) (v : pd_V) (hn : 0 ≤ l4.toInt) (hm : (8 - l4.toInt).toNat < f), Sf (d_Ap_exchange_5 w f l1 l2 l3 l4 v) (fun q => Fr 186 198 v q) := by
  intro f
  induction f with
  | zero => intro l3 l4 v hn hm; exact absurd hm (Nat.not_lt_zero _)
  | succ f ih =>
    intro l3 l4 v hn hm
    rw [d_Ap_exchange_5]
    have pl1 : l1 = 3 ∨ l1 = 88 := hl1
    refine sf_le (show (8 : Int32).toInt = 8 from by decide) rfl (fun c1 => ?_) (fun c1 => ?_)
    · refine sf_bind (t_Ke_stepAt hl1) (fun q2 hq2 => ?_)
      have pq2 : (7 ≤ q2 ∧ q2 < 87) ∨ (92 ≤ q2 ∧ q2 < 172) := hq2
      refine sf_bind (t_Cr_exchange hw crw_187 hl1 hq2) (fun q3 hq3 => ?_)
      have rq3 : Fr 186 198 v q3 := Fr_t Fr_r (Fr_m hq3.1 (by omega))
      exact sf_some rq3
    · refine sf_d (fun c2 => ?_) (fun c2 => ?_)
      · exact sf_mono (ih _ _ _ (by rw [sI_add1 (by omega)]; omega) (by rw [sI_add1 (by omega)]; omega)) (fun q hq => Fr_t Fr_r hq)
      · refine sf_c (by exact pin (by omega)) ?_
        refine sf_bind (t_Ap_behindBraces hw hl1) (fun q7 hq7 => ?_)
        refine sf_c (by exact pin (by omega)) ?_
        exact sf_mono (ih _ _ _ (by rw [sI_add1 (by omega)]; omega) (by rw [sI_add1 (by omega)]; omega)) (fun q hq => Fr_t (Fr_w Fr_r (by omega)) hq)
theorem t_Ap_exchange {w : Nat} (hw : 4294967296 < w) {l1 : Nat} {l2 : Int32} {v : pd_V} (hl1 : ker l1) : Sf (d_Ap_exchange w l1 l2 v) (fun q => Fr 186 198 v q) := by
  unfold d_Ap_exchange
  have pl1 : l1 = 3 ∨ l1 = 88 := hl1
  exact sf_mono (t_Ap_exchange_5 hw hl1 _ _ _ _ (by decide) (by have e0 := sI_0; omega)) (fun q hq => Fr_t Fr_r (Fr_m hq (by omega)))
theorem t_Ap_goThrough_11 {w : Nat} (hw : 4294967296 < w) {l1 : Nat} {l2 : Int32} (hl1 : ker l1) {K : Nat → Int32 → pd_V → Option pd_V} {v0 : pd_V} (hK : ∀ u, Fr 186 198 v0 u → Sf (K l1 l2 u) (fun q => Fr 186 198 v0 q)) : ∀ (f : Nat) (l3 : Int32) (v : pd_V), Fr 186 198 v0 v → (8 - l3.toInt).toNat < f → Sf (d_Ap_goThrough_11 K w f l1 l2 l3 v) (fun q => Fr 186 198 v0 q) := by
  intro f
  induction f with
  | zero => intro l3 v _ h; exact absurd h (Nat.not_lt_zero _)
  | succ f ih =>
    intro l3 v hv hm
    rw [d_Ap_goThrough_11]
    refine sf_le (show (8 : Int32).toInt = 8 from by decide) rfl (fun c1 => ?_) (fun c1 => ?_)
    · exact hK v hv
    · refine sf_bind (t_Ap_goesOn hw hl1) (fun q2 hq2 => ?_)
      refine sf_n (fun c2 => ?_) (fun c2 => ?_)
      · exact ih _ _ (Fr_t hv hq2) (by rw [sI_add1 (by omega)]; omega)
      · exact sf_some (Fr_t hv hq2)
theorem t_Ap_goThrough_2 {w : Nat} (hw : 4294967296 < w) {l1 : Nat} (hl1 : ker l1) : ∀ (f : Nat) (l2 : Int32) (v : pd_V), (4001 - l2.toInt).toNat < f → Sf (d_Ap_goThrough_2 w f l1 l2 v) (fun q => Fr 186 198 v q) := by
  intro f
  induction f with
  | zero => intro l2 v h; exact absurd h (Nat.not_lt_zero _)
  | succ f ih =>
    intro l2 v hm
    rw [d_Ap_goThrough_2]
    refine sf_lt (show (4000 : Int32).toInt = 4000 from by decide) rfl (fun c1 => ?_) (fun c1 => ?_)
    · exact sf_some Fr_r
    · refine t_Ap_goThrough_11 hw hl1 (v0 := v) (fun u hu => ?_) w _ v Fr_r (by have e0 := sI_0; omega)
      refine sf_bind (t_Ap_lanesAtX hw hl1) (fun q2 _ => ?_)
      refine sf_n (fun c2 => ?_) (fun c2 => ?_)
      · refine sf_d (fun c3 => ?_) (fun c3 => ?_)
        · refine sf_bind (t_Ap_exchange hw hl1) (fun q6 hq6 => ?_)
          exact sf_mono (ih _ _ (by rw [sI_add1 (by omega)]; omega)) (fun q hq => Fr_t (Fr_t (Fr_w hu (by omega)) hq6) hq)
        · exact sf_some (Fr_w hu (by omega))
      · exact sf_some (Fr_w hu (by omega))
theorem t_Ap_goThrough {w : Nat} (hw : 4294967296 < w) {l1 : Nat} {v : pd_V} (hl1 : ker l1) : Sf (d_Ap_goThrough w l1 v) (fun q => Fr 186 198 v q) := by
  unfold d_Ap_goThrough
  exact t_Ap_goThrough_2 hw hl1 w _ v (by have e0 := sI_0; omega)
