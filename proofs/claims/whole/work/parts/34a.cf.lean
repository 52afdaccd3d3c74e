/-! the class's calls go well -/
def CF (v q : pd_V) : Prop := Fr 0 198 v q ∧ q 1 1 = v 1 1 ∧ (KO v → KO q)
section CFS
variable {w : Nat} {v u q : pd_V} {a1 a2 a3 b x : Int32} {g : Nat → Int64}
theorem CF_r : CF v v := ⟨Fr_r, rfl, id⟩
theorem CF_t (h1 : CF v u) (h2 : CF u q) : CF v q := ⟨Fr_t h1.1 h2.1, h2.2.1.trans h1.2.1, fun h => h2.2.2 (h1.2.2 h)⟩
theorem CF_T (h : TC v q) : CF v q := ⟨Fr_m h.1 (by omega), h.2.1, h.2.2⟩
theorem CF_F {lo hi : Nat} (h : Fr lo hi v q) (hl : 173 ≤ lo ∧ hi ≤ 198) : CF v q := by
  refine ⟨Fr_m h (by omega), by rw [h 1 (by omega)], fun k => ?_⟩
  unfold KO at *
  rw [h 1 (by omega), h 3 (by omega), h 88 (by omega)]
  exact k
theorem CF_w {a k : Nat} (h : CF v u) (ha : a < 198 ∧ a ≠ 1 ∧ a ≠ 3 ∧ a ≠ 88) : CF v (pd_w u a k x) := by
  refine CF_t h ⟨Fr_w Fr_r (by omega), by rw [pd_wa (show 1 ≠ a by omega)], fun hk => ?_⟩
  unfold KO at *
  rw [pd_wa (show 1 ≠ a by omega), pd_wa (show 3 ≠ a by omega), pd_wa (show 88 ≠ a by omega)]
  exact hk
theorem t_De_compile (hw : 4294967296 < w) (hK : KO v) : Sf (d_De_compile w v) (fun r => CF v r.2) := by
  unfold d_De_compile
  refine sf_bind (t_Re_read hw hK) (fun q1 h1 => ?_)
  have r1 := CF_T h1
  refine sf_n (fun _ => ?_) (fun _ => sf_some (CF_w r1 (by omega)))
  refine sf_bind (t_Ke_findVarying hw (ker_of _)) (fun q3 h3 => ?_)
  have r3 := CF_t r1 (CF_T (TC_RV h3 (ker_of _)))
  refine sf_d (fun _ => ?_) (fun _ => sf_some (CF_w r3 (by omega)))
  refine sf_bind (t_Re_handOver (ker_of _)) (fun q5 h5 => ?_)
  have r5 := CF_t (CF_w (a := 0) (k := 3) (x := q3.1) r3 (by omega)) (CF_T h5.2)
  exact sf_some (CF_w (CF_w (CF_w (CF_w r5 (by omega)) (by omega)) (by omega)) (by omega))
theorem t_needKernel : Sf (d_De_needKernel v) (fun o => ∀ y, o = some y → y = 1) := by
  unfold d_De_needKernel
  exact sf_n (fun _ => sf_some (fun y h => nomatch h)) (fun _ => sf_some (fun y h => (Option.some.inj h).symm))
theorem t_needStarted : Sf (d_De_needStarted v) (fun o => ∀ y, o = some y → y = 1) := by
  unfold d_De_needStarted
  exact sf_n (fun _ => sf_some (fun y h => nomatch h)) (fun _ => sf_some (fun y h => (Option.some.inj h).symm))
theorem t_needNothing : Sf (d_De_needNothingUnderWay v) (fun o => ∀ y, o = some y → y = 1) := by
  unfold d_De_needNothingUnderWay
  refine sf_d (fun _ => sf_some (fun y h => nomatch h)) (fun _ => ?_)
  exact sf_n (fun _ => sf_some (fun y h => nomatch h)) (fun _ => sf_some (fun y h => (Option.some.inj h).symm))
theorem t_needFuel : Sf (d_De_needFuel a1 a2 v) (fun o => ∀ y, o = some y → y = 0) := by
  unfold d_De_needFuel
  refine sf_d (fun _ => sf_some (fun y h => (Option.some.inj h).symm)) (fun _ => ?_)
  exact sf_d (fun _ => sf_some (fun y h => nomatch h)) (fun _ => sf_some (fun y h => (Option.some.inj h).symm))
def zLP (v : pd_V) (r : Int32 × pd_V × (Nat → Int64) × Nat) : Prop := CF v r.2.1 ∧ r.2.2.2 ≤ 1
theorem la_x01 {y : Nat} {u : pd_V} {A B C : Option (Int32 × pd_V × (Nat → Int64) × Nat)} {Q : Int32 × pd_V × (Nat → Int64) × Nat → Prop} (h : y = 0 ∨ y = 1) (hA : Sf A Q) (hB : Sf B Q) : Sf (bif Nat.beq y 0 then A else bif Nat.beq y 1 then B else C) Q := by
  rcases h with rfl | rfl
  · exact hA
  · exact hB
theorem la_x10 {y : Nat} {A B C : Option (Int32 × pd_V × (Nat → Int64) × Nat)} {Q : Int32 × pd_V × (Nat → Int64) × Nat → Prop} (h : y = 0 ∨ y = 1) (hA : Sf A Q) (hB : Sf B Q) : Sf (bif Nat.beq y 1 then A else bif Nat.beq y 0 then B else C) Q := by
  rcases h with rfl | rfl
  · exact hB
  · exact hA
theorem la_s {q1 : Int32 ⊕ Nat} {F : Int32 → Option (Int32 × pd_V × (Nat → Int64) × Nat)} {G : Nat → Option (Int32 × pd_V × (Nat → Int64) × Nat)} {Q : Int32 × pd_V × (Nat → Int64) × Nat → Prop} (h1 : ∀ y, q1 = .inl y → Sf (F y) Q) (h2 : ∀ y, q1 = .inr y → Sf (G y) Q) : Sf (Sum.elim F G q1) Q := by
  cases q1 with
  | inl y => exact h1 y rfl
  | inr y => exact h2 y rfl
theorem l_varies : Sf (d_La_varies a1 v g) (zLP v) := by
  unfold d_La_varies
  have h : Sf (d_De_varies a1 v) (fun o => ∀ y, o = Sum.inr y → y = 0 ∨ y = 1) := by
    unfold d_De_varies
    refine sf_bind t_needKernel (fun q1 h1 => sf_e ?_ (fun y hy => sf_some (fun z hz => Or.inr ((Sum.inr.inj hz).symm.trans (h1 y hy)))))
    refine sf_d (fun _ => sf_some (fun z hz => Or.inl (Sum.inr.inj hz).symm)) (fun _ => ?_)
    exact sf_d (fun _ => sf_some (fun z hz => nomatch hz)) (fun _ => sf_some (fun z hz => Or.inl (Sum.inr.inj hz).symm))
  refine sf_bind h (fun q1 h1 => la_s (fun y _ => ?_) (fun y hy => ?_))
  · exact sf_d (fun _ => sf_some ⟨CF_r, Nat.zero_le _⟩) (fun _ => sf_some ⟨CF_r, Nat.zero_le _⟩)
  · exact la_x10 (h1 y hy) (sf_some ⟨CF_r, Nat.le_refl _⟩) (sf_some ⟨CF_r, Nat.le_refl _⟩)
theorem sf_eo {o : Option Nat} {A : Option (Int32 × pd_V × (Nat → Int64) × Nat)} {G : Nat → Option (Int32 × pd_V × (Nat → Int64) × Nat)} {Q : Int32 × pd_V × (Nat → Int64) × Nat → Prop} (h1 : Sf A Q) (h2 : ∀ y, o = some y → Sf (G y) Q) : Sf (Option.elim o A G) Q := sf_e h1 h2
theorem l_input : Sf (d_La_input a1 a2 v g) (zLP v) := by
  unfold d_La_input
  have h : Sf (d_De_input a1 a2 v) (fun o => CF v o.2 ∧ ∀ y, o.1 = some y → y = 0 ∨ y = 1) := by
    unfold d_De_input
    refine sf_lt rfl (show (0 : Int32).toInt = 0 from by decide) (fun _ => sf_some ⟨CF_r, fun z hz => Or.inl (Option.some.inj hz).symm⟩) (fun c1 => ?_)
    refine sf_lt rfl (show (16 : Int32).toInt = 16 from by decide) (fun c2 => ?_) (fun _ => sf_some ⟨CF_r, fun z hz => Or.inl (Option.some.inj hz).symm⟩)
    refine sf_bind t_needNothing (fun q3 h3 => sf_e ?_ (fun y hy => sf_some ⟨CF_r, fun z hz => Or.inr ((Option.some.inj hz).symm.trans (h3 y hy))⟩))
    exact sf_c (pin (by omega)) (sf_some ⟨CF_w CF_r (by omega), fun z hz => nomatch hz⟩)
  refine sf_bind h (fun q1 h1 => sf_e (sf_some ⟨h1.1, Nat.zero_le _⟩) (fun y hy => la_x01 (u := v) (h1.2 y hy) (sf_some ⟨h1.1, Nat.le_refl _⟩) (sf_some ⟨h1.1, Nat.le_refl _⟩)))
theorem l_lanes : Sf (d_La_lanes a1 v g) (zLP v) := by
  unfold d_La_lanes
  have h : Sf (d_De_lanes a1 v) (fun o => CF v o.2 ∧ ∀ y, o.1 = some y → y = 0 ∨ y = 1) := by
    unfold d_De_lanes
    refine sf_d (fun _ => sf_some ⟨CF_r, fun z hz => Or.inl (Option.some.inj hz).symm⟩) (fun c1 => ?_)
    refine sf_d (fun c2 => ?_) (fun _ => sf_some ⟨CF_r, fun z hz => Or.inl (Option.some.inj hz).symm⟩)
    refine sf_bind t_needNothing (fun q3 h3 => sf_e ?_ (fun y hy => sf_some ⟨CF_r, fun z hz => Or.inr ((Option.some.inj hz).symm.trans (h3 y hy))⟩))
    exact sf_some ⟨CF_w CF_r (by omega), fun z hz => nomatch hz⟩
  refine sf_bind h (fun q1 h1 => sf_e (sf_some ⟨h1.1, Nat.zero_le _⟩) (fun y hy => la_x01 (u := v) (h1.2 y hy) (sf_some ⟨h1.1, Nat.le_refl _⟩) (sf_some ⟨h1.1, Nat.le_refl _⟩)))
theorem l_start (hw : 4294967296 < w) : Sf (d_La_start w v g) (zLP v) := by
  unfold d_La_start
  have h : Sf (d_De_start w v) (fun o => CF v o.2 ∧ ∀ y, o.1 = some y → y = 1) := by
    unfold d_De_start
    refine sf_bind t_needKernel (fun q1 h1 => sf_e ?_ (fun y hy => sf_some ⟨CF_r, fun z hz => (Option.some.inj hz).symm.trans (h1 y hy)⟩))
    refine sf_bind (t_To_begin hw (ker_of _)) (fun q2 h2 => sf_some ⟨CF_F h2 (by omega), fun z hz => nomatch hz⟩)
  refine sf_bind h (fun q1 h1 => sf_e (sf_some ⟨h1.1, Nat.zero_le _⟩) (fun y hy => ?_))
  rw [h1.2 y hy]
  exact sf_some ⟨h1.1, Nat.le_refl _⟩
theorem l_run (hw : 4294967296 < w) : Sf (d_La_run w a1 v g) (zLP v) := by
  unfold d_La_run
  have h : Sf (d_De_run w a1 v) (fun o => CF v o.2 ∧ ∀ y, o.1 = Sum.inr y → y = 0 ∨ y = 1) := by
    unfold d_De_run
    refine sf_bind t_needStarted (fun q1 h1 => sf_e ?_ (fun y hy => sf_some ⟨CF_r, fun z hz => Or.inr ((Sum.inr.inj hz).symm.trans (h1 y hy))⟩))
    refine sf_bind t_needFuel (fun q2 h2 => sf_e ?_ (fun y hy => sf_some ⟨CF_r, fun z hz => Or.inl ((Sum.inr.inj hz).symm.trans (h2 y hy))⟩))
    refine sf_bind (t_To_goOn hw (ker_of _)) (fun q3 h3 => ?_)
    have r3 := CF_F h3 (by omega)
    exact sf_d (fun _ => sf_some ⟨r3, fun z hz => nomatch hz⟩) (fun _ => sf_some ⟨r3, fun z hz => nomatch hz⟩)
  refine sf_bind h (fun q1 h1 => la_s (fun y _ => sf_some ⟨h1.1, Nat.zero_le _⟩) (fun y hy => la_x10 (h1.2 y hy) (sf_some ⟨h1.1, Nat.le_refl _⟩) (sf_some ⟨h1.1, Nat.le_refl _⟩)))
theorem l_spent : Sf (d_La_spent a1 v g) (zLP v) := by
  unfold d_La_spent
  have h : Sf (d_De_spent a1 v) (fun o => ∀ y, o = Sum.inr y → y = 0 ∨ y = 1) := by
    unfold d_De_spent
    refine sf_d (fun _ => sf_some (fun z hz => Or.inl (Sum.inr.inj hz).symm)) (fun _ => ?_)
    refine sf_d (fun _ => ?_) (fun _ => sf_some (fun z hz => Or.inl (Sum.inr.inj hz).symm))
    refine sf_bind t_needStarted (fun q1 h1 => sf_e ?_ (fun y hy => sf_some (fun z hz => Or.inr ((Sum.inr.inj hz).symm.trans (h1 y hy)))))
    exact sf_n (fun _ => sf_some (fun z hz => nomatch hz)) (fun _ => sf_some (fun z hz => nomatch hz))
  refine sf_bind h (fun q1 h1 => la_s (fun y _ => sf_some ⟨CF_r, Nat.zero_le _⟩) (fun y hy => la_x01 (u := v) (h1 y hy) (sf_some ⟨CF_r, Nat.le_refl _⟩) (sf_some ⟨CF_r, Nat.le_refl _⟩)))
theorem l_alone (hw : 4294967296 < w) : Sf (d_La_alone w a1 v g) (zLP v) := by
  unfold d_La_alone
  have h : Sf (d_De_alone w a1 v) (fun o => CF v o.2 ∧ ∀ y, o.1 = Sum.inr y → y = 0 ∨ y = 1) := by
    unfold d_De_alone
    refine sf_bind t_needKernel (fun q1 h1 => sf_e ?_ (fun y hy => sf_some ⟨CF_r, fun z hz => Or.inr ((Sum.inr.inj hz).symm.trans (h1 y hy))⟩))
    refine sf_bind t_needFuel (fun q2 h2 => sf_e ?_ (fun y hy => sf_some ⟨CF_r, fun z hz => Or.inl ((Sum.inr.inj hz).symm.trans (h2 y hy))⟩))
    refine sf_bind (t_Ap_begin hw) (fun q3 h3 => ?_)
    refine sf_bind (t_Ap_goThrough hw (ker_of _)) (fun q4 h4 => ?_)
    have r4 := CF_t (CF_F h3 (by omega)) (CF_F h4 (by omega))
    exact sf_d (fun _ => sf_some ⟨r4, fun z hz => nomatch hz⟩) (fun _ => sf_some ⟨r4, fun z hz => nomatch hz⟩)
  refine sf_bind h (fun q1 h1 => la_s (fun y _ => sf_some ⟨h1.1, Nat.zero_le _⟩) (fun y hy => la_x10 (h1.2 y hy) (sf_some ⟨h1.1, Nat.le_refl _⟩) (sf_some ⟨h1.1, Nat.le_refl _⟩)))
theorem t_De_crewOf : Sf (d_De_crewOf b a2 v) (fun o => (∀ y, o = Sum.inl y → crw y) ∧ (∀ y, o = Sum.inr y → y = 0 ∨ y = 1)) := by
  unfold d_De_crewOf
  have e0 : (fun o : Nat ⊕ Nat => (∀ y, o = Sum.inl y → crw y) ∧ (∀ y, o = Sum.inr y → y = 0 ∨ y = 1)) (Sum.inr 0) := ⟨(fun y h => nomatch h), fun y h => Or.inl (Sum.inr.inj h).symm⟩
  have e1 : (fun o : Nat ⊕ Nat => (∀ y, o = Sum.inl y → crw y) ∧ (∀ y, o = Sum.inr y → y = 0 ∨ y = 1)) (Sum.inr 1) := ⟨(fun y h => nomatch h), fun y h => Or.inr (Sum.inr.inj h).symm⟩
  have e2 : (fun o : Nat ⊕ Nat => (∀ y, o = Sum.inl y → crw y) ∧ (∀ y, o = Sum.inr y → y = 0 ∨ y = 1)) (Sum.inl 174) := ⟨fun y h => by rw [← Sum.inl.inj h]; exact crw_174, (fun y h => nomatch h)⟩
  have e3 : (fun o : Nat ⊕ Nat => (∀ y, o = Sum.inl y → crw y) ∧ (∀ y, o = Sum.inr y → y = 0 ∨ y = 1)) (Sum.inl 187) := ⟨fun y h => by rw [← Sum.inl.inj h]; exact crw_187, (fun y h => nomatch h)⟩
  refine sf_d (fun _ => sf_some e0) (fun _ => ?_)
  refine sf_d (fun _ => ?_) (fun _ => sf_some e0)
  refine sf_d (fun _ => ?_) (fun _ => ?_)
  · refine sf_n (fun _ => ?_) (fun _ => sf_some e1)
    exact sf_d (fun _ => sf_some e2) (fun _ => sf_some e3)
  · refine sf_n (fun _ => ?_) (fun _ => sf_some e1)
    exact sf_d (fun _ => sf_some e2) (fun _ => sf_some e3)
theorem l_lane : Sf (d_La_lane b a2 a3 v g) (zLP v) := by
  unfold d_La_lane
  have h : Sf (d_De_lane b a2 a3 v) (fun o => ∀ y, o = Sum.inr y → y = 0 ∨ y = 1) := by
    unfold d_De_lane
    refine sf_d (fun _ => sf_some (fun z hz => Or.inl (Sum.inr.inj hz).symm)) (fun _ => ?_)
    refine sf_d (fun _ => ?_) (fun _ => sf_some (fun z hz => Or.inl (Sum.inr.inj hz).symm))
    refine sf_bind t_De_crewOf (fun q3 h3 => sf_s (fun y hy => ?_) (fun y hy => sf_some (fun z hz => by rw [← Sum.inr.inj hz]; exact h3.2 y hy)))
    have hc := h3.1 y hy
    have fin : ∀ k : Int32, Sf (some (Sum.inl k : Int32 ⊕ Nat)) (fun o => ∀ y, o = Sum.inr y → y = 0 ∨ y = 1) := fun k => sf_some (fun z hz => nomatch hz)
    refine sf_n (fun _ => ?_) (fun _ => sf_bind (t_Cr_countOf hc) (fun _ _ => fin _))
    refine sf_n (fun _ => ?_) (fun _ => sf_bind (t_Cr_trapOf hc) (fun _ _ => fin _))
    repeat' first
      | exact fin _
      | refine sf_n (fun _ => ?_) (fun _ => ?_)
      | refine sf_d (fun _ => ?_) (fun _ => ?_)
  refine sf_bind h (fun q1 h1 => la_s (fun y _ => sf_some ⟨CF_r, Nat.zero_le _⟩) (fun y hy => la_x01 (u := v) (h1 y hy) (sf_some ⟨CF_r, Nat.le_refl _⟩) (sf_some ⟨CF_r, Nat.le_refl _⟩)))
theorem l_cell : Sf (d_La_cell b a2 a3 v g) (zLP v) := by
  unfold d_La_cell
  have h : Sf (d_De_cell b a2 a3 v) (fun o => ∀ y, o = Sum.inr y → y = 0 ∨ y = 1) := by
    unfold d_De_cell
    refine sf_d (fun _ => sf_some (fun z hz => Or.inl (Sum.inr.inj hz).symm)) (fun _ => ?_)
    refine sf_d (fun _ => ?_) (fun _ => sf_some (fun z hz => Or.inl (Sum.inr.inj hz).symm))
    refine sf_bind t_De_crewOf (fun q3 h3 => sf_s (fun y hy => ?_) (fun y hy => sf_some (fun z hz => by rw [← Sum.inr.inj hz]; exact h3.2 y hy)))
    have hc := h3.1 y hy
    refine sf_d (fun _ => sf_bind (t_Cr_variableOf hc) (fun _ _ => sf_some (fun z hz => nomatch hz))) (fun _ => sf_bind (t_Cr_cellOf hc) (fun _ _ => sf_some (fun z hz => nomatch hz)))
  refine sf_bind h (fun q1 h1 => la_s (fun y _ => sf_some ⟨CF_r, Nat.zero_le _⟩) (fun y hy => la_x01 (u := v) (h1 y hy) (sf_some ⟨CF_r, Nat.le_refl _⟩) (sf_some ⟨CF_r, Nat.le_refl _⟩)))
theorem l_out : Sf (d_La_out b a2 a3 v g) (zLP v) := by
  unfold d_La_out
  have h : Sf (d_De_out b a2 a3 v) (fun o => ∀ y, o = Sum.inr y → y = 0 ∨ y = 1 ∨ y = 2) := by
    unfold d_De_out
    refine sf_bind t_De_crewOf (fun q3 h3 => sf_s (fun y hy => ?_) (fun y hy => sf_some (fun z hz => by rw [← Sum.inr.inj hz]; exact (h3.2 y hy).elim Or.inl (fun h => Or.inr (Or.inl h)))))
    have hc := h3.1 y hy
    have two : Sf (some (Sum.inr 2 : Int32 ⊕ Nat)) (fun o => ∀ y, o = Sum.inr y → y = 0 ∨ y = 1 ∨ y = 2) := sf_some (fun z hz => Or.inr (Or.inr (Sum.inr.inj hz).symm))
    refine sf_d (fun _ => two) (fun _ => ?_)
    refine sf_d (fun _ => two) (fun _ => ?_)
    refine sf_bind (t_Cr_countOf hc) (fun _ _ => ?_)
    exact sf_d (fun _ => sf_bind (t_Cr_keptOf hc) (fun _ _ => sf_some (fun z hz => nomatch hz))) (fun _ => two)
  refine sf_bind h (fun q1 h1 => la_s (fun y _ => sf_some ⟨CF_r, Nat.zero_le _⟩) (fun y hy => ?_))
  rcases h1 y hy with e | e | e
  · rw [e]; exact sf_some ⟨CF_r, Nat.le_refl _⟩
  · rw [e]; exact sf_some ⟨CF_r, Nat.le_refl _⟩
  · rw [e]; exact sf_some ⟨CF_r, Nat.le_refl _⟩
end CFS
