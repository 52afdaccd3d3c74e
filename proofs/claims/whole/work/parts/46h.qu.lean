/-! lane, out, cell -/
section YQU
variable {n m w N i1 a FU i l : Nat} {v u q t : pd_V} {b : Int} {a1 a2 a3 b0 : Int32} {g : Nat → Int64}
/-- both have results of a lane, or neither -/
theorem ycr_t (hJ : J b v) (h7 : K7 v) (hb : b0 = 0 ∨ b0 = 1) (hl : l < 8) : (d_Mo_isNot b0 v = 1 ∧ d_De_crewOf b0 (Int32.ofNat l) v = some (Sum.inr 1)) ∨ (d_Mo_isNot b0 v = 0 ∧ ∃ (c : Nat) (D D2 : xLD), d_De_crewOf b0 (Int32.ofNat l) v = some (Sum.inl c) ∧ CRL c l D v ∧ MRL (bif decide (b0 = 0) then l else 8 + l) D2 v ∧ (D2.1 = D.1 ∧ D2.2.1 = D.2.1 ∧ D2.2.2.1 = D.2.2.1 ∧ D2.2.2.2.1 = D.2.2.2.1 ∧ D2.2.2.2.2.1 = D.2.2.2.2.1) ∧ (b0 = 0 → D2.2.2.2.2.2 = D.2.2.2.2.2 ∧ ((v 173 2 = 0 ∧ v 198 26 ≠ 0) ∨ (v 173 2 ≠ 0 ∧ v 198 26 = 0))) ∧ (b0 ≠ 0 → D2.2.2.2.2.2 = true)) := by
  have e20 : v 173 1 = v 198 20 := h7.2.2.1
  have e27 : v 186 1 = v 198 27 := h7.2.2.2.1
  have l0 : decide (Int32.ofNat l < (0 : Int32)) = false := lt0 (by omega)
  have l8 : decide (Int32.ofNat l < (8 : Int32)) = true := by
    rw [show (8 : Int32) = Int32.ofNat 8 from rfl, lt_nat (by omega) (by omega)]
    exact decide_eq_true hl
  rcases hb with rfl | rfl
  · by_cases c : v 198 20 = 0
    · refine Or.inl ⟨mA_not0 c, ?_⟩
      unfold d_De_crewOf
      rw [l0, l8, e20, decide_eq_true c]
      rfl
    · refine Or.inr ⟨?_, ?_⟩
      · unfold d_Mo_isNot
        rw [decide_eq_false c]
        rfl
      · obtain ⟨s, n, N, i1, -, -, -, -, g9⟩ := K7_ker hJ h7 c
        obtain ⟨m', inp, FU, -, -, -, -, ⟨-, -, -, r5⟩, ⟨s1, -, -, -⟩, -⟩ := g9 c
        have hC : CRL 174 l ((zT s n inp (zX0 m') FU).1.2.2.2.2.2 l) v := by
          rcases r5 with ⟨-, -, -, o4⟩ | ⟨-, -, j, -, -, -, -, -, o4⟩
          · exact o4.2 l hl
          · exact o4.2 l hl
        refine ⟨174, (zT s n inp (zX0 m') FU).1.2.2.2.2.2 l, (zT s n inp (zX0 m') FU).1.2.2.2.2.2 l, ?_, hC, s1 l hl, ⟨rfl, rfl, rfl, rfl, rfl⟩, fun _ => ⟨rfl, ?_⟩, fun z => absurd rfl z⟩
        · unfold d_De_crewOf
          rw [l0, l8, e20, decide_eq_false c]
          rfl
        · rcases yuw hJ h7 with ⟨-, t2, t3⟩ | ⟨t1, t2⟩
          · exact Or.inl ⟨t2, t3⟩
          · exact Or.inr ⟨t1.resolve_left (by rw [e20]; exact c), t2⟩
  · by_cases c : v 198 27 = 0
    · refine Or.inl ⟨mA_not1 c, ?_⟩
      unfold d_De_crewOf
      rw [l0, l8, e27, decide_eq_true c]
      rfl
    · refine Or.inr ⟨?_, ?_⟩
      · unfold d_Mo_isNot
        rw [decide_eq_false c]
        rfl
      · obtain ⟨Y, hY⟩ := h7.2.2.2.2.2.2 c
        refine ⟨187, (Y l).2.2, zst (Y l).2.2, ?_, (hY l hl).1, (hY l hl).2, ⟨rfl, rfl, rfl, rfl, rfl⟩, fun z => absurd z (by decide), fun _ => rfl⟩
        unfold d_De_crewOf
        rw [l0, l8, e27, decide_eq_false c]
        rfl
theorem of7 (h : d_Mo_beyond a2 0 7 = 0) : ∃ l : Nat, l < 8 ∧ a2 = Int32.ofNat l := by
  have hr := bey7 h
  obtain ⟨l, e, h2⟩ := of_r (a1 := a2) (by omega)
  exact ⟨l, by omega, e⟩
/-- a lane that is none -/
theorem ycr_n (h : d_Mo_beyond a2 0 7 ≠ 0) : d_Mo_beyond a2 0 7 = 1 ∧ d_De_crewOf b0 a2 v = some (Sum.inr 0) := by
  refine ⟨bey01.resolve_left h, ?_⟩
  by_cases c0 : a2 < 0
  · exact cA_crewL c0
  · by_cases c1 : a2 < 8
    · exact absurd (bey_in c0 (lt8.mp c1)) h
    · exact cA_crewH c0 c1
theorem ylane_t (hJ : J b v) (h7 : K7 v) (hb : b0 = 0 ∨ b0 = 1) : QA v g (d_La_lane b0 a2 a3 v g) (d_Mo_lane b0 a2 a3 v) := by
  by_cases w3 : d_Mo_beyond a3 0 2 = 0
  · have c0 : ¬ a3 < 0 := fun z => by rw [bey_lo z] at w3; exact absurd w3 (by decide)
    have c2 : a3 ≤ 2 := by
      by_cases z : a3 ≤ 2
      · exact z
      · rw [bey_hi c0 z] at w3; exact absurd w3 (by decide)
    by_cases w2 : d_Mo_beyond a2 0 7 = 0
    · obtain ⟨l, hl, rfl⟩ := of7 w2
      rcases ycr_t hJ h7 hb hl with ⟨i1, i2⟩ | ⟨i1, c, D, D2, i2, hC, hM, ⟨-, -, -, d4, d5⟩, hz, ho⟩
      · exact QA_x (k := 2) (by decide) (cA_lane_c c0 c2 i2 (Or.inr rfl)) (mA_lane_3 w2 w3 i1)
      · have cl : (Int32.ofNat l).toNatClampNeg = l := cl_nat (by omega)
        have c8 : ((8 : Int32) + Int32.ofNat l).toNatClampNeg = 8 + l := by
          rw [show (8 : Int32) + Int32.ofNat l = Int32.ofNat (8 + l) from (Int32.ofNat_add 8 l).symm, cl_nat (by omega)]
        have a7 : Int32.ofNat l &&& (7 : Int32) = Int32.ofNat l := zand7 (by omega)
        have p7 : pm_in (Int32.ofNat l) 8 = true := in_nat hl (by omega)
        have p16 : pm_in (Int32.ofNat l) 16 = true := in_nat (by omega) (by omega)
        have p8 : pm_in ((8 : Int32) + Int32.ofNat l) 16 = true := by
          rw [show (8 : Int32) + Int32.ofNat l = Int32.ofNat (8 + l) from (Int32.ofNat_add 8 l).symm]
          exact in_nat (by omega) (by omega)
        have ec : d_Cr_countOf c (Int32.ofNat l) v = some (v (c + 5) l) := by
          unfold d_Cr_countOf
          rw [a7, p7, cl]
          rfl
        have et : d_Cr_trapOf c (Int32.ofNat l) v = some (v (c + 6) l) := by
          unfold d_Cr_trapOf
          rw [a7, p7, cl]
          rfl
        obtain ⟨-, -, -, k4, k5, k6⟩ := hC
        obtain ⟨-, -, -, m4, m5, m6⟩ := hM
        have rd : ∀ d j, d ≠ 198 → pd_w v 198 0 (0 : Int32) d j = v d j := fun d j h => pd_w_ne h
        by_cases z0 : a3 = 0
        · rcases hb with rfl | rfl
          · refine QA_y (x := v (c + 5) l) (y := v 207 l) (by rw [k4, ← d4]; exact m4.symm) ?_ ?_
            · unfold d_La_lane d_De_lane
              rw [decide_eq_false c0, decide_eq_true c2, i2, decide_eq_true z0]
              show (((d_Cr_countOf c (Int32.ofNat l) v).bind fun q18 => some (Sum.inl q18)) : Option (Int32 ⊕ Nat)).bind _ = _
              rw [ec]
              rfl
            · unfold d_Mo_lane
              rw [w2, w3, i1, thr_0, decide_eq_true z0, cl, p16]
              show some (pd_w v 198 0 (0 : Int32) 207 l, pd_w v 198 0 (0 : Int32)) = _
              rw [rd 207 l (by decide)]
          · refine QA_y (x := v (c + 5) l) (y := v 207 (8 + l)) (by rw [k4, ← d4]; exact m4.symm) ?_ ?_
            · unfold d_La_lane d_De_lane
              rw [decide_eq_false c0, decide_eq_true c2, i2, decide_eq_true z0]
              show (((d_Cr_countOf c (Int32.ofNat l) v).bind fun q18 => some (Sum.inl q18)) : Option (Int32 ⊕ Nat)).bind _ = _
              rw [ec]
              rfl
            · unfold d_Mo_lane
              rw [w2, w3, i1, thr_0, decide_eq_true z0, c8, p8]
              show some (pd_w v 198 0 (0 : Int32) 207 (8 + l), pd_w v 198 0 (0 : Int32)) = _
              rw [rd 207 (8 + l) (by decide)]
        · by_cases z1 : a3 = 1
          · rcases hb with rfl | rfl
            · refine QA_y (x := v (c + 6) l) (y := v 208 l) (by rw [k5, ← d5]; exact m5.symm) ?_ ?_
              · unfold d_La_lane d_De_lane
                rw [decide_eq_false c0, decide_eq_true c2, i2, decide_eq_false z0, decide_eq_true z1]
                show (((d_Cr_trapOf c (Int32.ofNat l) v).bind fun q18 => some (Sum.inl q18)) : Option (Int32 ⊕ Nat)).bind _ = _
                rw [et]
                rfl
              · unfold d_Mo_lane
                rw [w2, w3, i1, thr_0, decide_eq_false z0, decide_eq_true z1, cl, p16]
                show some (pd_w v 198 0 (0 : Int32) 208 l, pd_w v 198 0 (0 : Int32)) = _
                rw [rd 208 l (by decide)]
            · refine QA_y (x := v (c + 6) l) (y := v 208 (8 + l)) (by rw [k5, ← d5]; exact m5.symm) ?_ ?_
              · unfold d_La_lane d_De_lane
                rw [decide_eq_false c0, decide_eq_true c2, i2, decide_eq_false z0, decide_eq_true z1]
                show (((d_Cr_trapOf c (Int32.ofNat l) v).bind fun q18 => some (Sum.inl q18)) : Option (Int32 ⊕ Nat)).bind _ = _
                rw [et]
                rfl
              · unfold d_Mo_lane
                rw [w2, w3, i1, thr_0, decide_eq_false z0, decide_eq_true z1, c8, p8]
                show some (pd_w v 198 0 (0 : Int32) 208 (8 + l), pd_w v 198 0 (0 : Int32)) = _
                rw [rd 208 (8 + l) (by decide)]
          · rcases hb with rfl | rfl
            · obtain ⟨o1, o2⟩ := hz rfl
              have m6 : v 209 l = bi D2.2.2.2.2.2 := m6
              have eI : decide (d_De_isIn (v c 10) (Int32.ofNat l) = 0) = !(D.2.2.2.2.2) := by
                rw [isIn_b hl, k6]
                cases D.2.2.2.2.2 <;> rfl
              have e9 : decide (pd_w v 198 0 (0 : Int32) 209 l = 0) = !(D.2.2.2.2.2) := by
                rw [rd 209 l (by decide), m6, o1]
                cases D.2.2.2.2.2 <;> rfl
              have e26 : pd_w v 198 0 (0 : Int32) 198 26 = v 198 26 := pd_w_nk (by decide)
              have eH : ∀ x : Int32, (bif decide ((v 173 2) = 0) then (bif decide ((d_De_isIn (v c 10) (Int32.ofNat l)) = 0) then some (Sum.inl (0 : Int32)) else some (Sum.inl (1 : Int32))) else some (Sum.inl (1 : Int32)) : Option (Int32 ⊕ Nat)) = some (Sum.inl x) → d_La_lane 0 (Int32.ofNat l) a3 v g = some (0, v, vp_updL g 0 (x.toInt64), 0) := by
                intro x hx
                unfold d_La_lane d_De_lane
                rw [decide_eq_false c0, decide_eq_true c2, i2, decide_eq_false z0, decide_eq_false z1]
                show ((bif decide ((v 173 2) = 0) then (bif decide ((d_De_isIn (v c 10) (Int32.ofNat l)) = 0) then some (Sum.inl (0 : Int32)) else some (Sum.inl (1 : Int32))) else some (Sum.inl (1 : Int32)) : Option (Int32 ⊕ Nat))).bind _ = _
                rw [hx]
                rfl
              have eL : ∀ x : Int32, (bif !(decide (pd_w v 198 0 (0 : Int32) 209 l = 0)) then (1 : Int32) else bif !(decide (pd_w v 198 0 (0 : Int32) 198 26 = 0)) then (0 : Int32) else 1) = x → d_Mo_lane 0 (Int32.ofNat l) a3 v = some (x, pd_w v 198 0 0) := by
                intro x hx
                unfold d_Mo_lane
                rw [w2, w3, i1, thr_0, decide_eq_false z0, decide_eq_false z1, cl, p16]
                show (bif !(decide (pd_w v 198 0 (0 : Int32) 209 l = 0)) then some ((1 : Int32), pd_w v 198 0 (0 : Int32)) else bif !(decide (pd_w v 198 0 (0 : Int32) 198 26 = 0)) then some ((0 : Int32), pd_w v 198 0 (0 : Int32)) else some ((1 : Int32), pd_w v 198 0 (0 : Int32))) = some (x, pd_w v 198 0 0)
                rw [← hx]
                cases decide (pd_w v 198 0 (0 : Int32) 209 l = 0) with
                | false => rfl
                | true => cases decide (pd_w v 198 0 (0 : Int32) 198 26 = 0) <;> rfl
              rcases o2 with ⟨q1, q2⟩ | ⟨q1, q2⟩
              · cases hs : D.2.2.2.2.2 with
                | true =>
                  rw [hs] at eI e9
                  exact QA_y (x := 1) (y := 1) rfl (eH 1 (by rw [decide_eq_true q1, eI]; rfl)) (eL 1 (by rw [e9]; rfl))
                | false =>
                  rw [hs] at eI e9
                  exact QA_y (x := 0) (y := 0) rfl (eH 0 (by rw [decide_eq_true q1, eI]; rfl)) (eL 0 (by rw [e9, e26, decide_eq_false q2]; rfl))
              · refine QA_y (x := 1) (y := 1) rfl (eH 1 (by rw [decide_eq_false q1]; rfl)) (eL 1 ?_)
                rw [e9, e26, decide_eq_true q2]
                cases D.2.2.2.2.2 <;> rfl
            · have o1 := ho (by decide)
              have m6 : v 209 (8 + l) = bi D2.2.2.2.2.2 := m6
              rw [o1] at m6
              refine QA_y (x := 1) (y := 1) rfl ?_ ?_
              · unfold d_La_lane d_De_lane
                rw [decide_eq_false c0, decide_eq_true c2, i2, decide_eq_false z0, decide_eq_false z1]
                rfl
              · unfold d_Mo_lane
                rw [w2, w3, i1, thr_0, decide_eq_false z0, decide_eq_false z1, c8, p8]
                show (bif !(decide (pd_w v 198 0 (0 : Int32) 209 (8 + l) = 0)) then some ((1 : Int32), pd_w v 198 0 (0 : Int32)) else _) = some (1, pd_w v 198 0 0)
                rw [rd 209 (8 + l) (by decide), m6]
                rfl
    · obtain ⟨n1, n2⟩ := ycr_n (v := v) (b0 := b0) w2
      exact QA_x (k := 1) (by decide) (cA_lane_c c0 c2 n2 (Or.inl rfl)) (mA_lane_1 n1)
  · have w4 : a3 < 0 ∨ ¬ a3 ≤ 2 := by
      by_cases c0 : a3 < 0
      · exact Or.inl c0
      · right
        intro z
        exact w3 (bey_in c0 z)
    refine QA_x (k := 1) (by decide) (cA_lane_w w4) ?_
    rcases bey01 (a := a2) (l := 0) (h := 7) with w2 | w2
    · exact mA_lane_2 w2 (bey01.resolve_left w3)
    · exact mA_lane_1 w2
end YQU
