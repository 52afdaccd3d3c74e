/-! out and cell -/
section YOC
variable {n m w N i1 a FU i l k j : Nat} {v u q t : pd_V} {b : Int} {a1 a2 a3 b0 : Int32} {g : Nat → Int64}
theorem m20 : ((20 : Int32) * Int32.ofNat l) + Int32.ofNat j = Int32.ofNat (20 * l + j) := by
  rw [Int32.ofNat_add, Int32.ofNat_mul]
  rfl
theorem m20b : ((Int32.ofNat l) * (20 : Int32)) + Int32.ofNat j = Int32.ofNat (20 * l + j) := by
  rw [show 20 * l + j = l * 20 + j by omega, Int32.ofNat_add, Int32.ofNat_mul]
  rfl
theorem m8e : ((8 : Int32) * Int32.ofNat l) + Int32.ofNat j = Int32.ofNat (8 * l + j) := by
  rw [Int32.ofNat_add, Int32.ofNat_mul]
  rfl
theorem e8l : (8 : Int32) + Int32.ofNat l = Int32.ofNat (8 + l) := (Int32.ofNat_add 8 l).symm
theorem ycell_t (hJ : J b v) (h7 : K7 v) (hb : b0 = 0 ∨ b0 = 1) : QA v g (d_La_cell b0 a2 a3 v g) (d_Mo_cell b0 a2 a3 v) := by
  by_cases w3 : d_Mo_beyond a3 0 15 = 0
  · have c0 : ¬ a3 < 0 := fun z => by rw [bey_lo z] at w3; exact absurd w3 (by decide)
    have c2 : a3 ≤ 15 := by
      by_cases z : a3 ≤ 15
      · exact z
      · rw [bey_hi c0 z] at w3; exact absurd w3 (by decide)
    have c3 : a3 < 16 := lt16.mpr c2
    by_cases w2 : d_Mo_beyond a2 0 7 = 0
    · obtain ⟨l, hl, rfl⟩ := of7 w2
      rcases ycr_t hJ h7 hb hl with ⟨i1, i2⟩ | ⟨i1, c, D, D2, i2, hC, hM, ⟨d1, d2, -, -, -⟩, -, -⟩
      · exact QA_x (k := 2) (by decide) (cA_cell_c c0 c3 i2 (Or.inr rfl)) (mA_cell_3 w2 w3 i1)
      · have hr := bey0 w3
        have z15 : (15 : Int32).toInt = 15 := by decide
        have z0 := sI_0
        obtain ⟨k, ek, hk⟩ := of_r (a1 := a3) (by omega)
        have hk16 : k < 16 := by omega
        subst ek
        obtain ⟨k1, k2, -⟩ := hC
        obtain ⟨m1, m2, -⟩ := hM
        have rd : ∀ d j, d ≠ 198 → pd_w v 198 0 (0 : Int32) d j = v d j := fun d j h => pd_w_ne h
        have e8 : decide ((8 : Int32) ≤ Int32.ofNat k) = decide (8 ≤ k) := by rw [show (8 : Int32) = Int32.ofNat 8 from rfl, le_nat (by omega) (by omega)]
        by_cases k8 : 8 ≤ k
        · rw [decide_eq_true k8] at e8
          have ex : Int32.ofNat k - (8 : Int32) = Int32.ofNat (k - 8) := subN (b := 8) (by omega) k8
          have ev : d_Cr_variableOf c (Int32.ofNat l) (Int32.ofNat k - (8 : Int32)) v = some (v (c + 2) (8 * l + (k - 8))) := by
            rw [ex, var_1 hl (by rw [Int32.toInt_ofNat_of_lt (by omega)]; omega), cl_nat (by omega)]
          have eH : d_La_cell b0 (Int32.ofNat l) (Int32.ofNat k) v g = some (0, v, vp_updL g 0 ((v (c + 2) (8 * l + (k - 8))).toInt64), 0) := by
            unfold d_La_cell d_De_cell
            rw [decide_eq_false c0, decide_eq_true c3, i2, e8]
            show (((d_Cr_variableOf c (Int32.ofNat l) (Int32.ofNat k - (8 : Int32)) v).bind fun q5 => some (Sum.inl q5)) : Option (Int32 ⊕ Nat)).bind _ = _
            rw [ev]
            rfl
          rcases hb with rfl | rfl
          · refine QA_y (y := v 204 (8 * l + (k - 8))) (by rw [← k1 (k - 8) (by omega), ← d1]; exact m1 (k - 8) (by omega)) eH ?_
            unfold d_Mo_cell
            rw [w2, w3, i1, thr_0, e8, m8e, show Int32.ofNat (8 * l + k) - (8 : Int32) = Int32.ofNat (8 * l + k - 8) from subN (b := 8) (by omega) (by omega), in_nat (show 8 * l + k - 8 < 128 by omega) (by omega), cl_nat (by omega)]
            show some (pd_w v 198 0 (0 : Int32) 204 (8 * l + k - 8), pd_w v 198 0 (0 : Int32)) = _
            rw [rd 204 _ (by decide), show 8 * l + k - 8 = 8 * l + (k - 8) by omega]
          · refine QA_y (y := v 204 (8 * (8 + l) + (k - 8))) (by rw [← k1 (k - 8) (by omega), ← d1]; exact m1 (k - 8) (by omega)) eH ?_
            unfold d_Mo_cell
            rw [w2, w3, i1, thr_0, e8, e8l, m8e, m8e, show Int32.ofNat (8 * (8 + l) + k) - (8 : Int32) = Int32.ofNat (8 * (8 + l) + k - 8) from subN (b := 8) (by omega) (by omega), in_nat (show 8 * (8 + l) + k - 8 < 128 by omega) (by omega), cl_nat (show 8 * (8 + l) + k - 8 ≤ 1000 by omega)]
            show some (pd_w v 198 0 (0 : Int32) 204 (8 * (8 + l) + k - 8), pd_w v 198 0 (0 : Int32)) = _
            rw [rd 204 _ (by decide), show 8 * (8 + l) + k - 8 = 8 * (8 + l) + (k - 8) by omega]
        · rw [decide_eq_false k8] at e8
          have ev : d_Cr_cellOf c (Int32.ofNat l) (Int32.ofNat k) v = some (v (c + 3) (8 * l + k)) := by
            unfold d_Cr_cellOf
            rw [slot_e hl (show k < 8 by omega), in_nat (show 8 * l + k < 64 by omega) (by omega), cl_nat (by omega)]
            rfl
          have eH : d_La_cell b0 (Int32.ofNat l) (Int32.ofNat k) v g = some (0, v, vp_updL g 0 ((v (c + 3) (8 * l + k)).toInt64), 0) := by
            unfold d_La_cell d_De_cell
            rw [decide_eq_false c0, decide_eq_true c3, i2, e8]
            show (((d_Cr_cellOf c (Int32.ofNat l) (Int32.ofNat k) v).bind fun q5 => some (Sum.inl q5)) : Option (Int32 ⊕ Nat)).bind _ = _
            rw [ev]
            rfl
          rcases hb with rfl | rfl
          · refine QA_y (y := v 205 (8 * l + k)) (by rw [← k2 k (by omega), ← d2]; exact m2 k (by omega)) eH ?_
            unfold d_Mo_cell
            rw [w2, w3, i1, thr_0, e8, m8e, in_nat (show 8 * l + k < 128 by omega) (by omega), cl_nat (by omega)]
            show some (pd_w v 198 0 (0 : Int32) 205 (8 * l + k), pd_w v 198 0 (0 : Int32)) = _
            rw [rd 205 _ (by decide)]
          · refine QA_y (y := v 205 (8 * (8 + l) + k)) (by rw [← k2 k (by omega), ← d2]; exact m2 k (by omega)) eH ?_
            unfold d_Mo_cell
            rw [w2, w3, i1, thr_0, e8, e8l, m8e, m8e, in_nat (show 8 * (8 + l) + k < 128 by omega) (by omega), cl_nat (show 8 * (8 + l) + k ≤ 1000 by omega)]
            show some (pd_w v 198 0 (0 : Int32) 205 (8 * (8 + l) + k), pd_w v 198 0 (0 : Int32)) = _
            rw [rd 205 _ (by decide)]
    · obtain ⟨n1, n2⟩ := ycr_n (v := v) (b0 := b0) w2
      exact QA_x (k := 1) (by decide) (cA_cell_c c0 c3 n2 (Or.inl rfl)) (mA_cell_1 n1)
  · have w4 : a3 < 0 ∨ ¬ a3 < 16 := by
      by_cases c0 : a3 < 0
      · exact Or.inl c0
      · right
        intro z
        exact w3 (bey_in c0 (lt16.mp z))
    refine QA_x (k := 1) (by decide) (cA_cell_w w4) ?_
    rcases bey01 (a := a2) (l := 0) (h := 7) with w2 | w2
    · exact mA_cell_2 w2 (bey01.resolve_left w3)
    · exact mA_cell_1 w2
theorem thr_03 {v : pd_V} : d_Mo_throwing 0 0 1 v = some (1, pd_w v 198 0 3) := thr_3
theorem yout_t (hJ : J b v) (h7 : K7 v) (hb : b0 = 0 ∨ b0 = 1) : QA v g (d_La_out b0 a2 a3 v g) (d_Mo_out b0 a2 a3 v) := by
  by_cases w2 : d_Mo_beyond a2 0 7 = 0
  · obtain ⟨l, hl, rfl⟩ := of7 w2
    rcases ycr_t hJ h7 hb hl with ⟨i1, i2⟩ | ⟨i1, c, D, D2, i2, hC, hM, ⟨-, -, d3, d4, -⟩, -, -⟩
    · exact QA_x (k := 2) (by decide) (cA_out_c i2 (Or.inr rfl)) (mA_out_2 hb w2 i1)
    · have cl : (Int32.ofNat l).toNatClampNeg = l := cl_nat (by omega)
      have a7 : Int32.ofNat l &&& (7 : Int32) = Int32.ofNat l := zand7 (by omega)
      have p7 : pm_in (Int32.ofNat l) 8 = true := in_nat hl (by omega)
      have ec : d_Cr_countOf c (Int32.ofNat l) v = some (v (c + 5) l) := by
        unfold d_Cr_countOf
        rw [a7, p7, cl]
        rfl
      obtain ⟨-, -, k3, k4, -, -⟩ := hC
      obtain ⟨-, -, m3, m4, -, -⟩ := hM
      have rd : ∀ d j, d ≠ 198 → pd_w v 198 0 (0 : Int32) d j = v d j := fun d j h => pd_w_ne h
      have none3 : ∀ {H : Option (Int32 × pd_V × (Nat → Int64) × Nat)} {M : Option (Int32 × pd_V)}, H = some (3, v, g, 1) → M = some (0, pd_w v 198 0 3) → QA v g H M := fun e1 e2 => QA_x (k := 3) (by decide) e1 e2
      by_cases c0 : a3 < 0
      · have eH : d_La_out b0 (Int32.ofNat l) a3 v g = some (3, v, g, 1) := by
          unfold d_La_out d_De_out
          rw [i2, decide_eq_true c0]
          rfl
        refine none3 eH ?_
        rcases hb with rfl | rfl
        · unfold d_Mo_out d_Mo_out_26
          rw [w2, i1, decide_eq_true c0, thr_03]
          rfl
        · unfold d_Mo_out d_Mo_out_26
          rw [w2, i1, decide_eq_true c0, thr_03]
          rfl
      by_cases c1 : (20 : Int32) ≤ a3
      · have eH : d_La_out b0 (Int32.ofNat l) a3 v g = some (3, v, g, 1) := by
          unfold d_La_out d_De_out
          rw [i2, decide_eq_false c0, decide_eq_true c1]
          rfl
        refine none3 eH ?_
        rcases hb with rfl | rfl
        · unfold d_Mo_out d_Mo_out_26
          rw [w2, i1, decide_eq_false c0, decide_eq_true c1, thr_03]
          rfl
        · unfold d_Mo_out d_Mo_out_26
          rw [w2, i1, decide_eq_false c0, decide_eq_true c1, thr_03]
          rfl
      have z0 := sI_0
      have z20 := sI_20
      have r0 : 0 ≤ a3.toInt := by
        rw [Int32.lt_iff_toInt_lt] at c0
        omega
      have r1 : a3.toInt < 20 := by
        rw [Int32.le_iff_toInt_le] at c1
        omega
      obtain ⟨j, ej, hj⟩ := of_r (a1 := a3) (by omega)
      have hj20 : j < 20 := by omega
      subst ej
      have ecn : v 207 (bif decide (b0 = 0) then l else 8 + l) = v (c + 5) l := by rw [m4, d4, ← k4]
      by_cases c2 : Int32.ofNat j < v (c + 5) l
      · have hjc : j < D.2.2.2.1 := by
          rcases Nat.lt_or_ge D.2.2.2.1 2147483648 with t | t
          · rw [k4, Int32.lt_iff_toInt_lt, Int32.toInt_ofNat_of_lt (by omega), Int32.toInt_ofNat_of_lt (by omega)] at c2
            omega
          · omega
        have ek : d_Cr_keptOf c (Int32.ofNat l) (Int32.ofNat j) v = some (v (c + 4) (20 * l + j)) := by
          unfold d_Cr_keptOf
          rw [decide_eq_false c0, decide_eq_false c1, a7, m20b, in_nat (show 20 * l + j < 160 by omega) (by omega), cl_nat (by omega)]
          rfl
        have eH : d_La_out b0 (Int32.ofNat l) (Int32.ofNat j) v g = some (0, v, vp_updL g 0 ((v (c + 4) (20 * l + j)).toInt64), 0) := by
          unfold d_La_out d_De_out
          rw [i2, decide_eq_false c0, decide_eq_false c1]
          show (((d_Cr_countOf c (Int32.ofNat l) v).bind fun q4 => bif decide (Int32.ofNat j < q4) then ((d_Cr_keptOf c (Int32.ofNat l) (Int32.ofNat j) v).bind fun q6 => some (Sum.inl q6)) else some (Sum.inr 2)) : Option (Int32 ⊕ Nat)).bind _ = _
          rw [ec]
          show ((bif decide (Int32.ofNat j < v (c + 5) l) then ((d_Cr_keptOf c (Int32.ofNat l) (Int32.ofNat j) v).bind fun q6 => some (Sum.inl q6)) else some (Sum.inr 2)) : Option (Int32 ⊕ Nat)).bind _ = _
          rw [decide_eq_true c2, ek]
          rfl
        have val : v (c + 4) (20 * l + j) = v 206 (20 * (bif decide (b0 = 0) then l else 8 + l) + j) := by
          rw [← k3 j hj20 hjc, ← d3]
          exact m3 j hj20 (by rw [d4]; exact hjc)
        rcases hb with rfl | rfl
        · refine QA_y (y := v 206 (20 * l + j)) val eH ?_
          have ecn : v 207 l = v (c + 5) l := ecn
          unfold d_Mo_out d_Mo_out_26
          rw [w2, i1, decide_eq_false c0, decide_eq_false c1, cl, ecn, decide_eq_true c2, thr_0, m20, in_nat (show l < 16 by omega) (by omega), in_nat (show 20 * l + j < 320 by omega) (by omega), cl_nat (show 20 * l + j ≤ 1000 by omega)]
          show some (pd_w v 198 0 (0 : Int32) 206 (20 * l + j), pd_w v 198 0 (0 : Int32)) = _
          rw [rd 206 _ (by decide)]
        · refine QA_y (y := v 206 (20 * (8 + l) + j)) val eH ?_
          have ecn : v 207 (8 + l) = v (c + 5) l := ecn
          unfold d_Mo_out d_Mo_out_26
          rw [w2, i1, decide_eq_false c0, decide_eq_false c1, e8l, cl_nat (show 8 + l ≤ 1000 by omega), ecn, decide_eq_true c2, thr_0, m20, m20, in_nat (show 8 + l < 16 by omega) (by omega), in_nat (show 20 * (8 + l) + j < 320 by omega) (by omega), cl_nat (show 20 * (8 + l) + j ≤ 1000 by omega)]
          show some (pd_w v 198 0 (0 : Int32) 206 (20 * (8 + l) + j), pd_w v 198 0 (0 : Int32)) = _
          rw [rd 206 _ (by decide)]
      · have eH : d_La_out b0 (Int32.ofNat l) (Int32.ofNat j) v g = some (3, v, g, 1) := by
          unfold d_La_out d_De_out
          rw [i2, decide_eq_false c0, decide_eq_false c1]
          show (((d_Cr_countOf c (Int32.ofNat l) v).bind fun q4 => bif decide (Int32.ofNat j < q4) then ((d_Cr_keptOf c (Int32.ofNat l) (Int32.ofNat j) v).bind fun q6 => some (Sum.inl q6)) else some (Sum.inr 2)) : Option (Int32 ⊕ Nat)).bind _ = _
          rw [ec]
          show ((bif decide (Int32.ofNat j < v (c + 5) l) then ((d_Cr_keptOf c (Int32.ofNat l) (Int32.ofNat j) v).bind fun q6 => some (Sum.inl q6)) else some (Sum.inr 2)) : Option (Int32 ⊕ Nat)).bind _ = _
          rw [decide_eq_false c2]
          rfl
        refine none3 eH ?_
        rcases hb with rfl | rfl
        · have ecn : v 207 l = v (c + 5) l := ecn
          unfold d_Mo_out d_Mo_out_26
          rw [w2, i1, decide_eq_false c0, decide_eq_false c1, cl, ecn, decide_eq_false c2, thr_03, in_nat (show l < 16 by omega) (by omega)]
          rfl
        · have ecn : v 207 (8 + l) = v (c + 5) l := ecn
          unfold d_Mo_out d_Mo_out_26
          rw [w2, i1, decide_eq_false c0, decide_eq_false c1, e8l, cl_nat (show 8 + l ≤ 1000 by omega), ecn, decide_eq_false c2, thr_03, in_nat (show 8 + l < 16 by omega) (by omega)]
          rfl
  · obtain ⟨n1, n2⟩ := ycr_n (v := v) (b0 := b0) w2
    exact QA_x (k := 1) (by decide) (cA_out_c n2 (Or.inl rfl)) (mA_out_1 hb n1)
end YOC
