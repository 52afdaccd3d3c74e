/-! varies, in both -/
section ZVA
variable {w : Nat} {v u q : pd_V} {b : Int} {a1 W : Int32} {g : Nat → Int64}
theorem isIn_r : (List.range 8).all (fun i => decide (((Int32.ofNat i &&& 31).toBitVec.smod 32#32).toNat = i)) = true := by decide +kernel
theorem isIn_e {i : Nat} (hi : i < 8) : decide (((W >>> (Int32.ofNat i &&& 31)) &&& (1 : Int32)) = 0) = !(zbt W i) := by
  have h1 := of_decide_eq_true (List.all_eq_true.mp isIn_r i (List.mem_range.mpr hi))
  rw [z0_bv, Int32.toBitVec_and, Int32.toBitVec_shiftRight]
  show decide ((W.toBitVec.sshiftRight ((Int32.ofNat i &&& 31).toBitVec.smod 32#32).toNat) &&& 1#32 = 0#32) = _
  rw [h1, BitVec.and_one_eq_setWidth_ofBool_getLsbD, BitVec.getLsbD_sshiftRight]
  unfold zbt
  rw [Nat.add_zero, if_pos (show i < 32 by omega)]
  cases W.toBitVec.getLsbD i <;> decide
theorem isIn_b {i : Nat} (hi : i < 8) : d_De_isIn W (Int32.ofNat i) = bi (zbt W i) := by
  unfold d_De_isIn
  rw [isIn_e hi]
  cases zbt W i <;> rfl
/-- either both throw the same, or both answer the same -/
theorem zva_t (hK : K5 v) : ∃ k n g' y, d_La_varies a1 v g = some (k, v, g', n) ∧ d_Mo_varies a1 v = some (y, pd_w v 198 0 k) ∧ n ≤ 1 ∧ (k = 0 → g' 0 = bif decide (y = 0) then (0 : Int64) else 1) := by
  by_cases c5 : v 198 5 = 0
  · have c2 : v 0 2 = 0 := hK.2.2.2.1.trans c5
    refine ⟨1, 1, g, 0, ?_, ?_, Nat.le_refl _, fun z => absurd z (by decide)⟩
    · unfold d_La_varies d_De_varies d_De_needKernel
      rw [decide_eq_true c2]
      rfl
    · unfold d_Mo_varies
      rw [decide_eq_true c5]
      rfl
  · have c2 : v 0 2 ≠ 0 := fun z => c5 (hK.2.2.2.1.symm.trans z)
    have hn : d_De_needKernel v = some none := by
      unfold d_De_needKernel
      rw [decide_eq_false c2]
      rfl
    by_cases h0 : a1 < 0
    · refine ⟨2, 1, g, 0, ?_, ?_, Nat.le_refl _, fun z => absurd z (by decide)⟩
      · unfold d_La_varies d_De_varies
        rw [hn]
        show (((bif decide (a1 < 0) then some (Sum.inr 0) else _) : Option (Int32 ⊕ Nat)).bind _) = _
        rw [decide_eq_true h0]
        rfl
      · unfold d_Mo_varies
        rw [bey_lo h0, decide_eq_false c5]
        rfl
    · by_cases h7 : a1 ≤ 7
      · obtain ⟨i, hi, rfl⟩ : ∃ i : Nat, i ≤ 7 ∧ a1 = Int32.ofNat i := by
          obtain ⟨N, g1, g2⟩ := int_eq_ofNat_of_bounds (C := 7) (by decide) (show (0 : Int32) ≤ a1 by
            rw [Int32.le_iff_toInt_le]
            have h9 : ¬ a1.toInt < (0 : Int32).toInt := fun q => h0 (Int32.lt_iff_toInt_lt.mpr q)
            omega) h7
          exact ⟨N, g1, g2⟩
        have h8 : Int32.ofNat i < (8 : Int32) := (le_of_lt_succ (by decide)).mpr h7
        have hz := hK.2.2.2.2 c5 i (by omega)
        refine ⟨0, 0, vp_updL g 0 (bif zbt (v (kerOf (v 0 1)) 5) i then 1 else 0), bi (zbt (v (kerOf (v 0 1)) 5) i), ?_, ?_, Nat.zero_le _, fun _ => ?_⟩
        · unfold d_La_varies d_De_varies
          rw [hn]
          show (((bif decide (Int32.ofNat i < 0) then some (Sum.inr 0) else bif decide (Int32.ofNat i < (8 : Int32)) then some (Sum.inl (d_De_isIn (v (kerOf (v 0 1)) 5) (Int32.ofNat i))) else some (Sum.inr 0)) : Option (Int32 ⊕ Nat)).bind _) = _
          rw [decide_eq_false h0, decide_eq_true h8, isIn_b (by omega)]
          show (bif decide (bi (zbt (v (kerOf (v 0 1)) 5) i) = 0) then some ((0 : Int32), v, (vp_updL g 0 (0 : Int64)), 0) else some ((0 : Int32), v, (vp_updL g 0 (1 : Int64)), 0)) = _
          cases zbt (v (kerOf (v 0 1)) 5) i <;> rfl
        · unfold d_Mo_varies
          rw [bey_in h0 h7, decide_eq_false c5]
          show (bif pm_in (Int32.ofNat i) 8 then (bif decide (pd_w v 198 0 (0 : Int32) 201 (Int32.ofNat i).toNatClampNeg = 0) then some ((0 : Int32), pd_w v 198 0 (0 : Int32)) else some ((1 : Int32), pd_w v 198 0 (0 : Int32))) else none) = _
          rw [in_nat (by omega) (by omega), cl_nat (by omega), pd_w_ne (by decide), hz, bi_0]
          cases zbt (v (kerOf (v 0 1)) 5) i <;> rfl
        · show (bif zbt (v (kerOf (v 0 1)) 5) i then (1 : Int64) else 0) = _
          rw [bi_0]
          cases zbt (v (kerOf (v 0 1)) 5) i <;> rfl
      · have h8 : ¬ a1 < (8 : Int32) := fun z => h7 ((le_of_lt_succ (by decide)).mp z)
        refine ⟨2, 1, g, 0, ?_, ?_, Nat.le_refl _, fun z => absurd z (by decide)⟩
        · unfold d_La_varies d_De_varies
          rw [hn]
          show (((bif decide (a1 < 0) then some (Sum.inr 0) else bif decide (a1 < (8 : Int32)) then some (Sum.inl (d_De_isIn (v (kerOf (v 0 1)) 5) a1)) else some (Sum.inr 0)) : Option (Int32 ⊕ Nat)).bind _) = _
          rw [decide_eq_false h0, decide_eq_false h8]
          rfl
        · unfold d_Mo_varies
          rw [bey_hi h0 h7, decide_eq_false c5]
          rfl
/-- start throws in both or in neither -/
theorem zsx_t (hw : 4294967296 < w) (hK : K5 v) : Sf (d_La_start w v g) (fun q => zLQ v q ∧ q.1 = (bif decide (v 198 5 = 0) then (1 : Int32) else 0)) := by
  refine sf_sf (zl_start hw) ?_
  unfold d_La_start d_De_start d_De_needKernel
  rw [hK.2.2.2.1]
  by_cases c5 : v 198 5 = 0
  · rw [decide_eq_true c5]
    exact sf_some rfl
  · rw [decide_eq_false c5]
    obtain ⟨q2, e, -⟩ := t_To_begin (l2 := 172) (l3 := v 0 5) (v := v) hw (ker_of (v 0 1))
    show Sf (Option.bind (Option.bind (d_To_begin w (kerOf (v 0 1)) 172 16 (v 0 5) v) (fun q2 => (some (none, q2) : Option (Option Nat × pd_V)))) (fun q1 => Option.elim q1.1 (some ((0 : Int32), q1.2, g, 0)) (fun xq1 => bif Nat.beq xq1 1 then some ((1 : Int32), q1.2, g, 1) else none))) _
    rw [e]
    exact sf_some rfl
theorem zsm_t (hw : 4294967296 < w) (hb : 0 ≤ b ∧ b ≤ 900000) (hJ : JM b u) : Sf (d_Mo_start w u) (fun q => (JM b q ∧ ZM u q) ∧ q 198 0 = (bif decide (u 198 5 = 0) then (1 : Int32) else 0)) := by
  refine sf_sf (zst_m hw hb hJ) ?_
  unfold d_Mo_start
  by_cases c5 : u 198 5 = 0
  · rw [decide_eq_true c5, thr_1]
    exact sf_some (show pd_w u 198 0 (1 : Int32) 198 0 = 1 from pd_w_self)
  · rw [decide_eq_false c5, thr_0]
    obtain ⟨-, -, -, h4, -, -⟩ := hJ
    obtain ⟨n, s, g1, g2, g3, g4, g5⟩ := h4 c5
    show Sf ((d_Mo_again w (pd_w (pd_w (pd_w (pd_w u 198 0 (0 : Int32)) 198 20 (1 : Int32)) 198 21 (pd_w u 198 0 (0 : Int32) 198 12)) 198 22 (0 : Int32))).bind fun q4 => some q4.2) _
    have T : TX n s (pd_w (pd_w (pd_w (pd_w u 198 0 (0 : Int32)) 198 20 (1 : Int32)) 198 21 (pd_w u 198 0 (0 : Int32) 198 12)) 198 22 (0 : Int32)) := ⟨by rw [pd_w_nk (by decide), pd_w_nk (by decide), pd_w_nk (by decide), pd_w_nk (by decide)]; exact g4, fun j hj => by rw [pd_w_ne (by decide), pd_w_ne (by decide), pd_w_ne (by decide), pd_w_ne (by decide)]; exact g5 j hj⟩
    refine sf_bind (ag_t hw g1 g2 g3 T (by rw [pd_w_self, sI_0]; omega) (by rw [pd_w_self, sI_0]; omega)) (fun q4 h4 => sf_some ?_)
    rw [h4.2 0 (by decide) (by decide) (by decide), pd_w_nk (by decide), pd_w_nk (by decide), pd_w_nk (by decide), pd_w_self]
    rfl
end ZVA
