/-! lanes, mask, spent, start, run, alone -/
section YRU
variable {s : Nat → Int32} {n m w N i1 a FU i : Nat} {inp : Nat → Int32} {v u q t : pd_V} {b : Int} {a1 a2 a3 : Int32} {g : Nat → Int64}
theorem of_r (h : 0 ≤ a1.toInt ∧ a1.toInt ≤ 900000) : ∃ m : Nat, a1 = Int32.ofNat m ∧ (m : Int) = a1.toInt := by
  refine ⟨a1.toInt.toNat, ?_, by omega⟩
  apply Int32.toInt.inj
  rw [Int32.toInt_ofNat_of_lt (by omega)]
  omega
theorem lt1 : ¬ a1 < 1 ↔ 1 ≤ a1.toInt := by
  rw [Int32.lt_iff_toInt_lt, sI_1]
  omega
theorem ylanes_t (hJ : J b v) (hK : K5 v) (h7 : K7 v) : CV b v (d_La_lanes a1 v g) (fun u => d_Mo_lanes a1 u) := by
  refine CV_i hJ hK zl_lanes (fun u hu => zq_lanes hu.2.1) ?_
  by_cases c0 : a1 < 1
  · have e1 : d_La_lanes a1 v g = some (1, v, g, 1) := by
      unfold d_La_lanes d_De_lanes
      rw [decide_eq_true c0]
      rfl
    refine pf_e e1 (pf_e (c := pd_w v 198 0 1) ?_ ⟨K7_0 h7, pd_w_self⟩)
    show d_Mo_lanes a1 v = _
    unfold d_Mo_lanes
    rw [bey_lo c0]
    rfl
  · by_cases c1 : a1 ≤ 8
    · have hb : d_Mo_beyond a1 1 8 = 0 := bey_in c0 c1
      rcases yuw hJ h7 with ⟨u1, u2, u3⟩ | ⟨u1, u2⟩
      · have e1 : d_La_lanes a1 v g = some (2, v, g, 1) := by
          unfold d_La_lanes d_De_lanes
          rw [decide_eq_false c0, decide_eq_true c1, ynu u1 u2]
          rfl
        refine pf_e e1 (pf_e (c := pd_w v 198 0 2) ?_ ⟨K7_0 h7, pd_w_self⟩)
        show d_Mo_lanes a1 v = _
        unfold d_Mo_lanes
        rw [hb, decide_eq_false u3]
        rfl
      · have e1 : d_La_lanes a1 v g = some (0, pd_w v 0 5 a1, g, 0) := by
          unfold d_La_lanes d_De_lanes
          rw [decide_eq_false c0, decide_eq_true c1, ynn u1]
          rfl
        refine pf_e e1 (pf_e (c := pd_w (pd_w (pd_w v 0 5 a1) 198 0 0) 198 12 a1) ?_ ⟨?_, ?_⟩)
        · show d_Mo_lanes a1 (pd_w v 0 5 a1) = _
          unfold d_Mo_lanes
          rw [hb, show decide (pd_w v 0 5 a1 198 26 = 0) = true from by rw [pd_w_ne (by decide)]; exact decide_eq_true u2]
          rfl
        · have hr := bey0 hb
          have z1 := sI_1
          have z8 := sI_8
          obtain ⟨m, em, hm⟩ := of_r (a1 := a1) (by omega)
          have pk : kerOf (v 0 1) = 3 ∨ kerOf (v 0 1) = 88 := ker_of (v 0 1)
          obtain ⟨u, hu⟩ : ∃ u, u = pd_w (pd_w (pd_w v 0 5 a1) 198 0 (0 : Int32)) 198 12 a1 := ⟨_, rfl⟩
          rw [← hu]
          have ud : ∀ d, d ≠ 0 → d ≠ 198 → u d = v d := fun d a b => by rw [hu, pd_wa b, pd_wa b, pd_wa a]
          have u0 : ∀ k, k ≠ 5 → u 0 k = v 0 k := fun k hk => by rw [hu, pd_w_ne (by decide), pd_w_ne (by decide), pd_w_nk hk]
          have uk : ∀ k, k ≠ 0 → k ≠ 12 → u 198 k = v 198 k := fun k h1 h2 => by rw [hu, pd_w_nk h2, pd_w_nk h1, pd_w_ne (by decide)]
          obtain ⟨h1, -, h5, h6, h7, h8, h9⟩ := h7
          have ek : ∀ d, kerOf (v 0 1) ≤ d → d < kerOf (v 0 1) + 84 → u d = v d := fun d a b => ud d (by omega) (by omega)
          refine ⟨fun j hj => ?_, ⟨m, by omega, ?_, ?_⟩, ?_, ?_, fun c => ?_, fun c => ?_, fun c => ?_⟩
          · rw [ud 172 (by decide) (by decide), ud 203 (by decide) (by decide)]; exact h1 j hj
          · rw [hu, pd_w_ne (by decide), pd_w_ne (by decide), pd_w_self]; exact em
          · rw [hu, pd_w_self]; exact em
          · rw [ud 173 (by decide) (by decide), uk 20 (by decide) (by decide)]; exact h5
          · rw [ud 186 (by decide) (by decide), uk 27 (by decide) (by decide)]; exact h6
          · rw [uk 26 (by decide) (by decide)]; exact u2
          · rw [uk 5 (by decide) (by decide)] at c
            obtain ⟨s, n, N, i1, ⟨g1, g2, g3, g4, g5⟩, g6, g7, g8, g9⟩ := h8 c
            refine ⟨s, n, N, i1, ⟨g1, g2, g3, g4, g5⟩, ⟨by rw [uk 4 (by decide) (by decide)]; exact g6.1, fun j hj => by rw [ud 200 (by decide) (by decide)]; exact g6.2 j hj⟩, ?_, ?_, fun c => ?_⟩
            · rw [u0 1 (by decide)]
              exact KNL_r g3 g7 ek
            · rw [u0 1 (by decide), ek _ (Nat.le_refl _) (by omega)]
              exact g8
            · rw [uk 20 (by decide) (by decide)] at c
              obtain ⟨m', inp, FU, r1, r2, r3, r4, r5, r6, r7⟩ := g9 c
              refine ⟨m', inp, FU, r1, by rw [uk 21 (by decide) (by decide)]; exact r2, by rw [uk 22 (by decide) (by decide)]; exact r3, r4, ?_, RESL_e r6 (fun d hd => ud d (by omega) (by omega)) (fun k hk => uk k (by omega) (by omega)), fun z j hj => by rw [ud 203 (by decide) (by decide)]; exact r7 z j hj⟩
              rw [u0 1 (by decide)]
              exact RUNC_e g3 r5 ek (fun d hd => ud d (by omega) (by omega))
          · rw [uk 27 (by decide) (by decide)] at c
            obtain ⟨Y, hY⟩ := h9 c
            exact ⟨Y, fun l hl => ⟨CRL_e (hY l hl).1 (fun d hd => ud d (by omega) (by omega)) (ud 187 (by decide) (by decide)), MRL_q (hY l hl).2 (fun d hd => ud d (by omega) (by omega))⟩⟩
        · show pd_w (pd_w (pd_w v 0 5 a1) 198 0 0) 198 12 a1 198 0 = 0
          rw [pd_w_nk (by decide), pd_w_self]
    · have e1 : d_La_lanes a1 v g = some (1, v, g, 1) := by
        unfold d_La_lanes d_De_lanes
        rw [decide_eq_false c0, decide_eq_false c1]
        rfl
      refine pf_e e1 (pf_e (c := pd_w v 198 0 1) ?_ ⟨K7_0 h7, pd_w_self⟩)
      show d_Mo_lanes a1 v = _
      unfold d_Mo_lanes
      rw [bey_hi c0 c1]
      rfl
/-! start -/
theorem K7_ker (hJ : J b v) (h7 : K7 v) (c : v 198 20 ≠ 0) : KNT v := h7.2.2.2.2.2.1 (hJ.2.1.2.2.2.2.1 c)
theorem ystart_t (hw : 4294967296 < w) (hb : 0 ≤ b ∧ b ≤ 900000) (hJ : J b v) (hK : K5 v) (h7 : K7 v) : CV b v (d_La_start w v g) (fun u => d_Mo_start w u) := by
  refine CV_i hJ hK (zl_start hw) (fun u hu => zst_m hw hb hu.2.1) ?_
  have e02 : v 0 2 = v 198 5 := hK.2.2.2.1
  by_cases c : v 198 5 = 0
  · have e1 : d_La_start w v g = some (1, v, g, 1) := by
      unfold d_La_start d_De_start d_De_needKernel
      rw [e02, decide_eq_true c]
      rfl
    refine pf_e e1 (pf_e (c := pd_w v 198 0 1) ?_ ⟨K7_0 h7, pd_w_self⟩)
    show d_Mo_start w v = _
    unfold d_Mo_start
    rw [decide_eq_true c]
    rfl
  · obtain ⟨h1, ⟨m, h2, h3, h4⟩, h5, h6, h7, h8, h9⟩ := h7
    obtain ⟨s, n, N, i1, ⟨g1, g2, g3, g4, g5⟩, g6, g7, g8, -⟩ := h8 c
    have ha : ker (kerOf (v 0 1)) := ker_of (v 0 1)
    have pk : kerOf (v 0 1) = 3 ∨ kerOf (v 0 1) = 88 := ha
    unfold d_La_start d_De_start d_De_needKernel
    rw [e02, decide_eq_false c, h3]
    show Pf (Option.bind (Option.bind (some none) _) _) _
    refine pf_bind (P := fun r => r.1 = none ∧ RUNC s n N i1 (kerOf (v 0 1)) (fun j => v 172 j) (zX0 m) 0 r.2 ∧ (∀ d, (d < 173 ∨ 186 ≤ d) → r.2 d = v d) ∧ r.2 173 1 = 1) (pf_sb ?_) (fun q1 hq1 => ?_)
    · refine pf_bind (pf_and (pf_sf (t_To_begin (v := v) (l2 := 172) (l3 := Int32.ofNat m) hw ha)) (zbg_t hw g1 g2 ha g3 g4 h2 g7)) (fun q2 hq2 => pf_some ⟨rfl, hq2.2.1, fun d hd => hq2.1 d (by omega), hq2.2.2.2⟩)
    · obtain ⟨z1, z2, z3, z4⟩ := hq1
      rw [z1]
      refine pf_some ?_
      show Pf (d_Mo_start w q1.2) (fun r => K7 r ∧ d_Mo_thrown r = 0)
      have e5 : q1.2 198 5 = v 198 5 := by rw [z3 198 (by omega)]
      unfold d_Mo_start
      rw [e5, decide_eq_false c]
      refine pf_t ?_
      rw [thr_0]
      refine pf_sb (pf_d (fun _ => ?_) (fun z => absurd rfl z))
      obtain ⟨u, hu⟩ : ∃ u, u = pd_w (pd_w (pd_w (pd_w q1.2 198 0 (0 : Int32)) 198 20 (1 : Int32)) 198 21 (pd_w q1.2 198 0 (0 : Int32) 198 12)) 198 22 (0 : Int32) := ⟨_, rfl⟩
      show Pf ((d_Mo_again w (pd_w (pd_w (pd_w (pd_w q1.2 198 0 (0 : Int32)) 198 20 (1 : Int32)) 198 21 (pd_w q1.2 198 0 (0 : Int32) 198 12)) 198 22 (0 : Int32))).bind fun q4 => some q4.2) _
      rw [← hu]
      have ud : ∀ d, d ≠ 198 → u d = q1.2 d := fun d hd => by rw [hu, pd_wa hd, pd_wa hd, pd_wa hd, pd_wa hd]
      have uk : ∀ k, k ≠ 0 → k ≠ 20 → k ≠ 21 → k ≠ 22 → u 198 k = v 198 k := fun k a b c d => by rw [hu, pd_w_nk d, pd_w_nk c, pd_w_nk b, pd_w_nk a, z3 198 (by omega)]
      have u0 : u 198 0 = 0 := by rw [hu, pd_w_nk (by decide), pd_w_nk (by decide), pd_w_nk (by decide), pd_w_self]
      have u20 : u 198 20 = 1 := by rw [hu, pd_w_nk (by decide), pd_w_nk (by decide), pd_w_self]
      have u21 : u 198 21 = Int32.ofNat m := by rw [hu, pd_w_nk (by decide), pd_w_self, pd_w_nk (by decide), z3 198 (by omega)]; exact h4
      have u22 : u 198 22 = Int32.ofNat 0 := by rw [hu, pd_w_self]; rfl
      have uT : TX n s u := ⟨by rw [uk 4 (by decide) (by decide) (by decide) (by decide)]; exact g6.1, fun j hj => by rw [ud 200 (by decide), z3 200 (by omega)]; exact g6.2 j hj⟩
      have uI : MIN (fun j => v 172 j) u := fun j hj => by rw [ud 203 (by decide), z3 203 (by omega)]; exact h1 j hj
      have z0 := sI_0
      have e22 : (u 198 22).toInt = 0 := by rw [u22]; exact z0
      refine pf_bind (pf_and (pf_sf (ag_t hw g1 g2 ⟨N, g4⟩ uT (by omega) (by omega))) (yag_t hw g1 g2 g3 g4 h2.2 u21 u22 (by omega) uT uI)) (fun q4 hq4 => pf_some ?_)
      obtain ⟨ms, rs, -, ot, e27⟩ := hq4
      have rd : ∀ d, d < 198 → q4.2 d = q1.2 d := fun d hd => by rw [ms.1 d (by omega), ud d (by omega)]
      have rk : ∀ k, k < 23 → k ≠ 6 → k ≠ 19 → q4.2 198 k = u 198 k := fun k a b c => ms.2 k a b c
      have r0 : q4.2 0 = v 0 := by rw [rd 0 (by omega), z3 0 (by omega)]
      have ek : ∀ d, kerOf (v 0 1) ≤ d → d < kerOf (v 0 1) + 84 → q4.2 d = v d := fun d a b => by rw [rd d (by omega), z3 d (by omega)]
      have rz : (zT s n (fun j => v 172 j) (zX0 m) 0).1.1 < n → ∀ j, j < 16 → (fun j => v 172 j) j = q4.2 203 j := fun _ j hj => by rw [ms.1 203 (by omega)]; exact uI j hj
      refine ⟨⟨fun j hj => ?_, ⟨m, h2, by rw [r0]; exact h3, ?_⟩, ?_, ?_, fun c2 => ?_, fun _ => ⟨s, n, N, i1, ⟨g1, g2, g3, g4, g5⟩, ⟨?_, fun j hj => ?_⟩, ?_, ?_, fun _ => ⟨m, fun j => v 172 j, 0, h2, ?_, ?_, by omega, ?_, RESL_R rs, rz⟩⟩, fun c2 => ?_⟩, ?_⟩
      · rw [rd 172 (by omega), z3 172 (by omega), ms.1 203 (by omega)]
        exact uI j hj
      · rw [rk 12 (by decide) (by decide) (by decide), uk 12 (by decide) (by decide) (by decide) (by decide)]; exact h4
      · rw [rd 173 (by omega), z4, rk 20 (by decide) (by decide) (by decide), u20]
      · rw [rd 186 (by omega), z3 186 (by omega), e27, uk 27 (by decide) (by decide) (by decide) (by decide)]; exact h6
      · rw [rk 20 (by decide) (by decide) (by decide), u20] at c2
        exact absurd c2 (by decide)
      · rw [rk 4 (by decide) (by decide) (by decide)]; exact uT.1
      · rw [ms.1 200 (by omega)]; exact uT.2 j hj
      · rw [r0]
        exact KNL_r g3 g7 ek
      · rw [r0, ek _ (Nat.le_refl _) (by omega)]; exact g8
      · rw [rk 21 (by decide) (by decide) (by decide)]; exact u21
      · rw [rk 22 (by decide) (by decide) (by decide)]; exact u22
      · rw [r0]
        exact RUNC_e g3 z2 (fun d a b => rd d (by omega)) (fun d hd => rd d (by omega))
      · rw [e27, uk 27 (by decide) (by decide) (by decide) (by decide)] at c2
        obtain ⟨Y, hY⟩ := h9 c2
        refine ⟨Y, fun l hl => ⟨CRL_e (hY l hl).1 (fun d hd => by rw [rd d (by omega), z3 d (by omega)]) (by rw [rd 187 (by omega), z3 187 (by omega)]), ?_⟩⟩
        exact ot (8 + l) _ (by omega) (by omega) (MRL_q (hY l hl).2 (fun d hd => by rw [ud d (by omega), z3 d (by omega)]))
      · show q4.2 198 0 = 0
        rw [rk 0 (by decide) (by decide) (by decide), u0]
end YRU
