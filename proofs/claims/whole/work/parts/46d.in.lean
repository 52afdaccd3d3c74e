/-! input, lanes, mask, spent -/
section YIN
variable {s : Nat → Int32} {n m w N i1 a FU i : Nat} {inp : Nat → Int32} {v u q t : pd_V} {b : Int} {a1 a2 a3 : Int32} {g : Nat → Int64}
theorem lgz {x y : Int32} (h : x = y) : lg_cmp ((vp_updL g 0 (x.toInt64)) 0) (y.toInt64) = 0 := by
  show lg_cmp (x.toInt64) (y.toInt64) = 0
  rw [h]
  unfold lg_cmp
  rw [if_neg (by exact Int64.lt_irrefl), if_pos rfl]
/-- both are under way, or neither -/
theorem yuw (hJ : J b v) (h7 : K7 v) : (v 173 1 ≠ 0 ∧ v 173 2 = 0 ∧ v 198 26 ≠ 0) ∨ ((v 173 1 = 0 ∨ v 173 2 ≠ 0) ∧ v 198 26 = 0) := by
  obtain ⟨h1, h2, h3, h4, h5, h6, -⟩ := h7
  by_cases c : v 198 20 = 0
  · exact Or.inr ⟨Or.inl (by rw [h3]; exact c), h5 c⟩
  · obtain ⟨s, n, N, i1, ⟨g1, g2, g3, g4, g5⟩, g6, g7, g8, g9⟩ := h6 (hJ.2.1.2.2.2.2.1 c)
    obtain ⟨m, inp, FU, r1, r2, r3, r4, r5, r6, r7⟩ := g9 c
    obtain ⟨-, -, -, r5⟩ := r5
    obtain ⟨-, -, -, r6⟩ := r6
    rcases r5 with ⟨o1, o2, o3, -⟩ | ⟨o1, o2, j, -⟩
    · rcases r6 with ⟨-, p2⟩ | ⟨p1, -⟩
      · exact Or.inr ⟨Or.inr (by rw [o2]; decide), p2⟩
      · omega
    · rcases r6 with ⟨p1, -⟩ | ⟨-, p2⟩
      · omega
      · refine Or.inl ⟨by rw [h3]; exact c, o2, ?_⟩
        obtain ⟨j, -, hz⟩ := zT_v (inp := inp) (X0 := zX0 m) g1 g2 g3 g4 ⟨rfl, Nat.zero_le _⟩ FU
        have hz' : (Nat.ble n (zT s n inp (zX0 m) FU).1.1 || (!(decide (s (zT s n inp (zX0 m) FU).1.1 = 125)) && !(znone (zT s n inp (zX0 m) FU).1.2.2.1))) = true := hz
        rw [ble_f (by omega), Bool.false_or] at hz'
        have hz2 := (and_c hz').2
        intro e
        rw [← MK8_z p2, decide_eq_true e] at hz2
        exact absurd hz2 (by decide)
theorem ynn (h : (v 173 1 = 0 ∨ v 173 2 ≠ 0)) : d_De_needNothingUnderWay v = some none := by
  unfold d_De_needNothingUnderWay
  by_cases c : v 173 1 = 0
  · rw [decide_eq_true c]; rfl
  · rw [decide_eq_false c, decide_eq_false (h.resolve_left c)]; rfl
theorem ynu (h1 : v 173 1 ≠ 0) (h2 : v 173 2 = 0) : d_De_needNothingUnderWay v = some (some 1) := by
  unfold d_De_needNothingUnderWay
  rw [decide_eq_false h1, decide_eq_true h2]
  rfl
/-- what is under way does not look at the inputs -/
theorem K7_in {x : Nat} {y : Int32} (h7 : K7 v) (h26 : v 198 26 = 0) (hx : x < 16) : K7 (pd_w (pd_w (pd_w v 172 x y) 198 0 (0 : Int32)) 203 x y) := by
  have pk : kerOf (v 0 1) = 3 ∨ kerOf (v 0 1) = 88 := ker_of (v 0 1)
  obtain ⟨h1, ⟨m, h2, h3, h4⟩, h5, h6, h7, h8, h9⟩ := h7
  obtain ⟨u, hu⟩ : ∃ u, u = pd_w (pd_w (pd_w v 172 x y) 198 0 (0 : Int32)) 203 x y := ⟨_, rfl⟩
  rw [← hu]
  have ud : ∀ d, d ≠ 172 → d ≠ 198 → d ≠ 203 → u d = v d := fun d a b c => by rw [hu, pd_wa c, pd_wa b, pd_wa a]
  have uk : ∀ k, k ≠ 0 → u 198 k = v 198 k := fun k hk => by rw [hu, pd_w_ne (by decide), pd_w_nk hk, pd_w_ne (by decide)]
  refine ⟨fun j hj => ?_, ⟨m, h2, by rw [ud 0 (by decide) (by decide) (by decide)]; exact h3, by rw [uk 12 (by decide)]; exact h4⟩, ?_, ?_, fun c => ?_, fun c => ?_, fun c => ?_⟩
  · rw [hu]
    by_cases e : j = x
    · rw [e, pd_w_self, pd_w_ne (by decide), pd_w_ne (by decide), pd_w_self]
    · rw [pd_w_nk e, pd_w_ne (by decide), pd_w_ne (by decide), pd_w_nk e, pd_w_ne (by decide), pd_w_ne (by decide)]
      exact h1 j hj
  · rw [ud 173 (by decide) (by decide) (by decide), uk 20 (by decide)]; exact h5
  · rw [ud 186 (by decide) (by decide) (by decide), uk 27 (by decide)]; exact h6
  · rw [uk 26 (by decide)]; exact h26
  · rw [uk 5 (by decide)] at c
    obtain ⟨s, n, N, i1, ⟨g1, g2, g3, g4, g5⟩, g6, g7, g8, g9⟩ := h8 c
    have ek : ∀ d, kerOf (v 0 1) ≤ d → d < kerOf (v 0 1) + 84 → u d = v d := fun d a b => ud d (by omega) (by omega) (by omega)
    refine ⟨s, n, N, i1, ⟨g1, g2, g3, g4, g5⟩, ⟨by rw [uk 4 (by decide)]; exact g6.1, fun j hj => by rw [ud 200 (by decide) (by decide) (by decide)]; exact g6.2 j hj⟩, ?_, ?_, fun c => ?_⟩
    · rw [ud 0 (by decide) (by decide) (by decide)]
      exact KNL_r g3 g7 ek
    · rw [ud 0 (by decide) (by decide) (by decide), ek _ (Nat.le_refl _) (by omega)]
      exact g8
    · rw [uk 20 (by decide)] at c
      obtain ⟨m, inp, FU, r1, r2, r3, r4, r5, r6, r7⟩ := g9 c
      refine ⟨m, inp, FU, r1, by rw [uk 21 (by decide)]; exact r2, by rw [uk 22 (by decide)]; exact r3, r4, ?_, RESL_e r6 (fun d hd => ud d (by omega) (by omega) (by omega)) (fun k hk => uk k (by omega)), fun z => ?_⟩
      · rw [ud 0 (by decide) (by decide) (by decide)]
        exact RUNC_e g3 r5 ek (fun d hd => ud d (by omega) (by omega) (by omega))
      · exfalso
        rcases r6.2.2.2 with ⟨p1, -⟩ | ⟨-, p2⟩
        · omega
        · obtain ⟨j, -, hz⟩ := zT_v (inp := inp) (X0 := zX0 m) g1 g2 g3 g4 ⟨rfl, Nat.zero_le _⟩ FU
          have hz' : (Nat.ble n (zT s n inp (zX0 m) FU).1.1 || (!(decide (s (zT s n inp (zX0 m) FU).1.1 = 125)) && !(znone (zT s n inp (zX0 m) FU).1.2.2.1))) = true := hz
          rw [ble_f (by omega), Bool.false_or] at hz'
          have hz2 := (and_c hz').2
          rw [← MK8_z p2, decide_eq_true h26] at hz2
          exact absurd hz2 (by decide)
  · rw [uk 27 (by decide)] at c
    obtain ⟨Y, hY⟩ := h9 c
    exact ⟨Y, fun l hl => ⟨CRL_e (hY l hl).1 (fun d hd => ud d (by omega) (by omega) (by omega)) (ud 187 (by decide) (by decide) (by decide)), MRL_q (hY l hl).2 (fun d hd => ud d (by omega) (by omega) (by omega))⟩⟩
/-- what a call says in both, when it answers nothing -/
def CV (b : Int) (v : pd_V) (H : Option (Int32 × pd_V × (Nat → Int64) × Nat)) (M : pd_V → Option pd_V) : Prop := Sf H (fun q => q.2.2.2 ≤ 1 ∧ Sf (M q.2.1) (fun r => (J b r ∧ K5 r ∧ K7 r) ∧ d_Mo_thrown r = q.1))
theorem CV_i {H : Option (Int32 × pd_V × (Nat → Int64) × Nat)} {M : pd_V → Option pd_V} {b' : Int} (hJ : J b v) (hK : K5 v) (h1 : Sf H (zLQ v)) (h2 : ∀ u, J b u → Sf (M u) (fun r => JM b' r ∧ ZM u r)) (h3 : Pf H (fun q => Pf (M q.2.1) (fun r => K7 r ∧ d_Mo_thrown r = q.1))) : CV b' v H M :=
  sf_mono (sf_pf h1 h3) (fun q hq => ⟨hq.1.2, sf_mono (sf_pf (h2 q.2.1 (J_C hJ (CF_G hq.1.1))) hq.2) (fun r hr => ⟨⟨J_M (J_C hJ (CF_G hq.1.1)) (FM_M hr.1.2) hr.1.1, K5_M (K5_G hK hq.1.1) hr.1.2, hr.2.1⟩, hr.2.2⟩)⟩)
theorem pf_e {α : Type} {z : Option α} {c : α} {Q : α → Prop} (e : z = some c) (h : Q c) : Pf z Q := fun r hr => by
  rw [e] at hr
  have := Option.some.inj hr
  rw [← this]
  exact h
theorem yin_t (hJ : J b v) (hK : K5 v) (h7 : K7 v) : CV b v (d_La_input a1 a2 v g) (fun u => d_Mo_input a1 a2 u) := by
  refine CV_i hJ hK zl_input (fun u hu => zq_input hu.2.1) ?_
  by_cases c0 : a1 < 0
  · have e1 : d_La_input a1 a2 v g = some (1, v, g, 1) := by
      unfold d_La_input d_De_input
      rw [decide_eq_true c0]
      rfl
    refine pf_e e1 (pf_e (c := pd_w v 198 0 1) ?_ ⟨K7_0 h7, pd_w_self⟩)
    show d_Mo_input a1 a2 v = _
    unfold d_Mo_input
    rw [bey_lo c0]
    rfl
  · by_cases c1 : a1 < 16
    · have c2 : a1 ≤ 15 := lt16.mp c1
      have hb : d_Mo_beyond a1 0 15 = 0 := bey_in c0 c2
      rcases yuw hJ h7 with ⟨u1, u2, u3⟩ | ⟨u1, u2⟩
      · have e1 : d_La_input a1 a2 v g = some (2, v, g, 1) := by
          unfold d_La_input d_De_input
          rw [decide_eq_false c0, decide_eq_true c1, ynu u1 u2]
          rfl
        refine pf_e e1 (pf_e (c := pd_w v 198 0 2) ?_ ⟨K7_0 h7, pd_w_self⟩)
        show d_Mo_input a1 a2 v = _
        unfold d_Mo_input
        rw [hb, decide_eq_false u3]
        rfl
      · have hi : 0 ≤ a1.toInt ∧ a1.toInt < 16 := by
          have h1 := bey0 hb
          have z := sI_0
          have z15 : (15 : Int32).toInt = 15 := by decide
          omega
        have hin : pm_in a1 16 = true := pin hi
        have hx : a1.toNatClampNeg < 16 := pm_in_lt hin
        have e1 : d_La_input a1 a2 v g = some (0, pd_w v 172 a1.toNatClampNeg a2, g, 0) := by
          unfold d_La_input d_De_input
          rw [decide_eq_false c0, decide_eq_true c1, ynn u1, hin]
          rfl
        refine pf_e e1 (pf_e (c := pd_w (pd_w (pd_w v 172 a1.toNatClampNeg a2) 198 0 0) 203 a1.toNatClampNeg a2) ?_ ⟨K7_in h7 u2 hx, ?_⟩)
        · show d_Mo_input a1 a2 (pd_w v 172 a1.toNatClampNeg a2) = _
          unfold d_Mo_input
          rw [hb, show decide (pd_w v 172 a1.toNatClampNeg a2 198 26 = 0) = true from by rw [pd_w_ne (by decide)]; exact decide_eq_true u2, hin]
          rfl
        · show pd_w (pd_w (pd_w v 172 a1.toNatClampNeg a2) 198 0 0) 203 a1.toNatClampNeg a2 198 0 = 0
          rw [pd_w_ne (by decide), pd_w_self]
    · have e1 : d_La_input a1 a2 v g = some (1, v, g, 1) := by
        unfold d_La_input d_De_input
        rw [decide_eq_false c0, decide_eq_false c1]
        rfl
      have c2 : ¬ a1 ≤ 15 := fun z => c1 (lt16.mpr z)
      refine pf_e e1 (pf_e (c := pd_w v 198 0 1) ?_ ⟨K7_0 h7, pd_w_self⟩)
      show d_Mo_input a1 a2 v = _
      unfold d_Mo_input
      rw [bey_hi c0 c2]
      rfl
end YIN
