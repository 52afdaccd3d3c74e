/-! run and alone -/
section YRV
variable {s : Nat → Int32} {n m w N i1 a FU i : Nat} {inp : Nat → Int32} {v u q t : pd_V} {b : Int} {a1 a2 a3 : Int32} {g : Nat → Int64}
/-- what a call says in both, when it answers a number -/
def CA (b : Int) (v : pd_V) (H : Option (Int32 × pd_V × (Nat → Int64) × Nat)) (M : pd_V → Option (Int32 × pd_V)) : Prop := Sf H (fun q => q.2.2.2 ≤ 1 ∧ Sf (M q.2.1) (fun r => (J b r.2 ∧ K5 r.2 ∧ K7 r.2) ∧ d_Mo_thrown r.2 = q.1 ∧ (q.1 = 0 → lg_cmp (q.2.2.1 0) (r.1.toInt64) = 0)))
theorem CA_i {H : Option (Int32 × pd_V × (Nat → Int64) × Nat)} {M : pd_V → Option (Int32 × pd_V)} {b' : Int} (hJ : J b v) (hK : K5 v) (h1 : Sf H (zLQ v)) (h2 : ∀ u, J b u → Sf (M u) (fun r => JM b' r.2 ∧ ZM u r.2)) (h3 : Pf H (fun q => Pf (M q.2.1) (fun r => K7 r.2 ∧ d_Mo_thrown r.2 = q.1 ∧ (q.1 = 0 → lg_cmp (q.2.2.1 0) (r.1.toInt64) = 0)))) : CA b' v H M :=
  sf_mono (sf_pf h1 h3) (fun q hq => ⟨hq.1.2, sf_mono (sf_pf (h2 q.2.1 (J_C hJ (CF_G hq.1.1))) hq.2) (fun r hr => ⟨⟨J_M (J_C hJ (CF_G hq.1.1)) (FM_M hr.1.2) hr.1.1, K5_M (K5_G hK hq.1.1) hr.1.2, hr.2.1⟩, hr.2.2⟩)⟩)
theorem CA_x {H : Option (Int32 × pd_V × (Nat → Int64) × Nat)} {M : pd_V → Option (Int32 × pd_V)} {k : Int32} (h7 : K7 v) (hk : k ≠ 0) (e1 : H = some (k, v, g, 1)) (e2 : M v = some (0, pd_w v 198 0 k)) : Pf H (fun q => Pf (M q.2.1) (fun r => K7 r.2 ∧ d_Mo_thrown r.2 = q.1 ∧ (q.1 = 0 → lg_cmp (q.2.2.1 0) (r.1.toInt64) = 0))) :=
  pf_e e1 (pf_e e2 ⟨K7_0 h7, show pd_w v 198 0 k 198 0 = k from pd_w_self, fun z => absurd z hk⟩)
theorem yrun_t (hw : 4294967296 < w) (hb : 0 ≤ b ∧ b + 500 ≤ 900000) (hJ : J b v) (hK : K5 v) (h7 : K7 v) : CA (b + 500) v (d_La_run w a1 v g) (fun u => d_Mo_run w a1 u) := by
  refine CA_i hJ hK (zl_run hw) (fun u hu => zru_m hw hb hu.2.1) ?_
  have e20 : v 173 1 = v 198 20 := h7.2.2.1
  by_cases c : v 198 20 = 0
  · have e1 : d_La_run w a1 v g = some (1, v, g, 1) := by
      unfold d_La_run d_De_run d_De_needStarted
      rw [e20, decide_eq_true c]
      rfl
    refine CA_x h7 (by decide) e1 ?_
    show d_Mo_run w a1 v = _
    unfold d_Mo_run
    rw [decide_eq_true c]
    rfl
  · have fuel : (a1 < 1 ∨ ¬ a1 ≤ 500) → Pf (d_La_run w a1 v g) (fun q => Pf (d_Mo_run w a1 q.2.1) (fun r => K7 r.2 ∧ d_Mo_thrown r.2 = q.1 ∧ (q.1 = 0 → lg_cmp (q.2.2.1 0) (r.1.toInt64) = 0))) := by
      intro hf
      have hbe : d_Mo_beyond a1 1 500 = 1 := by
        by_cases c1 : a1 < 1
        · exact bey_lo c1
        · exact bey_hi c1 (hf.resolve_left c1)
      have e1 : d_La_run w a1 v g = some (2, v, g, 1) := by
        unfold d_La_run d_De_run d_De_needStarted d_De_needFuel
        rw [e20, decide_eq_false c]
        by_cases c1 : a1 < 1
        · rw [decide_eq_true c1]
          rfl
        · rw [decide_eq_false c1, decide_eq_false (hf.resolve_left c1)]
          rfl
      refine CA_x h7 (by decide) e1 ?_
      show d_Mo_run w a1 v = _
      unfold d_Mo_run
      rw [decide_eq_false c, hbe]
      rfl
    by_cases c1 : a1 < 1
    · exact fuel (Or.inl c1)
    by_cases c2 : a1 ≤ 500
    · have hbe : d_Mo_beyond a1 1 500 = 0 := bey_in c1 c2
      have hr := bey0 hbe
      have z1 := sI_1
      have z5 : (500 : Int32).toInt = 500 := by decide
      obtain ⟨f, ef, hf⟩ := of_r (a1 := a1) (by omega)
      have hf1 : 1 ≤ f ∧ f ≤ 500 := by omega
      subst ef
      obtain ⟨h1, ⟨m, h2, h3, h4⟩, h5, h6, h7', h8, h9⟩ := id h7
      obtain ⟨s, n, N, i1, ⟨g1, g2, g3, g4, g5⟩, g6, g7, g8, g9⟩ := K7_ker hJ h7 c
      obtain ⟨m', inp, FU, r1, r2, r3, r4, r5, r6, r7⟩ := g9 c
      have hFU : FU + f ≤ 900000 := by
        have hb2 := hJ.2.1.2.2.2.2.2
        rw [r3, Int32.toInt_ofNat_of_lt (by omega)] at hb2
        omega
      have ha : ker (kerOf (v 0 1)) := ker_of (v 0 1)
      have pk : kerOf (v 0 1) = 3 ∨ kerOf (v 0 1) = 88 := ha
      have eR : d_De_run w (Int32.ofNat f) v = (d_To_goOn w (kerOf (v 0 1)) (Int32.ofNat f) v).bind fun q3 => bif decide ((q3 173 2) = 0) then some (Sum.inl (0 : Int32), q3) else some (Sum.inl (1 : Int32), q3) := by
        unfold d_De_run d_De_needStarted d_De_needFuel
        rw [e20, decide_eq_false c, decide_eq_false c1, decide_eq_true c2]
        rfl
      unfold d_La_run
      rw [eR]
      refine pf_bind (P := fun r => r.1 = Sum.inl (r.2 173 2) ∧ (r.2 173 2 = 0 ∨ r.2 173 2 = 1) ∧ RUNC s n N i1 (kerOf (v 0 1)) inp (zX0 m') (FU + f) r.2 ∧ (∀ d, (d < 173 ∨ 186 ≤ d) → r.2 d = v d) ∧ r.2 173 1 = v 173 1) ?_ (fun q1 hq1 => ?_)
      · refine pf_bind (pf_and (pf_sf (t_To_goOn (v := v) (l2 := Int32.ofNat f) hw ha)) (zgn_m (inp := inp) (X0 := zX0 m') hw g1 g2 ha g3 g5 g4 ⟨rfl, Nat.zero_le _⟩ (fun _ => rfl) f FU v w (by omega) (by omega) r5)) (fun q3 hq3 => ?_)
        obtain ⟨f3, k1, k2, k3⟩ := hq3
        obtain ⟨-, -, -, k4⟩ := id k1
        have kk : q3 173 2 = 0 ∨ q3 173 2 = 1 := by
          rcases k4 with ⟨-, t, -⟩ | ⟨-, t, -⟩
          · exact Or.inr t
          · exact Or.inl t
        have fr : ∀ d, (d < 173 ∨ 186 ≤ d) → q3 d = v d := fun d hd => f3 d (by omega)
        refine pf_d (fun z => pf_some ⟨?_, kk, k1, fr, k3⟩) (fun z => pf_some ⟨?_, kk, k1, fr, k3⟩)
        · show Sum.inl (0 : Int32) = Sum.inl (q3 173 2)
          rw [z]
        · show Sum.inl (1 : Int32) = Sum.inl (q3 173 2)
          rw [kk.resolve_left z]
      · obtain ⟨y1, y2, y3, y4, y5⟩ := hq1
        rw [y1]
        refine pf_some ?_
        show Pf (d_Mo_run w (Int32.ofNat f) q1.2) (fun r => K7 r.2 ∧ d_Mo_thrown r.2 = 0 ∧ ((0 : Int32) = 0 → lg_cmp ((vp_updL g 0 ((q1.2 173 2).toInt64)) 0) (r.1.toInt64) = 0))
        have qk : ∀ k, q1.2 198 k = v 198 k := fun k => by rw [y4 198 (by omega)]
        have q0 : q1.2 0 = v 0 := y4 0 (by omega)
        have ek : ∀ d, kerOf (v 0 1) ≤ d → d < kerOf (v 0 1) + 84 → q1.2 d = v d := fun d a b => y4 d (by omega)
        unfold d_Mo_run
        rw [qk 20, decide_eq_false c, hbe]
        refine pf_t (pf_f (pf_d (fun _ => ?_) (fun z => absurd rfl z)))
        rw [thr_0]
        refine pf_sb (pf_d (fun _ => ?_) (fun z => absurd rfl z))
        have e26 : pd_w q1.2 198 0 (0 : Int32) 198 26 = v 198 26 := by rw [pd_w_nk (by decide)]; exact qk 26
        have hov : (v 198 26 = 0 ∧ n ≤ (zT s n inp (zX0 m') FU).1.1) ∨ (v 198 26 ≠ 0 ∧ (zT s n inp (zX0 m') FU).1.1 < n) := by
          rcases r6.2.2.2 with ⟨p1, p2⟩ | ⟨p1, p2⟩
          · exact Or.inl ⟨p2, p1⟩
          · refine Or.inr ⟨?_, p1⟩
            obtain ⟨j, -, hz⟩ := zT_v (inp := inp) (X0 := zX0 m') g1 g2 g3 g4 ⟨rfl, Nat.zero_le _⟩ FU
            have hz' : (Nat.ble n (zT s n inp (zX0 m') FU).1.1 || (!(decide (s (zT s n inp (zX0 m') FU).1.1 = 125)) && !(znone (zT s n inp (zX0 m') FU).1.2.2.1))) = true := hz
            rw [ble_f (by omega), Bool.false_or] at hz'
            have hz2 := (and_c hz').2
            intro e
            rw [← MK8_z p2, decide_eq_true e] at hz2
            exact absurd hz2 (by decide)
        refine pf_n (fun hz => ?_) (fun hz => pf_some ?_)
        · have hz : v 198 26 ≠ 0 := fun e => hz (e26.trans e)
          have p1 : (zT s n inp (zX0 m') FU).1.1 < n := by
            rcases hov with ⟨t, -⟩ | ⟨-, t⟩
            · exact absurd t hz
            · exact t
          obtain ⟨u, hu⟩ : ∃ u, u = pd_w (pd_w q1.2 198 0 (0 : Int32)) 198 22 ((pd_w q1.2 198 0 (0 : Int32) 198 22) + (Int32.ofNat f)) := ⟨_, rfl⟩
          show Pf ((d_Mo_again w (pd_w (pd_w q1.2 198 0 (0 : Int32)) 198 22 ((pd_w q1.2 198 0 (0 : Int32) 198 22) + (Int32.ofNat f)))).bind fun q6 => some (q6.1, q6.2)) _
          rw [← hu]
          have ud : ∀ d, d ≠ 198 → u d = q1.2 d := fun d hd => by rw [hu, pd_wa hd, pd_wa hd]
          have uk : ∀ k, k ≠ 0 → k ≠ 22 → u 198 k = v 198 k := fun k a d => by rw [hu, pd_w_nk d, pd_w_nk a, qk k]
          have u0 : u 198 0 = 0 := by rw [hu, pd_w_nk (by decide), pd_w_self]
          have u22 : u 198 22 = Int32.ofNat (FU + f) := by rw [hu, pd_w_self, pd_w_nk (by decide), qk 22, r3, Int32.ofNat_add]
          have u21 : u 198 21 = Int32.ofNat m' := by rw [uk 21 (by decide) (by decide)]; exact r2
          have uT : TX n s u := ⟨by rw [uk 4 (by decide) (by decide)]; exact g6.1, fun j hj => by rw [ud 200 (by decide), y4 200 (by omega)]; exact g6.2 j hj⟩
          have uI : MIN inp u := fun j hj => by rw [ud 203 (by decide), y4 203 (by omega)]; exact r7 p1 j hj
          have e22 : (u 198 22).toInt = ((FU + f : Nat) : Int) := by rw [u22, Int32.toInt_ofNat_of_lt (by omega)]
          refine pf_bind (pf_and (pf_sf (ag_t hw g1 g2 ⟨N, g4⟩ uT (by omega) (by omega))) (yag_t hw g1 g2 g3 g4 r1.2 u21 u22 hFU uT uI)) (fun q4 hq4 => pf_some ?_)
          obtain ⟨ms, rs, ra, ot, e27⟩ := hq4
          have rd : ∀ d, d < 198 → q4.2 d = q1.2 d := fun d hd => by rw [ms.1 d (by omega), ud d (by omega)]
          have rk : ∀ k, k < 23 → k ≠ 6 → k ≠ 19 → q4.2 198 k = u 198 k := fun k a b c => ms.2 k a b c
          have r0 : q4.2 0 = v 0 := by rw [rd 0 (by omega), q0]
          have ek4 : ∀ d, kerOf (v 0 1) ≤ d → d < kerOf (v 0 1) + 84 → q4.2 d = v d := fun d a b => by rw [rd d (by omega), ek d a b]
          have e20' : q4.2 198 20 = v 198 20 := by rw [rk 20 (by decide) (by decide) (by decide), uk 20 (by decide) (by decide)]
          refine ⟨⟨fun j hj => ?_, ⟨m, h2, by dsimp only; rw [r0]; exact h3, ?_⟩, ?_, ?_, fun c2 => ?_, fun _ => ⟨s, n, N, i1, ⟨g1, g2, g3, g4, g5⟩, ⟨?_, fun j hj => ?_⟩, ?_, ?_, fun _ => ⟨m', inp, FU + f, r1, ?_, ?_, hFU, ?_, RESL_R rs, fun _ j hj => ?_⟩⟩, fun c2 => ?_⟩, ?_, fun _ => ?_⟩
          · dsimp only
            rw [rd 172 (by omega), y4 172 (by omega), ms.1 203 (by omega), ud 203 (by decide), y4 203 (by omega)]
            exact h1 j hj
          · dsimp only
            rw [rk 12 (by decide) (by decide) (by decide), uk 12 (by decide) (by decide)]; exact h4
          · dsimp only
            rw [rd 173 (by omega), y5, e20']; exact h5
          · dsimp only
            rw [rd 186 (by omega), y4 186 (by omega), e27, uk 27 (by decide) (by decide)]; exact h6
          · dsimp only at c2
            rw [e20'] at c2
            exact absurd c2 c
          · dsimp only
            rw [rk 4 (by decide) (by decide) (by decide)]; exact uT.1
          · dsimp only
            rw [ms.1 200 (by omega)]; exact uT.2 j hj
          · dsimp only
            rw [r0]
            exact KNL_r g3 g7 ek4
          · dsimp only
            rw [r0, ek4 _ (Nat.le_refl _) (by omega)]; exact g8
          · dsimp only
            rw [rk 21 (by decide) (by decide) (by decide)]; exact u21
          · dsimp only
            rw [rk 22 (by decide) (by decide) (by decide)]; exact u22
          · dsimp only
            rw [r0]
            exact RUNC_e g3 y3 (fun d a b => rd d (by omega)) (fun d hd => rd d (by omega))
          · dsimp only
            rw [ms.1 203 (by omega)]
            exact uI j hj
          · dsimp only at c2
            rw [e27, uk 27 (by decide) (by decide)] at c2
            obtain ⟨Y, hY⟩ := h9 c2
            refine ⟨Y, fun l hl => ⟨CRL_e (hY l hl).1 (fun d hd => by dsimp only; rw [rd d (by omega), y4 d (by omega)]) (by dsimp only; rw [rd 187 (by omega), y4 187 (by omega)]), ?_⟩⟩
            exact ot (8 + l) _ (by omega) (by omega) (MRL_q (hY l hl).2 (fun d hd => by rw [ud d (by omega), y4 d (by omega)]))
          · show q4.2 198 0 = 0
            rw [rk 0 (by decide) (by decide) (by decide), u0]
          · refine lgz ?_
            rw [ra]
            obtain ⟨-, -, -, k4⟩ := y3
            rcases k4 with ⟨t1, t2, -⟩ | ⟨t1, t2, -⟩
            · rw [t2, decide_eq_false (by omega)]
              rfl
            · rw [t2, decide_eq_true t1]
              rfl
        · have hz : v 198 26 = 0 := e26.symm.trans hz
          have p1 : n ≤ (zT s n inp (zX0 m') FU).1.1 := by
            rcases hov with ⟨-, t⟩ | ⟨t, -⟩
            · exact t
            · exact absurd hz t
          have eT := zT_o (s := s) (n := n) (inp := inp) (X0 := zX0 m') p1 f
          have y3' : RUNC s n N i1 (kerOf (v 0 1)) inp (zX0 m') FU q1.2 := by
            unfold RUNC at y3 ⊢
            rw [eT] at y3
            exact y3
          have K1 : K7 q1.2 := by
            refine ⟨fun j hj => ?_, ⟨m, h2, by rw [q0]; exact h3, by rw [qk 12]; exact h4⟩, ?_, ?_, fun c2 => ?_, fun _ => ⟨s, n, N, i1, ⟨g1, g2, g3, g4, g5⟩, ⟨by rw [qk 4]; exact g6.1, fun j hj => by rw [y4 200 (by omega)]; exact g6.2 j hj⟩, ?_, ?_, fun _ => ⟨m', inp, FU, r1, by rw [qk 21]; exact r2, by rw [qk 22]; exact r3, r4, ?_, RESL_e r6 (fun d hd => y4 d (by omega)) (fun k hk => qk k), fun z => by omega⟩⟩, fun c2 => ?_⟩
            · rw [y4 172 (by omega), y4 203 (by omega)]; exact h1 j hj
            · rw [y5, qk 20]; exact h5
            · rw [y4 186 (by omega), qk 27]; exact h6
            · rw [qk 26]; exact hz
            · rw [q0]
              exact KNL_r g3 g7 ek
            · rw [q0, ek _ (Nat.le_refl _) (by omega)]; exact g8
            · rw [q0]
              exact y3'
            · rw [qk 27] at c2
              obtain ⟨Y, hY⟩ := h9 c2
              exact ⟨Y, fun l hl => ⟨CRL_e (hY l hl).1 (fun d hd => y4 d (by omega)) (y4 187 (by omega)), MRL_q (hY l hl).2 (fun d hd => y4 d (by omega))⟩⟩
          refine ⟨K7_0 K1, show pd_w q1.2 198 0 (0 : Int32) 198 0 = 0 from pd_w_self, fun _ => lgz ?_⟩
          obtain ⟨-, -, -, k4⟩ := y3'
          rcases k4 with ⟨t1, t2, -⟩ | ⟨t1, t2, -⟩
          · rw [t2]
          · omega
    · exact fuel (Or.inr c2)
end YRV
