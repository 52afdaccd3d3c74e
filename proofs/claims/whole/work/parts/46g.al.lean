/-! alone, mask, spent -/
section YRW
variable {s : Nat → Int32} {n m w N i1 a FU i : Nat} {inp : Nat → Int32} {v u q t : pd_V} {b : Int} {a1 a2 a3 : Int32} {g : Nat → Int64}
theorem yalone_t (hw : 4294967296 < w) (hJ : J b v) (hK : K5 v) (h7 : K7 v) : CA b v (d_La_alone w a1 v g) (fun u => d_Mo_alone w a1 u) := by
  refine CA_i hJ hK (zl_alone hw) (fun u hu => zan_m hw hu.2.1) ?_
  have e02 : v 0 2 = v 198 5 := hK.2.2.2.1
  by_cases c : v 198 5 = 0
  · have e1 : d_La_alone w a1 v g = some (1, v, g, 1) := by
      unfold d_La_alone d_De_alone d_De_needKernel
      rw [e02, decide_eq_true c]
      rfl
    refine CA_x h7 (by decide) e1 ?_
    show d_Mo_alone w a1 v = _
    unfold d_Mo_alone
    rw [decide_eq_true c]
    rfl
  · have fuel : (a1 < 1 ∨ ¬ a1 ≤ 4000) → Pf (d_La_alone w a1 v g) (fun q => Pf (d_Mo_alone w a1 q.2.1) (fun r => K7 r.2 ∧ d_Mo_thrown r.2 = q.1 ∧ (q.1 = 0 → lg_cmp (q.2.2.1 0) (r.1.toInt64) = 0))) := by
      intro hf
      have hbe : d_Mo_beyond a1 1 4000 = 1 := by
        by_cases c1 : a1 < 1
        · exact bey_lo c1
        · exact bey_hi c1 (hf.resolve_left c1)
      have e1 : d_La_alone w a1 v g = some (2, v, g, 1) := by
        unfold d_La_alone d_De_alone d_De_needKernel d_De_needFuel
        rw [e02, decide_eq_false c]
        by_cases c1 : a1 < 1
        · rw [decide_eq_true c1]
          rfl
        · rw [decide_eq_false c1, decide_eq_false (hf.resolve_left c1)]
          rfl
      refine CA_x h7 (by decide) e1 ?_
      show d_Mo_alone w a1 v = _
      unfold d_Mo_alone
      rw [decide_eq_false c, hbe]
      rfl
    by_cases c1 : a1 < 1
    · exact fuel (Or.inl c1)
    by_cases c2 : a1 ≤ 4000
    · have hbe : d_Mo_beyond a1 1 4000 = 0 := bey_in c1 c2
      have hr := bey0 hbe
      have z1 := sI_1
      have z5 : (4000 : Int32).toInt = 4000 := by decide
      obtain ⟨L, ef, hf⟩ := of_r (a1 := a1) (by omega)
      have hL : L ≤ 4000 := by omega
      subst ef
      obtain ⟨h1, ⟨m, h2, h3, h4⟩, h5, h6, h7', h8, h9⟩ := id h7
      obtain ⟨s, n, N, i1, ⟨g1, g2, g3, g4, g5⟩, g6, g7, g8, g9⟩ := h8 c
      have hF : FXP s (v (kerOf (v 0 1)) 5) := fxp_t g1 g2 g4 g8
      have ha : ker (kerOf (v 0 1)) := ker_of (v 0 1)
      have pk : kerOf (v 0 1) = 3 ∨ kerOf (v 0 1) = 88 := ha
      have eR : d_De_alone w (Int32.ofNat L) v = ((d_Ap_begin w 172 16 (Int32.ofNat m) (Int32.ofNat L) v).bind fun q3 => d_Ap_goThrough w (kerOf (q3 0 1)) q3).bind fun q4 => bif decide ((q4 186 1) = 0) then some (Sum.inl (0 : Int32), q4) else some (Sum.inl (1 : Int32), q4) := by
        unfold d_De_alone d_De_needKernel d_De_needFuel
        rw [e02, decide_eq_false c, decide_eq_false c1, decide_eq_true c2, h3, Option.bind_assoc]
        rfl
      have cl : Sf ((d_Ap_begin w 172 16 (Int32.ofNat m) (Int32.ofNat L) v).bind fun q3 => d_Ap_goThrough w (kerOf (q3 0 1)) q3) (fun q => Fr 186 198 v q) := sf_bind (t_Ap_begin hw) (fun q3 h3 => sf_mono (t_Ap_goThrough hw (ker_of _)) (fun q4 h4 => Fr_t h3 h4))
      unfold d_La_alone
      rw [eR]
      refine pf_bind (P := fun r => r.1 = Sum.inl (r.2 186 1) ∧ ZEND (zrd s n (fun j => v 172 j) 4001 L (zY0 m)) r.2 ∧ (∀ d, (d < 186 ∨ 198 ≤ d) → r.2 d = v d)) ?_ (fun q1 hq1 => ?_)
      · refine pf_bind (pf_and (pf_sf cl) (yal_c hw g1 g2 ha g3 g5 g4 h2 g7 hL rfl)) (fun q4 hq4 => ?_)
        obtain ⟨f4, k4⟩ := hq4
        have kk : q4 186 1 = 0 ∨ q4 186 1 = 1 := by
          rcases k4 with ⟨-, -, t, -⟩ | ⟨-, t⟩
          · exact Or.inr t
          · exact Or.inl t
        have fr : ∀ d, (d < 186 ∨ 198 ≤ d) → q4 d = v d := fun d hd => f4 d (by omega)
        refine pf_d (fun z => pf_some ⟨?_, k4, fr⟩) (fun z => pf_some ⟨?_, k4, fr⟩)
        · show Sum.inl (0 : Int32) = Sum.inl (q4 186 1)
          rw [z]
        · show Sum.inl (1 : Int32) = Sum.inl (q4 186 1)
          rw [kk.resolve_left z]
      · obtain ⟨y1, y2, y4⟩ := hq1
        rw [y1]
        refine pf_some ?_
        show Pf (d_Mo_alone w (Int32.ofNat L) q1.2) (fun r => K7 r.2 ∧ d_Mo_thrown r.2 = 0 ∧ ((0 : Int32) = 0 → lg_cmp ((vp_updL g 0 ((q1.2 186 1).toInt64)) 0) (r.1.toInt64) = 0))
        have qk : ∀ k, q1.2 198 k = v 198 k := fun k => by rw [y4 198 (by omega)]
        have q0 : q1.2 0 = v 0 := y4 0 (by omega)
        have eM : d_Mo_alone w (Int32.ofNat L) q1.2 = (d_Mo_begin w (8 : Int32) (Int32.ofNat m) (pd_w q1.2 198 0 (0 : Int32))).bind fun q10 => d_Mo_alone_57 w w (Int32.ofNat L) (0 : Int32) q10 := by
          unfold d_Mo_alone
          rw [qk 5, decide_eq_false c, hbe, thr_0]
          show ((d_Mo_begin w (8 : Int32) (pd_w q1.2 198 0 (0 : Int32) 198 12) (pd_w q1.2 198 0 (0 : Int32))).bind fun q10 => d_Mo_alone_57 w w (Int32.ofNat L) (0 : Int32) q10) = _
          rw [pd_w_nk (by decide), qk 12, h4]
        rw [eM]
        have ud : ∀ d, d ≠ 198 → pd_w q1.2 198 0 (0 : Int32) d = q1.2 d := fun d hd => pd_wa hd
        have uk : ∀ k, k ≠ 0 → pd_w q1.2 198 0 (0 : Int32) 198 k = v 198 k := fun k hk => by rw [pd_w_nk hk, qk k]
        have uT : TX n s (pd_w q1.2 198 0 (0 : Int32)) := ⟨by rw [uk 4 (by decide)]; exact g6.1, fun j hj => by rw [ud 200 (by decide), y4 200 (by omega)]; exact g6.2 j hj⟩
        have uI : MIN (fun j => v 172 j) (pd_w q1.2 198 0 (0 : Int32)) := fun j hj => by rw [ud 203 (by decide), y4 203 (by omega)]; exact h1 j hj
        refine pf_mono (yal_r hw g1 g2 ⟨N, g4⟩ hF hL h2.2 uT uI) (fun r hr => ?_)
        obtain ⟨fa, me⟩ := hr
        have rd : ∀ d, d < 198 → r.2 d = q1.2 d := fun d hd => by rw [fa.1 d (by omega), ud d (by omega)]
        have rk : ∀ k, k ≠ 0 → k ≠ 6 → k ≠ 19 → k ≠ 28 → k ≠ 27 → r.2 198 k = v 198 k := fun k a b c d e => by rw [fa.2.1 k b c d e, uk k a]
        have r0 : r.2 0 = v 0 := by rw [rd 0 (by omega), q0]
        have lo : ∀ d, d < 186 → r.2 d = v d := fun d hd => by rw [rd d (by omega), y4 d (by omega)]
        have ek : ∀ d, kerOf (v 0 1) ≤ d → d < kerOf (v 0 1) + 84 → r.2 d = v d := fun d a b => lo d (by omega)
        have ans : r.1 = q1.2 186 1 ∧ r.2 198 27 = q1.2 186 1 ∧ (r.2 198 27 ≠ 0 → ∃ Y : Nat → xAS, ∀ l, l < 8 → CRL 187 l (Y l).2.2 r.2 ∧ MRL (8 + l) (zst (Y l).2.2) r.2) := by
          rcases y2 with ⟨Y, o1, o2, o3⟩ | ⟨o1, o2⟩
          · rcases me with ⟨Y', p1, p2, p3, p4⟩ | ⟨p1, -⟩
            · rw [o1] at p1
              have eY := Option.some.inj p1
              subst eY
              exact ⟨by rw [p2, o2], by rw [p3, o2], fun _ => ⟨Y, fun l hl => ⟨CRL_e (o3 l hl) (fun d hd => rd d (by omega)) (rd 187 (by omega)), p4 l hl⟩⟩⟩
            · rw [o1] at p1
              exact absurd p1 (fun z => nomatch z)
          · rcases me with ⟨Y', p1, -⟩ | ⟨p1, p2, p3⟩
            · rw [o1] at p1
              exact absurd p1 (fun z => nomatch z)
            · exact ⟨by rw [p2, o2], by rw [p3, o2], fun z => absurd p3 z⟩
        have r20 : r.2 198 20 = v 198 20 := rk 20 (by decide) (by decide) (by decide) (by decide) (by decide)
        refine ⟨⟨fun j hj => ?_, ⟨m, h2, by rw [r0]; exact h3, by rw [rk 12 (by decide) (by decide) (by decide) (by decide) (by decide)]; exact h4⟩, ?_, ?_, fun c2 => ?_, fun _ => ⟨s, n, N, i1, ⟨g1, g2, g3, g4, g5⟩, ⟨by rw [rk 4 (by decide) (by decide) (by decide) (by decide) (by decide)]; exact g6.1, fun j hj => ?_⟩, ?_, ?_, fun c2 => ?_⟩, ans.2.2⟩, ?_, fun _ => lgz ans.1.symm⟩
        · rw [lo 172 (by omega), fa.1 203 (by omega)]
          exact uI j hj
        · rw [lo 173 (by omega), r20]; exact h5
        · rw [rd 186 (by omega), ans.2.1]
        · rw [r20] at c2
          rw [rk 26 (by decide) (by decide) (by decide) (by decide) (by decide)]
          exact h7' c2
        · rw [fa.1 200 (by omega)]; exact uT.2 j hj
        · rw [r0]
          exact KNL_r g3 g7 ek
        · rw [r0, ek _ (Nat.le_refl _) (by omega)]; exact g8
        · rw [r20] at c2
          obtain ⟨m', inp, FU, r1, r2, r3, r4, r5, r6, r7⟩ := g9 c2
          refine ⟨m', inp, FU, r1, by rw [rk 21 (by decide) (by decide) (by decide) (by decide) (by decide)]; exact r2, by rw [rk 22 (by decide) (by decide) (by decide) (by decide) (by decide)]; exact r3, r4, ?_, ?_, fun z j hj => ?_⟩
          · rw [r0]
            exact RUNC_e g3 r5 ek (fun d hd => lo d (by omega))
          · obtain ⟨s1, s2, s3, s4⟩ := r6
            refine ⟨fun l hl => fa.2.2 l _ (by omega) (by omega) (MRL_q (s1 l hl) (fun d hd => by rw [ud d (by omega), y4 d (by omega)])), by rw [rk 23 (by decide) (by decide) (by decide) (by decide) (by decide)]; exact s2, by rw [rk 24 (by decide) (by decide) (by decide) (by decide) (by decide)]; exact s3, ?_⟩
            rw [rk 26 (by decide) (by decide) (by decide) (by decide) (by decide)]
            exact s4
          · rw [fa.1 203 (by omega), ud 203 (by decide), y4 203 (by omega)]
            exact r7 z j hj
        · show r.2 198 0 = 0
          rw [fa.2.1 0 (by decide) (by decide) (by decide) (by decide), pd_w_self]
    · exact fuel (Or.inr c2)
/-! mask and spent -/
theorem ymask_t (hJ : J b v) (h7 : K7 v) : d_De_mask v = v 198 26 := by
  have e20 : v 173 1 = v 198 20 := h7.2.2.1
  unfold d_De_mask
  rw [e20]
  by_cases c : v 198 20 = 0
  · rw [decide_eq_true c]
    exact (h7.2.2.2.2.1 c).symm
  · rw [decide_eq_false c]
    obtain ⟨s, n, N, i1, -, -, -, -, g9⟩ := K7_ker hJ h7 c
    obtain ⟨m', inp, FU, -, -, -, -, ⟨-, -, -, r5⟩, ⟨-, -, -, r6⟩, -⟩ := g9 c
    show v 173 3 = v 198 26
    rcases r5 with ⟨o1, -, o3, -⟩ | ⟨o1, -, j, -, -, o4, -⟩
    · rcases r6 with ⟨-, p2⟩ | ⟨p1, -⟩
      · rw [o3, p2]
      · omega
    · rcases r6 with ⟨p1, -⟩ | ⟨-, p2⟩
      · omega
      · exact MK8_u o4 p2
/-- a call that changes nothing: the same answer, or the same throw -/
def QA (v : pd_V) (g : Nat → Int64) (H : Option (Int32 × pd_V × (Nat → Int64) × Nat)) (M : Option (Int32 × pd_V)) : Prop := ∃ k n g' y, H = some (k, v, g', n) ∧ M = some (y, pd_w v 198 0 k) ∧ n ≤ 1 ∧ (k = 0 → lg_cmp (g' 0) (y.toInt64) = 0)
theorem QA_x {H : Option (Int32 × pd_V × (Nat → Int64) × Nat)} {M : Option (Int32 × pd_V)} {k : Int32} (hk : k ≠ 0) (e1 : H = some (k, v, g, 1)) (e2 : M = some (0, pd_w v 198 0 k)) : QA v g H M := ⟨k, 1, g, 0, e1, e2, Nat.le_refl _, fun z => absurd z hk⟩
theorem QA_y {H : Option (Int32 × pd_V × (Nat → Int64) × Nat)} {M : Option (Int32 × pd_V)} {x y : Int32} (h : x = y) (e1 : H = some (0, v, vp_updL g 0 (x.toInt64), 0)) (e2 : M = some (y, pd_w v 198 0 0)) : QA v g H M := ⟨0, 0, _, y, e1, e2, Nat.zero_le _, fun _ => lgz h⟩
theorem yspent_t (hJ : J b v) (h7 : K7 v) : QA v g (d_La_spent a1 v g) (d_Mo_spent a1 v) := by
  have e20 : v 173 1 = v 198 20 := h7.2.2.1
  by_cases c0 : a1 < 0
  · refine QA_x (k := 1) (by decide) ?_ ?_
    · unfold d_La_spent d_De_spent
      rw [decide_eq_true c0]
      rfl
    · unfold d_Mo_spent
      rw [bey_lo c0]
      rfl
  by_cases c1 : a1 ≤ 1
  · have hb : d_Mo_beyond a1 0 1 = 0 := bey_in c0 c1
    by_cases c : v 198 20 = 0
    · refine QA_x (k := 2) (by decide) ?_ ?_
      · unfold d_La_spent d_De_spent d_De_needStarted
        rw [decide_eq_false c0, decide_eq_true c1, e20, decide_eq_true c]
        rfl
      · unfold d_Mo_spent
        rw [hb, decide_eq_true c]
        rfl
    · obtain ⟨s, n, N, i1, -, -, -, -, g9⟩ := K7_ker hJ h7 c
      obtain ⟨m', inp, FU, -, -, -, -, ⟨-, r4, r5, -⟩, ⟨-, s4, s5, -⟩, -⟩ := g9 c
      by_cases a0 : a1 = 0
      · refine QA_y (x := v 173 4) (y := v 198 23) (r4.trans s4.symm) ?_ ?_
        · unfold d_La_spent d_De_spent d_De_needStarted
          rw [decide_eq_false c0, decide_eq_true c1, e20, decide_eq_false c, decide_eq_true a0]
          rfl
        · unfold d_Mo_spent
          rw [hb, decide_eq_false c, thr_0, decide_eq_true a0]
          show some (pd_w v 198 0 (0 : Int32) 198 23, pd_w v 198 0 (0 : Int32)) = _
          rw [pd_w_nk (by decide)]
      · refine QA_y (x := v 173 5) (y := v 198 24) (r5.trans s5.symm) ?_ ?_
        · unfold d_La_spent d_De_spent d_De_needStarted
          rw [decide_eq_false c0, decide_eq_true c1, e20, decide_eq_false c, decide_eq_false a0]
          rfl
        · unfold d_Mo_spent
          rw [hb, decide_eq_false c, thr_0, decide_eq_false a0]
          show some (pd_w v 198 0 (0 : Int32) 198 24, pd_w v 198 0 (0 : Int32)) = _
          rw [pd_w_nk (by decide)]
  · refine QA_x (k := 1) (by decide) ?_ ?_
    · unfold d_La_spent d_De_spent
      rw [decide_eq_false c0, decide_eq_false c1]
      rfl
    · unfold d_Mo_spent
      rw [bey_hi c0 c1]
      rfl
end YRW
