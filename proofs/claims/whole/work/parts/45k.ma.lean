/-! the rounds of the reference -/
section YMA
variable {s : Nat → Int32} {n m w p p' q j e c o h r N i1 a b l z d L L1 px R : Nat} {k k' k0 : xK} {inp : Nat → Int32} {D : xLD} {v u t : pd_V} {x y M : Int32} {Y : Nat → xAS} {X : xAS} {f g : Nat → Bool}
/-- what an X is -/
def HX (s : Nat → Int32) (px e : Nat) : Prop := s px = 88 ∧ xvar (s (px + 1)) = true ∧ xvar (s (px + 2)) = true ∧ xE s (px + 3) = (true, e) ∧ s e = 59 ∧ xrg s px e ∧ px + 3 < e
theorem HX_t (ns : xns s p k = (true, p', k')) (h : s p = 88) : ∃ e, HX s p e ∧ p' = e + 1 ∧ k' = k := by
  rcases xns_c ns with ⟨t, -⟩ | ⟨t | t, -⟩ | ⟨e, g1, g2, g3, -, g5, g6⟩
  · rw [h] at t; exact absurd t (by decide)
  · rw [h] at t; exact absurd t (by decide)
  · rw [h] at t; exact absurd t (by decide)
  · rcases g6 with ⟨t, -⟩ | ⟨t, -⟩ | ⟨t, -⟩ | ⟨-, a1, a2, a3⟩ | ⟨t, -⟩
    · rw [h] at t; exact absurd t (by decide)
    · rw [h] at t; exact absurd t (by decide)
    · rw [h] at t; exact absurd t (by decide)
    · exact ⟨e, ⟨h, a1, a2, a3, g3, g5, (xE_g a3).2⟩, g1, g2⟩
    · exact absurd h (xvar_x t 88 (by decide))
theorem HX_u {e' : Nat} (h1 : HX s p e) (h2 : HX s p e') : e = e' := by
  have a := h1.2.2.2.1
  rw [h2.2.2.2.1] at a
  exact (congrArg Prod.snd a).symm
def R3 (s : Nat → Int32) (n : Nat) (inp : Nat → Int32) (L1 : Nat) (Y : Nat → xAS) (r : Int32 × pd_V) : Prop := (r.1 = 0 ∧ L1 < znc (zax n Y)) ∨ (r.1 = 2 ∧ znone (zax n Y) = true ∧ ∀ l, l < 8 → MRL (8 + l) (zst (Y l).2.2) r.2) ∨ (r.1 = 1 ∧ znone (zax n Y) = false ∧ znc (zax n Y) ≤ L1 ∧ r.2 198 28 = Int32.ofNat (L1 - znc (zax n Y)) ∧ ∀ l, l < 8 → LRM s n l (zae s n inp Y l) r.2)
theorem laf_1 (hf : zax n Y l = true) (h : LAF s n l (Y l) v) : (Y l).2.2.2.2.2.2.2 = false ∧ v 215 l = 1 ∧ MRL (8 + l) (Y l).2.2 v ∧ zLS s l (Y l).1 (Y l).2.1 v := by
  unfold zax at hf
  obtain ⟨f1, f2⟩ := and_c hf
  rcases h with ⟨h1, -, h3, h4, h5⟩ | ⟨h1, -, -⟩
  · exact ⟨h1, h3, h4, h5⟩
  · rcases h1 with t | t
    · rw [t] at f1; exact absurd f1 (by decide)
    · rw [blt_f (by omega)] at f2; exact absurd f2 (by decide)
theorem laf_0 (hf : zax n Y l = false) (h : LAF s n l (Y l) v) : v 215 l = 0 ∧ MRL (8 + l) (zst (Y l).2.2) v := by
  unfold zax at hf
  rcases h with ⟨h1, h2, -⟩ | ⟨-, h2, h3⟩
  · rw [h1, blt_t h2] at hf
    exact absurd hf (by decide)
  · exact ⟨h2, h3⟩
theorem yr49_m (hw : 4294967296 < w) (hn : n ≤ 160) (h0 : ∀ j, n ≤ j → s j = 0) (hL1 : L1 ≤ 4000) (hax : ∀ l, l < 8 → zax n Y l = true → (Y l).1 = px ∧ xR s px (Y l).2.1 ∧ xns s px (Y l).2.1 = (true, e + 1, (Y l).2.1) ∧ HX s px e) : ∀ (F l : Nat) (M x : Int32) (v : pd_V), l ≤ 8 → TX n s v → MIN inp v → (∀ j, j < 8 → LX s n inp px e l Y v j) → MK8 (fun i => Nat.blt i l && zgo (zax n Y) (zd3 s n inp px Y) i) M → v 198 28 = Int32.ofNat (L1 - zcn (zax n Y) l) → zcn (zax n Y) l ≤ L1 → (((∃ i, i < l ∧ zax n Y i = true) ∧ x = Int32.ofNat px) ∨ ((∀ i, i < l → zax n Y i = false) ∧ x = -1)) → Pf (d_Mo_round_49 w F M x (Int32.ofNat l) v) (fun r => FH v r.2 ∧ R3 s n inp L1 Y r) := by
  intro F
  induction F with
  | zero => intro l M x v _ _ _ _ _ _ _ _; rw [d_Mo_round_49]; exact pf_none
  | succ F ih =>
    intro l M x v hl hT hin hX hM h28 hcL hx
    rw [d_Mo_round_49, decide_eq_decide.mpr (lane8 hl)]
    refine pf_d (fun c => ?_) (fun c => ?_)
    · have e8 : l = 8 := by omega
      subst e8
      rw [zcn_8] at h28 hcL
      rcases hx with ⟨⟨i, hi, hf⟩, hx⟩ | ⟨hno, hx⟩
      · have hne : znone (zax n Y) = false := by
          cases hz : znone (zax n Y) with
          | false => rfl
          | true => rw [znone_f hz i hi] at hf; exact absurd hf (by decide)
        obtain ⟨x1, x2, x3, x4⟩ := hax i hi hf
        obtain ⟨y1, y2, y3, y4, y5, y6, y7⟩ := id x4
        have hen := lt_n h0 y5 (by decide)
        obtain ⟨z1, z2⟩ := zlx_8 hne
        rw [hx, show decide ((0 : Int32) ≤ Int32.ofNat px) = true from by rw [show (0 : Int32) = Int32.ofNat 0 from rfl, le_nat (by omega) (by omega)]; exact decide_eq_true (by omega), ofN1, ofN2, cl_nat (show px + 1 ≤ 1000 by omega), cl_nat (show px + 2 ≤ 1000 by omega), hT.2 (px + 1) (by omega), hT.2 (px + 2) (by omega)]
        refine pf_t (pf_c (fun _ => pf_c (fun _ => ?_)))
        refine pf_bind (yex_t hw hn h0 hT hin (by omega) y2 y3 (hax _ z2 z1).1 (fun l hl hf => ⟨(hax l hl hf).1, (hax l hl hf).2.1, (hax l hl hf).2.2.1⟩) hne hX (mk_8 hM)) (fun q5 h5 => pf_some ?_)
        exact ⟨h5.2.1, Or.inr (Or.inr ⟨rfl, hne, hcL, by dsimp only; rw [h5.2.2]; exact h28, h5.1⟩)⟩
      · rw [hx]
        refine pf_d (fun z => absurd z (by decide)) (fun _ => pf_some ⟨FH_r, Or.inr (Or.inl ⟨rfl, znone_t hno, fun l hl => ?_⟩)⟩)
        have h := hX l hl
        unfold LX at h
        rw [hno l hl, Bool.and_false] at h
        exact (laf_0 (hno l hl) h).2
    · have hl' : l < 8 := by omega
      have hLl := hX l hl'
      unfold LX at hLl
      rw [blt_f (Nat.lt_irrefl l), Bool.false_and] at hLl
      have hLl : LAF s n l (Y l) v := hLl
      rw [ofN1 l, show (8 : Int32) + Int32.ofNat l = Int32.ofNat (8 + l) from (Int32.ofNat_add 8 l).symm, cl_nat (show l ≤ 1000 by omega), cl_nat (show 8 + l ≤ 1000 by omega)]
      refine pf_c (fun _ => ?_)
      cases hf : zax n Y l with
      | false =>
        obtain ⟨b1, b2⟩ := laf_0 hf hLl
        rw [b1]
        refine pf_n (fun z => absurd rfl z) (fun _ => ?_)
        have ez : zcn (zax n Y) (l + 1) = zcn (zax n Y) l := by
          show zcn (zax n Y) l + zb01 (zax n Y l) = _
          rw [hf]
          rfl
        refine ih (l + 1) M x v (by omega) hT hin (fun j hj => LX_b ?_ (hX j hj)) (mk_no (by unfold zgo; rw [hf, Bool.false_and]) hM) (by rw [ez]; exact h28) (by rw [ez]; exact hcL) ?_
        · by_cases ej : j = l
          · rw [ej, hf, Bool.and_false, Bool.and_false]
          · by_cases c2 : j < l
            · rw [blt_t c2, blt_t (show j < l + 1 by omega)]
            · rw [blt_f c2, blt_f (show ¬ j < l + 1 by omega)]
        · rcases hx with ⟨⟨i, hi, hf'⟩, hx⟩ | ⟨hno, hx⟩
          · exact Or.inl ⟨⟨i, by omega, hf'⟩, hx⟩
          · refine Or.inr ⟨fun i hi => ?_, hx⟩
            by_cases ei : i = l
            · rw [ei]; exact hf
            · exact hno i (by omega)
      | true =>
        obtain ⟨b1, b2, b3, b4⟩ := laf_1 hf hLl
        obtain ⟨x1, x2, x3, x4⟩ := hax l hl' hf
        obtain ⟨y1, y2, y3, y4, y5, y6, y7⟩ := id x4
        have hen := lt_n h0 y5 (by decide)
        rw [x1] at b4
        have hlt := zcn_1 hl' hf
        rw [b2, h28]
        refine pf_n (fun _ => ?_) (fun z => absurd z (by decide))
        refine pf_n (fun cL => ?_) (fun cL => pf_some ⟨FH_r, Or.inl ⟨rfl, ?_⟩⟩)
        · obtain ⟨L', eL⟩ : ∃ L', L1 - zcn (zax n Y) l = L' + 1 := by
            cases hc : L1 - zcn (zax n Y) l with
            | zero => rw [hc] at cL; exact absurd rfl cL
            | succ L' => exact ⟨L', rfl⟩
          rw [eL, dec_ofNat, b4.1, ofN3]
          obtain ⟨v2, hv2⟩ : ∃ v2, v2 = pd_w v 198 28 (Int32.ofNat L') := ⟨_, rfl⟩
          rw [← hv2]
          have f2 : FG l v v2 := by rw [hv2]; exact FG_28
          have T2 : TX n s v2 := ⟨by rw [f2.2.1 4 (by decide) (by decide) (by decide)]; exact hT.1, fun j hj => by rw [f2.1 200 (by omega)]; exact hT.2 j hj⟩
          have I2 : MIN inp v2 := fun j hj => by rw [f2.1 203 (by omega)]; exact hin j hj
          have D2 : MRL (8 + l) (Y l).2.2 v2 := MRL_q b3 (fun d hd => by rw [hv2, pd_wa (by omega)])
          have S2 : zLS s l px (Y l).2.1 v2 := zLS_e b4 (by rw [hv2, pd_w_ne (by decide)]) (by rw [hv2, pd_w_ne (by decide)]) (fun i _ => by rw [hv2, pd_w_ne (by decide)])
          have e28 : v2 198 28 = Int32.ofNat L' := by rw [hv2, pd_w_self]
          refine pf_c (fun _ => ?_)
          refine pf_bind (pf_sf (vlq_t (m := 4) hw hn h0 (by omega) (show 8 + l < 16 by omega) (by omega) hen (xdig_59 y5) T2 (EE_M (show (8 + l) % 8 = l by omega) I2 D2) y4)) (fun q10 h10 => ?_)
          obtain ⟨m1, m2, m3⟩ := VQ_M D2 b1 h10
          have f10 : ∀ d, d ≠ 198 → d ≠ 208 → d ≠ 209 → ¬ (219 ≤ d ∧ d ≤ 221) → q10.2 d = v2 d := h10.1
          have S10 : SL l v2 q10.2 := ⟨fun a b => f10 a (by omega) (by omega) (by omega) (by omega), fun k b c => h10.2.1 k b c, OL_e (f10 210 (by decide) (by decide) (by decide) (by omega)) (f10 211 (by decide) (by decide) (by decide) (by omega)) (f10 212 (by decide) (by decide) (by decide) (by omega)) (f10 215 (by decide) (by decide) (by decide) (by omega)), m3, f10 215 (by decide) (by decide) (by decide) (by omega)⟩
          have T10 := TX_L T2 S10
          have up : d_Mo_upTo w 200 160 (Int32.ofNat px) (59 : Int32) (59 : Int32) (pd_w q10.2 214 l q10.1) = some (Int32.ofNat e) := su_t hw hn (fun j hj => by rw [pd_w_ne (by decide)]; exact T10.2 j hj) hen y5 y6
          rw [up]
          obtain ⟨u, hu⟩ : ∃ u, u = pd_w (pd_w q10.2 214 l q10.1) 210 l (Int32.ofNat (e + 1)) := ⟨_, rfl⟩
          have fu : FG l q10.2 u := by
            rw [hu]
            refine ⟨fun a b => by rw [pd_wa (by omega), pd_wa (by omega)], fun k _ _ _ => by rw [pd_w_ne (by decide), pd_w_ne (by decide)], OL_l (OL_w OL_r (by decide)) (by decide), OTM_q (fun d hd => by rw [pd_wa (by omega), pd_wa (by omega)])⟩
          have fvu : FG l v u := FG_t (FG_t f2 (FG_S S10)) fu
          have fH := FH_G hl' fvu
          have ud : ∀ d, (204 ≤ d ∧ d ≤ 209) → u d = q10.2 d := fun d hd => by rw [hu, pd_wa (by omega), pd_wa (by omega)]
          have u14 : ∀ j, j ≠ l → u 214 j = v 214 j := fun j hj => by rw [hu, pd_w_ne (by decide), pd_w_nk hj, f10 214 (by decide) (by decide) (by decide) (by omega), hv2, pd_w_ne (by decide)]
          have uS : zLS s l (e + 1) (Y l).2.1 u := by
            refine ⟨by rw [hu, pd_w_self], xR_s x2 x3, ?_, LM_e S2.2.2.2 (fun i _ => ?_)⟩
            · rw [hu, pd_w_ne (by decide), pd_w_ne (by decide), f10 211 (by decide) (by decide) (by decide) (by omega)]
              exact S2.2.2.1
            · rw [hu, pd_w_ne (by decide), pd_w_ne (by decide), f10 212 (by decide) (by decide) (by decide) (by omega)]
          have u28 : u 198 28 = Int32.ofNat (L1 - zcn (zax n Y) (l + 1)) := by
            rw [hu, pd_w_ne (by decide), pd_w_ne (by decide), h10.2.1 28 (by decide) (by decide), e28]
            have ez : zcn (zax n Y) (l + 1) = zcn (zax n Y) l + 1 := by
              show zcn (zax n Y) l + zb01 (zax n Y l) = _
              rw [hf]
              rfl
            rw [ez, show L1 - (zcn (zax n Y) l + 1) = L' by omega]
          have ucL : zcn (zax n Y) (l + 1) ≤ L1 := by
            show zcn (zax n Y) l + zb01 (zax n Y l) ≤ L1
            rw [hf]
            show zcn (zax n Y) l + 1 ≤ L1
            omega
          have ed3 : zd3 s n inp px Y l = (zdc s n inp l px (px + 3) (Y l).2.2).2 := zup_8 hl' hf
          have more : ∀ M', MRL (8 + l) (zd3 s n inp px Y l) u → ((zd3 s n inp px Y l).2.2.2.2.2 = false → u 214 l = (zdc s n inp l px (px + 3) (Y l).2.2).1) → MK8 (fun i => Nat.blt i (l + 1) && zgo (zax n Y) (zd3 s n inp px Y) i) M' → Pf (bif pm_in (Int32.ofNat l) 8 then d_Mo_round_49 w F M' (Int32.ofNat px) (Int32.ofNat (l + 1)) u else none) (fun r => FH v r.2 ∧ R3 s n inp L1 Y r) := by
            intro M' a1 a2 a3
            refine pf_c (fun _ => pf_mono (ih (l + 1) M' (Int32.ofNat px) u (by omega) (TX_H hT fH) (MIN_H hin fH) (fun j hj => ?_) a3 u28 ucL (Or.inl ⟨⟨l, by omega, hf⟩, rfl⟩)) (fun r hr => ⟨FH_t fH hr.1, hr.2⟩))
            by_cases ej : j = l
            · subst ej
              unfold LX
              rw [blt_t (Nat.lt_succ_self j), hf]
              exact ⟨a1, uS, a2⟩
            · refine LX_b ?_ (LX_o hj ej (hX j hj) fvu (u14 j ej))
              by_cases c2 : j < l
              · rw [blt_t c2, blt_t (show j < l + 1 by omega)]
              · rw [blt_f c2, blt_f (show ¬ j < l + 1 by omega)]
          refine pf_c (fun _ => pf_c (fun _ => ?_))
          cases ho : xw s n (zev inp l (Y l).2.2) (px + 3) with
          | none =>
            obtain ⟨n1, n2⟩ := m2 ho
            have ed : zdc s n inp l px (px + 3) (Y l).2.2 = (0, ztr px (Y l).2.2) := by
              unfold zdc
              rw [ho]
              rfl
            rw [n2]
            refine pf_d (fun z => absurd z (by decide)) (fun _ => pf_sb ?_)
            rw [ofN1, ← hu]
            refine more M ?_ (fun z => ?_) (mk_no ?_ hM)
            · rw [ed3, ed]
              exact MRL_q n1 ud
            · rw [ed3, ed] at z
              exact absurd (show true = false from z) (by decide)
            · unfold zgo
              rw [ed3, ed, hf]
              rfl
          | some y =>
            obtain ⟨n1, -, n3, n4⟩ := m1 y ho
            have ed : zdc s n inp l px (px + 3) (Y l).2.2 = (y, (Y l).2.2) := by
              unfold zdc
              rw [ho]
              rfl
            rw [n4]
            refine pf_d (fun _ => pf_sb ?_) (fun z => absurd rfl z)
            rw [ofN1, ← hu]
            refine more _ ?_ (fun _ => ?_) (mk_up hl' ?_ hM)
            · rw [ed3, ed]
              exact MRL_q n3 ud
            · rw [hu, pd_w_ne (by decide), pd_w_self, ed]
              exact n1
            · unfold zgo
              rw [ed3, ed, hf]
              show (true && !((Y l).2.2.2.2.2.2.2)) = true
              rw [b1]
              rfl
        · have e0 : L1 - zcn (zax n Y) l = 0 := ofN_i (by omega) (by omega) cL
          omega
end YMA
