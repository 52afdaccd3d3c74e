/-! the reference's run in step is the text's own way -/
def RES (s : Nat → Int32) (n : Nat) (inp : Nat → Int32) (X0 : xCS) (FU : Nat) (q : pd_V) : Prop := MRS 0 inp (zT s n inp X0 FU).1.2.2.2.2.2 q ∧ q 198 23 = (zT s n inp X0 FU).2.1 ∧ q 198 24 = (zT s n inp X0 FU).2.2 ∧ ((n ≤ (zT s n inp X0 FU).1.1 ∧ q 198 25 = 0 ∧ q 198 26 = 0) ∨ ((zT s n inp X0 FU).1.1 < n ∧ q 198 25 = 1 ∧ MK8 (zT s n inp X0 FU).1.2.2.1 (q 198 26)))
section YAL
variable {s : Nat → Int32} {n m w p p' q j e c o h r N i1 a b l z FU i : Nat} {k k' k0 : xK} {X Y Z X0 : xCS} {inp : Nat → Int32} {v u t : pd_V} {x y G M L : Int32} {DD DD' : Nat → xLD} {f g f' ag fm : Nat → Bool} {B W B' W' : Nat → Nat → Bool} {D : xLD}
theorem zfin_z (h : zsp s n X = true) : zfin s n 82 X = X := by
  show (bif zsp s n X then X else zfin s n 81 (zpo s X)) = X
  rw [h]
  rfl
theorem ofN_i {a b : Nat} (ha : a ≤ 900000) (hb : b ≤ 900000) (h : Int32.ofNat a = Int32.ofNat b) : a = b := by
  have h1 := congrArg Int32.toInt h
  rw [Int32.toInt_ofNat_of_lt (by omega), Int32.toInt_ofNat_of_lt (by omega)] at h1
  omega
theorem yal_m (hw : 4294967296 < w) (hn : n ≤ 160) (h0 : ∀ j, n ≤ j → s j = 0) (hN : N ≤ 80) (hx : xit s N (0, []) = some (n, [])) (hc0 : ∀ x, (X0.2.2.2.2.2 x).2.2.2.1 = 0) (hFU : FU ≤ 900000) : ∀ (F i : Nat) (X : xCS) (v : pd_V), AM s n inp X v → xR s X.1 X.2.1 → zfin s n 82 X = (zT s n inp X0 i).1 → i ≤ FU → v 198 22 = Int32.ofNat FU → v 198 23 = Int32.ofNat i → (zT s n inp X0 i).2.1 = Int32.ofNat i → v 198 24 = (zT s n inp X0 i).2.2 → v 198 25 = 0 → v 198 26 = 0 → Pf (d_Mo_all_14 w F (Int32.ofNat X.1) v) (fun q => RES s n inp X0 FU q ∧ OTG 0 v q ∧ q 198 27 = v 198 27) := by
  have hW : xR s n [] := ⟨N, hx⟩
  intro F
  induction F with
  | zero => intro i X v _ _ _ _ _ _ _ _ _ _; rw [d_Mo_all_14]; exact pf_none
  | succ F ih =>
    intro i X v hA hR hz hi h22 h23 hT1 h24 h25 h26
    have hpn : X.1 ≤ n := xR_le h0 hW hR
    have zV : ∃ j, zVL s N j X := by
      obtain ⟨j, hj⟩ := id hR
      exact ⟨j, hj, (xit_up1 h0 hx hj).1⟩
    obtain ⟨jj, zV⟩ := zV
    have three : ∀ r : Int32 × pd_V, (RA s n inp X v r ∨ RP s n inp X v r ∨ RI s n inp X v r) → Pf (d_Mo_all_14 w F r.1 r.2) (fun q => RES s n inp X0 FU q ∧ OTG 0 v q ∧ q 198 27 = v 198 27) := by
      intro r hr
      rcases hr with ⟨Y, y1, y2, y3, y4, y5, y6⟩ | ⟨c23, y0, Y, M, y1, y2, y3, y4, y5, y6⟩ | ⟨c23, Y, Z, y1, y2, y3, y4, y5, y6, y7, y8, y9, y10, y11⟩
      · rw [y1]
        refine pf_mono (ih i Y r.2 y3 y2 (by rw [← WK_f hn h0 hN hx zV y4]; exact hz) hi ((y5 22 (by omega)).trans h22) ((y5 23 (by omega)).trans h23) hT1 ((y5 24 (by omega)).trans h24) ((y5 25 (by omega)).trans h25) ((y5 26 (by omega)).trans h26)) (fun q hq => ⟨hq.1, OTG_t y6 hq.2.1, hq.2.2.trans (y5 27 (by omega))⟩)
      · rw [y0, y5]
        cases F with
        | zero => rw [d_Mo_all_14]; exact pf_none
        | succ F =>
          rw [d_Mo_all_14, show decide ((-1 : Int32) < 0) = true from by decide]
          have eF : i = FU := ofN_i (by omega) hFU (by rw [← h23, ← h22]; exact c23)
          subst eF
          have eY : (zT s n inp X0 i).1 = Y := by rw [← hz, WK_f hn h0 hN hx zV y1]; exact zfin_z y2
          refine pf_t (pf_some ⟨⟨?_, ?_, ?_, Or.inr ⟨?_, ?_, ?_⟩⟩, OTG_q (fun d hd => by rw [pd_wa (by omega), pd_wa (by omega)]), by rw [pd_w_nk (by decide), pd_w_nk (by decide)]⟩)
          · rw [eY]
            exact MRS_q y6 (fun d hd => by rw [pd_wa (by omega), pd_wa (by omega)])
          · rw [pd_w_nk (by decide), pd_w_nk (by decide), h23, hT1]
          · rw [pd_w_nk (by decide), pd_w_nk (by decide), h24]
          · rw [eY]
            exact y3
          · rw [pd_w_nk (by decide), pd_w_self]
          · rw [eY, pd_w_self]
            exact y4
      · have eY : (zT s n inp X0 i).1 = Y := by rw [← hz, WK_f hn h0 hN hx zV y1]; exact zfin_z y2
        have eT : zT s n inp X0 (i + 1) = (zfin s n 82 (zsu s n inp Y), (zT s n inp X0 i).2.1 + 1, (zT s n inp X0 i).2.2 + zpc Y.2.2.1) := by
          rw [zT_s, eY, ble_f (by omega)]
          rfl
        obtain ⟨j2, v2, -⟩ := zfin_v hn h0 hN hx zV
        rw [hz, eY] at v2
        obtain ⟨v3, -, -⟩ := zsu_v (inp := inp) h0 hx v2 y3
        have ne : i ≠ FU := fun q => c23 (by rw [h23, h22, q])
        rw [y5]
        refine pf_mono (ih (i + 1) Z r.2 y7 y6 (by rw [← WK_f hn h0 hN hx v3 y4, eT]) (by omega) ((y10 22 (by omega)).trans h22) (by rw [y8, h23, ofN1]) (by rw [eT, hT1, ofN1]) (by rw [y9, h24, eT]) ((y10 25 (by omega)).trans h25) ((y10 26 (by omega)).trans h26)) (fun q hq => ⟨hq.1, OTG_t y11 hq.2.1, hq.2.2.trans (y10 27 (by omega))⟩)
    have eDD : X.2.2.2.2.2 = (zT s n inp X0 i).1.2.2.2.2.2 := by rw [← hz, dd_f]
    have hcn : ∀ x, x < 8 → (X.2.2.2.2.2 x).2.2.2.1 ≤ 900000 := fun x _ => by
      have := cnt_T (s := s) (n := n) (inp := inp) (X0 := X0) (l := x) i
      rw [hc0 x, ← eDD] at this
      omega
    obtain ⟨p, k, f, B, W, DD⟩ := X
    obtain ⟨hT, h35, hK, ⟨fm, hfm0, hfm⟩, hL, hRs, hV⟩ := id hA
    have h35 : v 198 35 = Int32.ofNat k.length := h35
    have hK : MK v k := hK
    have hL : LVM v DD B W k := hL
    have hRs : MRS 0 inp DD v := hRs
    have hfm : ∀ x, x < 8 → zgo fm DD x = f x := hfm
    have hst : ∀ x, x < 8 → f x = true → (DD x).2.2.2.2.2 = false := hV.1
    have hR : xR s p k := hR
    have hpn : p ≤ n := hpn
    have hcn : ∀ x, x < 8 → (DD x).2.2.2.1 ≤ 900000 := hcn
    show Pf (d_Mo_all_14 w (F + 1) (Int32.ofNat p) v) _
    rw [d_Mo_all_14, lt0 (by omega), hT.1, le_nat (by omega) (by omega)]
    refine pf_f (pf_d (fun cn => pf_some ⟨?_, OTG_r, rfl⟩) (fun cn => ?_))
    · have zX : zsp s n (p, k, f, B, W, DD) = true := by
        show (Nat.ble n p || _) = true
        rw [ble_t cn, Bool.true_or]
      have eX : (zT s n inp X0 i).1 = (p, k, f, B, W, DD) := by rw [← hz]; exact zfin_z zX
      have eo := zT_o (s := s) (n := n) (inp := inp) (X0 := X0) (r := i) (by rw [eX]; exact cn) (FU - i)
      rw [show i + (FU - i) = FU by omega] at eo
      unfold RES
      rw [eo]
      refine ⟨by rw [eX]; exact hRs, by rw [h23, hT1], h24, Or.inl ⟨by rw [eX]; exact cn, h25, h26⟩⟩
    · rw [cl_nat (show p ≤ 1000 by omega), hT.2 p (by omega)]
      refine pf_c (fun _ => ?_)
      have hp : p < n := by omega
      have hns : ∃ p' k', xns s p k = (true, p', k') := by
        rcases xR_n h0 hW hR with ⟨e, -⟩ | e
        · omega
        · exact e
      obtain ⟨p', k', hs⟩ := hns
      obtain ⟨G, hG, hG2⟩ := zgo_t hw hfm0 hRs
      have hG3 : MK8 f G := MK8_e hG2 (fun j hj => (hfm j hj).symm)
      have zX : s p ≠ 125 → G ≠ 0 → zsp s n (p, k, f, B, W, DD) = true := fun c1 c2 => by
        show (Nat.ble n p || (!(decide (s p = 125)) && !(znone f))) = true
        rw [← MK8_z hG3, decide_eq_false c2, decide_eq_false c1]
        cases Nat.ble n p <;> rfl
      have nX : G = 0 → znone f = true := fun c2 => by
        rw [← MK8_z hG3]
        exact decide_eq_true c2
      have hI := zic_t (v := v) hw hG3
      have isx : ∀ K : Int32 × pd_V → Option pd_V, s p ≠ 125 → G ≠ 0 → (∀ q8 : Int32 × pd_V, v 198 23 ≠ v 198 22 → q8.1 = 1 → q8.2 198 24 = v 198 24 + zpc f → q8.2 198 23 = v 198 23 + 1 → (∀ d, d ≠ 198 → q8.2 d = v d) → (∀ k, k ≠ 24 → k ≠ 23 → q8.2 198 k = v 198 k) → AM s n inp (p, k, f, B, W, DD) q8.2 → Pf (K q8) (fun q => RES s n inp X0 FU q ∧ OTG 0 v q ∧ q 198 27 = v 198 27)) → Pf ((d_Mo_issues w G v).bind fun q8 => bif !(decide (q8.1 = 0)) then K q8 else d_Mo_all_14 w F (-1 : Int32) q8.2) (fun q => RES s n inp X0 FU q ∧ OTG 0 v q ∧ q 198 27 = v 198 27) := by
        intro K c1 c2 hK8
        by_cases c23 : v 198 23 = v 198 22
        · rw [hI.1 c23]
          refine pf_sb (pf_n (fun c => absurd rfl c) (fun _ => ?_))
          exact three ((-1 : Int32), _) (Or.inr (Or.inl ⟨c23, rfl, _, G, WK_r, zX c1 c2, hp, hG3, rfl, hRs⟩))
        · refine pf_bind (pf_sf (hI.2 c23)) (fun q8 h8 => ?_)
          obtain ⟨i1, i2, i3, i4, i5⟩ := h8
          refine pf_n (fun _ => ?_) (fun c => by rw [i1] at c; exact absurd c (by decide))
          refine hK8 q8 c23 i1 i2 i3 i4 i5 ⟨⟨by rw [i5 4 (by decide) (by decide)]; exact hT.1, fun j hj => by rw [i4 200 (by decide)]; exact hT.2 j hj⟩, by rw [i5 35 (by decide) (by decide)]; exact h35, MK_e hK (i4 216 (by decide)), ⟨fm, by rw [i5 36 (by decide) (by decide)]; exact hfm0, hfm⟩, LVM_e k hL (fun i hi => ⟨by rw [i4 217 (by decide)], by rw [i4 218 (by decide)], EQ_r, EQ_r⟩) mono_r, MRS_q hRs (fun d hd => i4 d (by omega)), hV⟩
      have big : (s p = 63 ∨ s p = 42) → Pf (bif !(decide (G = 0)) then ((d_Mo_issues w G v).bind fun q8 => bif !(decide (q8.1 = 0)) then (bif decide ((1 : Int32) = 0) then ((d_Mo_simple w (Int32.ofNat p) G q8.2).bind fun q11 => (d_Mo_upTo w 200 160 (Int32.ofNat p) (59 : Int32) (59 : Int32) q11).bind fun q12 => d_Mo_all_14 w F (q12 + (1 : Int32)) q11) else ((d_Mo_parts w (Int32.ofNat p) G q8.2).bind fun q13 => d_Mo_all_14 w F q13.1 q13.2)) else d_Mo_all_14 w F (-1 : Int32) q8.2) else (bif decide ((1 : Int32) = 0) then ((d_Mo_upTo w 200 160 (Int32.ofNat p) (59 : Int32) (59 : Int32) v).bind fun q15 => d_Mo_all_14 w F (q15 + (1 : Int32)) v) else ((d_Mo_behindAll w (Int32.ofNat p) v).bind fun q16 => d_Mo_all_14 w F q16 v))) (fun q => RES s n inp X0 FU q ∧ OTG 0 v q ∧ q 198 27 = v 198 27) := by
        intro hs2
        have n125 : s p ≠ 125 := by rcases hs2 with t | t <;> (rw [t]; decide)
        rcases xns_c hs with ⟨t, -⟩ | ⟨-, r, g1, g2, g3, g4, g5⟩ | ⟨e, -, -, -, -, -, t⟩
        · exact absurd t n125
        · refine pf_n (fun cG => ?_) (fun cG => pf_d (fun c => absurd c (by decide)) (fun _ => ?_))
          · refine isx _ n125 cG (fun q8 c23 i1 i2 i3 i4 i5 hA8 => pf_d (fun c => absurd c (by decide)) (fun _ => ?_))
            refine pf_bind (ypa_t hw hn h0 hW hR hs2 g1 g2 g3 hA8 hG3) (fun q13 h13 => ?_)
            obtain ⟨Z, z1, z2, z3, z4, z5, z6⟩ := h13
            refine three q13 (Or.inr (Or.inr ⟨c23, _, Z, WK_r, zX n125 cG, hp, z4, z1, z2, z3, ?_, ?_, ?_, OTG_t (OTG_q (fun d hd => i4 d (by omega))) z6⟩))
            · rw [z5 23 (by omega), i3]
            · rw [z5 24 (by omega), i2]
            · intro k hk
              rw [z5 k (by omega), i5 k (by omega) (by omega)]
          · obtain ⟨b1, b2, b3, b4⟩ := yba_t hw hn h0 hW hR hs2 g1 g2 g3
            rw [b4 v hT]
            refine pf_sb (three (Int32.ofNat (zbe s p), v) (Or.inl ⟨(zbe s p, k, f, B, W, DD), rfl, b1, hA, ?_, CT_r, OTG_r⟩))
            rw [← zpo_h hs2]
            exact WK_1 (zsp_n hp (Or.inr (nX cG)))
        · have := XS_h t
          rcases hs2 with t2 | t2
          · exact absurd t2 this.2.1
          · exact absurd t2 this.2.2
      by_cases c125 : s p = 125
      · have n63 : s p ≠ 63 := by rw [c125]; decide
        have n42 : s p ≠ 42 := by rw [c125]; decide
        rw [decide_eq_false n63, decide_eq_false n42]
        refine pf_f (pf_t ?_)
        rw [hG]
        refine pf_sb ?_
        rw [decide_eq_true c125]
        refine pf_f ?_
        rcases xns_c hs with ⟨-, a, m, k0, ek, -⟩ | ⟨t | t, -⟩ | ⟨e, -, -, -, -, -, t⟩
        · subst ek
          exact pf_bind (ysh_t hw hn h0 hW hR c125 hA) (fun q31 h31 => three q31 h31)
        · exact absurd t n63
        · exact absurd t n42
        · exact absurd c125 (XS_h t).1
      · by_cases c63 : s p = 63
        · rw [decide_eq_true c63, decide_eq_false c125]
          refine pf_t ?_
          rw [hG]
          exact pf_sb (pf_t (big (Or.inl c63)))
        · rw [decide_eq_false c63, decide_eq_false c125]
          refine pf_f ?_
          refine pf_n (fun c42 => ?_) (fun c42 => ?_)
          · rcases xns_c hs with ⟨t, -⟩ | ⟨t | t, -⟩ | ⟨e, ep, ek, g3, g4, g5, g6⟩
            · exact absurd t c125
            · exact absurd t c63
            · exact absurd t c42
            · have he := lt_n h0 g3 (by decide)
              rw [ep, ek] at hs
              have hR' := xR_s hR hs
              rw [hG]
              refine pf_sb (pf_t (pf_n (fun cG => ?_) (fun cG => ?_)))
              · refine isx _ c125 cG (fun q8 c23 i1 i2 i3 i4 i5 hA8 => pf_d (fun _ => ?_) (fun c => absurd rfl c))
                obtain ⟨DD1, y1, y2, y3⟩ := ysi_t (B := B) (W := W) hw hn h0 g6 g3 g4 hA8.1 hG3 hst hcn hA8.2.2.2.2.2.1 hs
                refine pf_bind y3 (fun q25 h25 => ?_)
                obtain ⟨⟨r1, r2⟩, r3⟩ := h25
                have T25 := TX_A hA8.1 r3
                rw [su_t hw hn T25.2 he g3 g5]
                refine pf_sb ?_
                rw [ofN1]
                refine three (Int32.ofNat (e + 1), q25) (Or.inr (Or.inr ⟨c23, _, (e + 1, k, zgo f DD1, B, W, DD1), WK_r, zX c125 cG, hp, ?_, rfl, hR', ⟨T25, ?_, ?_, ⟨fm, ?_, fun x hx => ?_⟩, ?_, r1, VI_s hV y2⟩, ?_, ?_, ?_, ?_⟩))
                · rw [y1]
                  exact WK_r
                · dsimp only
                  rw [r3.2 35 (by decide) (by decide), i5 35 (by decide) (by decide)]
                  exact h35
                · exact MK_e hK ((r3.1 216 (by decide) (by omega) (by decide) (by decide) (by omega)).trans (i4 216 (by decide)))
                · dsimp only
                  rw [r3.2 36 (by decide) (by decide), i5 36 (by decide) (by decide)]
                  exact hfm0
                · exact zgo_l hfm y2 hx
                · exact LVM_e k hL (fun i hi => ⟨by dsimp only; rw [r3.1 217 (by decide) (by omega) (by decide) (by decide) (by omega), i4 217 (by decide)], by dsimp only; rw [r3.1 218 (by decide) (by omega) (by decide) (by decide) (by omega), i4 218 (by decide)], EQ_r, EQ_r⟩) y2
                · dsimp only
                  rw [r3.2 23 (by decide) (by decide), i3]
                · dsimp only
                  rw [r3.2 24 (by decide) (by decide), i2]
                · intro k hk
                  dsimp only
                  rw [r3.2 k (by omega) (by omega), i5 k (by omega) (by omega)]
                · exact OTG_t (OTG_q (fun d hd => i4 d (by omega))) r2
              · refine pf_d (fun _ => ?_) (fun c => absurd rfl c)
                rw [su_t hw hn hT.2 he g3 g5]
                refine pf_sb ?_
                rw [ofN1]
                refine three (Int32.ofNat (e + 1), v) (Or.inl ⟨(e + 1, k, f, B, W, DD), rfl, hR', hA, ?_, CT_r, OTG_r⟩)
                rw [← (zpo_s ⟨c125, c63, c42⟩ hs).1]
                exact WK_1 (zsp_n hp (Or.inr (nX cG)))
          · rw [hG]
            exact pf_sb (pf_t (big (Or.inr c42)))
end YAL
