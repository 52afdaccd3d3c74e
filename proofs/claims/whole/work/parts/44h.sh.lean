/-! the end of a block in the reference -/
/-- the fuel is spent before a statement -/
def RP (s : Nat → Int32) (n : Nat) (inp : Nat → Int32) (X : xCS) (v : pd_V) (r : Int32 × pd_V) : Prop := v 198 23 = v 198 22 ∧ r.1 = -1 ∧ ∃ (Y : xCS) (M : Int32), WK s n X Y ∧ zsp s n Y = true ∧ Y.1 < n ∧ MK8 Y.2.2.1 M ∧ r.2 = pd_w (pd_w v 198 25 (1 : Int32)) 198 26 M ∧ MRS 0 inp Y.2.2.2.2.2 v
/-- one statement is done -/
def RI (s : Nat → Int32) (n : Nat) (inp : Nat → Int32) (X : xCS) (v : pd_V) (r : Int32 × pd_V) : Prop := v 198 23 ≠ v 198 22 ∧ ∃ Y Z : xCS, WK s n X Y ∧ zsp s n Y = true ∧ Y.1 < n ∧ WK s n (zsu s n inp Y) Z ∧ r.1 = Int32.ofNat Z.1 ∧ xR s Z.1 Z.2.1 ∧ AM s n inp Z r.2 ∧ r.2 198 23 = v 198 23 + 1 ∧ r.2 198 24 = v 198 24 + zpc Y.2.2.1 ∧ (∀ k, (k = 22 ∨ k = 25 ∨ k = 26 ∨ k = 27) → r.2 198 k = v 198 k) ∧ OTG 0 v r.2
section YSH
variable {s : Nat → Int32} {n m w p q j e c o h r N i1 a b l z : Nat} {k k0 : xK} {X Y Z X0 : xCS} {inp : Nat → Int32} {v u t : pd_V} {x y G M L : Int32} {DD DD' : Nat → xLD} {f g f' ag fm : Nat → Bool} {B W B' W' : Nat → Nat → Bool} {D : xLD}
theorem ysh_t (hw : 4294967296 < w) (hn : n ≤ 160) (h0 : ∀ j, n ≤ j → s j = 0) (hW : xR s n []) (hR : xR s p ((h, m) :: k0)) (hs : s p = 125) (hA : AM s n inp (p, (h, m) :: k0, f, B, W, DD) v) : Pf (d_Mo_shuts w (Int32.ofNat p) v) (fun r => RA s n inp (p, (h, m) :: k0, f, B, W, DD) v r ∨ RP s n inp (p, (h, m) :: k0, f, B, W, DD) v r ∨ RI s n inp (p, (h, m) :: k0, f, B, W, DD) v r) := by
  obtain ⟨si1, si2, ⟨r, si3, si4⟩, si5, si6⟩ := xR_SI hR
  obtain ⟨hT, h35, hK, ⟨fm, hfm0, hfm⟩, hL, hRs, hV⟩ := hA
  have h35 : v 198 35 = Int32.ofNat (k0.length + 1) := h35
  obtain ⟨hK1, hK2⟩ : v 216 k0.length = xmk h m ∧ MK v k0 := hK
  have hL : LVM v DD B W ((h, m) :: k0) := hL
  have hRs : MRS 0 inp DD v := hRs
  have hfm : ∀ x, x < 8 → zgo fm DD x = f x := hfm
  have hst : ∀ x, x < 8 → f x = true → (DD x).2.2.2.2.2 = false := hV.1
  have hp := lt_n h0 hs (by decide)
  have hh : h ≤ n := xR_le h0 hW si1
  have out1 : ¬ (m = 1 ∧ s (p + 1) = 123) → (m = 0 → znone f = true) → Pf ((d_Mo_goOut (Int32.ofNat p + (1 : Int32)) v).bind fun q11 => some (q11.1, q11.2)) (fun r => RA s n inp (p, (h, m) :: k0, f, B, W, DD) v r ∨ RP s n inp (p, (h, m) :: k0, f, B, W, DD) v r ∨ RI s n inp (p, (h, m) :: k0, f, B, W, DD) v r) := by
    intro hm hz
    rw [ofN1]
    obtain ⟨u, u1, u2, u3, u4⟩ := goO_t (z := p + 1) si5 hT h35 hK2 hL hRs hV
    rw [u1]
    refine pf_sb (pf_some (Or.inl ⟨_, rfl, xcl_n hs hm hR, u2, ?_, u3, OTG_q (fun d hd => u4 d (by omega))⟩))
    have e : zpo s (p, (h, m) :: k0, f, B, W, DD) = (p + 1, k0, zgo (B k0.length) DD, zlv B k0.length (fun _ => false), W, DD) := by
      rw [zpo_c hs, nel hm]
      show (bif Nat.beq m 0 && !(znone f) then _ else _) = _
      by_cases c : m = 0
      · rw [hz c]
        show (bif Nat.beq m 0 && false then _ else _) = _
        rw [Bool.and_false]
        rfl
      · rw [beq_f c]
        rfl
    rw [← e]
    exact WK_1 (zsp_n hp (Or.inl hs))
  unfold d_Mo_shuts
  rw [h35, dec_ofNat, cl_nat (show k0.length ≤ 1000 by omega), hK1]
  refine pf_c (fun i5 => ?_)
  rcases si2 with ⟨m0, hs42⟩ | ⟨m1 | m2, hs63⟩
  · subst m0
    rw [xmk_0 (by omega)]
    refine pf_f ?_
    obtain ⟨G, hG, hG2⟩ := zgo_t hw hfm0 hRs
    have hG3 : MK8 f G := MK8_e hG2 (fun j hj => (hfm j hj).symm)
    rw [hG]
    refine pf_sb ?_
    refine pf_n (fun hg => ?_) (fun hg => out1 (by omega) (fun _ => by rw [← MK8_z hG3]; exact decide_eq_true hg))
    have hz : znone f = false := by rw [← MK8_z hG3]; exact decide_eq_false hg
    have hhn : h < n := lt_n h0 hs42 (by decide)
    have eY : zpo s (p, (h, 0) :: k0, f, B, W, DD) = (h, k0, f, B, W, DD) := by
      rw [zpo_c hs, nel (by omega), hz]
      rfl
    have wY : WK s n (p, (h, 0) :: k0, f, B, W, DD) (h, k0, f, B, W, DD) := by
      rw [← eY]
      exact WK_1 (zsp_n hp (Or.inl hs))
    have zY : zsp s n (h, k0, f, B, W, DD) = true := by
      show (Nat.ble n h || (!(decide (s h = 125)) && !(znone f))) = true
      rw [hz, decide_eq_false (show ¬ s h = 125 by rw [hs42]; decide)]
      cases Nat.ble n h <;> rfl
    have hI := zic_t (v := v) hw hG3
    by_cases c23 : v 198 23 = v 198 22
    · rw [hI.1 c23]
      refine pf_sb ?_
      exact pf_n (fun c => absurd rfl c) (fun _ => pf_some (Or.inr (Or.inl ⟨c23, rfl, _, G, wY, zY, hhn, hG3, rfl, hRs⟩)))
    · refine pf_bind (pf_sf (hI.2 c23)) (fun q41 h41 => ?_)
      obtain ⟨i1, i2, i3, i4, i5⟩ := h41
      refine pf_n (fun _ => ?_) (fun c => by rw [i1] at c; exact absurd c (by decide))
      obtain ⟨g1, g2, g3, g4⟩ := hd_f h0 si1 (Or.inr hs42) si3 si5 si4
      have hf63 : decide (s h = 63) = false := decide_eq_false (by rw [hs42]; decide)
      have ns : xns s h k0 = (true, r + 1, (h, 0) :: k0) := by
        have := xns_b (Or.inr hs42) si3 si5 si4
        rw [hf63] at this
        exact this
      rw [hf63] at g4
      have g4 : xR s (r + 1) ((h, 0) :: k0) := g4
      have hT41 : TX n s q41.2 := ⟨by rw [i5 4 (by decide) (by decide)]; exact hT.1, fun j hj => by rw [i4 200 (by decide)]; exact hT.2 j hj⟩
      have hR41 : MRS 0 inp DD q41.2 := MRS_q hRs (fun d hd => i4 d (by omega))
      rw [show xmk h 0 = Int32.ofNat h from rfl, ofN1]
      refine pf_bind (pf_sf (ztm_t hw hn h0 (by omega) g2 (xdig_123 si4) si3 hG3 hst hT41 hR41)) (fun q43 h43 => ?_)
      obtain ⟨⟨t1, t2, t3⟩, t4⟩ := h43
      obtain ⟨ag, hagd⟩ : ∃ ag : Nat → Bool, ag = (fun x => f x && !(decide ((zdc s n inp x h (h + 1) (DD x)).1 = 0))) := ⟨_, rfl⟩
      obtain ⟨DD1, hDD1⟩ : ∃ DD1 : Nat → xLD, DD1 = zup f (fun x D => (zdc s n inp x h (h + 1) D).2) DD 8 := ⟨_, rfl⟩
      obtain ⟨B1, hB1⟩ : ∃ B1 : Nat → Nat → Bool, B1 = zlv B k0.length (fun x => B k0.length x || f x) := ⟨_, rfl⟩
      obtain ⟨W1, hW1⟩ : ∃ W1 : Nat → Nat → Bool, W1 = zlv W k0.length (fun x => f x && !(ag x)) := ⟨_, rfl⟩
      have eZ : zsu s n inp (h, k0, f, B, W, DD) = (r + 1, (h, 0) :: k0, zgo ag DD1, B1, W1, DD1) := by
        rw [hB1, hW1, hDD1, hagd]
        exact zsu_h (Or.inr hs42) ns
      rw [← hagd] at t1
      rw [← hDD1] at t2
      have hm : MONO DD DD1 := by rw [hDD1]; exact mono_d
      have hag : ∀ x, x < 8 → ag x = true → f x = true := fun x _ h => by
        rw [hagd] at h
        exact (and_c h).1
      have hVZ : VI (r + 1, (h, 0) :: k0, zgo ag DD1, B1, W1, DD1) := by
        obtain ⟨v1, v2, v3, v4, v5⟩ := hV
        have v2 : ∀ i, i < k0.length + 1 → ∀ x, x < 8 → f x = true → B i x = true := v2
        have v3 : ∀ i j, i < j → j < k0.length + 1 → ∀ x, x < 8 → B j x = true → B i x = true := v3
        have v4 : ∀ i, k0.length + 1 ≤ i → ∀ x, x < 8 → B i x = false := v4
        have v5 : ∀ i, i < k0.length + 1 → ∀ x, x < 8 → W i x = true → B i x = true := v5
        rw [hB1, hW1]
        exact VI_h (fun i hi => v2 i (by omega)) (fun i j hij hj => v3 i j hij (by omega)) (fun i hi => v4 i (by omega)) (fun i hi => v5 i (by omega)) hag
      have bS : ∀ x, x < 8 → B1 k0.length x = B k0.length x := fun x hx => by
        rw [hB1, zlv_s]
        show (B k0.length x || f x) = B k0.length x
        cases hf : f x with
        | false => rw [Bool.or_false]
        | true => rw [show B k0.length x = true from hV.2.1 k0.length (by show k0.length < k0.length + 1; omega) x hx hf, Bool.or_true]
      have u4 : (pd_w q43.2 198 36 q43.1) 216 = v 216 := by rw [pd_wa (by decide), t4.1 216 (by decide) (by decide) (by decide) (by omega), i4 216 (by decide)]
      have u35 : (pd_w q43.2 198 36 q43.1) 198 35 = Int32.ofNat (k0.length + 1) := by rw [pd_w_nk (by decide), t4.2 35 (by decide) (by decide), i5 35 (by decide) (by decide)]; exact h35
      have uT : TX n s (pd_w q43.2 198 36 q43.1) := by
        have := TX_E hT41 t4
        exact ⟨by rw [pd_w_nk (by decide)]; exact this.1, fun j hj => by rw [pd_w_ne (by decide)]; exact this.2 j hj⟩
      have uR : MRS 0 inp DD1 (pd_w q43.2 198 36 q43.1) := MRS_q t2 (fun d hd => by rw [pd_wa (by omega)])
      have uL : LVM (pd_w q43.2 198 36 q43.1) DD1 B1 W1 ((h, 0) :: k0) := by
        obtain ⟨⟨bm, b1, b2⟩, -, hL2⟩ := hL
        have e7 : (pd_w q43.2 198 36 q43.1) 217 = v 217 := by rw [pd_wa (by decide), t4.1 217 (by decide) (by decide) (by decide) (by omega), i4 217 (by decide)]
        have e8 : (pd_w q43.2 198 36 q43.1) 218 = v 218 := by rw [pd_wa (by decide), t4.1 218 (by decide) (by decide) (by decide) (by omega), i4 218 (by decide)]
        refine ⟨⟨bm, by rw [e7]; exact b1, fun x hx => ?_⟩, fun e => absurd e (by decide), LVM_e k0 hL2 (fun i hi => ⟨by rw [e7], by rw [e8], ?_, ?_⟩) hm⟩
        · rw [EQ_m b2 hm x hx]
          unfold zgo
          rw [bS x hx]
        · rw [hB1, zlv_n (by omega)]
          exact EQ_r
        · rw [hW1, zlv_n (by omega)]
          exact EQ_r
      have uO : OTG 0 v (pd_w q43.2 198 36 q43.1) := OTG_t (OTG_q (fun d hd => i4 d (by omega))) (OTG_t t3 (OTG_q (fun d hd => by rw [pd_wa (by omega)])))
      have uC : ∀ k, (22 ≤ k ∧ k ≤ 27) → (pd_w q43.2 198 36 q43.1) 198 k = q41.2 198 k := fun k hk => by rw [pd_w_nk (by omega), t4.2 k (by omega) (by omega)]
      refine pf_n (fun hz2 => ?_) (fun hz2 => ?_)
      · rw [hu_t hw hn uT.2 g2 si4 g3]
        refine pf_sb (pf_some (Or.inr (Or.inr ⟨c23, (h, k0, f, B, W, DD), (r + 1, (h, 0) :: k0, zgo ag DD1, B1, W1, DD1), wY, zY, hhn, ?_, ofN1 r, g4, ⟨uT, u35, ?_, ⟨ag, by show MK8 ag (pd_w q43.2 198 36 q43.1 198 36); rw [pd_w_self]; exact t1, fun _ _ => rfl⟩, uL, uR, hVZ⟩, ?_, ?_, ?_, uO⟩)))
        · rw [eZ]
          exact WK_r
        · exact MK_e (k := (h, 0) :: k0) ⟨hK1, hK2⟩ u4
        · dsimp only
          rw [uC 23 (by omega), i3]
        · dsimp only
          rw [uC 24 (by omega), i2]
        · intro k hk
          dsimp only
          rw [uC k (by omega), i5 k (by omega) (by omega)]
      · have hg0 : znone (zgo ag DD1) = true := znone_g (by rw [← MK8_z t1]; exact decide_eq_true hz2)
        obtain ⟨u, u1, u2, u3, u5⟩ := goO_t (z := p + 1) si5 uT u35 (MK_e hK2 u4) uL uR hVZ
        rw [ofN1, u1]
        refine pf_sb (pf_some (Or.inr (Or.inr ⟨c23, (h, k0, f, B, W, DD), _, wY, zY, hhn, ?_, rfl, xcl_n hs (by omega) hR, u2, ?_, ?_, ?_, OTG_t uO (OTG_q (fun d hd => u5 d (by omega)))⟩)))
        · rw [eZ]
          exact DW_o hn h0 hW hg0 g4 hR hs (by omega)
        · dsimp only
          rw [u3 23 (by omega), uC 23 (by omega), i3]
        · dsimp only
          rw [u3 24 (by omega), uC 24 (by omega), i2]
        · intro k hk
          dsimp only
          rw [u3 k (by omega), uC k (by omega), i5 k (by omega) (by omega)]
  · subst m1
    rw [xmk_1, xmk_1e]
    refine pf_t (pf_f ?_)
    rw [ofN1, hT.1, le_nat (by omega) (by omega)]
    refine pf_d (fun cz => ?_) (fun cz => ?_)
    · refine pf_n (fun c => absurd rfl c) (fun _ => ?_)
      rw [← ofN1]
      exact out1 (fun q => by rw [h0 (p + 1) (by omega)] at q; exact absurd q.2 (by decide)) (fun e => absurd e (by decide))
    · refine pf_c (fun _ => ?_)
      rw [cl_nat (show p + 1 ≤ 1000 by omega), hT.2 (p + 1) (by omega)]
      refine pf_n (fun c123 => ?_) (fun c123 => ?_)
      · refine pf_n (fun c => absurd rfl c) (fun _ => ?_)
        rw [← ofN1]
        exact out1 (fun q => c123 q.2) (fun e => absurd e (by decide))
      · refine pf_n (fun _ => ?_) (fun c => absurd c (by decide))
        refine pf_c (fun _ => ?_)
        have hR2 := xcl_e hs rfl c123 hR
        obtain ⟨rm, r1, r2⟩ := hL.2.1 rfl
        obtain ⟨G, hG, hG2⟩ := zgo_t hw r1 hRs
        have hG3 : MK8 (zgo (W k0.length) DD) G := MK8_e hG2 (fun j hj => (r2 j hj).symm)
        rw [hG]
        refine pf_sb ?_
        have eY : zpo s (p, (h, 1) :: k0, f, B, W, DD) = (p + 2, (h, 2) :: k0, zgo (W k0.length) DD, B, W, DD) := by
          rw [zpo_c hs, decide_eq_true c123]
          rfl
        have wY : WK s n (p, (h, 1) :: k0, f, B, W, DD) (p + 2, (h, 2) :: k0, zgo (W k0.length) DD, B, W, DD) := by
          rw [← eY]
          exact WK_1 (zsp_n hp (Or.inl hs))
        refine pf_n (fun hg => ?_) (fun hg => ?_)
        · refine pf_c (fun _ => pf_some (Or.inl ⟨(p + 2, (h, 2) :: k0, zgo (W k0.length) DD, B, W, DD), ?_, hR2, ⟨?_, ?_, ⟨?_, ?_⟩, ⟨zgo (W k0.length) DD, ?_, fun x hx => ?_⟩, ?_, ?_, VI_e hV⟩, wY, ?_, ?_⟩))
          · exact ofN2 p
          · exact ⟨by dsimp only; rw [pd_w_nk (by decide), pd_w_ne (by decide)]; exact hT.1, fun j hj => by dsimp only; rw [pd_w_ne (by decide), pd_w_ne (by decide)]; exact hT.2 j hj⟩
          · dsimp only
            rw [pd_w_nk (by decide), pd_w_ne (by decide)]
            exact h35
          · dsimp only
            rw [pd_w_ne (by decide), pd_w_self]
            rfl
          · exact MK_e (MK_w hK2 (Nat.le_refl _)) (by dsimp only; rw [pd_wa (by decide)])
          · dsimp only
            rw [pd_w_self]
            exact hG3
          · dsimp only
            unfold zgo
            cases W k0.length x <;> cases (DD x).2.2.2.2.2 <;> rfl
          · obtain ⟨⟨bm, b1, b2⟩, -, hL2⟩ := hL
            refine ⟨⟨bm, by dsimp only; rw [pd_w_ne (by decide), pd_w_ne (by decide)]; exact b1, b2⟩, fun e => absurd e (by decide), LVM_e k0 hL2 (fun i hi => ⟨by dsimp only; rw [pd_w_ne (by decide), pd_w_ne (by decide)], by dsimp only; rw [pd_w_ne (by decide), pd_w_ne (by decide)], EQ_r, EQ_r⟩) mono_r⟩
          · exact MRS_q hRs (fun d hd => by dsimp only; rw [pd_wa (by omega), pd_wa (by omega)])
          · intro k hk
            dsimp only
            rw [pd_w_nk (by omega), pd_w_ne (by decide)]
          · exact OTG_q (fun d hd => by dsimp only; rw [pd_wa (by omega), pd_wa (by omega)])
        · obtain ⟨b, b1, b2, b3, b4, b5⟩ := sk_t hw hn h0 hW c123 hR2
          rw [b5 v 200 hT.2]
          refine pf_sb ?_
          obtain ⟨u, u1, u2, u3, u5⟩ := goO_t (z := b + 1) si5 hT h35 hK2 hL hRs hV
          rw [u1]
          refine pf_sb (pf_some (Or.inl ⟨_, rfl, xcl_n b3 (by omega) b4, u2, WK_t wY (DW_o hn h0 hW ?_ hR2 b4 b3 (by omega)), u3, OTG_q (fun d hd => u5 d (by omega))⟩))
          rw [← MK8_z hG3]
          exact decide_eq_true hg
  · subst m2
    rw [xmk_2, xmk_2e]
    refine pf_t (pf_t ?_)
    exact pf_n (fun c => absurd rfl c) (fun _ => out1 (by omega) (fun e => absurd e (by decide)))
end YSH
