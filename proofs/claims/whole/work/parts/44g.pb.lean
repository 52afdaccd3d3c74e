/-! a head in the reference -/
section YPB
variable {s : Nat → Int32} {n m w p q j e c o h r N i1 a b l z : Nat} {k k0 : xK} {X Y Z X0 : xCS} {inp : Nat → Int32} {v u t : pd_V} {x y G M L : Int32} {DD DD' : Nat → xLD} {f g f' ag fm : Nat → Bool} {B W B' W' : Nat → Nat → Bool} {D : xLD}
theorem ypa_t (hw : 4294967296 < w) (hn : n ≤ 160) (h0 : ∀ j, n ≤ j → s j = 0) (hW : xR s n []) (hR : xR s p k) (hs : s p = 63 ∨ s p = 42) (hE : xE s (p + 1) = (true, r)) (h4 : k.length < 4) (hr : s r = 123) (hA : AM s n inp (p, k, f, B, W, DD) v) (hM : MK8 f M) : Pf (d_Mo_parts w (Int32.ofNat p) M v) (RA s n inp (zsu s n inp (p, k, f, B, W, DD)) v) := by
  obtain ⟨g1, g2, g3, g4⟩ := hd_f h0 hR hs hE h4 hr
  obtain ⟨c, c1, c2, c3, c4, c5, c6⟩ := yhd_t hw hn h0 hW hR hs hE h4 hr
  obtain ⟨hT, h35, hK, ⟨fm, hfm0, hfm⟩, hL, hRs, hV⟩ := hA
  have h35 : v 198 35 = Int32.ofNat k.length := h35
  have hK : MK v k := hK
  have hL : LVM v DD B W k := hL
  have hRs : MRS 0 inp DD v := hRs
  have hfm : ∀ x, x < 8 → zgo fm DD x = f x := hfm
  have hst : ∀ x, x < 8 → f x = true → (DD x).2.2.2.2.2 = false := hV.1
  have hB0 : ∀ x, x < 8 → B k.length x = false := hV.2.2.2.1 k.length (Nat.le_refl _)
  obtain ⟨m0, hm0⟩ : ∃ m0 : Nat, m0 = bif decide (s p = 63) then 1 else 0 := ⟨_, rfl⟩
  obtain ⟨ag, hagd⟩ : ∃ ag : Nat → Bool, ag = (fun x => f x && !(decide ((zdc s n inp x p (p + 1) (DD x)).1 = 0))) := ⟨_, rfl⟩
  obtain ⟨DD1, hDD1⟩ : ∃ DD1 : Nat → xLD, DD1 = zup f (fun x D => (zdc s n inp x p (p + 1) D).2) DD 8 := ⟨_, rfl⟩
  obtain ⟨B1, hB1⟩ : ∃ B1 : Nat → Nat → Bool, B1 = zlv B k.length (fun x => B k.length x || f x) := ⟨_, rfl⟩
  obtain ⟨W1, hW1⟩ : ∃ W1 : Nat → Nat → Bool, W1 = zlv W k.length (fun x => f x && !(ag x)) := ⟨_, rfl⟩
  have eZ : zsu s n inp (p, k, f, B, W, DD) = (r + 1, (p, m0) :: k, zgo ag DD1, B1, W1, DD1) := by
    rw [hB1, hW1, hDD1, hagd, hm0]
    exact zsu_h hs (xns_b hs hE h4 hr)
  rw [eZ]
  rw [← hm0] at g4 c4
  unfold d_Mo_parts
  rw [hu_t hw hn hT.2 g2 hr g3, ofN1]
  show Pf ((d_Mo_truth w M (Int32.ofNat (p + 1)) (Int32.ofNat p) v).bind _) _
  refine pf_bind (pf_sf (ztm_t hw hn h0 (by omega) g2 (xdig_123 hr) hE hM hst hT hRs)) (fun q2 h2 => ?_)
  obtain ⟨⟨t1, t2, t3⟩, t4⟩ := h2
  rw [← hagd] at t1
  rw [← hDD1] at t2
  have hag : ∀ x, x < 8 → ag x = true → f x = true := fun x _ h => by
    rw [hagd] at h
    exact (and_c h).1
  have hm : MONO DD DD1 := by rw [hDD1]; exact mono_d
  have hVZ : VI (r + 1, (p, m0) :: k, zgo ag DD1, B1, W1, DD1) := by
    rw [hB1, hW1]
    exact VI_hd hV hag
  have hT2 := TX_E hT t4
  have e35 : q2.2 198 35 = Int32.ofNat k.length := (t4.2 35 (by decide) (by decide)).trans h35
  have eK : MK q2.2 k := MK_e hK (t4.1 216 (by decide) (by decide) (by decide) (by omega))
  have bN : ∀ i, i < k.length → B1 i = B i := fun i hi => by rw [hB1, zlv_n (by omega)]
  have wN : ∀ i, i < k.length → W1 i = W i := fun i hi => by rw [hW1, zlv_n (by omega)]
  have bS : ∀ x, x < 8 → B1 k.length x = f x := fun x hx => by
    rw [hB1, zlv_s]
    show (B k.length x || f x) = f x
    rw [hB0 x hx, Bool.false_or]
  have wS : ∀ x, W1 k.length x = (f x && !(ag x)) := fun x => by rw [hW1, zlv_s]
  have eL : LVM q2.2 DD1 B1 W1 k := LVM_e k hL (fun i hi => ⟨by rw [t4.1 217 (by decide) (by decide) (by decide) (by omega)], by rw [t4.1 218 (by decide) (by decide) (by decide) (by omega)], by rw [bN i hi]; exact EQ_r, by rw [wN i hi]; exact EQ_r⟩) hm
  have eB : EQ DD1 f (B1 k.length) := fun x hx => by
    unfold zgo
    rw [bS x hx]
  have out : ∀ zz : Nat, xR s zz k → WK s n (r + 1, (p, m0) :: k, zgo ag DD1, B1, W1, DD1) (zz, k, zgo (B1 k.length) DD1, zlv B1 k.length (fun _ => false), W1, DD1) → Pf (some (Int32.ofNat zz, q2.2)) (RA s n inp (r + 1, (p, m0) :: k, zgo ag DD1, B1, W1, DD1) v) := by
    intro zz a1 a2
    refine pf_some ⟨(zz, k, zgo (B1 k.length) DD1, zlv B1 k.length (fun _ => false), W1, DD1), rfl, a1, ⟨hT2, e35, eK, ⟨fm, ?_, fun x hx => ?_⟩, ?_, t2, VI_c hVZ⟩, a2, CT_E t4, t3⟩
    · rw [t4.2 36 (by decide) (by decide)]
      exact hfm0
    · show zgo fm DD1 x = zgo (B1 k.length) DD1 x
      rw [zgo_l hfm hm hx]
      exact eB x hx
    · refine LVM_e k eL (fun i hi => ⟨rfl, rfl, ?_, EQ_r⟩) mono_r
      show EQ DD1 (B1 i) (zlv B1 k.length (fun _ => false) i)
      rw [zlv_n (show i ≠ k.length by omega)]
      exact EQ_r
  refine pf_c (fun _ => ?_)
  rw [cl_nat (show p ≤ 1000 by omega), hT2.2 p (by omega)]
  refine pf_n (fun c42 => ?_) (fun c42 => ?_)
  · have c63 : s p = 63 := hs.resolve_right c42
    have m1 : m0 = 1 := by rw [hm0, decide_eq_true c63]; rfl
    subst m1
    obtain ⟨G, hG, hG2⟩ := zgo_t hw hM t2
    rw [hG]
    refine pf_sb ?_
    have nM := MK8_an hG2 t1
    refine pf_d (fun hz => ?_) (fun hz => ?_)
    · have hg0 : znone (zgo ag DD1) = true := znone_g (by rw [← MK8_z t1]; exact decide_eq_true hz)
      rw [c5 q2.2 200 hT2.2]
      refine pf_sb ?_
      rcases c6 with ⟨d, d1, d2⟩ | ⟨d1, d2, d3, b, b1, b2, b3, b4, b5, b6, b7⟩
      · rw [d2 _ hT2]
        have oo := out (c + 1) d1 (DW_o hn h0 hW hg0 g4 c4 c3 (fun q => d ⟨c63, q.2⟩))
        refine pf_d (fun _ => pf_sb oo) (fun _ => pf_sb ?_)
        rw [le_nat (by omega) (by omega), decide_eq_true (Nat.le_refl _)]
        exact pf_t (pf_sb oo)
      · rw [b7 _ hT2]
        have w1 := DW_e (B := B1) (W := W1) (DD := DD1) hn h0 hW hg0 g4 c4 c3 d2
        have eW : ∀ x, x < 8 → zgo (W1 k.length) DD1 x = (zgo f DD1 x && !(ag x)) := fun x hx => by
          unfold zgo
          rw [wS x]
          cases f x <;> cases ag x <;> cases (DD1 x).2.2.2.2.2 <;> rfl
        refine pf_d (fun hz2 => ?_) (fun _ => pf_sb ?_)
        · have hz3 : znone (zgo (W1 k.length) DD1) = true := by
            rw [znone_e eW, ← MK8_z nM]
            exact decide_eq_true hz2
          exact pf_sb (out (b + 1) b5 (WK_t w1 (DW_o hn h0 hW hz3 d3 b4 b3 (by omega))))
        · rw [le_nat (by omega) (by omega), decide_eq_false (by omega)]
          refine pf_f ?_
          obtain ⟨u, u1, u2, u3, u4⟩ := goI_t (z := c + 1) (p := p) (m := 2) (f := zgo (W1 k.length) DD1) (bb := (-2 : Int32)) (dd := (0 : Int32)) (cm := f) (rm := f) h4 hT2 e35 eK eL t2 rfl hM eB (fun e => absurd e (by decide)) nM (fun x hx => by
            show ((zgo f DD1 x && !(ag x)) && !((DD1 x).2.2.2.2.2)) = zgo (W1 k.length) DD1 x
            rw [eW x hx]
            unfold zgo
            cases f x <;> cases ag x <;> cases (DD1 x).2.2.2.2.2 <;> rfl) (VI_e hVZ)
          rw [u1]
          exact pf_sb (pf_some ⟨_, rfl, d3, u2, w1, CT_t (CT_E t4) u3, OTG_t t3 (OTG_q (fun d hd => u4 d (by omega)))⟩)
    · obtain ⟨u, u1, u2, u3, u4⟩ := goI_t (z := r) (p := p) (m := 1) (f := zgo ag DD1) (bb := (-1 : Int32)) (cm := f) (rm := fun x => zgo f DD1 x && !(ag x)) h4 hT2 e35 eK eL t2 rfl hM eB (fun _ => ⟨nM, fun x hx => by
        show ((zgo f DD1 x && !(ag x)) && !((DD1 x).2.2.2.2.2)) = zgo (W1 k.length) DD1 x
        unfold zgo
        rw [wS x]
        cases f x <;> cases ag x <;> cases (DD1 x).2.2.2.2.2 <;> rfl⟩) t1 (fun _ _ => rfl) hVZ
      rw [u1]
      exact pf_sb (pf_some ⟨_, rfl, g4, u2, WK_r, CT_t (CT_E t4) u3, OTG_t t3 (OTG_q (fun d hd => u4 d (by omega)))⟩)
  · have m1 : m0 = 0 := by rw [hm0, decide_eq_false (show ¬ s p = 63 by rw [c42]; decide)]; rfl
    subst m1
    refine pf_n (fun hz => ?_) (fun hz => ?_)
    · obtain ⟨u, u1, u2, u3, u4⟩ := goI_t (z := r) (p := p) (m := 0) (f := zgo ag DD1) (bb := Int32.ofNat p) (dd := (0 : Int32)) (cm := f) (rm := f) h4 hT2 e35 eK eL t2 rfl hM eB (fun e => absurd e (by decide)) t1 (fun _ _ => rfl) hVZ
      rw [u1]
      exact pf_sb (pf_some ⟨_, rfl, g4, u2, WK_r, CT_t (CT_E t4) u3, OTG_t t3 (OTG_q (fun d hd => u4 d (by omega)))⟩)
    · have hg0 : znone (zgo ag DD1) = true := znone_g (by rw [← MK8_z t1]; exact decide_eq_true hz)
      rcases c6 with ⟨d, d1, d2⟩ | ⟨d1, -⟩
      · rw [d2 _ hT2]
        exact pf_sb (out (c + 1) d1 (DW_o hn h0 hW hg0 g4 c4 c3 (fun q => absurd q.1 (by decide))))
      · rw [c42] at d1
        exact absurd d1 (by decide)
end YPB
