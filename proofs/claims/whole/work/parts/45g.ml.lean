/-! one lane by itself, in the reference -/
section YML
variable {s : Nat → Int32} {n m w p p' q j e c o h r N i1 a b l z d L : Nat} {k k' k0 : xK} {inp : Nat → Int32} {D : xLD} {v u t : pd_V} {x y M : Int32} {Y : xAS}
/-- what moving a lane leaves alone -/
def LF (l : Nat) (v q : pd_V) : Prop := (∀ d, d ≠ 210 → d ≠ 211 → d ≠ 212 → q d = v d) ∧ OL l v q
theorem LF_t (h1 : LF l v u) (h2 : LF l u t) : LF l v t := ⟨fun d a b c => (h2.1 d a b c).trans (h1.1 d a b c), OL_t h1.2 h2.2⟩
theorem LF_0 (x : Int32) : LF l v (pd_w v 210 l x) := ⟨fun d a _ _ => pd_wa a, OL_l OL_r (by decide)⟩
/-- out of a block -/
theorem ylv_t (hw : 4294967296 < w) (hn : n ≤ 160) (h0 : ∀ j, n ≤ j → s j = 0) (hW : xR s n []) (hl : l < 8) (hT : TX n s v) (hs : s p = 125) (hS : zLS s l p k v) : Pf (d_Mo_leave w (Int32.ofNat l) v) (fun q => zLS s l (zlb s (p, k)).1 (zlb s (p, k)).2 q ∧ LF l v q) := by
  obtain ⟨hp, h, m, k0, ek⟩ := brk h0 hW hS.2.1 hs
  subst ek
  obtain ⟨a1, a2, a3, a4, a5⟩ := hS
  have k4 := xSI_4 (xR_SI a2)
  have k4 : k0.length + 1 ≤ 4 := k4
  obtain ⟨si1, si2, -, si5, si6⟩ := xR_SI a2
  have hh := xR_le h0 hW si1
  have cl : (Int32.ofNat l).toNatClampNeg = l := cl_nat (by omega)
  have il : pm_in (Int32.ofNat l) 8 = true := in_nat hl (by omega)
  have a3' : v 211 l = Int32.ofNat (k0.length + 1) := a3
  have fin : ∀ (p2 : Nat), xR s p2 k0 → zLS s l p2 k0 (pd_w (pd_w v 211 l (Int32.ofNat k0.length)) 210 l (Int32.ofNat p2)) ∧ LF l v (pd_w (pd_w v 211 l (Int32.ofNat k0.length)) 210 l (Int32.ofNat p2)) := by
    intro p2 e1
    refine ⟨⟨pd_w_self, e1, ?_, LM_e a5 (fun i _ => by rw [pd_w_ne (by decide), pd_w_ne (by decide)])⟩, fun d d1 d2 _ => by rw [pd_wa d1, pd_wa d2], OL_l (OL_l OL_r (by decide)) (by decide)⟩
    rw [pd_w_ne (by decide), pd_w_self]
  have top : Pf (d_Mo_top (Int32.ofNat l) v) (fun y => y = xmk h m) := by
    unfold d_Mo_top
    rw [cl, a3', mul5 hl (by omega), show 5 * l + (k0.length + 1) = (5 * l + k0.length) + 1 by omega, dec_ofNat, cl_nat (by omega), a4]
    exact pf_c (fun _ => pf_c (fun _ => pf_some rfl))
  unfold d_Mo_leave
  refine pf_bind top (fun y hy => ?_)
  subst hy
  rw [cl, a1, a3', dec_ofNat, ofN1]
  refine pf_c (fun _ => pf_c (fun _ => pf_c (fun _ => ?_)))
  rcases si2 with ⟨m0, hs42⟩ | ⟨m1 | m2, hs63⟩
  · subst m0
    rw [xmk_0 (by omega), zlb_0]
    exact pf_f (pf_c (fun _ => pf_some (fin h si1)))
  · subst m1
    rw [xmk_1, xmk_1e]
    refine pf_t (pf_f ?_)
    rw [hT.1, le_nat (by omega) (by omega)]
    refine pf_d (fun c => pf_c (fun _ => pf_some ?_)) (fun c => ?_)
    · have hm : ¬ ((1 : Nat) = 1 ∧ s (p + 1) = 123) := fun q => by rw [h0 (p + 1) c] at q; exact absurd q.2 (by decide)
      rw [zlb_n (by decide) hm]
      exact fin (p + 1) (xcl_n hs hm a2)
    · refine pf_c (fun _ => ?_)
      rw [cl_nat (show p + 1 ≤ 1000 by omega), hT.2 (p + 1) (by omega)]
      refine pf_n (fun c2 => pf_c (fun _ => pf_some ?_)) (fun c2 => ?_)
      · have hm : ¬ ((1 : Nat) = 1 ∧ s (p + 1) = 123) := fun q => c2 q.2
        rw [zlb_n (by decide) hm]
        exact fin (p + 1) (xcl_n hs hm a2)
      · have hR2 := xcl_e hs rfl c2 a2
        obtain ⟨b, b1, b2, b3, b4, b5⟩ := sk_t hw hn h0 hW c2 hR2
        rw [b5 _ 200 (fun j hj => by rw [pd_w_ne (by decide)]; exact hT.2 j hj)]
        refine pf_sb (pf_c (fun _ => pf_some ?_))
        rw [zlb_1 c2, zb1_u hn h0 hW hR2 (by omega) b3 b4]
        exact fin (b + 1) (xcl_n b3 (by omega) b4)
  · subst m2
    have hm : ¬ ((2 : Nat) = 1 ∧ s (p + 1) = 123) := by omega
    rw [xmk_2, xmk_2e, zlb_n (by decide) hm]
    exact pf_t (pf_t (pf_c (fun _ => pf_some (fin (p + 1) (xcl_n hs hm a2)))))
/-- into a block -/
theorem yen_t (hl : l < 8) (hR : xR s z ((h, m) :: k)) (h211 : v 211 l = Int32.ofNat k.length) (hM : LM l v k) (hy : y = xmk h m) : Pf (d_Mo_enter (Int32.ofNat l) y (Int32.ofNat z) v) (fun q => zLS s l z ((h, m) :: k) q ∧ LF l v q) := by
  have k4 := xSI_4 (xR_SI hR)
  have k4 : k.length + 1 ≤ 4 := k4
  have cl : (Int32.ofNat l).toNatClampNeg = l := cl_nat (by omega)
  unfold d_Mo_enter
  rw [cl, h211, mul5 hl (by omega), cl_nat (show 5 * l + k.length ≤ 1000 by omega), ofN1]
  refine pf_c (fun _ => pf_c (fun _ => pf_c (fun _ => pf_c (fun _ => pf_c (fun _ => pf_some ⟨⟨pd_w_self, hR, ?_, ?_, ?_⟩, fun d d1 d2 d3 => by rw [pd_wa d1, pd_wa d2, pd_wa d3], OL_l (OL_l (OL_2 OL_r (by omega)) (by decide)) (by decide)⟩)))))
  · rw [pd_w_ne (by decide), pd_w_self]
    rfl
  · rw [pd_w_ne (by decide), pd_w_ne (by decide), pd_w_self]
    exact hy
  · exact LM_e hM (fun i hi => by rw [pd_w_ne (by decide), pd_w_ne (by decide), pd_w_nk (by omega)])
theorem MRL_L {L' : Nat} (h : MRL L' D v) (f : LF l v u) : MRL L' D u := MRL_q h (fun d hd => f.1 d (by omega) (by omega) (by omega))
theorem OTM_L {L' : Nat} (f : LF l v u) : OTM L' v u := OTM_q (fun d hd => f.1 d (by omega) (by omega) (by omega))
/-- what a step of a lane leaves alone -/
def SL (l : Nat) (v q : pd_V) : Prop := (∀ a, (a < 198 ∨ 199 ≤ a ∧ a ≤ 203) → q a = v a) ∧ (∀ k, k ≠ 6 → k ≠ 19 → q 198 k = v 198 k) ∧ OL l v q ∧ OTM (8 + l) v q ∧ q 215 = v 215
theorem SL_t (h1 : SL l v u) (h2 : SL l u t) : SL l v t := ⟨fun a b => (h2.1 a b).trans (h1.1 a b), fun k b c => (h2.2.1 k b c).trans (h1.2.1 k b c), OL_t h1.2.2.1 h2.2.2.1, OTM_t h1.2.2.2.1 h2.2.2.2.1, h2.2.2.2.2.trans h1.2.2.2.2⟩
theorem SL_L (f : LF l v u) : SL l v u := ⟨fun a b => f.1 a (by omega) (by omega) (by omega), fun k _ _ => by rw [f.1 198 (by decide) (by decide) (by decide)], f.2, OTM_L f, f.1 215 (by decide) (by decide) (by decide)⟩
theorem SL_r : SL l v v := ⟨fun _ _ => rfl, fun _ _ _ => rfl, OL_r, fun _ _ _ _ h => h, rfl⟩
theorem TX_L (h : TX n s v) (f : SL l v u) : TX n s u := ⟨by rw [f.2.1 4 (by decide) (by decide)]; exact h.1, fun j hj => by rw [f.1 200 (by omega)]; exact h.2 j hj⟩
theorem MIN_L (h : MIN inp v) (f : SL l v u) : MIN inp u := fun j hj => by rw [f.1 203 (by omega)]; exact h j hj
/-- where the lane is behind its statement -/
def LPl (s : Nat → Int32) (l : Nat) (Y : xAS) (q : pd_V) : Prop := MRL (8 + l) Y.2.2 q ∧ (Y.2.2.2.2.2.2.2 = true ∨ zLS s l Y.1 Y.2.1 q)
theorem ych_t (hw : 4294967296 < w) (hn : n ≤ 160) (h0 : ∀ j, n ≤ j → s j = 0) (hW : xR s n []) (hl : l < 8) (hT : TX n s v) (hin : MIN inp v) (hS : zLS s l p k v) (hD : MRL (8 + l) D v) (hst : D.2.2.2.2.2 = false) (hs : s p = 63 ∨ s p = 42) (hE : xE s (p + 1) = (true, r)) (h4 : k.length < 4) (hr : s r = 123) (ns : xns s p k = (true, r + 1, (p, bif decide (s p = 63) then 1 else 0) :: k)) : Pf (d_Mo_choose w (Int32.ofNat (8 + l)) (Int32.ofNat l) (Int32.ofNat p) v) (fun q => LPl s l (zls s n inp l (p, k, D)) q ∧ SL l v q) := by
  obtain ⟨a1, a2, a3, a4⟩ := id hS
  obtain ⟨g1, g2, g3, g4⟩ := hd_f h0 a2 hs hE h4 hr
  obtain ⟨c, c1, c2, c3, c4, c5⟩ := sk_t hw hn h0 hW hr g4
  have ez : zb1 s r = c + 1 := zb1_u hn h0 hW g4 g2 c3 c4
  have cl : (Int32.ofNat l).toNatClampNeg = l := cl_nat (by omega)
  unfold d_Mo_choose
  rw [hu_t hw hn hT.2 g2 hr g3]
  show Pf ((d_Mo_behind w 200 160 (Int32.ofNat r) v).bind _) _
  rw [c5 v 200 hT.2, ofN1 p]
  show Pf ((d_Mo_valueOf w (Int32.ofNat (8 + l)) (Int32.ofNat (p + 1)) (Int32.ofNat p) v).bind _) _
  refine pf_bind (pf_sf (vlq_t (m := 4) hw hn h0 (by omega) (show 8 + l < 16 by omega) (by omega) g2 (xdig_123 hr) hT (EE_M (show (8 + l) % 8 = l by omega) hin hD) hE)) (fun q3 h3 => ?_)
  obtain ⟨m1, m2, m3⟩ := VQ_M hD hst h3
  have f3 : ∀ d, d ≠ 198 → d ≠ 208 → d ≠ 209 → ¬ (219 ≤ d ∧ d ≤ 221) → q3.2 d = v d := h3.1
  have S3 : SL l v q3.2 := ⟨fun a b => f3 a (by omega) (by omega) (by omega) (by omega), fun k b c => h3.2.1 k b c, OL_e (f3 210 (by decide) (by decide) (by decide) (by omega)) (f3 211 (by decide) (by decide) (by decide) (by omega)) (f3 212 (by decide) (by decide) (by decide) (by omega)) (f3 215 (by decide) (by decide) (by decide) (by omega)), m3, f3 215 (by decide) (by decide) (by decide) (by omega)⟩
  have T3 := TX_L hT S3
  have Z3 : zLS s l p k q3.2 := zLS_e hS (by rw [f3 210 (by decide) (by decide) (by decide) (by omega)]) (by rw [f3 211 (by decide) (by decide) (by decide) (by omega)]) (fun i _ => by rw [f3 212 (by decide) (by decide) (by decide) (by omega)])
  have h211 : q3.2 211 l = Int32.ofNat k.length := Z3.2.2.1
  refine pf_c (fun _ => ?_)
  rw [cl_nat (show 8 + l ≤ 1000 by omega)]
  cases ho : xw s n (zev inp l D) (p + 1) with
  | none =>
    obtain ⟨n1, n2⟩ := m2 ho
    have ed : zdc s n inp l p (p + 1) D = (0, ztr p D) := by
      unfold zdc
      rw [ho]
      rfl
    rw [n2]
    refine pf_d (fun z => absurd z (by decide)) (fun _ => pf_some ⟨?_, S3⟩)
    have e2 : (zls s n inp l (p, k, D)).2.2 = ztr p D := by
      obtain ⟨c', -, -, -, -, e5, -, -⟩ := zhe_t hn h0 hW a2 hs hE h4 hr
      by_cases d : s p = 63 ∧ s (c' + 1) = 123
      · rw [zls_z2 d.1 hE e5 d.2 (by rw [ed]), ed]
      · rw [zls_z1 hs hE e5 d (by rw [ed]), ed]
    refine ⟨by rw [e2]; exact n1, Or.inl ?_⟩
    show (zls s n inp l (p, k, D)).2.2.2.2.2.2.2 = true
    rw [e2]
    rfl
  | some y =>
    obtain ⟨n1, -, n3, n4⟩ := m1 y ho
    have ed : zdc s n inp l p (p + 1) D = (y, D) := by
      unfold zdc
      rw [ho]
      rfl
    rw [n4]
    refine pf_d (fun _ => ?_) (fun z => absurd rfl z)
    rw [cl_nat (show p ≤ 1000 by omega), T3.2 p (by omega), cl, n1]
    have jump : ∀ zz, xR s zz k → zls s n inp l (p, k, D) = (zz, k, D) → Pf (bif pm_in (Int32.ofNat l) 8 then some (pd_w q3.2 210 l (Int32.ofNat zz)) else none) (fun q => LPl s l (zls s n inp l (p, k, D)) q ∧ SL l v q) := by
      intro zz b1 b2
      refine pf_c (fun _ => pf_some ?_)
      rw [b2]
      exact ⟨⟨MRL_L n3 (LF_0 _), Or.inr ⟨pd_w_self, b1, by rw [pd_w_ne (by decide)]; exact h211, LM_e Z3.2.2.2 (fun i _ => pd_w_ne (by decide))⟩⟩, SL_t S3 (SL_L (LF_0 _))⟩
    have enter : ∀ {h m zz : Nat} {yy : Int32}, xR s zz ((h, m) :: k) → yy = xmk h m → zls s n inp l (p, k, D) = (zz, (h, m) :: k, D) → Pf ((d_Mo_enter (Int32.ofNat l) yy (Int32.ofNat zz) q3.2).bind fun q14 => some q14) (fun q => LPl s l (zls s n inp l (p, k, D)) q ∧ SL l v q) := by
      intro h m zz yy b1 b2 b3
      refine pf_bind (yen_t hl b1 h211 Z3.2.2.2 b2) (fun q hq => pf_some ?_)
      rw [b3]
      exact ⟨⟨MRL_L n3 hq.2, Or.inr hq.1⟩, SL_t S3 (SL_L hq.2)⟩
    refine pf_c (fun _ => pf_n (fun c42 => ?_) (fun c42 => ?_))
    · have c63 : s p = 63 := hs.resolve_right c42
      rw [decide_eq_true c63] at g4 c4 ns
      refine pf_d (fun y0 => ?_) (fun y0 => ?_)
      · have v0 : (zdc s n inp l p (p + 1) D).1 = 0 := by rw [ed]; exact y0
        rw [T3.1, le_nat (by omega) (by omega)]
        refine pf_d (fun cz => ?_) (fun cz => ?_)
        · have hm : ¬ ((1 : Nat) = 1 ∧ s (c + 1) = 123) := fun q => by rw [h0 (c + 1) cz] at q; exact absurd q.2 (by decide)
          exact jump (c + 1) (xcl_n c3 hm c4) (by rw [zls_z1 hs hE ez (fun q => hm ⟨rfl, q.2⟩) v0, ed])
        · refine pf_c (fun _ => ?_)
          rw [cl_nat (show c + 1 ≤ 1000 by omega), T3.2 (c + 1) (by omega)]
          refine pf_n (fun c2' => ?_) (fun c2' => ?_)
          · exact jump (c + 1) (xcl_n c3 (fun q => c2' q.2) c4) (by rw [zls_z1 hs hE ez (fun q => c2' q.2) v0, ed])
          · rw [ofN1 (c + 1)]
            exact enter (xcl_e c3 rfl c2' c4) rfl (by rw [zls_z2 c63 hE ez c2' v0, ed])
      · rw [ofN1 r]
        exact enter g4 rfl (by rw [zls_v hs ns (by rw [ed]; exact y0), ed])
    · rw [show decide (s p = 63) = false from decide_eq_false (by rw [c42]; decide)] at g4 c4 ns
      refine pf_d (fun y0 => ?_) (fun y0 => ?_)
      · have n63 : ¬ (s p = 63 ∧ s (c + 1) = 123) := fun q => by rw [c42] at q; exact absurd q.1 (by decide)
        exact jump (c + 1) (xcl_n c3 (fun q => absurd q.1 (by decide)) c4) (by rw [zls_z1 hs hE ez n63 (by rw [ed]; exact y0), ed])
      · rw [ofN1 r]
        exact enter g4 rfl (by rw [zls_v hs ns (by rw [ed]; exact y0), ed])
end YML
