/-! the exchange in the reference -/
section ZMS
variable {s : Nat → Int32} {n m w p q L l e0 p1 o iv iw : Nat} {v u t : pd_V} {x y M z : Int32} {inp : Nat → Int32} {D D' : xLD} {DD : Nat → xLD} {f h : Nat → Bool} {g : Nat → xLD → xLD} {A : Nat → Nat}
theorem ix_e {a b c : Nat} (ha : a ≤ 8) (hb : b < 8) (hc : c < 8) : ((8 : Int32) * (Int32.ofNat a + Int32.ofNat b) + Int32.ofNat c).toNatClampNeg = 8 * (a + b) + c := by
  rw [← Int32.ofNat_add, show (8 : Int32) = Int32.ofNat 8 from rfl, ← Int32.ofNat_mul, ← Int32.ofNat_add, cl_nat (by omega)]
theorem zme_41 (ho : o = 0 ∨ o = 8) (hiv : iv < 8) (hM : MK8 h M) (hA : ∀ x, x < 8 → A x < 8) {H : Nat → Int32} : ∀ (F l : Nat) (v : pd_V), l ≤ 8 → (∀ x, x < 8 → h x = true → v 214 x &&& 7 = Int32.ofNat (A x)) → (∀ x, x < 8 → v 213 x = H x) → MRS o inp (zup h (fun x D => zsv iv (bif h (A x) then H (A x) else 0) D) DD l) v → Pf (d_Mo_exchange_41 w F (Int32.ofNat o) M (Int32.ofNat iv) (Int32.ofNat l) v) (fun q => MRS o inp (zup h (fun x D => zsv iv (bif h (A x) then H (A x) else 0) D) DD 8) q ∧ OTG o v q) := by
  intro F
  induction F with
  | zero => intro l v _ _ _ _; rw [d_Mo_exchange_41]; exact pf_none
  | succ F ih =>
    intro l v hl h14 h13 hC
    rw [d_Mo_exchange_41, decide_eq_decide.mpr (lane8 hl)]
    refine pf_d (fun c => ?_) (fun c => ?_)
    · have e : l = 8 := by omega
      subst e
      exact pf_some ⟨hC, OTG_r⟩
    · have hl' : l < 8 := by omega
      rw [bit_k hM hl', ofN1 l, bi_0, Bool.not_not, cl_nat (show l ≤ 1000 by omega)]
      cases hfl : h l with
      | false => exact pf_f (ih (l + 1) v (by omega) h14 h13 (MRS_0 hC hfl))
      | true =>
        have ha := hA l hl'
        rw [h14 l hl' hfl, bit_k hM ha, bi_1, ix_e (by omega) hl' hiv, cl_nat (show A l ≤ 1000 by omega), h13 (A l) ha]
        refine pf_t (pf_c (fun _ => ?_))
        have hD := hC.2 l hl'
        rw [zup_l] at hD
        have next : ∀ y, y = (bif h (A l) then H (A l) else 0) → Pf (d_Mo_exchange_41 w F (Int32.ofNat o) M (Int32.ofNat iv) (Int32.ofNat (l + 1)) (pd_w v 204 (8 * (o + l) + iv) y)) (fun q => MRS o inp (zup h (fun x D => zsv iv (bif h (A x) then H (A x) else 0) D) DD 8) q ∧ OTG o v q) := by
          intro y hy
          have s1 := MR_4 (x := y) hiv hD
          rw [hy] at s1 ⊢
          refine pf_mono (ih (l + 1) _ (by omega) (fun x hx hh => by rw [pd_w_ne (by decide)]; exact h14 x hx hh) (fun x hx => by rw [pd_w_ne (by decide)]; exact h13 x hx) (MRS_1 hl' ho hC hfl (fun j hj => by rw [pd_w_ne (by decide)]; exact hC.1 j hj) s1.1 s1.2)) (fun r hr => ⟨hr.1, OTG_t (OTG_M hl' s1.2) hr.2⟩)
        cases hh : h (A l) with
        | false => exact pf_t (pf_c (fun _ => next 0 (by rw [hh]; rfl)))
        | true => exact pf_f (pf_c (fun _ => pf_c (fun _ => next _ (by rw [hh]; rfl))))
theorem zme_3 (ho : o = 0 ∨ o = 8) (hiv : iv < 8) (hiw : iw < 8) (hM : MK8 h M) (hA : ∀ x, x < 8 → A x < 8) : ∀ (F l : Nat) (v : pd_V), l ≤ 8 → (∀ x, x < 8 → h x = true → v 214 x &&& 7 = Int32.ofNat (A x)) → (∀ x, x < l → v 213 x = (DD x).1 iw) → MRS o inp DD v → Pf (d_Mo_exchange_3 w F (Int32.ofNat o) M (Int32.ofNat iv) (Int32.ofNat iw) (Int32.ofNat l) v) (fun q => MRS o inp (zup h (fun x D => zsv iv (bif h (A x) then (DD (A x)).1 iw else 0) D) DD 8) q ∧ OTG o v q) := by
  intro F
  induction F with
  | zero => intro l v _ _ _ _; rw [d_Mo_exchange_3]; exact pf_none
  | succ F ih =>
    intro l v hl h14 h13 hC
    rw [d_Mo_exchange_3, decide_eq_decide.mpr (lane8 hl)]
    refine pf_d (fun c => ?_) (fun c => ?_)
    · have e : l = 8 := by omega
      subst e
      exact zme_41 (H := fun x => (DD x).1 iw) ho hiv hM hA w 0 v (by omega) h14 h13 (by rw [zup_0]; exact hC)
    · have hl' : l < 8 := by omega
      rw [ofN1 l, ix_e (by omega) hl' hiw, cl_nat (show l ≤ 1000 by omega)]
      refine pf_c (fun _ => pf_c (fun _ => ?_))
      have e4 : v 204 (8 * (o + l) + iw) = (DD l).1 iw := ((hC.2 l hl').1 iw hiw).symm
      rw [e4]
      have eq : ∀ d, (203 ≤ d ∧ d ≤ 209) → pd_w v 213 l ((DD l).1 iw) d = v d := fun d hd => pd_wa (by omega)
      refine pf_mono (ih (l + 1) _ (by omega) (fun x hx hh => by rw [pd_w_ne (by decide)]; exact h14 x hx hh) (fun x hx => ?_) (MRS_q hC eq)) (fun r hr => ⟨hr.1, OTG_t (OTG_q (fun d hd => eq d (by omega))) hr.2⟩)
      by_cases e : x = l
      · rw [e, pd_w_self]
      · rw [pd_w_nk e]
        exact h13 x (by omega)
theorem zme_t (ho : o = 0 ∨ o = 8) (hiv : iv < 8) (hiw : iw < 8) (hM : MK8 h M) (hA : ∀ x, x < 8 → A x < 8) (h14 : ∀ x, x < 8 → h x = true → v 214 x &&& 7 = Int32.ofNat (A x)) (hC : MRS o inp DD v) : Pf (d_Mo_exchange w (Int32.ofNat o) M (Int32.ofNat iv) (Int32.ofNat iw) v) (fun q => MRS o inp (zup h (fun x D => zsv iv (bif h (A x) then (DD (A x)).1 iw else 0) D) DD 8) q ∧ OTG o v q) := by
  unfold d_Mo_exchange
  exact zme_3 ho hiv hiw hM hA w 0 v (by omega) h14 (fun x hx => absurd hx (Nat.not_lt_zero _)) hC
/-- a statement that opens no block and is no X, lane after lane -/
theorem zsi_m (hw : 4294967296 < w) (hn : n ≤ 160) (h0 : ∀ j, n ≤ j → s j = 0) (hX : XS s p e0) (he : s e0 = 59) (hpe : p < e0) (h88 : s p ≠ 88) (hM : MK8 f M) (hst : ∀ x, x < 8 → f x = true → (DD x).2.2.2.2.2 = false) (hcn : ∀ x, x < 8 → (DD x).2.2.2.1 < 2000000000) : ∀ (F l : Nat) (z : Int32) (v : pd_V), l ≤ 8 → TX n s v → MRS 0 inp (zup f (fun x => zac s n inp x p) DD l) v → Pf (d_Mo_simple_23 w F (Int32.ofNat p) M 0 z (Int32.ofNat l) v) (fun q => MRS 0 inp (zup f (fun x => zac s n inp x p) DD 8) q ∧ OTG 0 v q) := by
  have hen := lt_n h0 he (by decide)
  intro F
  induction F with
  | zero => intro l z v _ _ _; rw [d_Mo_simple_23]; exact pf_none
  | succ F ih =>
    intro l z v hl hT hC
    rw [d_Mo_simple_23, decide_eq_decide.mpr (lane8 hl)]
    refine pf_d (fun c => ?_) (fun c => ?_)
    · have e : l = 8 := by omega
      subst e
      exact pf_d (fun _ => pf_some ⟨hC, OTG_r⟩) (fun z => absurd rfl z)
    · have hl' : l < 8 := by omega
      rw [bit_k hM hl', ofN1 l, bi_0, Bool.not_not]
      cases hfl : f l with
      | false => exact pf_f (ih (l + 1) z v (by omega) hT (MRS_0 hC hfl))
      | true =>
        refine pf_t (pf_d (fun _ => ?_) (fun z => absurd rfl z))
        have hD := hC.2 l hl'
        rw [zup_l, Nat.zero_add] at hD
        have hP : 0 ≤ (v 207 l).toInt := by
          rw [hD.2.2.2.1, Int32.toInt_ofNat_of_lt (by have := hcn l hl'; omega)]
          omega
        refine pf_bind (pf_and (pf_sf (ac_t hw hn (show l < 16 by omega) hT hen hpe he hX h88 hP)) (zma_t hw hn h0 (show l < 16 by omega) (show l % 8 = l by omega) hT hX he h88 hC.1 hD (hst l hl' hfl) (hcn l hl'))) (fun q8 h8 => ?_)
        obtain ⟨⟨hA, -⟩, m1, m2⟩ := h8
        have T8 := TX_A hT hA
        have hot : OTM (0 + l) v q8 := by rw [Nat.zero_add]; exact m2
        have next : ∀ Z, Pf (d_Mo_simple_23 w F (Int32.ofNat p) M 0 Z (Int32.ofNat (l + 1)) q8) (fun q => MRS 0 inp (zup f (fun x => zac s n inp x p) DD 8) q ∧ OTG 0 v q) := fun Z =>
          pf_mono (ih (l + 1) Z q8 (by omega) T8 (MRS_1 hl' (Or.inl rfl) hC hfl (fun j hj => by rw [hA.1 203 (by decide) (by omega) (by decide) (by decide) (by omega)]; exact hC.1 j hj) (by rw [Nat.zero_add]; exact m1) hot)) (fun r hr => ⟨hr.1, OTG_t (OTG_M hl' hot) hr.2⟩)
        exact pf_c (fun _ => pf_b (next _) (next _))
/-- an X -/
theorem zsx_m (hw : 4294967296 < w) (hn : n ≤ 160) (h0 : ∀ j, n ≤ j → s j = 0) (hen : e0 < n) (hd : xdig (s e0) = false) (hp3 : p + 3 ≤ n) (hE : xE s (p + 3) = (true, e0)) (hiv : iv < 8) (hiw : iw < 8) (hs1 : s (p + 1) - 97 = Int32.ofNat iv) (hs2 : s (p + 2) - 97 = Int32.ofNat iw) (hM : MK8 f M) (hst : ∀ x, x < 8 → f x = true → (DD x).2.2.2.2.2 = false) : ∀ (F l : Nat) (z : Int32) (v : pd_V), l ≤ 8 → TX n s v → MRS 0 inp (zup f (fun x D => (zdc s n inp x p (p + 3) D).2) DD l) v → MK8 (fun x => Nat.blt x l && zgo f (zup f (fun x D => (zdc s n inp x p (p + 3) D).2) DD 8) x) z → (∀ x, x < l → zgo f (zup f (fun x D => (zdc s n inp x p (p + 3) D).2) DD 8) x = true → v 214 x = (zdc s n inp x p (p + 3) (DD x)).1) → Pf (d_Mo_simple_23 w F (Int32.ofNat p) M 1 z (Int32.ofNat l) v) (fun q => MRS 0 inp (zexc s n inp p iv iw f DD) q ∧ OTG 0 v q) := by
  intro F
  induction F with
  | zero => intro l z v _ _ _ _ _; rw [d_Mo_simple_23]; exact pf_none
  | succ F ih =>
    intro l z v hl hT hC hz h14
    rw [d_Mo_simple_23, decide_eq_decide.mpr (lane8 hl)]
    refine pf_d (fun c => ?_) (fun c => ?_)
    · have e : l = 8 := by omega
      subst e
      refine pf_d (fun q => absurd q (by decide)) (fun _ => pf_c (fun _ => pf_c (fun _ => ?_)))
      rw [ofN1 p, ofN2 p, cl_nat (show p + 1 ≤ 1000 by omega), cl_nat (show p + 2 ≤ 1000 by omega), hT.2 (p + 1) (by omega), hT.2 (p + 2) (by omega), hs1, hs2]
      have hM2 : MK8 (zgo f (zup f (fun x D => (zdc s n inp x p (p + 3) D).2) DD 8)) z := MK8_e hz (fun x hx => by
        show _ = (Nat.blt x 8 && _)
        rw [blt_t hx]
        rfl)
      refine pf_bind (zme_t (o := 0) (A := fun x => ((zdc s n inp x p (p + 3) (DD x)).1 &&& 7).toNatClampNeg) (Or.inl rfl) hiv hiw hM2 (fun x hx => by
        obtain ⟨k, k1, k2⟩ := and7_b (zdc s n inp x p (p + 3) (DD x)).1
        show ((zdc s n inp x p (p + 3) (DD x)).1 &&& 7).toNatClampNeg < 8
        rw [k2, cl_nat (by omega)]
        exact k1) (fun x hx hh => by
        obtain ⟨k, k1, k2⟩ := and7_b (zdc s n inp x p (p + 3) (DD x)).1
        rw [h14 x hx hh]
        show _ = Int32.ofNat ((zdc s n inp x p (p + 3) (DD x)).1 &&& 7).toNatClampNeg
        rw [k2, cl_nat (by omega)]) hC) (fun q5 h5 => pf_some h5)
    · have hl' : l < 8 := by omega
      rw [bit_k hM hl', ofN1 l, bi_0, Bool.not_not]
      have same : ∀ (b : Bool), zgo f (zup f (fun x D => (zdc s n inp x p (p + 3) D).2) DD 8) l = b → ∀ x, x < 8 → (Nat.blt x (l + 1) && zgo f (zup f (fun x D => (zdc s n inp x p (p + 3) D).2) DD 8) x) = ((Nat.blt x l && zgo f (zup f (fun x D => (zdc s n inp x p (p + 3) D).2) DD 8) x) || (Nat.beq x l && b)) := by
        intro b hb x hx
        by_cases e : x = l
        · subst e
          rw [blt_t (by omega), blt_f (Nat.lt_irrefl x), Nat.beq_refl, hb]
          cases b <;> rfl
        · rw [beq_f e]
          by_cases q : x < l
          · rw [blt_t q, blt_t (by omega), Bool.false_and, Bool.or_false]
          · rw [blt_f q, blt_f (by omega)]
            rfl
      cases hfl : f l with
      | false =>
        have hg : zgo f (zup f (fun x D => (zdc s n inp x p (p + 3) D).2) DD 8) l = false := by unfold zgo; rw [hfl]; rfl
        refine pf_f (ih (l + 1) z v (by omega) hT (MRS_0 hC hfl) (MK8_e hz (fun x hx => ?_)) (fun x hx hh => ?_))
        · show (Nat.blt x (l + 1) && zgo f (zup f (fun x D => (zdc s n inp x p (p + 3) D).2) DD 8) x) = (Nat.blt x l && zgo f (zup f (fun x D => (zdc s n inp x p (p + 3) D).2) DD 8) x)
          rw [same false hg x hx, Bool.and_false, Bool.or_false]
        · by_cases e : x = l
          · rw [e, hg] at hh; exact absurd hh (by decide)
          · exact h14 x (by omega) hh
      | true =>
        refine pf_t (pf_d (fun q => absurd q (by decide)) (fun _ => ?_))
        have hD := hC.2 l hl'
        rw [zup_l, Nat.zero_add] at hD
        have hs := hst l hl' hfl
        rw [ofN3 p]
        refine pf_bind (pf_sf (vlq_t (x := Int32.ofNat p) hw hn h0 (Nat.le_refl 4) (show l < 16 by omega) hp3 hen hd hT (EE_M (show l % 8 = l by omega) hC.1 hD) hE)) (fun q3 h3 => ?_)
        have hV := VQ_M hD hs h3
        have T3 := TX_V hT h3
        have I3 := MIN_V hC.1 h3
        rw [cl_nat (show l ≤ 1000 by omega)]
        have eq14 : ∀ x, q3.2 214 x = v 214 x := fun x => by rw [h3.1 214 (by decide) (by decide) (by decide) (by decide)]
        have z8 : zup f (fun x D => (zdc s n inp x p (p + 3) D).2) DD 8 l = (zdc s n inp l p (p + 3) (DD l)).2 := by
          unfold zup
          rw [blt_t hl', hfl]
          rfl
        have next : ∀ (Z : Int32) (b : Bool), MRL l (zdc s n inp l p (p + 3) (DD l)).2 q3.2 → zgo f (zup f (fun x D => (zdc s n inp x p (p + 3) D).2) DD 8) l = b → (b = true → q3.1 = (zdc s n inp l p (p + 3) (DD l)).1) → MK8 (fun x => (Nat.blt x l && zgo f (zup f (fun x D => (zdc s n inp x p (p + 3) D).2) DD 8) x) || (Nat.beq x l && b)) Z → Pf (d_Mo_simple_23 w F (Int32.ofNat p) M 1 Z (Int32.ofNat (l + 1)) (pd_w q3.2 214 l q3.1)) (fun q => MRS 0 inp (zexc s n inp p iv iw f DD) q ∧ OTG 0 v q) := by
          intro Z b hm hb hq hZ
          have hot : OTM (0 + l) v q3.2 := by rw [Nat.zero_add]; exact hV.2.2
          have eq : ∀ d, (203 ≤ d ∧ d ≤ 209) → pd_w q3.2 214 l q3.1 d = q3.2 d := fun d hd => pd_wa (by omega)
          refine pf_mono (ih (l + 1) Z _ (by omega) ⟨by rw [pd_w_ne (by decide)]; exact T3.1, fun j hj => by rw [pd_w_ne (by decide)]; exact T3.2 j hj⟩ (MRS_q (MRS_1 hl' (Or.inl rfl) hC hfl I3 (by rw [Nat.zero_add]; exact hm) hot) eq) (MK8_e hZ (fun x hx => same b hb x hx)) (fun x hx hh => ?_)) (fun r hr => ⟨hr.1, OTG_t (OTG_t (OTG_M hl' hot) (OTG_q (fun d hd => eq d (by omega)))) hr.2⟩)
          by_cases e : x = l
          · subst e
            rw [pd_w_self]
            exact hq (hb.symm.trans hh)
          · rw [pd_w_nk e, eq14]
            exact h14 x (by omega) hh
        refine pf_c (fun _ => pf_c (fun _ => ?_))
        cases ho : xw s n (zev inp l (DD l)) (p + 3) with
        | none =>
          have hzd : zdc s n inp l p (p + 3) (DD l) = ((0 : Int32), ztr p (DD l)) := by unfold zdc; rw [ho]; rfl
          obtain ⟨m1, m2⟩ := hV.2.1 ho
          refine pf_d (fun q => absurd (m2.symm.trans q) (by decide)) (fun _ => next z false (by rw [hzd]; exact m1) (by unfold zgo; rw [z8, hzd, hfl]; rfl) (fun q => absurd q (by decide)) (MK8_e hz (fun x hx => by rw [Bool.and_false, Bool.or_false])))
        | some y' =>
          have hzd : zdc s n inp l p (p + 3) (DD l) = (y', DD l) := by unfold zdc; rw [ho]; rfl
          obtain ⟨m1, m2, m3, m4⟩ := hV.1 y' ho
          refine pf_d (fun _ => next _ true (by rw [hzd]; exact m3) (by unfold zgo; rw [z8, hzd, hfl, hs]; rfl) (fun _ => by rw [hzd]; exact m1) (MK8_e (MK8_s hz hl') (fun x hx => by rw [Bool.and_true]))) (fun q => absurd m4 q)
end ZMS
