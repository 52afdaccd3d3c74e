/-! a simple statement in the reference, and the place behind a head's blocks -/
section YSM
variable {s : Nat → Int32} {n m w p p' q j e c o h r N i1 a b l z : Nat} {k k' k0 : xK} {X Y Z X0 : xCS} {inp : Nat → Int32} {v u t : pd_V} {x y G M L : Int32} {DD DD' : Nat → xLD} {f g f' ag fm : Nat → Bool} {B W B' W' : Nat → Nat → Bool} {D : xLD}
theorem zb1_u (hn : n ≤ 160) (h0 : ∀ j, n ≤ j → s j = 0) (hW : xR s n []) (hR : xR s (o + 1) ((h, m) :: k0)) (ho : o < n) (hc : s c = 125) (hRc : xR s c ((h, m) :: k0)) : zb1 s o = c + 1 := by
  obtain ⟨c2, d1, d2, d3, d4, d5⟩ := zb1_t hn h0 hW hR ho
  obtain ⟨i, hi⟩ := hRc
  obtain ⟨j, hj⟩ := d4
  have e := zuq hi hc hj d3
  rw [e, hj] at hi
  have e2 : c2 = c := congrArg Prod.fst (Option.some.inj hi)
  rw [d5, e2]
/-- where the text's own way goes on behind a head without lanes -/
theorem yba_t (hw : 4294967296 < w) (hn : n ≤ 160) (h0 : ∀ j, n ≤ j → s j = 0) (hW : xR s n []) (hR : xR s p k) (hs : s p = 63 ∨ s p = 42) (hE : xE s (p + 1) = (true, r)) (h4 : k.length < 4) (hr : s r = 123) : xR s (zbe s p) k ∧ zbe s p ≤ n ∧ p < zbe s p ∧ ∀ v, TX n s v → d_Mo_behindAll w (Int32.ofNat p) v = some (Int32.ofNat (zbe s p)) := by
  obtain ⟨g1, g2, g3, g4⟩ := hd_f h0 hR hs hE h4 hr
  obtain ⟨c, c1, c2, c3, c4, c5, c6⟩ := yhd_t hw hn h0 hW hR hs hE h4 hr
  have e1 : zb1 s r = c + 1 := zb1_u hn h0 hW g4 g2 c3 c4
  have eb : zbe s p = (bif decide (s p = 63) && decide (s (c + 1) = 123) then zb1 s (c + 1) else c + 1) := by
    unfold zbe
    rw [hE]
    show (bif decide (s p = 63) && decide (s (zb1 s r) = 123) then zb1 s (zb1 s r) else zb1 s r) = _
    rw [e1]
  rcases c6 with ⟨d, d1, d2⟩ | ⟨d1, d2, d3, b, b1, b2, b3, b4, b5, b6, b7⟩
  · have e2 : (decide (s p = 63) && decide (s (c + 1) = 123)) = false := by
      by_cases d1 : s p = 63
      · rw [decide_eq_false (fun z => d ⟨d1, z⟩), Bool.and_false]
      · rw [decide_eq_false d1, Bool.false_and]
    rw [e2] at eb
    have eb : zbe s p = c + 1 := eb
    rw [eb]
    exact ⟨d1, by omega, by omega, d2⟩
  · rw [decide_eq_true d1, decide_eq_true d2, show zb1 s (c + 1) = b + 1 from zb1_u hn h0 hW d3 (by omega) b3 b4] at eb
    have eb : zbe s p = b + 1 := eb
    rw [eb]
    exact ⟨b5, by omega, by omega, b7⟩
theorem zsu_2 (h1 : s p ≠ 63) (h2 : s p ≠ 42) (h3 : s p ≠ 88) (ns : xns s p k = (true, p', k')) : zsu s n inp (p, k, f, B, W, DD) = (p', k', zgo f (zup f (fun x => zac s n inp x p) DD 8), B, W, zup f (fun x => zac s n inp x p) DD 8) := by
  unfold zsu
  show (bif decide (s p = 63) || decide (s p = 42) then _ else bif decide (s p = 88) then _ else ((xns s p k).2.1, (xns s p k).2.2, _)) = _
  rw [decide_eq_false h1, decide_eq_false h2, decide_eq_false h3, ns]
  rfl
theorem zsu_x (h3 : s p = 88) (ns : xns s p k = (true, p', k')) : zsu s n inp (p, k, f, B, W, DD) = (p', k', zgo f (zexc s n inp p (s (p + 1) - 97).toNatClampNeg (s (p + 2) - 97).toNatClampNeg f DD), B, W, zexc s n inp p (s (p + 1) - 97).toNatClampNeg (s (p + 2) - 97).toNatClampNeg f DD) := by
  unfold zsu
  show (bif decide (s p = 63) || decide (s p = 42) then _ else bif decide (s p = 88) then ((xns s p k).2.1, (xns s p k).2.2, _) else _) = _
  rw [decide_eq_false (show ¬ s p = 63 by rw [h3]; decide), decide_eq_false (show ¬ s p = 42 by rw [h3]; decide), decide_eq_true h3, ns]
  rfl
/-- the lanes behind a simple statement -/
theorem ysi_t (hw : 4294967296 < w) (hn : n ≤ 160) (h0 : ∀ j, n ≤ j → s j = 0) (hX : XS s p e) (he : s e = 59) (hpe : p < e) (hT : TX n s v) (hM : MK8 f M) (hst : ∀ x, x < 8 → f x = true → (DD x).2.2.2.2.2 = false) (hcn : ∀ x, x < 8 → (DD x).2.2.2.1 ≤ 900000) (hRs : MRS 0 inp DD v) (ns : xns s p k = (true, e + 1, k)) : ∃ DD1, zsu s n inp (p, k, f, B, W, DD) = (e + 1, k, zgo f DD1, B, W, DD1) ∧ MONO DD DD1 ∧ Pf (d_Mo_simple w (Int32.ofNat p) M v) (fun q => (MRS 0 inp DD1 q ∧ OTG 0 v q) ∧ MA v q) := by
  have hen := lt_n h0 he (by decide)
  have hh := XS_h hX
  have hP : PS 0 900000 v := fun j hj => by
    have h1 := (hRs.2 j hj).2.2.2.1
    rw [Nat.zero_add] at h1
    have := hcn j hj
    rw [h1, Int32.toInt_ofNat_of_lt (by omega), if_neg (by omega)]
    omega
  have sa := si_t (x := M) hw hn (show (900000 : Int) < 1000000 by decide) hen hpe he hX hT hP
  have sb : Pf (d_Mo_simple w (Int32.ofNat p) M v) (fun q => MA v q) := pf_mono (pf_sf sa) (fun q hq => hq.1)
  by_cases c88 : s p = 88
  · refine ⟨_, zsu_x c88 ns, mono_x, pf_and ?_ sb⟩
    unfold d_Mo_simple
    refine pf_c (fun _ => ?_)
    rw [cl_nat (show p ≤ 1000 by omega), hT.2 p (by omega)]
    refine pf_n (fun c => absurd c88 c) (fun _ => ?_)
    rcases hX with ⟨t, -⟩ | ⟨t, -⟩ | ⟨t, -⟩ | ⟨-, x1, x2, x3⟩ | ⟨t, -⟩
    · rw [c88] at t; exact absurd t (by decide)
    · rw [c88] at t; exact absurd t (by decide)
    · rw [c88] at t; exact absurd t (by decide)
    · obtain ⟨iv, hiv, ev⟩ := vcaseN x1
      obtain ⟨iw, hiw, ew⟩ := vcaseN x2
      have g := xE_g x3
      have h1 := zsx_m (n := n) (w := w) (inp := inp) (DD := DD) hw hn h0 hen (by rw [he]; decide) (by omega) x3 hiv hiw ev ew hM hst w 0 0 v (by omega) hT (by rw [zup_0]; exact hRs) (MK8_e MK8_0 (fun j _ => by rw [blt_f (by omega), Bool.false_and])) (fun x hx => absurd hx (Nat.not_lt_zero _))
      rw [ev, ew, cl_nat (show iv ≤ 1000 by omega), cl_nat (show iw ≤ 1000 by omega)]
      exact h1
    · rw [c88] at t; exact absurd t (by decide)
  · refine ⟨_, zsu_2 hh.2.1 hh.2.2 c88 ns, mono_a, pf_and ?_ sb⟩
    unfold d_Mo_simple
    refine pf_c (fun _ => ?_)
    rw [cl_nat (show p ≤ 1000 by omega), hT.2 p (by omega)]
    refine pf_n (fun _ => ?_) (fun c => absurd c c88)
    exact zsi_m hw hn h0 hX he hpe c88 hM hst (fun x hx => by have := hcn x hx; omega) w 0 0 v (by omega) hT (by rw [zup_0]; exact hRs)
end YSM
