/-! what varies, as the class finds it -/
section ZSP
variable {s : Nat → Int32} {n m w a b i1 p p' q e j : Nat} {v u t : pd_V} {y : Int32} {k k' k0 : xK} {x : xLS}
theorem xit_r {r : Nat} (h : xit s (r + 1) (p, k) = some (p', k')) : ∃ p1 k1, xns s p k = (true, p1, k1) ∧ xit s r (p1, k1) = some (p', k') := by
  rw [xit] at h
  rcases pd_cases h with ⟨c, h⟩ | ⟨c, h⟩
  · exact ⟨(xns s p k).2.1, (xns s p k).2.2, Prod.ext c rfl, h⟩
  · exact nomatch h
theorem xlit_s {r p1 : Nat} {k1 : xK} (h : xns s p k = (true, p1, k1)) : xlit s (r + 1) p k x = xlit s r p1 k1 (xlk s p k x) := by
  rw [xlit, h]
theorem ZJ_V (ha : ker a) (h : ZJ s n a i1 j v) (hV : RV a v u) : ZJ s n a i1 j u := by
  have pa : a = 3 ∨ a = 88 := ha
  exact ZJ_f h (Nat.le_refl _) (fun f _ _ => by rw [hV.1 _ (by omega)]) (fun t _ => by rw [hV.1 (a + 2) (by omega), hV.1 (a + 3) (by omega)]; exact ⟨rfl, rfl⟩)
def ZSR (s : Nat → Int32) (a r p : Nat) (k : xK) (x : xLS) (v : pd_V) (q : Int32 × pd_V) : Prop := q.1 = (xlit s r p k x).2.2 ∧ q.2 a 5 = (xlit s r p k x).1 ∧ RV a v q.2
theorem zsp_m (hn : n ≤ 160) (ha : ker a) {N : Nat} (hN : N ≤ 80) : ∀ (r j p : Nat) (k : xK) (x : xLS) (v : pd_V) (f : Nat), r < f → j + r = N → xit s j (0, []) = some (p, k) → xit s r (p, k) = some (n, []) → v a 3 = Int32.ofNat N → (∀ i, i < N → ZJ s n a i1 i v) → v a 5 = x.1 → x.2.1.length = k.length → Sf (d_Ke_spread_6 w f a (zpl x.2.1) x.2.2 (Int32.ofNat j) v) (ZSR s a r p k x v) := by
  have pa : a = 3 ∨ a = 88 := ha
  intro r
  induction r with
  | zero =>
    intro j p k x v f hf hj hx hr h3 hJ h5 hl
    obtain ⟨f, rfl⟩ : ∃ g, f = g + 1 := ⟨f - 1, by omega⟩
    rw [d_Ke_spread_6, h3, le_nat (by omega) (by omega), decide_eq_true (show N ≤ j by omega)]
    exact sf_tt (sf_some ⟨rfl, h5, RV_r⟩)
  | succ r ih =>
    intro j p k x v f hf hj hx hr h3 hJ h5 hl
    obtain ⟨f, rfl⟩ : ∃ g, f = g + 1 := ⟨f - 1, by omega⟩
    obtain ⟨p1, k1, ns, hr1⟩ := xit_r hr
    have hx1 := xit_s hx ns
    have k4 : k.length ≤ 4 := xSI_4 (xR_SI ⟨j, hx⟩)
    rw [d_Ke_spread_6, h3, le_nat (by omega) (by omega), decide_eq_false (show ¬ N ≤ j by omega)]
    refine sf_f ?_
    rw [zsa (show j < 80 by omega)]
    refine sf_sb ?_
    rw [ofN1 j, h5]
    have go : ∀ (W P : Int32) (D : List Bool) (u : pd_V), xlk s p k x = (W, D, P) → D.length = k1.length → u a 5 = W → RV a v u → Sf (d_Ke_spread_6 w f a (zpl D) P (Int32.ofNat (j + 1)) u) (ZSR s a (r + 1) p k x v) := by
      intro W P D u hxl hD hu hV
      refine sf_mono (ih (j + 1) p1 k1 (W, D, P) u f (by omega) (by omega) hx1 hr1 (by rw [hV.2 3 (by decide)]; exact h3) (fun i hi => ZJ_V ha (hJ i hi) hV) hu hD) (fun q hq => ?_)
      obtain ⟨q1, q2, q3⟩ := hq
      unfold ZSR
      rw [xlit_s ns, hxl]
      exact ⟨q1, q2, RV_t hV q3⟩
    obtain ⟨p0, kk, hx0, hz⟩ := hJ j (by omega)
    have e0 := Option.some.inj (hx0.symm.trans hx)
    have e1 : p0 = p := congrArg Prod.fst e0
    have e2 : kk = k := congrArg Prod.snd e0
    subst e1 e2
    rcases hz with ⟨h7, hz⟩ | ⟨h125, h, m, k0, hk, b1, b2, b0⟩
    · obtain ⟨z0, z1, z2, z3⟩ := hz
      have sim : s p0 ≠ 63 → s p0 ≠ 42 → k1 = kk := fun c1 c2 => by
        have h := ns
        rw [xns_s h7 c1 c2] at h
        exact (congrArg (fun t : Bool × Nat × xK => t.2.2) h).symm
      have nop : xlk s p0 kk x = x → k1 = kk → Sf (d_Ke_spread_6 w f a (zpl x.2.1) x.2.2 (Int32.ofNat (j + 1)) v) (ZSR s a (r + 1) p0 kk x v) := fun h1 h2 => go x.1 x.2.2 x.2.1 v h1 (by rw [h2]; exact hl) h5 RV_r
      rcases z3 with ⟨g, -⟩ | g | ⟨g, -⟩ | ⟨g, g1, g2, e, g3, g4⟩ | ⟨g, g1, e, g3, g4⟩ | ⟨g, e, g3, g4⟩
      · have ek : v (a + 4 + j) 0 = 1 := by rw [z0, g]; decide
        have N := nop (xlk_n (Or.inl g)) (sim (by rw [g]; decide) (by rw [g]; decide))
        rw [ek]
        exact sf_d (fun _ => N) (fun _ => N)
      · have ek : v (a + 4 + j) 0 = 4 := by rw [z0, g]; decide
        have N := nop (xlk_n (Or.inr (Or.inl g))) (sim (by rw [g]; decide) (by rw [g]; decide))
        rw [ek]
        exact sf_d (fun _ => N) (fun _ => N)
      · have ek : v (a + 4 + j) 0 = 2 := by rw [z0, g]; decide
        have N := nop (xlk_n (Or.inr (Or.inr g))) (sim (by rw [g]; decide) (by rw [g]; decide))
        rw [ek]
        exact sf_d (fun _ => N) (fun _ => N)
      · have ek : v (a + 4 + j) 0 = 3 := by rw [z0, g]; decide
        have hk1 := sim (by rw [g]; decide) (by rw [g]; decide)
        have hxl := xlk_X (k := kk) (x := x) g
        have e1' : pd_w v a 5 (x.1 ||| ((1 : Int32) <<< ((s (p0 + 1) - 97) &&& 31))) (a + 4 + j) 1 = Int32.ofNat p0 := by rw [pd_w_ne (by omega)]; exact z1
        have hz0 := zpl_0 x.2.1 (by omega)
        rw [ek, g1, e1']
        have fin : ∀ P, (bif zun x.2.1 && decide (x.2.2 = -1) then Int32.ofNat p0 else x.2.2) = P → Sf (d_Ke_spread_6 w f a (zpl x.2.1) P (Int32.ofNat (j + 1)) (pd_w v a 5 (x.1 ||| ((1 : Int32) <<< ((s (p0 + 1) - 97) &&& 31))))) (ZSR s a (r + 1) p0 kk x v) := by
          intro P hP
          refine go _ P x.2.1 _ ?_ (by rw [hk1]; exact hl) pd_w_self (RV_w RV_r)
          rw [hxl, hP]
          rfl
        have body : Sf (bif decide (zpl x.2.1 = 0) then d_Ke_spread_6 w f a (zpl x.2.1) x.2.2 (Int32.ofNat (j + 1)) (pd_w v a 5 (x.1 ||| ((1 : Int32) <<< ((s (p0 + 1) - 97) &&& 31)))) else bif !(decide (x.2.2 = (-1 : Int32))) then d_Ke_spread_6 w f a (zpl x.2.1) x.2.2 (Int32.ofNat (j + 1)) (pd_w v a 5 (x.1 ||| ((1 : Int32) <<< ((s (p0 + 1) - 97) &&& 31)))) else d_Ke_spread_6 w f a (zpl x.2.1) (Int32.ofNat p0) (Int32.ofNat (j + 1)) (pd_w v a 5 (x.1 ||| ((1 : Int32) <<< ((s (p0 + 1) - 97) &&& 31))))) (ZSR s a (r + 1) p0 kk x v) := by
          rw [hz0]
          cases zu : zun x.2.1 with
          | false => exact sf_tt (fin _ (by rw [zu]; rfl))
          | true =>
            refine sf_f ?_
            cases zp : decide (x.2.2 = -1) with
            | false => exact sf_tt (fin _ (by rw [zu, zp]; rfl))
            | true => exact sf_f (fin _ (by rw [zu, zp]; rfl))
        exact sf_d (fun _ => body) (fun _ => body)
      · have ek : v (a + 4 + j) 0 = 0 := by rw [z0]; exact kF_v g
        have hk1 := sim (xvar_x g 63 (by decide)) (xvar_x g 42 (by decide))
        have hxl := xlk_V (k := kk) (x := x) g g3
        have hz0 := zpl_0 x.2.1 (by omega)
        obtain ⟨i, it, -, -, -, w10, -, -⟩ := g4
        have hd := xnm_d (s := s) (W := x.1) (e - (p0 + 2)) (p0 + 2)
        rw [ek, g1, w10, hd]
        have big : (xdf s (p0 + 2) (e - (p0 + 2)) x.1 || zun x.2.1) = true → Sf (d_Ke_spread_6 w f a (zpl x.2.1) x.2.2 (Int32.ofNat (j + 1)) (pd_w v a 5 (x.1 ||| ((1 : Int32) <<< ((s p0 - 97) &&& 31))))) (ZSR s a (r + 1) p0 kk x v) := by
          intro hb
          refine go _ x.2.2 x.2.1 _ ?_ (by rw [hk1]; exact hl) pd_w_self (RV_w RV_r)
          rw [hxl, hb]
          rfl
        cases zd : xdf s (p0 + 2) (e - (p0 + 2)) x.1 with
        | true => exact sf_f (big (by rw [zd]; rfl))
        | false =>
          refine sf_tt ?_
          show Sf (bif decide (zpl x.2.1 = 0) then d_Ke_spread_6 w f a (zpl x.2.1) x.2.2 (Int32.ofNat (j + 1)) (pd_w v a 5 (x.1 ||| (0 : Int32))) else d_Ke_spread_6 w f a (zpl x.2.1) x.2.2 (Int32.ofNat (j + 1)) (pd_w v a 5 (x.1 ||| ((1 : Int32) <<< ((s p0 - 97) &&& 31))))) _
          rw [hz0]
          cases zu : zun x.2.1 with
          | true => exact sf_f (big (by rw [zd, zu]; rfl))
          | false =>
            refine sf_tt (go x.1 x.2.2 x.2.1 _ ?_ (by rw [hk1]; exact hl) ?_ (RV_w RV_r))
            · rw [hxl, zd, zu]
              rfl
            · rw [pd_w_self, Int32.or_zero]
      · have hxl := xlk_B (k := kk) (x := x) g g3
        obtain ⟨i, it, -, -, -, w10, -, -⟩ := g4
        have hd := xnm_d (s := s) (W := x.1) (e - (p0 + 1)) (p0 + 1)
        have hk1 : k1.length = kk.length + 1 := by
          rcases xns_c ns with ⟨t, -⟩ | ⟨-, r', -, -, -, -, t⟩ | ⟨e', -, -, -, -, -, t⟩
          · rcases g with g | g <;> (rw [g] at t; exact absurd t (by decide))
          · rw [t]; rfl
          · rcases g with g | g
            · exact absurd g (XS_h t).2.1
            · exact absurd g (XS_h t).2.2
        have fin : ∀ (d : Bool) (L : Int32), xdf s (p0 + 1) (e - (p0 + 1)) x.1 = d → L = (bif d then (1 : Int32) <<< (Int32.ofNat kk.length &&& 31) else 0) → Sf (d_Ke_spread_6 w f a (zpl x.2.1 ||| L) x.2.2 (Int32.ofNat (j + 1)) v) (ZSR s a (r + 1) p0 kk x v) := by
          intro d L hd2 hL
          have e3 : zpl x.2.1 ||| L = zpl (d :: x.2.1) := by
            show _ = zpl x.2.1 ||| (bif d then (1 : Int32) <<< (Int32.ofNat x.2.1.length &&& 31) else 0)
            rw [hL, hl]
          rw [e3]
          refine go x.1 x.2.2 (d :: x.2.1) v ?_ (by show x.2.1.length + 1 = k1.length; omega) h5 RV_r
          rw [hxl, hd2]
        rw [w10, hd, z2]
        rcases g with g | g
        · have ek : v (a + 4 + j) 0 = 5 := by rw [z0, g]; decide
          rw [ek]
          cases zd : xdf s (p0 + 1) (e - (p0 + 1)) x.1 with
          | true => exact sf_f (fin true _ zd rfl)
          | false => exact sf_tt (fin false _ zd rfl)
        · have ek : v (a + 4 + j) 0 = 6 := by rw [z0, g]; decide
          rw [ek]
          cases zd : xdf s (p0 + 1) (e - (p0 + 1)) x.1 with
          | true => exact sf_f (fin true _ zd rfl)
          | false => exact sf_tt (fin false _ zd rfl)
    · subst hk
      by_cases hm : m = 1 ∧ s (p0 + 1) = 123
      · have ek : v (a + 4 + j) 0 = 7 := by rw [b0, hm.1, hm.2]; rfl
        have ns2 := xns_ce (h := h) (k0 := k0) h125 hm.1 hm.2
        rw [ns] at ns2
        have hk1 : k1 = (h, 2) :: k0 := congrArg (fun t : Bool × Nat × xK => t.2.2) ns2
        have N := go x.1 x.2.2 x.2.1 v (xlk_E (h := h) (k0 := k0) (x := x) h125 hm.1 hm.2) (by rw [hk1]; exact hl) h5 RV_r
        rw [ek]
        exact sf_d (fun _ => N) (fun _ => N)
      · have ns2 := xns_cp (h := h) (k0 := k0) h125 hm
        rw [ns] at ns2
        have hk1 : k1 = k0 := congrArg (fun t : Bool × Nat × xK => t.2.2) ns2
        have e3 : (Nat.beq m 1 && decide (s (p0 + 1) = 123)) = false := by
          by_cases c1 : m = 1
          · rw [decide_eq_false (fun q => hm ⟨c1, q⟩), Bool.and_false]
          · rw [beq_f c1, Bool.false_and]
        rw [e3] at b0
        have hl' : x.2.1.length = k0.length + 1 := hl
        have k4' : k0.length + 1 ≤ 4 := k4
        obtain ⟨d, D, hdD⟩ : ∃ d D, x.2.1 = d :: D := by
          cases q : x.2.1 with
          | nil => rw [q] at hl'; exact nomatch hl'
          | cons d D => exact ⟨d, D, rfl⟩
        have hDl : D.length = k0.length := by
          rw [hdD] at hl'
          have : D.length + 1 = k0.length + 1 := hl'
          omega
        have hxl := xlk_C (h := h) (k0 := k0) (x := x) h125 hm
        have hp := zpl_p d D (by omega)
        rw [hDl] at hp
        have N : Sf (d_Ke_spread_6 w f a (zpl x.2.1 &&& (((1 : Int32) <<< (Int32.ofNat k0.length &&& 31)) ^^^ (-1 : Int32))) x.2.2 (Int32.ofNat (j + 1)) v) (ZSR s a (r + 1) p0 ((h, m) :: k0) x v) := by
          rw [hdD, hp]
          refine go x.1 x.2.2 D v ?_ (by rw [hk1]; exact hDl) h5 RV_r
          rw [hxl, hdD]
          rfl
        rw [b2]
        cases hm0 : Nat.beq m 0 with
        | true =>
          have ek : v (a + 4 + j) 0 = 9 := by rw [b0, hm0]; rfl
          rw [ek]
          exact sf_d (fun _ => N) (fun _ => N)
        | false =>
          have ek : v (a + 4 + j) 0 = 8 := by rw [b0, hm0]; rfl
          rw [ek]
          exact sf_d (fun _ => N) (fun _ => N)
end ZSP
