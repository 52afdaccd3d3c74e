/-! one lane by itself, in the class -/
section YCA
variable {s : Nat → Int32} {n m w p p' q j e c o h r N i1 a b l z d : Nat} {k k' k0 : xK} {inp : Nat → Int32} {D : xLD} {v u t : pd_V} {x y : Int32}
/-- what a row says of its place -/
theorem yrow (hK : KNL s n N i1 a v) (hj : j < N) (hx : xit s j (0, []) = some (p, k)) : (¬ (s p = 125 ∧ k ≠ []) ∧ ZR s n a (a + 4 + j) p k.length i1 v) ∨ (s p = 125 ∧ ∃ h m k0, k = (h, m) :: k0 ∧ v (a + 4 + j) 1 = Int32.ofNat p ∧ v (a + 4 + j) 2 = Int32.ofNat k0.length ∧ v (a + 4 + j) 0 = (bif Nat.beq m 1 && decide (s (p + 1) = 123) then 7 else bif Nat.beq m 0 then 9 else 8)) := by
  obtain ⟨p0, kk, hz1, hzz⟩ := hK.2.1 j hj
  have e0 := Option.some.inj (hz1.symm.trans hx)
  have e1 : p0 = p := congrArg Prod.fst e0
  have e2 : kk = k := congrArg Prod.snd e0
  subst e1 e2
  exact hzz
theorem xit_nx (hx : xit s N (0, []) = some (n, [])) (h0 : ∀ j, n ≤ j → s j = 0) (hj : xit s j (0, []) = some (p, k)) (hp : p < n) : ∃ p' k', xns s p k = (true, p', k') ∧ xit s (j + 1) (0, []) = some (p', k') := by
  rcases xR_n h0 ⟨N, hx⟩ ⟨j, hj⟩ with ⟨e, -⟩ | ⟨p', k', hs⟩
  · omega
  · exact ⟨p', k', hs, xit_s hj hs⟩
/-- not at a brace: nothing moves -/
theorem ybb_e (hn : n ≤ 160) (h0 : ∀ j, n ≤ j → s j = 0) (hN : N ≤ 80) (hx : xit s N (0, []) = some (n, [])) (hK : KNL s n N i1 a v) (hj : xit s j (0, []) = some (p, k)) (hp : s p ≠ 125) : ∀ F i, Pf (d_Ap_behindBraces_4 w F a (Int32.ofNat j) (Int32.ofNat i) v) (fun x => x = Int32.ofNat j) := by
  intro F i
  cases F with
  | zero => rw [d_Ap_behindBraces_4]; exact pf_none
  | succ F =>
    have up := xit_up1 h0 hx hj
    rw [d_Ap_behindBraces_4, hK.1, le_nat (by omega) (by omega)]
    refine pf_d (fun _ => pf_some rfl) (fun _ => pf_d (fun _ => pf_some rfl) (fun c => ?_))
    have hjN : j < N := by omega
    obtain ⟨p', k', ns, -⟩ := xit_nx hx h0 hj (up.2.mp hjN)
    rw [zsa (show j < 80 by omega)]
    refine pf_sb ?_
    rw [iss_c hn hjN hK hj ⟨p', k', ns⟩, decide_eq_false hp]
    exact pf_d (fun z => absurd z (by decide)) (fun _ => pf_some rfl)
theorem ybb_m (hn : n ≤ 160) (h0 : ∀ j, n ≤ j → s j = 0) (hN : N ≤ 80) (hx : xit s N (0, []) = some (n, [])) (hK : KNL s n N i1 a v) : ∀ (F i j p : Nat) (k : xK), xit s j (0, []) = some (p, k) → i + (N - j) ≤ 80 → Pf (d_Ap_behindBraces_4 w F a (Int32.ofNat j) (Int32.ofNat i) v) (fun x => ∃ j', x = Int32.ofNat j' ∧ xit s j' (0, []) = some (zbw s 200 (p, k))) := by
  have hW : xR s n [] := ⟨N, hx⟩
  intro F
  induction F with
  | zero => intro i j p k _ _; rw [d_Ap_behindBraces_4]; exact pf_none
  | succ F ih =>
    intro i j p k hj hi
    by_cases c : s p = 125
    · have up := xit_up1 h0 hx hj
      have hR : xR s p k := ⟨j, hj⟩
      obtain ⟨hpn, h, m, k0, ek⟩ := brk h0 hW hR c
      subst ek
      have hjN : j < N := up.2.mpr hpn
      obtain ⟨p', k', ns, hj1⟩ := xit_nx hx h0 hj hpn
      obtain ⟨si1, si2, -⟩ := xR_SI hR
      rw [zbw_1 hn h0 hW hR c]
      rw [d_Ap_behindBraces_4, hK.1, le_nat (by omega) (by omega), show decide ((80 : Int32) < Int32.ofNat i) = false from by rw [show (80 : Int32) = Int32.ofNat 80 from rfl, lt_nat (by omega) (by omega)]; exact decide_eq_false (by omega), decide_eq_false (show ¬ N ≤ j by omega)]
      refine pf_f (pf_f ?_)
      rw [zsa (show j < 80 by omega)]
      refine pf_sb ?_
      rw [iss_c hn hjN hK hj ⟨p', k', ns⟩, decide_eq_true c]
      refine pf_d (fun _ => ?_) (fun z => absurd rfl z)
      have b0 : v (a + 4 + j) 0 = (bif Nat.beq m 1 && decide (s (p + 1) = 123) then 7 else bif Nat.beq m 0 then 9 else 8) := by
        rcases yrow hK hjN hj with ⟨h7, -⟩ | ⟨-, h2, m2, k2, e2, -, -, e3⟩
        · exact absurd ⟨c, fun z => nomatch z⟩ h7
        · have e4 := List.cons.inj e2
          have e5 : m = m2 := congrArg Prod.snd e4.1
          rw [e5]
          exact e3
      obtain ⟨r, hr⟩ := si1
      have zn := hK.2.2 r j h m k0 p hjN hr hj c
      rw [b0, ofN1 i]
      rcases si2 with ⟨m0, hs42⟩ | ⟨hm, hs63⟩
      · subst m0
        rw [zlb_0]
        rw [show (Nat.beq 0 1 && decide (s (p + 1) = 123)) = false from rfl]
        show Pf (bif !(decide ((9 : Int32) = (9 : Int32))) then _ else _) _
        refine pf_n (fun z => absurd rfl z) (fun _ => ?_)
        rw [(zn.1 (by omega)).2]
        rw [show zbw s 200 (h, k0) = (h, k0) from zbw_e (n42 hs42)]
        exact pf_mono (ybb_e hn h0 hN hx hK hr (n42 hs42) F (i + 1)) (fun x hx' => ⟨r, hx', hr⟩)
      · by_cases c2 : m = 1 ∧ s (p + 1) = 123
        · obtain ⟨c3, c4⟩ := c2
          subst c3
          have hp1 := lt_n h0 c4 (by decide)
          have hR2 := xcl_e c rfl c4 hR
          obtain ⟨b, b1, b2, b3, b4, b5⟩ := zb1_t hn h0 hW hR2 hp1
          obtain ⟨e, he⟩ := b4
          have upe := xit_up1 h0 hx he
          have heN : e < N := upe.2.mpr b2
          have je : j < e := els_lt hj he
          have zn2 := hK.2.2 r e h 2 k0 b heN hr he b3
          have v3 := zn2.2.2 j p rfl hj c
          rw [zlb_1 c4, b5, decide_eq_true c4]
          show Pf (bif !(decide ((7 : Int32) = (9 : Int32))) then (bif !(decide ((7 : Int32) = (7 : Int32))) then _ else _) else _) _
          refine pf_n (fun _ => pf_n (fun z => absurd rfl z) (fun _ => ?_)) (fun z => absurd z (by decide))
          rw [v3, ofN1 e]
          have he1 : xit s (e + 1) (0, []) = some (b + 1, k0) := xit_s he (xns_cp b3 (by omega))
          exact ih (i + 1) (e + 1) (b + 1) k0 he1 (by omega)
        · rw [zlb_n (by omega) c2, nel c2, beq_f (show m ≠ 0 by omega)]
          show Pf (bif !(decide ((8 : Int32) = (9 : Int32))) then (bif !(decide ((8 : Int32) = (7 : Int32))) then _ else _) else _) _
          refine pf_n (fun _ => pf_n (fun _ => ?_) (fun z => absurd z (by decide))) (fun z => absurd z (by decide))
          rw [ofN1 j]
          have he1 : xit s (j + 1) (0, []) = some (p + 1, k0) := xit_s hj (xns_cp c c2)
          exact ih (i + 1) (j + 1) (p + 1) k0 he1 (by omega)
    · rw [zbw_e (x := (p, k)) c]
      exact pf_mono (ybb_e hn h0 hN hx hK hj c (F + 1) i) (fun x hx' => ⟨j, hx', hj⟩)
theorem ybb_t (hn : n ≤ 160) (h0 : ∀ j, n ≤ j → s j = 0) (hN : N ≤ 80) (hx : xit s N (0, []) = some (n, [])) (hK : KNL s n N i1 a v) (hj : xit s j (0, []) = some (p, k)) : Pf (d_Ap_behindBraces w a (Int32.ofNat j) v) (fun x => ∃ j', x = Int32.ofNat j' ∧ xit s j' (0, []) = some (zbw s 200 (p, k))) := by
  unfold d_Ap_behindBraces
  exact ybb_m hn h0 hN hx hK w 0 j p k hj (by omega)
/-- whether the lane is held -/
theorem yih_t (hn : n ≤ 160) (h0 : ∀ j, n ≤ j → s j = 0) (hN : N ≤ 80) (hx : xit s N (0, []) = some (n, [])) (hK : KNL s n N i1 a v) (hl : l < 8) (hj : xit s j (0, []) = some (p, k)) (h7 : v 197 l = Int32.ofNat j) (hD : CRL 187 l D v) : Pf (d_Ap_isHeld a (Int32.ofNat l) v) (fun x => x = bi (zhl s n (p, k, D))) := by
  have up := xit_up1 h0 hx hj
  unfold d_Ap_isHeld
  rw [zand7 (show l ≤ 7 by omega), cl_nat (show l ≤ 1000 by omega), h7, hK.1, le_nat (by omega) (by omega)]
  have e1 : decide (d_De_isIn (v 187 10) (Int32.ofNat l) = 0) = !(D.2.2.2.2.2) := by
    rw [isIn_b hl, hD.2.2.2.2.2]
    cases D.2.2.2.2.2 <;> rfl
  rw [e1, Bool.not_not]
  refine pf_c (fun _ => ?_)
  show Pf _ (fun x => x = bi (D.2.2.2.2.2 || (Nat.ble n p || decide (s p = 88))))
  cases hst : D.2.2.2.2.2 with
  | true => exact pf_t (pf_some rfl)
  | false =>
    refine pf_f (pf_d (fun c => pf_some ?_) (fun c => ?_))
    · rw [ble_t (show n ≤ p by omega)]
      rfl
    · have hjN : j < N := by omega
      have hpn := up.2.mp hjN
      rw [zsa (show j < 80 by omega)]
      refine pf_sb ?_
      rw [ble_f (show ¬ n ≤ p by omega)]
      show Pf _ (fun x => x = bi (decide (s p = 88)))
      rcases yrow hK hjN hj with ⟨-, z0, -, -, z3⟩ | ⟨c125, h, m, k0, ek, -, -, b0⟩
      · rw [z0]
        rcases z3 with ⟨g, -⟩ | g | ⟨g, -⟩ | ⟨g, -⟩ | ⟨g, -⟩ | ⟨g | g, -⟩
        · rw [g]; exact pf_n (fun _ => pf_some rfl) (fun z => absurd z (by decide))
        · rw [g]; exact pf_n (fun _ => pf_some rfl) (fun z => absurd z (by decide))
        · rw [g]; exact pf_n (fun _ => pf_some rfl) (fun z => absurd z (by decide))
        · rw [g]; exact pf_n (fun z => absurd (show d_Re_kindFor 88 = 3 by decide) z) (fun _ => pf_some rfl)
        · rw [kF_v g, decide_eq_false (xvar_x g 88 (by decide))]; exact pf_n (fun _ => pf_some rfl) (fun z => absurd z (by decide))
        · rw [g]; exact pf_n (fun _ => pf_some rfl) (fun z => absurd z (by decide))
        · rw [g]; exact pf_n (fun _ => pf_some rfl) (fun z => absurd z (by decide))
      · rw [b0, decide_eq_false (show ¬ s p = 88 by rw [c125]; decide)]
        refine pf_n (fun _ => pf_some rfl) (fun z => ?_)
        cases hc : (Nat.beq m 1 && decide (s (p + 1) = 123)) with
        | true => rw [hc] at z; exact absurd z (show ¬ (7 : Int32) = 3 by decide)
        | false =>
          rw [hc] at z
          cases hm : Nat.beq m 0 with
          | true => rw [hm] at z; exact absurd z (by decide)
          | false => rw [hm] at z; exact absurd z (by decide)
/-- a statement -/
theorem yas_t (hw : 4294967296 < w) (hn : n ≤ 160) (h0 : ∀ j, n ≤ j → s j = 0) (ha : ker a) (hN : N ≤ 80) (hi1 : i1 ≤ 160) (hx : xit s N (0, []) = some (n, [])) (hK : KNL s n N i1 a v) (hl : l < 8) (hj : xit s j (0, []) = some (p, k)) (h7 : v 197 l = Int32.ofNat j) (hin : CIN 187 inp v) (hD : CRL 187 l D v) (hcn : D.2.2.2.1 < 2000000000) (hh : zhl s n (p, k, D) = false) (h125 : s p ≠ 125) : Pf (d_Ap_afterStep w a (Int32.ofNat l) v) (fun r => (∃ j', r.1 = Int32.ofNat j' ∧ xit s j' (0, []) = some ((zls s n inp l (p, k, D)).1, (zls s n inp l (p, k, D)).2.1)) ∧ ACR 187 l (zls s n inp l (p, k, D)).2.2 v r.2) := by
  have pa : a = 3 ∨ a = 88 := ha
  have hW : xR s n [] := ⟨N, hx⟩
  obtain ⟨hst, hpn, h88⟩ := zhl_f hh
  have hst : D.2.2.2.2.2 = false := hst
  have hpn : p < n := hpn
  have h88 : s p ≠ 88 := h88
  have up := xit_up1 h0 hx hj
  have hjN : j < N := up.2.mpr hpn
  obtain ⟨p', k', ns, hj1⟩ := xit_nx hx h0 hj hpn
  unfold d_Ap_afterStep
  rw [zand7 (show l ≤ 7 by omega), cl_nat (show l ≤ 1000 by omega), h7, zsa (show j < 80 by omega)]
  refine pf_c (fun _ => pf_sb ?_)
  rcases yrow hK hjN hj with ⟨-, hR⟩ | ⟨c125, -⟩
  · obtain ⟨z0, z1, z2, z3⟩ := id hR
    have head : (s p = 63 ∨ s p = 42) → Pf ((d_Cr_decide w 187 a (a + 4 + j) (Int32.ofNat l) v).bind fun q4 => bif decide (q4.1 = 0) then some (((q4.2 (a + 4 + j) 4) + (1 : Int32)), q4.2) else some ((Int32.ofNat j) + (1 : Int32), q4.2)) (fun r => (∃ j', r.1 = Int32.ofNat j' ∧ xit s j' (0, []) = some ((zls s n inp l (p, k, D)).1, (zls s n inp l (p, k, D)).2.1)) ∧ ACR 187 l (zls s n inp l (p, k, D)).2.2 v r.2) := by
      intro hs
      obtain ⟨r, g1, g2, g3, g4, g5⟩ : ∃ r, xE s (p + 1) = (true, r) ∧ k.length < 4 ∧ s r = 123 ∧ p' = r + 1 ∧ k' = (p, bif decide (s p = 63) then 1 else 0) :: k := by
        rcases xns_c ns with ⟨t, -⟩ | ⟨-, r, g⟩ | ⟨e, -, -, -, -, -, t⟩
        · rcases hs with t2 | t2 <;> (rw [t2] at t; exact absurd t (by decide))
        · exact ⟨r, g⟩
        · have := XS_h t
          rcases hs with t2 | t2
          · exact absurd t2 this.2.1
          · exact absurd t2 this.2.2
      have hZ : ZW s n a (a + 4 + j) (p + 1) r i1 v := by
        rcases z3 with ⟨g, -⟩ | g | ⟨g, -⟩ | ⟨g, -⟩ | ⟨g, -⟩ | ⟨-, e, d1, d2⟩
        · rcases hs with t2 | t2 <;> (rw [t2] at g; exact absurd g (by decide))
        · rcases hs with t2 | t2 <;> (rw [t2] at g; exact absurd g (by decide))
        · rcases hs with t2 | t2 <;> (rw [t2] at g; exact absurd g (by decide))
        · rcases hs with t2 | t2 <;> (rw [t2] at g; exact absurd g (by decide))
        · rcases hs with t2 | t2
          · exact absurd t2 (xvar_x g 63 (by decide))
          · exact absurd t2 (xvar_x g 42 (by decide))
        · rw [g1] at d1
          have : r = e := congrArg Prod.snd d1
          rw [this]
          exact d2
      have hrn : r < n := lt_n h0 g3 (by decide)
      have hb : stp (a + 4 + j) := by unfold stp; omega
      refine pf_bind (pf_and (pf_sf (t_Cr_decide (v := v) (l3 := Int32.ofNat l) hw crw_187 ha hb)) (zcd_t hn hl ha crw_187 ⟨rfl, by omega⟩ hi1 z1 hZ (by omega) (sgn_123 g3) hin hD)) (fun q4 h4 => ?_)
      obtain ⟨f4, d1, d2⟩ := h4
      have e4 : q4.2 (a + 4 + j) = v (a + 4 + j) := f4.1 (a + 4 + j) (by omega)
      refine pf_d (fun c0 => pf_some ?_) (fun c0 => pf_some ?_)
      · obtain ⟨c, c1, c2, c3, c4, c5, c6, c7⟩ := zhe_t hn h0 hW ⟨j, hj⟩ hs g1 g2 g3
        obtain ⟨e, he⟩ := c4
        have upe := xit_up1 h0 hx he
        have heN : e < N := upe.2.mpr c2
        have zn := hK.2.2 j e p _ k c heN hj he c3
        have hm2 : (bif decide (s p = 63) then 1 else 0) ≠ 2 := by
          cases decide (s p = 63) <;> decide
        have ve := zn.2.1 hm2
        rw [d1] at c0
        by_cases dd : s p = 63 ∧ s (c + 1) = 123
        · rw [zls_z2 dd.1 g1 c5 dd.2 c0]
          refine ⟨⟨e + 1, ?_, ?_⟩, d2⟩
          · show q4.2 (a + 4 + j) 4 + (1 : Int32) = _
            rw [e4, ve, ofN1]
          · rw [decide_eq_true dd.1] at he
            exact xit_s he (xns_ce c3 rfl dd.2)
        · rw [zls_z1 hs g1 c5 dd c0]
          refine ⟨⟨e + 1, ?_, ?_⟩, d2⟩
          · show q4.2 (a + 4 + j) 4 + (1 : Int32) = _
            rw [e4, ve, ofN1]
          · refine xit_s he (xns_cp c3 (fun q => dd ⟨?_, q.2⟩))
            by_cases z : s p = 63
            · exact z
            · rw [decide_eq_false z] at q
              exact absurd q.1 (by decide)
      · rw [d1] at c0
        rw [zls_v hs ns c0]
        exact ⟨⟨j + 1, ofN1 j, hj1⟩, d2⟩
    have plain : s p ≠ 63 → s p ≠ 42 → Pf ((d_Cr_act w 187 a (a + 4 + j) (Int32.ofNat l) v).bind fun q7 => some ((Int32.ofNat j) + (1 : Int32), q7)) (fun r => (∃ j', r.1 = Int32.ofNat j' ∧ xit s j' (0, []) = some ((zls s n inp l (p, k, D)).1, (zls s n inp l (p, k, D)).2.1)) ∧ ACR 187 l (zls s n inp l (p, k, D)).2.2 v r.2) := by
      intro c63 c42
      obtain ⟨e0, g3, g6⟩ : ∃ e0, s e0 = 59 ∧ XS s p e0 := by
        rcases xns_c ns with ⟨t, -⟩ | ⟨t | t, -⟩ | ⟨e0, -, -, g3, -, -, g6⟩
        · exact absurd t h125
        · exact absurd t c63
        · exact absurd t c42
        · exact ⟨e0, g3, g6⟩
      refine pf_bind (zca_t hn h0 hl ha crw_187 ⟨rfl, by omega⟩ hi1 hR g6 g3 h88 hin hD hcn) (fun q7 h7 => pf_some ?_)
      rw [zls_s c63 c42 ns]
      exact ⟨⟨j + 1, ofN1 j, hj1⟩, h7⟩
    rw [z0]
    rcases z3 with ⟨g, -⟩ | g | ⟨g, -⟩ | ⟨g, -⟩ | ⟨g, -⟩ | ⟨g | g, -⟩
    · have e : d_Re_kindFor (s p) = 1 := by rw [g]; decide
      rw [e]
      exact pf_d (fun z => absurd z (by decide)) (fun _ => pf_n (fun _ => plain (by rw [g]; decide) (by rw [g]; decide)) (fun z => absurd z (by decide)))
    · have e : d_Re_kindFor (s p) = 4 := by rw [g]; decide
      rw [e]
      exact pf_d (fun z => absurd z (by decide)) (fun _ => pf_n (fun _ => plain (by rw [g]; decide) (by rw [g]; decide)) (fun z => absurd z (by decide)))
    · have e : d_Re_kindFor (s p) = 2 := by rw [g]; decide
      rw [e]
      exact pf_d (fun z => absurd z (by decide)) (fun _ => pf_n (fun _ => plain (by rw [g]; decide) (by rw [g]; decide)) (fun z => absurd z (by decide)))
    · exact absurd g h88
    · rw [kF_v g]
      exact pf_d (fun z => absurd z (by decide)) (fun _ => pf_n (fun _ => plain (xvar_x g 63 (by decide)) (xvar_x g 42 (by decide))) (fun z => absurd z (by decide)))
    · have e : d_Re_kindFor (s p) = 5 := by rw [g]; decide
      rw [e]
      exact pf_d (fun _ => head (Or.inl g)) (fun z => absurd rfl z)
    · have e : d_Re_kindFor (s p) = 6 := by rw [g]; decide
      rw [e]
      exact pf_d (fun z => absurd z (by decide)) (fun _ => pf_n (fun z => absurd rfl z) (fun _ => head (Or.inr g)))
  · exact absurd c125 h125
end YCA
