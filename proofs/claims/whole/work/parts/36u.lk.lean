/-! the reference's look is the text's own way -/
def ZPO (P : Int32) : Prop := decide ((0 : Int32) ≤ P) = !(decide (P = -1))
def ZX (X : xLS) (q : pd_V) : Prop := ZV X.1 q ∧ q 198 10 = X.2.2 ∧ ZPO X.2.2
section ZLK
variable {s : Nat → Int32} {n w : Nat} {v u q : pd_V} {p : Nat} {k k0 : xK}
theorem ZPO_m : ZPO (-1) := by unfold ZPO; decide
theorem ZPO_n {p : Nat} (hp : p ≤ 1000) : ZPO (Int32.ofNat p) := by
  unfold ZPO
  have e1 : decide (Int32.ofNat 0 ≤ Int32.ofNat p) = decide (0 ≤ p) := le_nat (by omega) hp
  have e2 : Int32.ofNat p ≠ -1 := by
    intro z
    have z2 := congrArg Int32.toInt z
    rw [Int32.toInt_ofNat_of_lt (by omega), show (-1 : Int32).toInt = -1 by decide] at z2
    omega
  rw [decide_eq_false e2]
  exact e1.trans (decide_eq_true (Nat.zero_le p))
set_option maxHeartbeats 2000000 in
theorem zlk_m (hw : 4294967296 < w) (hn : n ≤ 160) (h0 : ∀ j, n ≤ j → s j = 0) (hW : xR s n []) : ∀ (r p : Nat) (k : xK) (x : xLS) (v : pd_V) (F : Nat), r < F → xit s r (p, k) = some (n, []) → xR s p k → DR n s v → ZB v k x.2.1 → ZV x.1 v → v 198 10 = x.2.2 → ZPO x.2.2 → Sf (d_Mo_look_4 w F (Int32.ofNat k.length) (Int32.ofNat p) v) (ZX (xlit s r p k x)) := by
  intro r
  induction r with
  | zero =>
    intro p k x v F hF hx hR hD hB hV h10 hP
    obtain ⟨F, rfl⟩ : ∃ g, F = g + 1 := ⟨F - 1, by omega⟩
    have e0 : (p, k) = (n, ([] : xK)) := Option.some.inj hx
    have e1 : p = n := congrArg Prod.fst e0
    rw [d_Mo_look_4, hD.1, le_nat (by omega) (by omega), decide_eq_true (show n ≤ p by omega)]
    exact sf_tt (sf_some ⟨hV, h10, hP⟩)
  | succ r ih =>
    intro p k x v F hF hx hR hD hB hV h10 hP
    obtain ⟨F, rfl⟩ : ∃ g, F = g + 1 := ⟨F - 1, by omega⟩
    obtain ⟨p1, k1, ns, hx1⟩ := xit_r hx
    have hpn := xns_lt h0 ns
    have k4 := xSI_4 (xR_SI hR)
    have i40 : pm_in (Int32.ofNat k.length) 40 = true := in_nat (by omega) (by omega)
    have hR1 := xR_s hR ns
    rw [xlit_s ns]
    have next : ∀ (X : xLS) (u : pd_V), xlk s p k x = X → DR n s u → ZB u k1 X.2.1 → ZV X.1 u → u 198 10 = X.2.2 → ZPO X.2.2 → Sf (d_Mo_look_4 w F (Int32.ofNat k1.length) (Int32.ofNat p1) u) (ZX (xlit s r p1 k1 (xlk s p k x))) := by
      intro X u hX g1 g2 g3 g4 g5
      rw [hX]
      exact ih p1 k1 X u F (by omega) hx1 hR1 g1 g2 g3 g4 g5
    generalize hQ : ZX (xlit s r p1 k1 (xlk s p k x)) = Q at next ⊢
    have dr : ∀ (a j : Nat) (y : Int32), a ≠ 199 → (a ≠ 198 ∨ j ≠ 2) → ∀ u, DR n s u → DR n s (pd_w u a j y) := by
      intro a j y ha hj u hu
      refine ⟨?_, fun i hi => by rw [pd_w_ne (fun e => ha e.symm)]; exact hu.2 i hi⟩
      by_cases e : a = 198
      · subst e
        rw [pd_w_nk (by omega)]
        exact hu.1
      · rw [pd_w_ne (fun z => e z.symm)]
        exact hu.1
    have headL : ∀ U : Bool, zun x.2.1 = U → (s p = 63 ∨ s p = 42) → Sf ((d_Mo_upTo w 199 160 (Int32.ofNat p) (123 : Int32) (123 : Int32) v).bind fun q6 => bif !(decide ((s p) = (63 : Int32))) then bif !(decide (bi U = 0)) then bif pm_in (Int32.ofNat k.length) 40 then d_Mo_look_4 w F ((Int32.ofNat k.length) + (1 : Int32)) (q6 + (1 : Int32)) (pd_w v 212 (Int32.ofNat k.length).toNatClampNeg ((0 : Int32) + (2 : Int32))) else none else (d_Mo_isVarying w ((Int32.ofNat p) + (1 : Int32)) q6 v).bind fun q10 => bif decide (q10 = 0) then bif pm_in (Int32.ofNat k.length) 40 then d_Mo_look_4 w F ((Int32.ofNat k.length) + (1 : Int32)) (q6 + (1 : Int32)) (pd_w v 212 (Int32.ofNat k.length).toNatClampNeg ((0 : Int32) + (0 : Int32))) else none else bif pm_in (Int32.ofNat k.length) 40 then d_Mo_look_4 w F ((Int32.ofNat k.length) + (1 : Int32)) (q6 + (1 : Int32)) (pd_w v 212 (Int32.ofNat k.length).toNatClampNeg ((0 : Int32) + (2 : Int32))) else none else bif !(decide (bi U = 0)) then bif pm_in (Int32.ofNat k.length) 40 then d_Mo_look_4 w F ((Int32.ofNat k.length) + (1 : Int32)) (q6 + (1 : Int32)) (pd_w v 212 (Int32.ofNat k.length).toNatClampNeg ((1 : Int32) + (2 : Int32))) else none else (d_Mo_isVarying w ((Int32.ofNat p) + (1 : Int32)) q6 v).bind fun q16 => bif decide (q16 = 0) then bif pm_in (Int32.ofNat k.length) 40 then d_Mo_look_4 w F ((Int32.ofNat k.length) + (1 : Int32)) (q6 + (1 : Int32)) (pd_w v 212 (Int32.ofNat k.length).toNatClampNeg ((1 : Int32) + (0 : Int32))) else none else bif pm_in (Int32.ofNat k.length) 40 then d_Mo_look_4 w F ((Int32.ofNat k.length) + (1 : Int32)) (q6 + (1 : Int32)) (pd_w v 212 (Int32.ofNat k.length).toNatClampNeg ((1 : Int32) + (2 : Int32))) else none) Q := by
      intro U hU hs2
      obtain ⟨rr, g1, g2, g3, g4, g5⟩ : ∃ rr, xE s (p + 1) = (true, rr) ∧ k.length < 4 ∧ s rr = 123 ∧ p1 = rr + 1 ∧ k1 = (p, bif decide (s p = 63) then 1 else 0) :: k := by
        rcases xns_c ns with ⟨t, -⟩ | ⟨-, rr, g⟩ | ⟨e, -, -, -, -, -, t⟩
        · rcases hs2 with t2 | t2 <;> (rw [t2] at t; exact absurd t (by decide))
        · exact ⟨rr, g⟩
        · have := XS_h t
          rcases hs2 with t2 | t2
          · exact absurd t2 this.2.1
          · exact absurd t2 this.2.2
      obtain ⟨b1, b2, b3, b4⟩ := hd_f h0 hR hs2 g1 g2 g3
      have hg : ∀ (c1 c2 : Bool), decide (s p = 63) = c1 → (xdf s (p + 1) (rr - (p + 1)) x.1 || zun x.2.1) = c2 → Sf (d_Mo_look_4 w F (Int32.ofNat (k.length + 1)) (Int32.ofNat (rr + 1)) (pd_w v 212 k.length ((bif c1 then (1 : Int32) else 0) + (bif c2 then (2 : Int32) else 0)))) Q := by
        intro c1 c2 e1 e2
        have := next (x.1, xdf s (p + 1) (rr - (p + 1)) x.1 :: x.2.1, x.2.2) (pd_w v 212 k.length ((bif c1 then (1 : Int32) else 0) + (bif c2 then (2 : Int32) else 0))) (xlk_B hs2 g1) (dr 212 _ _ (by decide) (Or.inl (by decide)) v hD) ?_ (ZV_w hV (by decide)) (by rw [pd_w_ne (by decide)]; exact h10) hP
        · rw [g4, g5] at this
          exact this
        · rw [g5, e1]
          refine ⟨?_, ZB_e hB (fun j hj => pd_w_nk (by omega))⟩
          rw [pd_w_self]
          show _ = _ + (bif (xdf s (p + 1) (rr - (p + 1)) x.1 || zun x.2.1) then (2 : Int32) else 0)
          rw [e2]
          cases c1 <;> rfl
      rw [hu_t hw hn hD.2 b2 g3 b3]
      refine sf_sb ?_
      rw [ofN1 p, ofN1 rr, ofN1 k.length, cl_nat (show k.length ≤ 1000 by omega), zis_t (s := s) hw hn hD (show rr ≤ n by omega) (show p + 1 ≤ rr by omega) hV]
      by_cases c63 : s p = 63
      · have d1 := decide_eq_true c63
        refine sf_n (fun c => absurd c63 c) (fun _ => ?_)
        cases U with
        | true => exact sf_n (fun _ => sf_c i40 (hg true true d1 (by rw [hU, Bool.or_true]))) (fun c => absurd c (by decide))
        | false =>
          refine sf_n (fun c => absurd rfl c) (fun _ => ?_)
          refine sf_sb ?_
          cases hd : xdf s (p + 1) (rr - (p + 1)) x.1 with
          | true => exact sf_d (fun c => absurd c (by decide)) (fun _ => sf_c i40 (hg true true d1 (by rw [hd]; rfl)))
          | false => exact sf_d (fun _ => sf_c i40 (hg true false d1 (by rw [hd, hU]; rfl))) (fun c => absurd rfl c)
      · have d1 := decide_eq_false c63
        refine sf_n (fun _ => ?_) (fun c => absurd c c63)
        cases U with
        | true => exact sf_n (fun _ => sf_c i40 (hg false true d1 (by rw [hU, Bool.or_true]))) (fun c => absurd c (by decide))
        | false =>
          refine sf_n (fun c => absurd rfl c) (fun _ => ?_)
          refine sf_sb ?_
          cases hd : xdf s (p + 1) (rr - (p + 1)) x.1 with
          | true => exact sf_d (fun c => absurd c (by decide)) (fun _ => sf_c i40 (hg false true d1 (by rw [hd]; rfl)))
          | false => exact sf_d (fun _ => sf_c i40 (hg false false d1 (by rw [hd, hU]; rfl))) (fun c => absurd rfl c)
    have simpL : ∀ U : Bool, zun x.2.1 = U → s p ≠ 125 → s p ≠ 63 → s p ≠ 42 → Sf ((d_Mo_upTo w 199 160 (Int32.ofNat p) (59 : Int32) (59 : Int32) v).bind fun q21 => bif !(decide ((s p) = (88 : Int32))) then bif !(decide ((d_Mo_beyond (s p) (97 : Int32) (104 : Int32)) = 0)) then d_Mo_look_4 w F (Int32.ofNat k.length) (q21 + (1 : Int32)) v else bif pm_in ((s p) - (97 : Int32)) 8 then bif !(decide ((v 201 (((s p) - (97 : Int32)).toNatClampNeg)) = 0)) then bif pm_in ((s p) - (97 : Int32)) 8 then d_Mo_look_4 w F (Int32.ofNat k.length) (q21 + (1 : Int32)) (pd_w v 201 (((s p) - (97 : Int32)).toNatClampNeg) (1 : Int32)) else none else bif !(decide (bi U = 0)) then bif pm_in ((s p) - (97 : Int32)) 8 then d_Mo_look_4 w F (Int32.ofNat k.length) (q21 + (1 : Int32)) (pd_w v 201 (((s p) - (97 : Int32)).toNatClampNeg) (1 : Int32)) else none else (d_Mo_isVarying w ((Int32.ofNat p) + (2 : Int32)) q21 v).bind fun q30 => bif decide (q30 = 0) then bif pm_in ((s p) - (97 : Int32)) 8 then d_Mo_look_4 w F (Int32.ofNat k.length) (q21 + (1 : Int32)) (pd_w v 201 (((s p) - (97 : Int32)).toNatClampNeg) (0 : Int32)) else none else bif pm_in ((s p) - (97 : Int32)) 8 then d_Mo_look_4 w F (Int32.ofNat k.length) (q21 + (1 : Int32)) (pd_w v 201 (((s p) - (97 : Int32)).toNatClampNeg) (1 : Int32)) else none else none else bif pm_in ((Int32.ofNat p) + (1 : Int32)) 160 then bif pm_in ((v 199 (((Int32.ofNat p) + (1 : Int32)).toNatClampNeg)) - (97 : Int32)) 8 then bif decide (bi U = 0) then d_Mo_look_4 w F (Int32.ofNat k.length) (q21 + (1 : Int32)) (pd_w v 201 (((v 199 (((Int32.ofNat p) + (1 : Int32)).toNatClampNeg)) - (97 : Int32)).toNatClampNeg) (1 : Int32)) else bif decide (0 ≤ (v 198 10)) then d_Mo_look_4 w F (Int32.ofNat k.length) (q21 + (1 : Int32)) (pd_w v 201 (((v 199 (((Int32.ofNat p) + (1 : Int32)).toNatClampNeg)) - (97 : Int32)).toNatClampNeg) (1 : Int32)) else d_Mo_look_4 w F (Int32.ofNat k.length) (q21 + (1 : Int32)) (pd_w (pd_w v 201 (((v 199 (((Int32.ofNat p) + (1 : Int32)).toNatClampNeg)) - (97 : Int32)).toNatClampNeg) (1 : Int32)) 198 10 (Int32.ofNat p)) else none else none) Q := by
      intro U hU c125 c63 c42
      obtain ⟨e, g1, g2, g3, g4, g5, g6⟩ : ∃ e, p1 = e + 1 ∧ k1 = k ∧ s e = 59 ∧ p < e ∧ xrg s p e ∧ XS s p e := by
        rcases xns_c ns with ⟨t, -⟩ | ⟨t | t, -⟩ | t
        · exact absurd t c125
        · exact absurd t c63
        · exact absurd t c42
        · exact t
      have he := lt_n h0 g3 (by decide)
      have nx : ∀ (W P : Int32) (u : pd_V), xlk s p k x = (W, x.2.1, P) → DR n s u → u 212 = v 212 → ZV W u → u 198 10 = P → ZPO P → Sf (d_Mo_look_4 w F (Int32.ofNat k.length) (Int32.ofNat (e + 1)) u) Q := by
        intro W P u a1 a2 a3 a4 a5 a6
        have := next (W, x.2.1, P) u a1 a2 (by rw [g2]; exact ZB_e hB (fun j _ => by rw [a3])) a4 a5 a6
        rw [g1, g2] at this
        exact this
      rw [su_t hw hn hD.2 he g3 g5]
      refine sf_sb ?_
      rw [ofN1 e, ofN2 p]
      refine sf_n (fun c88 => ?_) (fun c88 => ?_)
      · refine sf_n (fun cv => ?_) (fun cv => ?_)
        · have hnv : xvar (s p) = false := decide_eq_false cv
          refine nx x.1 x.2.2 v ?_ hD rfl hV h10 hP
          rcases g6 with ⟨t, -⟩ | ⟨t, -⟩ | ⟨t, -⟩ | ⟨t, -⟩ | ⟨t, -⟩
          · exact xlk_n (Or.inl t)
          · exact xlk_n (Or.inr (Or.inl t))
          · exact xlk_n (Or.inr (Or.inr t))
          · exact absurd t c88
          · rw [hnv] at t; exact absurd t (by decide)
        · have hv : xvar (s p) = true := decide_eq_true cv
          have i8 := vin8 hv
          obtain ⟨-, hE⟩ := XS_V g6 (xvar_x hv 79 (by decide)) (xvar_x hv 82 (by decide)) (xvar_x hv 76 (by decide)) c88
          have hE2 := (xE_g hE).2
          have hz := ZV_c hV hv
          have hxl := xlk_V (k := k) (x := x) hv hE
          have d201 : ∀ y : Int32, DR n s (pd_w v 201 (s p - (97 : Int32)).toNatClampNeg y) := fun y => dr 201 _ y (by decide) (Or.inl (by decide)) v hD
          have set1 : (xdf s (p + 2) (e - (p + 2)) x.1 || zun x.2.1) = true → Sf (d_Mo_look_4 w F (Int32.ofNat k.length) (Int32.ofNat (e + 1)) (pd_w v 201 (s p - (97 : Int32)).toNatClampNeg (1 : Int32))) Q := fun hc =>
            nx (x.1 ||| zsh (s p - 97)) x.2.2 _ (by rw [hxl, hc]; rfl) (d201 1) (pd_wa (by decide)) (ZV_1 hV hv) (by rw [pd_w_ne (by decide)]; exact h10) hP
          refine sf_c i8 ?_
          rw [zis_t (s := s) hw hn hD (show e ≤ n by omega) (show p + 2 ≤ e by omega) hV]
          cases hb : zbt x.1 (s p - 97).toNatClampNeg with
          | true =>
            rw [hb] at hz
            refine sf_n (fun _ => sf_c i8 ?_) (fun c => absurd (hz.symm.trans c) (by decide))
            cases hc : (xdf s (p + 2) (e - (p + 2)) x.1 || zun x.2.1) with
            | true => exact set1 hc
            | false => exact nx x.1 x.2.2 _ (by rw [hxl, hc]; rfl) (d201 1) (pd_wa (by decide)) (ZV_s hV hv hb) (by rw [pd_w_ne (by decide)]; exact h10) hP
          | false =>
            rw [hb] at hz
            refine sf_n (fun c => absurd hz c) (fun _ => ?_)
            cases U with
            | true => exact sf_n (fun _ => sf_c i8 (set1 (by rw [hU, Bool.or_true]))) (fun c => absurd c (by decide))
            | false =>
              refine sf_n (fun c => absurd rfl c) (fun _ => ?_)
              refine sf_sb ?_
              cases hd : xdf s (p + 2) (e - (p + 2)) x.1 with
              | true => exact sf_d (fun c => absurd c (by decide)) (fun _ => sf_c i8 (set1 (by rw [hd]; rfl)))
              | false => exact sf_d (fun _ => sf_c i8 (nx x.1 x.2.2 _ (by rw [hxl, hd, hU]; rfl) (d201 0) (pd_wa (by decide)) (ZV_0 hV hv hb) (by rw [pd_w_ne (by decide)]; exact h10) hP)) (fun c => absurd rfl c)
      · obtain ⟨v1, v2, hE⟩ := XS_X g6 c88
        have hE2 := (xE_g hE).2
        have hxl := xlk_X (k := k) (x := x) c88
        rw [ofN1 p, cl_nat (show p + 1 ≤ 1000 by omega), hD.2 (p + 1) (by omega)]
        refine sf_c (in_nat (by omega) (by omega)) (sf_c (vin8 v1) ?_)
        have keep : (bif zun x.2.1 && decide (x.2.2 = -1) then Int32.ofNat p else x.2.2) = x.2.2 → Sf (d_Mo_look_4 w F (Int32.ofNat k.length) (Int32.ofNat (e + 1)) (pd_w v 201 (s (p + 1) - (97 : Int32)).toNatClampNeg (1 : Int32))) Q := fun hc =>
          nx (x.1 ||| zsh (s (p + 1) - 97)) x.2.2 _ (by rw [hxl, hc]) (dr 201 _ _ (by decide) (Or.inl (by decide)) v hD) (pd_wa (by decide)) (ZV_1 hV v1) (by rw [pd_w_ne (by decide)]; exact h10) hP
        cases U with
        | false => exact sf_d (fun _ => keep (by rw [hU]; rfl)) (fun c => absurd rfl c)
        | true =>
          refine sf_d (fun c => absurd c (by decide)) (fun _ => ?_)
          have hle : decide ((0 : Int32) ≤ v 198 10) = !(decide (x.2.2 = -1)) := by rw [h10]; exact hP
          rw [hle]
          cases hm : decide (x.2.2 = -1) with
          | false => exact sf_tt (keep (by rw [hU, hm]; rfl))
          | true =>
            refine sf_f ?_
            exact nx (x.1 ||| zsh (s (p + 1) - 97)) (Int32.ofNat p) _ (by rw [hxl, hU, hm]; rfl) (dr 198 10 _ (by decide) (Or.inr (by decide)) _ (dr 201 _ _ (by decide) (Or.inl (by decide)) v hD)) (by rw [pd_wa (by decide), pd_wa (by decide)]) (ZV_w (ZV_1 hV v1) (by decide)) pd_w_self (ZPO_n (by omega))
    have clsL : s p = 125 → Sf (bif decide ((Int32.ofNat n) ≤ ((Int32.ofNat p) + (1 : Int32))) then d_Mo_look_4 w F ((Int32.ofNat k.length) + (-1 : Int32)) ((Int32.ofNat p) + (1 : Int32)) v else bif pm_in ((Int32.ofNat p) + (1 : Int32)) 160 then bif !(decide ((v 199 (((Int32.ofNat p) + (1 : Int32)).toNatClampNeg)) = (123 : Int32))) then d_Mo_look_4 w F ((Int32.ofNat k.length) + (-1 : Int32)) ((Int32.ofNat p) + (1 : Int32)) v else bif pm_in ((Int32.ofNat k.length) + (-1 : Int32)) 40 then bif !(decide ((2 : Int32) = 0)) then bif !(decide (((v 212 (((Int32.ofNat k.length) + (-1 : Int32)).toNatClampNeg)) - (v 212 (((Int32.ofNat k.length) + (-1 : Int32)).toNatClampNeg)) / (2 : Int32) * (2 : Int32)) = (1 : Int32))) then d_Mo_look_4 w F ((Int32.ofNat k.length) + (-1 : Int32)) ((Int32.ofNat p) + (1 : Int32)) v else bif pm_in ((Int32.ofNat k.length) + (-1 : Int32)) 40 then bif pm_in ((Int32.ofNat k.length) + (-1 : Int32)) 40 then d_Mo_look_4 w F (((Int32.ofNat k.length) + (-1 : Int32)) + (1 : Int32)) (((Int32.ofNat p) + (1 : Int32)) + (1 : Int32)) (pd_w v 212 (((Int32.ofNat k.length) + (-1 : Int32)).toNatClampNeg) ((v 212 (((Int32.ofNat k.length) + (-1 : Int32)).toNatClampNeg)) - (1 : Int32))) else none else none else none else none else none) Q := by
      intro c125
      obtain ⟨a, m, k0, hk⟩ : ∃ a m k0, k = (a, m) :: k0 := by
        rcases xns_c ns with ⟨-, a, m, k0, e1, -⟩ | ⟨t | t, -⟩ | ⟨e, -, -, -, -, -, t⟩
        · exact ⟨a, m, k0, e1⟩
        · rw [t] at c125; exact absurd c125 (by decide)
        · rw [t] at c125; exact absurd c125 (by decide)
        · exact absurd c125 (XS_h t).1
      subst hk
      have k4' : k0.length + 1 ≤ 4 := k4
      obtain ⟨d, D, hdD⟩ : ∃ d D, x.2.1 = d :: D := by
        cases q : x.2.1 with
        | nil => rw [q] at hB; exact absurd hB id
        | cons d D => exact ⟨d, D, rfl⟩
      have hB' : ZB v ((a, m) :: k0) (d :: D) := by rw [← hdD]; exact hB
      have hB1 := hB'.1
      have j40 : pm_in (Int32.ofNat k0.length) 40 = true := in_nat (by omega) (by omega)
      have hlen : ((a, m) :: k0 : xK).length = k0.length + 1 := rfl
      rw [hlen, ofNm, ofN1 p, ofN1 k0.length, ofN1 (p + 1), le_nat (by omega) (by omega), cl_nat (show p + 1 ≤ 1000 by omega), cl_nat (show k0.length ≤ 1000 by omega)]
      have out : ¬ (m = 1 ∧ s (p + 1) = 123) → Sf (d_Mo_look_4 w F (Int32.ofNat k0.length) (Int32.ofNat (p + 1)) v) Q := by
        intro hm
        have ns2 := xns_cp (h := a) (k0 := k0) c125 hm
        rw [ns] at ns2
        have e1 : p1 = p + 1 := congrArg (fun t : Bool × Nat × xK => t.2.1) ns2
        have e2 : k1 = k0 := congrArg (fun t : Bool × Nat × xK => t.2.2) ns2
        have := next (x.1, D, x.2.2) v (by rw [xlk_C c125 hm, hdD]; rfl) hD (by rw [e2]; exact hB'.2) hV h10 hP
        rw [e1, e2] at this
        exact this
      refine sf_d (fun c => out (fun q => by rw [h0 (p + 1) c] at q; exact absurd q.2 (by decide))) (fun c => ?_)
      refine sf_c (in_nat (by omega) (by omega)) ?_
      rw [hD.2 (p + 1) (by omega)]
      refine sf_n (fun c2 => out (fun q => c2 q.2)) (fun c2 => ?_)
      refine sf_c j40 (sf_c (by decide) ?_)
      by_cases hm : m = 1
      · rw [hm] at hB1
        have go : ∀ y : Int32, y = (0 : Int32) + (bif zun (d :: D) then (2 : Int32) else 0) → Sf (d_Mo_look_4 w F (Int32.ofNat (k0.length + 1)) (Int32.ofNat (p + 1 + 1)) (pd_w v 212 k0.length y)) Q := by
          intro y hy
          have ns2 := xns_ce (h := a) (k0 := k0) c125 hm c2
          rw [ns] at ns2
          have e1 : p1 = p + 2 := congrArg (fun t : Bool × Nat × xK => t.2.1) ns2
          have e2 : k1 = (a, 2) :: k0 := congrArg (fun t : Bool × Nat × xK => t.2.2) ns2
          have := next x (pd_w v 212 k0.length y) (xlk_E c125 hm c2) (dr 212 _ _ (by decide) (Or.inl (by decide)) v hD) ?_ (ZV_w hV (by decide)) (by rw [pd_w_ne (by decide)]; exact h10) hP
          · rw [e1, e2] at this
            exact this
          · rw [e2, hdD]
            refine ⟨?_, ZB_e hB'.2 (fun j hj => pd_w_nk (by omega))⟩
            rw [pd_w_self]
            exact hy
        cases hz : zun (d :: D) with
        | true =>
          have hb3 : v 212 k0.length = 3 := by rw [hB1, hz]; decide
          rw [hb3]
          refine sf_n (fun z => absurd (by decide) z) (fun _ => sf_c j40 (sf_c j40 (go _ (by rw [hz]; decide))))
        | false =>
          have hb3 : v 212 k0.length = 1 := by rw [hB1, hz]; decide
          rw [hb3]
          refine sf_n (fun z => absurd (by decide) z) (fun _ => sf_c j40 (sf_c j40 (go _ (by rw [hz]; decide))))
      · rw [beq_f hm] at hB1
        cases hz : zun (d :: D) with
        | true =>
          have hb3 : v 212 k0.length = 2 := by rw [hB1, hz]; decide
          rw [hb3]
          exact sf_n (fun _ => out (fun q => hm q.1)) (fun z => absurd z (by decide))
        | false =>
          have hb3 : v 212 k0.length = 0 := by rw [hB1, hz]; decide
          rw [hb3]
          exact sf_n (fun _ => out (fun q => hm q.1)) (fun z => absurd z (by decide))
    have body : ∀ U : Bool, zun x.2.1 = U → Sf (bif !(decide ((s p) = (125 : Int32))) then bif decide ((s p) = (63 : Int32)) then (d_Mo_upTo w 199 160 (Int32.ofNat p) (123 : Int32) (123 : Int32) v).bind fun q6 => bif !(decide ((s p) = (63 : Int32))) then bif !(decide (bi U = 0)) then bif pm_in (Int32.ofNat k.length) 40 then d_Mo_look_4 w F ((Int32.ofNat k.length) + (1 : Int32)) (q6 + (1 : Int32)) (pd_w v 212 (Int32.ofNat k.length).toNatClampNeg ((0 : Int32) + (2 : Int32))) else none else (d_Mo_isVarying w ((Int32.ofNat p) + (1 : Int32)) q6 v).bind fun q10 => bif decide (q10 = 0) then bif pm_in (Int32.ofNat k.length) 40 then d_Mo_look_4 w F ((Int32.ofNat k.length) + (1 : Int32)) (q6 + (1 : Int32)) (pd_w v 212 (Int32.ofNat k.length).toNatClampNeg ((0 : Int32) + (0 : Int32))) else none else bif pm_in (Int32.ofNat k.length) 40 then d_Mo_look_4 w F ((Int32.ofNat k.length) + (1 : Int32)) (q6 + (1 : Int32)) (pd_w v 212 (Int32.ofNat k.length).toNatClampNeg ((0 : Int32) + (2 : Int32))) else none else bif !(decide (bi U = 0)) then bif pm_in (Int32.ofNat k.length) 40 then d_Mo_look_4 w F ((Int32.ofNat k.length) + (1 : Int32)) (q6 + (1 : Int32)) (pd_w v 212 (Int32.ofNat k.length).toNatClampNeg ((1 : Int32) + (2 : Int32))) else none else (d_Mo_isVarying w ((Int32.ofNat p) + (1 : Int32)) q6 v).bind fun q16 => bif decide (q16 = 0) then bif pm_in (Int32.ofNat k.length) 40 then d_Mo_look_4 w F ((Int32.ofNat k.length) + (1 : Int32)) (q6 + (1 : Int32)) (pd_w v 212 (Int32.ofNat k.length).toNatClampNeg ((1 : Int32) + (0 : Int32))) else none else bif pm_in (Int32.ofNat k.length) 40 then d_Mo_look_4 w F ((Int32.ofNat k.length) + (1 : Int32)) (q6 + (1 : Int32)) (pd_w v 212 (Int32.ofNat k.length).toNatClampNeg ((1 : Int32) + (2 : Int32))) else none else bif !(decide ((s p) = (42 : Int32))) then (d_Mo_upTo w 199 160 (Int32.ofNat p) (59 : Int32) (59 : Int32) v).bind fun q21 => bif !(decide ((s p) = (88 : Int32))) then bif !(decide ((d_Mo_beyond (s p) (97 : Int32) (104 : Int32)) = 0)) then d_Mo_look_4 w F (Int32.ofNat k.length) (q21 + (1 : Int32)) v else bif pm_in ((s p) - (97 : Int32)) 8 then bif !(decide ((v 201 (((s p) - (97 : Int32)).toNatClampNeg)) = 0)) then bif pm_in ((s p) - (97 : Int32)) 8 then d_Mo_look_4 w F (Int32.ofNat k.length) (q21 + (1 : Int32)) (pd_w v 201 (((s p) - (97 : Int32)).toNatClampNeg) (1 : Int32)) else none else bif !(decide (bi U = 0)) then bif pm_in ((s p) - (97 : Int32)) 8 then d_Mo_look_4 w F (Int32.ofNat k.length) (q21 + (1 : Int32)) (pd_w v 201 (((s p) - (97 : Int32)).toNatClampNeg) (1 : Int32)) else none else (d_Mo_isVarying w ((Int32.ofNat p) + (2 : Int32)) q21 v).bind fun q30 => bif decide (q30 = 0) then bif pm_in ((s p) - (97 : Int32)) 8 then d_Mo_look_4 w F (Int32.ofNat k.length) (q21 + (1 : Int32)) (pd_w v 201 (((s p) - (97 : Int32)).toNatClampNeg) (0 : Int32)) else none else bif pm_in ((s p) - (97 : Int32)) 8 then d_Mo_look_4 w F (Int32.ofNat k.length) (q21 + (1 : Int32)) (pd_w v 201 (((s p) - (97 : Int32)).toNatClampNeg) (1 : Int32)) else none else none else bif pm_in ((Int32.ofNat p) + (1 : Int32)) 160 then bif pm_in ((v 199 (((Int32.ofNat p) + (1 : Int32)).toNatClampNeg)) - (97 : Int32)) 8 then bif decide (bi U = 0) then d_Mo_look_4 w F (Int32.ofNat k.length) (q21 + (1 : Int32)) (pd_w v 201 (((v 199 (((Int32.ofNat p) + (1 : Int32)).toNatClampNeg)) - (97 : Int32)).toNatClampNeg) (1 : Int32)) else bif decide (0 ≤ (v 198 10)) then d_Mo_look_4 w F (Int32.ofNat k.length) (q21 + (1 : Int32)) (pd_w v 201 (((v 199 (((Int32.ofNat p) + (1 : Int32)).toNatClampNeg)) - (97 : Int32)).toNatClampNeg) (1 : Int32)) else d_Mo_look_4 w F (Int32.ofNat k.length) (q21 + (1 : Int32)) (pd_w (pd_w v 201 (((v 199 (((Int32.ofNat p) + (1 : Int32)).toNatClampNeg)) - (97 : Int32)).toNatClampNeg) (1 : Int32)) 198 10 (Int32.ofNat p)) else none else none else (d_Mo_upTo w 199 160 (Int32.ofNat p) (123 : Int32) (123 : Int32) v).bind fun q38 => bif !(decide ((s p) = (63 : Int32))) then bif !(decide (bi U = 0)) then bif pm_in (Int32.ofNat k.length) 40 then d_Mo_look_4 w F ((Int32.ofNat k.length) + (1 : Int32)) (q38 + (1 : Int32)) (pd_w v 212 (Int32.ofNat k.length).toNatClampNeg ((0 : Int32) + (2 : Int32))) else none else (d_Mo_isVarying w ((Int32.ofNat p) + (1 : Int32)) q38 v).bind fun q42 => bif decide (q42 = 0) then bif pm_in (Int32.ofNat k.length) 40 then d_Mo_look_4 w F ((Int32.ofNat k.length) + (1 : Int32)) (q38 + (1 : Int32)) (pd_w v 212 (Int32.ofNat k.length).toNatClampNeg ((0 : Int32) + (0 : Int32))) else none else bif pm_in (Int32.ofNat k.length) 40 then d_Mo_look_4 w F ((Int32.ofNat k.length) + (1 : Int32)) (q38 + (1 : Int32)) (pd_w v 212 (Int32.ofNat k.length).toNatClampNeg ((0 : Int32) + (2 : Int32))) else none else bif !(decide (bi U = 0)) then bif pm_in (Int32.ofNat k.length) 40 then d_Mo_look_4 w F ((Int32.ofNat k.length) + (1 : Int32)) (q38 + (1 : Int32)) (pd_w v 212 (Int32.ofNat k.length).toNatClampNeg ((1 : Int32) + (2 : Int32))) else none else (d_Mo_isVarying w ((Int32.ofNat p) + (1 : Int32)) q38 v).bind fun q48 => bif decide (q48 = 0) then bif pm_in (Int32.ofNat k.length) 40 then d_Mo_look_4 w F ((Int32.ofNat k.length) + (1 : Int32)) (q38 + (1 : Int32)) (pd_w v 212 (Int32.ofNat k.length).toNatClampNeg ((1 : Int32) + (0 : Int32))) else none else bif pm_in (Int32.ofNat k.length) 40 then d_Mo_look_4 w F ((Int32.ofNat k.length) + (1 : Int32)) (q38 + (1 : Int32)) (pd_w v 212 (Int32.ofNat k.length).toNatClampNeg ((1 : Int32) + (2 : Int32))) else none else bif decide ((Int32.ofNat n) ≤ ((Int32.ofNat p) + (1 : Int32))) then d_Mo_look_4 w F ((Int32.ofNat k.length) + (-1 : Int32)) ((Int32.ofNat p) + (1 : Int32)) v else bif pm_in ((Int32.ofNat p) + (1 : Int32)) 160 then bif !(decide ((v 199 (((Int32.ofNat p) + (1 : Int32)).toNatClampNeg)) = (123 : Int32))) then d_Mo_look_4 w F ((Int32.ofNat k.length) + (-1 : Int32)) ((Int32.ofNat p) + (1 : Int32)) v else bif pm_in ((Int32.ofNat k.length) + (-1 : Int32)) 40 then bif !(decide ((2 : Int32) = 0)) then bif !(decide (((v 212 (((Int32.ofNat k.length) + (-1 : Int32)).toNatClampNeg)) - (v 212 (((Int32.ofNat k.length) + (-1 : Int32)).toNatClampNeg)) / (2 : Int32) * (2 : Int32)) = (1 : Int32))) then d_Mo_look_4 w F ((Int32.ofNat k.length) + (-1 : Int32)) ((Int32.ofNat p) + (1 : Int32)) v else bif pm_in ((Int32.ofNat k.length) + (-1 : Int32)) 40 then bif pm_in ((Int32.ofNat k.length) + (-1 : Int32)) 40 then d_Mo_look_4 w F (((Int32.ofNat k.length) + (-1 : Int32)) + (1 : Int32)) (((Int32.ofNat p) + (1 : Int32)) + (1 : Int32)) (pd_w v 212 (((Int32.ofNat k.length) + (-1 : Int32)).toNatClampNeg) ((v 212 (((Int32.ofNat k.length) + (-1 : Int32)).toNatClampNeg)) - (1 : Int32))) else none else none else none else none else none) Q := by
      intro U hU
      refine sf_n (fun c125 => ?_) (fun c125 => clsL c125)
      refine sf_d (fun c63 => headL U hU (Or.inl c63)) (fun c63 => ?_)
      exact sf_n (fun c42 => simpL U hU c125 c63 c42) (fun c42 => headL U hU (Or.inr c42))
    rw [d_Mo_look_4, hD.1, le_nat (by omega) (by omega), decide_eq_false (show ¬ n ≤ p by omega)]
    refine sf_f (sf_c (in_nat (by omega) (by omega)) ?_)
    rw [cl_nat (show p ≤ 1000 by omega), hD.2 p (by omega), le0 (show k.length ≤ 1000 by omega)]
    by_cases hk0 : k = []
    · refine sf_d (fun _ => ?_) (fun c => absurd (show k.length ≤ 0 by rw [hk0]; exact Nat.le_refl 0) c)
      refine body false ?_
      rw [hk0] at hB
      cases q : x.2.1 with
      | nil => rfl
      | cons d D => rw [q] at hB; exact absurd hB id
    · obtain ⟨a, m, k0, hk⟩ : ∃ a m k0, k = (a, m) :: k0 := by
        cases k with
        | nil => exact absurd rfl hk0
        | cons y k0 => exact ⟨y.1, y.2, k0, rfl⟩
      have hlen : k.length = k0.length + 1 := by rw [hk]; rfl
      refine sf_d (fun c => absurd c (by omega)) (fun _ => ?_)
      rw [show Int32.ofNat k.length - (1 : Int32) = Int32.ofNat k0.length from by rw [hlen]; exact dec_ofNat k0.length]
      refine sf_c (in_nat (by omega) (by omega)) ?_
      have hB1 : v 212 (Int32.ofNat k0.length).toNatClampNeg = (bif Nat.beq m 1 then (1 : Int32) else 0) + (bif zun x.2.1 then (2 : Int32) else 0) := by
        rw [cl_nat (show k0.length ≤ 1000 by omega)]
        rw [hk] at hB
        cases q : x.2.1 with
        | nil => rw [q] at hB; exact absurd hB id
        | cons d D => rw [q] at hB; exact hB.1
      cases hU : zun x.2.1 with
      | false =>
        have hle : decide (v 212 (Int32.ofNat k0.length).toNatClampNeg ≤ (1 : Int32)) = true := by
          rw [hB1, hU]
          cases Nat.beq m 1 <;> decide
        rw [hle]
        exact sf_tt (body false hU)
      | true =>
        have hle : decide (v 212 (Int32.ofNat k0.length).toNatClampNeg ≤ (1 : Int32)) = false := by
          rw [hB1, hU]
          cases Nat.beq m 1 <;> decide
        rw [hle]
        exact sf_f (body true hU)
theorem zlk_t {N : Nat} {W : Int32} (hw : 4294967296 < w) (hn : n ≤ 160) (h0 : ∀ j, n ≤ j → s j = 0) (hN : N ≤ 80) (hx : xit s N (0, []) = some (n, [])) (hD : DR n s v) (hV : ZV W v) (h10 : v 198 10 = -1) : Sf (d_Mo_look w v) (ZX (xlit s N 0 [] (W, [], -1))) := by
  unfold d_Mo_look
  exact zlk_m hw hn h0 ⟨N, hx⟩ N 0 [] (W, [], -1) v w (by omega) hx ⟨0, rfl⟩ hD trivial hV h10 ZPO_m
end ZLK
