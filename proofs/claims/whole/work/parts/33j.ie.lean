/-! the reference reads an expression, a statement, a text -/
def xres (s : Nat → Int32) (o : Nat) (x : Bool × Nat) : Bool × Nat := bif Nat.beq o 1 then xo s x else x
section IE
variable {s : Nat → Int32} {n m o w : Nat} {v u q : pd_V} {p : Nat} {x : Int32}
theorem xres_f {j : Nat} : xres s o (false, j) = (false, j) := by
  unfold xres xo
  cases Nat.beq o 1 <;> rfl
theorem xrg_n (h0 : ∀ j, n ≤ j → s j = 0) {r : Nat} (hp : p ≤ n) (h : xrg s p r) : r ≤ n := by
  rcases Nat.lt_or_ge n r with c | c
  · exact absurd (h0 n (Nat.le_refl _)) (h.2 n hp c).2.2.2
  · exact c
theorem xpl_g {r : Nat} (h : xpl s p = (true, r)) : xrg s p r ∧ p < r := by
  unfold xpl at h
  rcases pd_cases h with ⟨c, h⟩ | ⟨c, h⟩
  · have e : xnum s p = r := congrArg Prod.snd h
    subst e
    exact xnum_g c
  · rcases pd_cases h with ⟨c2, h⟩ | ⟨c2, h⟩
    · have e : p + 1 = r := congrArg Prod.snd h
      subst e
      refine ⟨xrg_1 ?_, by omega⟩
      rcases or_c c2 with c3 | c3
      · exact eq_ok c3 (by unfold xok; decide)
      · exact xvar_ok c3
    · exact ft_ne h
theorem xpl_f {b : Bool} {r : Nat} (h : xpl s p = (b, r)) (hb : b = false) : xdig (s p) = false ∧ (decide (s p = 110) || xvar (s p)) = false ∧ r = p := by
  unfold xpl at h
  rcases pd_cases h with ⟨c, h⟩ | ⟨c, h⟩
  · have e : true = b := congrArg Prod.fst h
    rw [hb] at e
    exact absurd e (by decide)
  · rcases pd_cases h with ⟨c2, h⟩ | ⟨c2, h⟩
    · have e : true = b := congrArg Prod.fst h
      rw [hb] at e
      exact absurd e (by decide)
    · exact ⟨c, c2, (congrArg Prod.snd h).symm⟩
theorem xp_pl {f r : Nat} {k : List Int32} (h : xpl s p = (true, r)) : xp s m (f + 1) p k true = xp s m f r k false := by
  unfold xpl at h
  rw [xp]
  show (bif xdig (s p) then _ else _) = _
  rcases pd_cases h with ⟨c, h⟩ | ⟨c, h⟩
  · rw [c, ← (show xnum s p = r from congrArg Prod.snd h)]
    rfl
  · rcases pd_cases h with ⟨c2, h⟩ | ⟨c2, h⟩
    · rw [c, c2, ← (show p + 1 = r from congrArg Prod.snd h)]
      rfl
    · exact ft_ne h
theorem xp_op {f : Nat} {k : List Int32} (h1 : xdig (s p) = false) (h2 : (decide (s p = 110) || xvar (s p)) = false) : xp s m (f + 1) p k true = bif Nat.beq k.length m then (false, xof s p) else bif (xop s p).1 then xp s m f (xop s p).2 (s p :: k) true else (false, (xop s p).2) := by
  rw [xp]
  unfold xof xop
  show (bif xdig (s p) then _ else _) = _
  rw [h1, h2]
  show (bif decide (s p = 40) then _ else _) = _
  by_cases c : s p = 40
  · have n1 : s p ≠ 73 := by rw [c]; decide
    have n2 : s p ≠ 76 := by rw [c]; decide
    rw [decide_eq_true c, decide_eq_false n1, decide_eq_false n2, c]
    cases Nat.beq k.length m <;> rfl
  · rw [decide_eq_false c]
    show (bif decide (s p = 73) || decide (s p = 76) then _ else _) = _
    cases decide (s p = 73) || decide (s p = 76) with
    | true =>
      show (bif Nat.beq k.length m || !(decide (s (p + 1) = 91)) then _ else _) = _
      cases Nat.beq k.length m <;> cases decide (s (p + 1) = 91) <;> rfl
    | false => cases Nat.beq k.length m <;> rfl
theorem xop_g {r : Nat} (h : xop s p = (true, r)) : xrg s p r ∧ p < r := by
  unfold xop at h
  rcases pd_cases h with ⟨c, h⟩ | ⟨c, h⟩
  · have e : p + 1 = r := congrArg Prod.snd h
    subst e
    exact ⟨xrg_1 (eq_ok c (by unfold xok; decide)), by omega⟩
  · rcases pd_cases h with ⟨c, h⟩ | ⟨c, h⟩
    · rcases pd_cases h with ⟨c2, h⟩ | ⟨c2, h⟩
      · have e : p + 2 = r := congrArg Prod.snd h
        subst e
        refine ⟨xrg_s ?_ (xrg_1 (eq_ok c2 (by unfold xok; decide))), by omega⟩
        rcases or_c c with c | c
        · exact eq_ok c (by unfold xok; decide)
        · exact eq_ok c (by unfold xok; decide)
      · exact ft_ne h
    · exact ft_ne h
theorem ie_m (hw : 4294967296 < w) (hn : n ≤ 160) (h0 : ∀ j, n ≤ j → s j = 0) (ho : o = 0 ∨ o = 1) (hm : m + o = 4) : ∀ (fx p : Nat) (k : List Int32) (t : Bool) (v : pd_V) (F : Nat), n + 1 ≤ p + fx → p ≤ n → fx ≤ F → DR n s v → At p v → SH o v k → k.length ≤ m → Sf (d_Mo_isExpression_17 w F (Int32.ofNat o) (Int32.ofNat (k.length + o)) (bi t) v) (XR (xres s o (xp s m fx p k t)) v) := by
  intro fx
  induction fx with
  | zero => intro p k t v F h1 h2; exact absurd h1 (by omega)
  | succ fx ih =>
    intro p k t v F hf hp hF hD hA hS hk
    obtain ⟨F, rfl⟩ : ∃ G, F = G + 1 := ⟨F - 1, by omega⟩
    have hA' : v 198 6 = Int32.ofNat p := hA
    rw [d_Mo_isExpression_17]
    cases t with
    | true =>
      rw [show decide (bi true = 0) = false from by decide]
      refine sf_f ?_
      refine sf_bind (ip_t hw hn h0 hD hA (by omega)) (fun r hr => ?_)
      obtain ⟨⟨r1, r2, r3, r4⟩, r5⟩ := hr
      have hD2 := DR_P hD r3
      have hS2 : SH o r.2 k := SH_e hS (fun j _ => by rw [r5])
      cases e : xpl s p with
      | mk b p2 =>
        rw [e] at r1 r2
        cases b with
        | true =>
          have g := xpl_g e
          have r1 : r.1 = bi true := r1
          rw [r1, show decide (bi true = 0) = false from by decide, xp_pl e]
          refine sf_f (sf_mono (ih p2 k false r.2 F (by omega) (xrg_n h0 hp g.1) (by omega) hD2 r2 hS2 hk) (fun q hq => XR_t r3 r4 hq))
        | false =>
          obtain ⟨d1, d2, d3⟩ := xpl_f e rfl
          have r2 : At p2 r.2 := r2
          rw [d3] at r2
          have r1 : r.1 = bi false := r1
          rw [r1, show decide (bi false = 0) = true from by decide]
          refine sf_tt (sf_f ?_)
          refine sf_bind (op_t (d := k.length + o) hn h0 hD2 r2 (by omega) (by omega)) (fun r' hr' => ?_)
          obtain ⟨t1, t2, t3, t4, t5, t6⟩ := hr'
          rw [xp_op d1 d2]
          by_cases z : k.length = m
          · have z1 := t1 (by omega)
            rw [z1.1, z, Nat.beq_refl]
            refine sf_n (fun c => absurd rfl c) (fun _ => sf_some ?_)
            show XR (xres s o (false, xof s p)) v ((0 : Int32), r'.2)
            rw [xres_f]
            exact ⟨rfl, z1.2, MP_t r3 t3, t4.trans r4⟩
          · have z0 : Nat.beq k.length m = false := by
              cases y : Nat.beq k.length m
              · rfl
              · exact absurd (Nat.eq_of_beq_eq_true y) z
            have z1 := t2 (by omega)
            rw [z0]
            cases e2 : xop s p with
            | mk b2 p3 =>
              rw [e2] at z1
              cases b2 with
              | true =>
                have g := xop_g e2
                have z2 : r'.1 = bi true := z1.1
                have nz : r'.1 ≠ 0 := by rw [z2]; decide
                refine sf_n (fun _ => ?_) (fun c => absurd c nz)
                rw [ofN1 (k.length + o), show k.length + o + 1 = (s p :: k).length + o from by show k.length + o + 1 = k.length + 1 + o; omega]
                refine sf_mono (ih p3 (s p :: k) true r'.2 F (by omega) (xrg_n h0 hp g.1) (by omega) (DR_P hD2 t3) z1.2 ⟨t6 nz, SH_e hS2 t5⟩ (by show k.length + 1 ≤ m; omega)) (fun q hq => XR_t (MP_t r3 t3) (t4.trans r4) hq)
              | false =>
                have zz : r'.1 = 0 := z1.1
                refine sf_n (fun c => absurd zz c) (fun _ => sf_some ?_)
                show XR (xres s o (false, p3)) v ((0 : Int32), r'.2)
                rw [xres_f]
                exact ⟨rfl, z1.2, MP_t r3 t3, t4.trans r4⟩
    | false =>
      rw [show decide (bi false = 0) = true from by decide]
      refine sf_tt (sf_tt ?_)
      rw [see_t hn h0 hD hA (by omega)]
      show Sf (bif decide (d_Mo_isSign (s p) = 0) then _ else _) _
      rw [xp]
      show Sf _ (XR (xres s o (bif xsgn (s p) then xp s m fx (p + 1) k true else bif k.isEmpty then (true, p) else bif decide (s p = xclo (k.headD 0)) then xp s m fx (p + 1) k.tail false else (false, p))) v)
      cases e : decide (d_Mo_isSign (s p) = 0) with
      | false =>
        have e' : xsgn (s p) = true := by unfold xsgn; rw [e]; rfl
        have hpn : p < n := by
          rcases Nat.lt_or_ge p n with c | c
          · exact c
          · rw [h0 p c] at e'
            exact absurd e' (by decide)
        rw [e', hA']
        exact sf_f (sf_mono (ih (p + 1) k true (pd_w v 198 6 (Int32.ofNat p + (1 : Int32))) F (by omega) (by omega) (by omega) (DR_P hD (MP_6 MP_r)) At_1 (SH_e hS (fun j _ => by rw [pd_w_ne (by decide)])) hk) (fun q hq => XR_t (MP_6 MP_r) (pd_wa (by decide)) hq))
      | true =>
        have e' : xsgn (s p) = false := by unfold xsgn; rw [e]; rfl
        rw [e']
        refine sf_tt ?_
        rw [le0 (show k.length + o ≤ 1000 by omega)]
        cases k with
        | nil =>
          rcases ho with rfl | rfl
          · refine sf_d (fun _ => sf_some ?_) (fun c => absurd (Nat.le_refl 0) c)
            exact ⟨rfl, hA, MP_r, rfl⟩
          · refine sf_d (fun c => absurd c (by show ¬ 0 + 1 ≤ 0; omega)) (fun _ => ?_)
            rw [show Int32.ofNat (([] : List Int32).length + 1) - (1 : Int32) = Int32.ofNat 0 from by decide]
            refine sf_c (by decide) ?_
            rw [show v 219 (Int32.ofNat 0).toNatClampNeg = 93 from hS rfl, tk_t hn h0 hD hA (by omega)]
            refine sf_sb ?_
            show Sf _ (XR (xo s (true, p)) v)
            unfold xo
            show Sf _ (XR (bif decide (s p = 93) then (true, p + 1) else (false, p)) v)
            cases c : decide (s p = 93) with
            | true =>
              refine sf_n (fun _ => ?_) (fun c => absurd (show (1 : Int32) = 0 from c) (by decide))
              refine sf_n (fun c => absurd (by decide) c) (fun _ => ?_)
              refine sf_n (fun c => absurd (by decide) c) (fun _ => ?_)
              exact sf_some (XR_1 rfl)
            | false =>
              refine sf_n (fun c => absurd rfl c) (fun _ => ?_)
              exact sf_some (XR_0 hA rfl)
        | cons c k =>
          refine sf_d (fun c => absurd c (by show ¬ k.length + 1 + o ≤ 0; omega)) (fun _ => ?_)
          have hk2 : k.length + 1 ≤ m := hk
          rw [show (c :: k).length + o = (k.length + o) + 1 from by show k.length + 1 + o = k.length + o + 1; omega, dec_ofNat, ofNm, cl_nat (by omega), hS.1]
          refine sf_c (in_nat (by omega) (by omega)) ?_
          rw [tk_t hn h0 hD hA (by omega)]
          refine sf_sb ?_
          show Sf _ (XR (xres s o (bif decide (s p = xclo c) then xp s m fx (p + 1) k false else (false, p))) v)
          cases z : decide (s p = xclo c) with
          | true =>
            have hpn : p < n := by
              rcases Nat.lt_or_ge p n with y | y
              · exact y
              · have z2 := of_decide_eq_true z
                rw [h0 p y] at z2
                rcases xclo_c c with y2 | y2 <;> (rw [y2] at z2; exact absurd z2 (by decide))
            have go : Sf (d_Mo_isExpression_17 w F (Int32.ofNat o) (Int32.ofNat (k.length + o)) (bi false) (pd_w v 198 6 (Int32.ofNat p + (1 : Int32)))) (XR (xres s o (xp s m fx (p + 1) k false)) v) := sf_mono (ih (p + 1) k false _ F (by omega) (by omega) (by omega) (DR_P hD (MP_6 MP_r)) At_1 (SH_e hS.2 (fun j _ => by rw [pd_w_ne (by decide)])) (by omega)) (fun q hq => XR_t (MP_6 MP_r) (pd_wa (by decide)) hq)
            refine sf_n (fun _ => ?_) (fun y => absurd (show (1 : Int32) = 0 from y) (by decide))
            refine sf_n (fun _ => go) (fun y => ?_)
            refine sf_n (fun _ => go) (fun y2 => ?_)
            exfalso
            have o1 : o = 1 := by
              rcases ho with h | h
              · rw [h] at y
                exact absurd y (by decide)
              · exact h
            have y3 : decide (Int32.ofNat (k.length + o) = (0 : Int32)) = true := decide_eq_true y2
            rw [eq0 (by omega)] at y3
            have := of_decide_eq_true y3
            omega
          | false =>
            refine sf_n (fun y => absurd rfl y) (fun _ => sf_some ?_)
            show XR (xres s o (false, p)) v ((0 : Int32), v)
            rw [xres_f]
            exact ⟨rfl, hA, MP_r, rfl⟩
theorem ie_0 (hw : 4294967296 < w) (hn : n ≤ 160) (h0 : ∀ j, n ≤ j → s j = 0) (hD : DR n s v) (hA : At p v) (hp : p ≤ n) : Sf (d_Mo_isExpression w (0 : Int32) v) (XR (xE s p) v) := by
  unfold d_Mo_isExpression
  refine sf_n (fun _ => ?_) (fun c => absurd c (by decide))
  exact ie_m (o := 0) (m := 4) hw hn h0 (Or.inl rfl) rfl 200 p [] true v w (by omega) hp (by omega) hD hA (fun z => absurd z (by decide)) (by show 0 ≤ 4; omega)
theorem ie_1 (hw : 4294967296 < w) (hn : n ≤ 160) (h0 : ∀ j, n ≤ j → s j = 0) (hD : DR n s v) (hA : At p v) (hp : p ≤ n) : Sf (d_Mo_isExpression w (1 : Int32) v) (XR (xE1 s p) v) := by
  unfold d_Mo_isExpression
  refine sf_n (fun c => absurd rfl c) (fun _ => sf_c (by decide) ?_)
  have e : MP v (pd_w v 219 (0 : Int32).toNatClampNeg (93 : Int32)) := MP_w MP_r (Or.inl rfl)
  refine sf_mono (ie_m (o := 1) (m := 3) hw hn h0 (Or.inr rfl) rfl 200 p [] true _ w (by omega) hp (by omega) (DR_P hD e) (At_w hA (by decide)) (fun _ => pd_w_self) (by show 0 ≤ 3; omega)) (fun q hq => XR_t e (pd_wa (by decide)) hq)
end IE
