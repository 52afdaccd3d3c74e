/-! a term, as the class reads it -/
section RTU
variable {s : Nat → Int32} {n m w a i0 p d : Nat} {v u : pd_V} {k : List Int32} {x c : Int32} {E : Int32 → pd_V → Option (Int32 × pd_V)}
theorem XF_M (ha : ker a) (h : RM v u) : XF a i0 v u := by
  have pa : a = 3 ∨ a = 88 := ha
  exact ⟨fun b c _ _ _ => h.1 b c, fun k c _ => h.2 k c, fun k _ => by rw [h.1 a (by omega)], fun j _ => ⟨by rw [h.1 (a + 2) (by omega)], by rw [h.1 (a + 3) (by omega)]⟩⟩
theorem xb_dig {c : Int32} (h : xdig c = true) : xb c = 0 := by
  have r := xdig_r h
  have e1 : (110 : Int32).toInt = 110 := by decide
  have e2 : (76 : Int32).toInt = 76 := by decide
  unfold xb
  rw [xvar_n (by omega), decide_eq_false (show c ≠ 110 from fun q => by rw [q] at r; omega), decide_eq_false (show c ≠ 76 from fun q => by rw [q] at r; omega)]
  rfl
theorem xnm_dig : ∀ (j p : Nat), (∀ b, b < j → xdig (s (p + b)) = true) → xnm s p j = 0 := by
  intro j
  induction j with
  | zero => intro p _; rfl
  | succ j ih =>
    intro p h
    show xb (s p) ||| xnm s (p + 1) j = 0
    have hz : xdig (s p) = true := h 0 (by omega)
    rw [xb_dig hz, ih (p + 1) (fun b hb => by have := h (b + 1) (by omega); rw [show p + (b + 1) = p + 1 + b by omega] at this; exact this)]
    rfl
theorem xb_91 : xb 91 = 0 := by decide
theorem xb_93 : xb 93 = 0 := by decide
theorem xb_41 : xb 41 = 0 := by decide
theorem xb_40 : xb 40 = 0 := by decide
theorem xb_clo : xb (xclo c) = 0 := by
  rcases xclo_c c with h | h <;> (rw [h]; decide)
theorem ker_0 (ha : ker a) (h : kerOf (v 1 3) = a) (e : u 1 3 = v 1 3) : kerOf (u 1 3) = a := by rw [e]; exact h
theorem zrt_t (hw : 4294967296 < w) (hn : n ≤ 160) (h0 : ∀ j, n ≤ j → s j = 0) (ha : ker a) (hd : d ≤ 4) (hE : d < 4 → ∀ (k' : List Int32) (i' p' : Nat) (u : pd_V), k'.length + 4 = d + 1 + m → TP s n m k' a i' p' u → Sf (E (Int32.ofNat (d + 1)) u) (RX s n m k' a i' p' u)) (hk : k.length + 4 = d + m) (hT : TP s n m k a i0 p v) : Sf (d_Re_readTerm w E (Int32.ofNat d) v) (RT s n m k a i0 p v) := by
  have pa : a = 3 ∨ a = 88 := ha
  obtain ⟨t1, t2, t3, t4, t5, t6, t7⟩ := id hT
  have t2' : v 1 2 = Int32.ofNat p := t2
  unfold d_Re_readTerm
  rw [nx_t hn t1 t2 (by omega)]
  refine sf_sb ?_
  by_cases hpn : p < n
  rotate_left
  · have e : xsN s n p = -1 := by unfold xsN; rw [decide_eq_false hpn]; rfl
    have s0 := h0 p (by omega)
    rw [e]
    refine sf_d (fun _ => ?_) (fun c => absurd (by decide) c)
    refine sf_d (fun _ => ?_) (fun c => absurd (by decide) c)
    refine sf_n (fun _ => ?_) (fun c => absurd c (by decide))
    refine sf_d (fun c => absurd c (by decide)) (fun _ => ?_)
    refine sf_d (fun c => absurd c (by decide)) (fun _ => ?_)
    refine sf_d (fun c => absurd c (by decide)) (fun _ => ?_)
    exact sf_some (Or.inl ⟨rfl, p, t3, xq_bad t3 (by rw [s0]; decide) (by rw [s0]; decide) (by rw [s0]; decide) (by rw [s0]; decide) (by rw [s0]; decide), t2, XF_r⟩)
  have e : xsN s n p = s p := by unfold xsN; rw [decide_eq_true hpn]; rfl
  rw [e, isD, isV, t4]
  have i160 : i0 + ([] : List (Int32 × Int32)).length < 160 := by show i0 + 0 < 160; omega
  cases zd : xdig (s p) with
  | true =>
    refine sf_d (fun c => absurd c (by decide)) (fun _ => ?_)
    unfold d_Re_readNumber
    refine sf_bind (rn_m hn h0 ha w 0 p 0 v (by omega) (by omega) t1 t2 t3) (fun q45 h45 => ?_)
    obtain ⟨j, j1, j2, j3, j4, j5, j6, j7⟩ := h45
    have ej := ip_n zd j1 j2 j3
    rw [rn_v zd j1 j2 j3] at j7
    have I0 : IT a i0 [] q45.2 := IT_0 (by rw [j6.1 a (by omega)]; exact t5)
    refine sf_bind (ai_t ha I0 i160) (fun q46 h46 => ?_)
    rw [j7] at h46
    have X45 : XF a i0 v q45.2 := XF_M ha j6
    refine sf_some (RT_one (ev := fun _ => some (xval s p)) (y := 48) (z := xval s p) (hz := fun z => absurd z (by decide)) (q := xnum s p) ha rfl (by unfold xpl; rw [zd]; rfl) hn h0 t3 ?_ (XF_t (Nat.le_refl _) X45 h46.2.1) h46.1 ?_ (fun e => ?_) (fun e st => ?_))
    · show q46 1 2 = _
      rw [h46.2.2, ← ej]
      exact j5
    · show q46 1 6 = _
      rw [h46.2.2, j6.2 6 (by decide), ← ej, show p + j - p = j by omega, xnm_dig j p j2, Int32.or_zero]
    · show some (xval s p) = some (xpv s e p)
      unfold xpv
      rw [zd]
      rfl
    · show some (xval s p :: st) = some (xpv s e p :: st)
      unfold xpv
      rw [zd]
      rfl
  | false =>
    refine sf_d (fun _ => ?_) (fun c => absurd rfl c)
    cases zv : xvar (s p) with
    | true =>
      refine sf_d (fun c => absurd c (by decide)) (fun _ => ?_)
      have hr := xvar_r zv
      have e110 : (110 : Int32).toInt = 110 := by decide
      have n110 : s p ≠ 110 := fun q => by rw [q, e110] at hr; omega
      have X1 : XF a i0 v (pd_w (pd_w v 1 2 ((v 1 2) + (1 : Int32))) 1 6 ((v 1 6) ||| ((1 : Int32) <<< ((s p - (97 : Int32)) &&& 31)))) := XF_1 ha (XF_1 ha XF_r (Or.inl rfl)) (Or.inr rfl)
      have I0 : IT a i0 [] (pd_w (pd_w v 1 2 ((v 1 2) + (1 : Int32))) 1 6 ((v 1 6) ||| ((1 : Int32) <<< ((s p - (97 : Int32)) &&& 31)))) := IT_0 (by rw [pd_w_ne (by omega), pd_w_ne (by omega)]; exact t5)
      refine sf_bind (ai_t ha I0 i160) (fun q44 h44 => ?_)
      refine sf_some (RT_one (ev := fun e => some (e.1 (s p - 97).toNatClampNeg)) (y := 97) (z := s p - 97) (hz := fun _ => vlet zv) (q := p + 1) ha rfl (by unfold xpl; rw [zd, zv, Bool.or_true]; rfl) hn h0 t3 ?_ (XF_t (Nat.le_refl _) X1 h44.2.1) h44.1 ?_ (fun e => ?_) (fun e st => ?_))
      · show q44 1 2 = _
        rw [h44.2.2, pd_w_nk (by decide), pd_w_self, t2', ofN1]
      · show q44 1 6 = _
        rw [h44.2.2, pd_w_self, show p + 1 - p = 1 by omega, xnm_1]
        unfold xb
        rw [zv]
        rfl
      · show some _ = some (xpv s e p)
        unfold xpv
        rw [zd, decide_eq_false n110]
        rfl
      · show some _ = some (xpv s e p :: st)
        unfold xpv
        rw [zd, decide_eq_false n110]
        rfl
    | false =>
      refine sf_d (fun _ => ?_) (fun c => absurd rfl c)
      refine sf_n (fun c40 => ?_) (fun c40 => ?_)
      · refine sf_d (fun c110 => ?_) (fun c110 => ?_)
        · have n73 : s p ≠ 73 := by rw [c110]; decide
          refine sf_n (fun _ => ?_) (fun c => absurd c n73)
          refine sf_d (fun _ => ?_) (fun c => absurd c110 c)
          have X1 : XF a i0 v (pd_w (pd_w v 1 2 ((v 1 2) + (1 : Int32))) 1 6 ((v 1 6) ||| (256 : Int32))) := XF_1 ha (XF_1 ha XF_r (Or.inl rfl)) (Or.inr rfl)
          have I0 : IT a i0 [] (pd_w (pd_w v 1 2 ((v 1 2) + (1 : Int32))) 1 6 ((v 1 6) ||| (256 : Int32))) := IT_0 (by rw [pd_w_ne (by omega), pd_w_ne (by omega)]; exact t5)
          refine sf_bind (ai_t ha I0 i160) (fun q10 h10 => ?_)
          refine sf_some (RT_one (ev := fun e => some e.2.2.2) (y := s p) (z := 0) (hz := fun z => absurd (c110.symm.trans z) (by decide)) (q := p + 1) ha rfl (by unfold xpl; rw [zd, decide_eq_true c110]; rfl) hn h0 t3 ?_ (XF_t (Nat.le_refl _) X1 h10.2.1) h10.1 ?_ (fun e => ?_) (fun e st => ?_))
          · show q10 1 2 = _
            rw [h10.2.2, pd_w_nk (by decide), pd_w_self, t2', ofN1]
          · show q10 1 6 = _
            rw [h10.2.2, pd_w_self, show p + 1 - p = 1 by omega, xnm_1]
            unfold xb
            rw [zv, decide_eq_true c110]
            rfl
          · show some _ = some (xpv s e p)
            unfold xpv
            rw [zd, decide_eq_true c110]
            rfl
          · unfold xpv pf1
            rw [zd, c110]
            rfl
        · have hp2 : (decide (s p = 110) || xvar (s p)) = false := by rw [decide_eq_false c110, zv]; rfl
          have hpl : xpl s p = (false, p) := by unfold xpl; rw [zd, hp2]; rfl
          have brk : ∀ (y : Int32), (s p = 73 ∨ s p = 76) → y = xb (s p) → Sf ((d_Re_readBracket E (91 : Int32) (93 : Int32) (Int32.ofNat d) (pd_w (pd_w v 1 2 ((v 1 2) + (1 : Int32))) 1 6 ((v 1 6) ||| y))).bind fun q16 => bif !(decide (q16.1 = 0)) then (d_Ke_addItem (kerOf (q16.2 1 3)) (s p) (0 : Int32) q16.2).bind fun q18 => some ((1 : Int32), q18) else some ((0 : Int32), q16.2)) (RT s n m k a i0 p v) := by
            intro y hs hy
            have cl93 : (93 : Int32) = xclo (s p) := by unfold xclo; rw [decide_eq_false c40]; rfl
            have or1 : (decide (s p = 73) || decide (s p = 76)) = true := by rcases hs with h | h <;> (rw [h]; decide)
            have p1 : p + 1 ≤ n := by omega
            have X1 : XF a i0 v (pd_w (pd_w v 1 2 ((v 1 2) + (1 : Int32))) 1 6 ((v 1 6) ||| y)) := XF_1 ha (XF_1 ha XF_r (Or.inl rfl)) (Or.inr rfl)
            have T1 : TP s n m k a i0 (p + 1) (pd_w (pd_w v 1 2 ((v 1 2) + (1 : Int32))) 1 6 ((v 1 6) ||| y)) := by
              refine ⟨RD_X ha t1 X1, ?_, p1, ker_X ha t4 X1, by rw [pd_w_ne (by omega), pd_w_ne (by omega)]; exact t5, by omega, t7⟩
              show pd_w (pd_w v 1 2 ((v 1 2) + (1 : Int32))) 1 6 ((v 1 6) ||| y) 1 2 = _
              rw [pd_w_nk (by decide), pd_w_self, t2', ofN1]
            have m6 : pd_w (pd_w v 1 2 ((v 1 2) + (1 : Int32))) 1 6 ((v 1 6) ||| y) 1 6 = v 1 6 ||| y := pd_w_self
            refine sf_bind (zbr_t (c := s p) hn h0 ha hd hE (Or.inr rfl) cl93 hk T1) (fun q16 h16 => ?_)
            rcases h16 with ⟨e1, h16⟩ | ⟨e1, d4, b1, q, it, ev, b2, b3, b4, b5, b6, b7, b8, b9, b10, b11⟩
            · rw [e1]
              refine sf_n (fun c => absurd rfl c) (fun _ => sf_some (Or.inl ⟨rfl, ?_⟩))
              rcases h16 with ⟨h16, e2⟩ | ⟨d4, b1, q, b2, b3, b4, b5⟩
              · rw [e2]
                refine ⟨p + 1, p1, ?_, T1.2.1, X1⟩
                by_cases km : k.length = m
                · rw [xq_of t3 zd hp2 km]
                  unfold xof
                  rw [or1]
                  rfl
                · refine xq_on t3 zd hp2 km ?_
                  have n91 : s (p + 1) ≠ 91 := by
                    rcases h16 with h | h
                    · omega
                    · exact h
                  unfold xop
                  rw [decide_eq_false c40, or1, decide_eq_false n91]
                  rfl
              · refine ⟨q, b2, ?_, b4, XF_t (Nat.le_refl _) X1 b5⟩
                have xo2 : xop s p = (true, p + 2) := by unfold xop; rw [decide_eq_false c40, or1, decide_eq_true b1]; rfl
                rw [xq_op hn h0 t3 zd hp2 (by omega) xo2]
                exact b3
            · rw [e1]
              refine sf_n (fun _ => ?_) (fun c => absurd c (by decide))
              have X16 := XF_t (Nat.le_refl _) X1 b7
              rw [ker_X ha t4 X16]
              refine sf_bind (ai_t ha b8 (by omega)) (fun q18 h18 => ?_)
              have xo2 : xop s p = (true, p + 2) := by unfold xop; rw [decide_eq_false c40, or1, decide_eq_true b1]; rfl
              refine sf_some (Or.inr ⟨rfl, q + 1, it ++ [(s p, 0)], fun e => (ev e).bind (xbk e (s p)), ?_, ⟨by omega, b5, ?_, XF_t (Nat.le_add_right _ _) X16 h18.2.1, h18.1, ?_, ?_⟩, fun e st => ?_, fun e K sum sg => ?_, fun e st B hB => ?_⟩)
              · rw [xq_op hn h0 t3 zd hp2 (by omega) xo2]
                exact b2
              · show q18 1 2 = _
                rw [h18.2.2]
                exact b6
              · rw [List.length_append]
                show it.length + 1 ≤ q + 1 - p
                omega
              · show q18 1 6 = _
                rw [h18.2.2, b10, m6, show q + 1 - p = 1 + (1 + ((q - (p + 2)) + 1)) by omega, xnm_a, xnm_a, xnm_a, xnm_1, xnm_1, show p + 1 + 1 = p + 2 from rfl, show p + 2 + (q - (p + 2)) = q by omega, xnm_1, b1, xb_91, b3, xb_clo, Int32.zero_or, Int32.or_zero, hy, Int32.or_assoc]
              · rw [pfx_a, b11.1]
                show ((ev e).map (fun x => x :: st)).bind (pfx e [(s p, 0)]) = ((ev e).bind (xbk e (s p))).map (fun x => x :: st)
                cases ev e with
                | none => rfl
                | some z =>
                  show (pf1 e (s p, 0) (z :: st)).bind (pfx e []) = (xbk e (s p) z).map (fun x => x :: st)
                  rcases hs with h | h
                  · rw [h]
                    show ((xbk e 73 z).map (fun x => x :: st)).bind (pfx e []) = _
                    cases xbk e 73 z <;> rfl
                  · rw [h]
                    show ((xbk e 76 z).map (fun x => x :: st)).bind (pfx e []) = _
                    cases xbk e 76 z <;> rfl
              · rw [xv_op hn h0 t3 hpl xo2, b11.2.1]
                show _ = ((ev e).bind (xbk e (s p))).bind _
                cases ev e with
                | none => rfl
                | some z =>
                  show xv s n e q ((s p, sum, sg) :: K) z 43 false = (xbk e (s p) z).bind _
                  exact xv_cl hn h0 (by omega) b3
              · refine HB_a it st (b11.2.2 e st B (by show st.length + (m - (k.length + 1)) + 2 ≤ B; omega)) (fun s1 h1 => ?_)
                rw [b11.1] at h1
                cases hev : ev e with
                | none => rw [hev] at h1; exact nomatch h1
                | some z =>
                  rw [hev] at h1
                  have h2 : z :: st = s1 := Option.some.inj h1
                  rw [← h2]
                  refine ⟨fun _ => ⟨hs, fun z => nomatch z⟩, fun z97 => by rcases hs with h | h <;> (rw [h] at z97; exact absurd z97 (by decide)), fun s2 h3 => ?_⟩
                  have h4 : s2.length = st.length + 1 := by
                    rcases hs with h | h
                    · rw [h] at h3
                      have h5 : (xbk e 73 z).map (fun x => x :: st) = some s2 := h3
                      cases hx : xbk e 73 z with
                      | none => rw [hx] at h5; exact nomatch h5
                      | some y => rw [hx] at h5; rw [← Option.some.inj h5]; rfl
                    · rw [h] at h3
                      have h5 : (xbk e 76 z).map (fun x => x :: st) = some s2 := h3
                      cases hx : xbk e 76 z with
                      | none => rw [hx] at h5; exact nomatch h5
                      | some y => rw [hx] at h5; rw [← Option.some.inj h5]; rfl
                  exact ⟨by omega, trivial⟩
          refine sf_d (fun c73 => ?_) (fun c73 => ?_)
          · refine sf_n (fun c => absurd c73 c) (fun _ => ?_)
            refine sf_d (fun c => absurd c c110) (fun _ => ?_)
            exact brk 0 (Or.inl c73) (by rw [c73]; decide)
          · refine sf_d (fun c76 => ?_) (fun c76 => ?_)
            · refine sf_n (fun _ => ?_) (fun c => absurd c c73)
              refine sf_d (fun c => absurd c c110) (fun _ => ?_)
              exact brk 256 (Or.inr c76) (by rw [c76]; decide)
            · exact sf_some (Or.inl ⟨rfl, p, t3, xq_bad t3 zd hp2 c40 c73 c76, t2, XF_r⟩)
      · have hp2 : (decide (s p = 110) || xvar (s p)) = false := by rw [zv, c40]; decide
        have hpl : xpl s p = (false, p) := by unfold xpl; rw [zd, hp2]; rfl
        refine sf_bind (zbr_t (c := 40) hn h0 ha hd hE (Or.inl rfl) (by decide) hk hT) (fun q43 h43 => ?_)
        rcases h43 with ⟨e1, h43⟩ | ⟨e1, d4, b1, q, it, ev, b2, b3, b4, b5, b6, b7, b8, b9, b10, b11⟩
        · refine sf_some (Or.inl ⟨e1, ?_⟩)
          rcases h43 with ⟨h43, e2⟩ | ⟨d4, b1, q, b2, b3, b4, b5⟩
          · have e2 : q43.2 = v := e2
            show RF s n m k a i0 p v q43.2
            rw [e2]
            refine ⟨p, t3, ?_, t2, XF_r⟩
            have km : k.length = m := by
              rcases h43 with h | h
              · omega
              · exact absurd c40 h
            rw [xq_of t3 zd hp2 km]
            unfold xof
            rw [c40]
            rfl
          · refine ⟨q, b2, ?_, b4, b5⟩
            have xo2 : xop s p = (true, p + 1) := by unfold xop; rw [decide_eq_true c40]; rfl
            rw [xq_op hn h0 t3 zd hp2 (by omega) xo2, c40]
            exact b3
        · have xo2 : xop s p = (true, p + 1) := by unfold xop; rw [decide_eq_true c40]; rfl
          refine sf_some (Or.inr ⟨e1, q + 1, it, ev, ?_, ⟨by omega, b5, b6, b7, b8, by omega, ?_⟩, b11.1, fun e K sum sg => ?_, fun e st B hB => b11.2.2 e st B (by show st.length + (m - (k.length + 1)) + 2 ≤ B; omega)⟩)
          · rw [xq_op hn h0 t3 zd hp2 (by omega) xo2, c40]
            exact b2
          · show q43.2 1 6 = _
            rw [b10, show q + 1 - p = 1 + ((q - (p + 1)) + 1) by omega, xnm_a, xnm_a, xnm_1, xnm_1, c40, xb_40, show p + 1 + (q - (p + 1)) = q by omega, b3, xb_clo, Int32.zero_or, Int32.or_zero]
          · rw [xv_op hn h0 t3 hpl xo2, b11.2.1]
            cases ev e with
            | none => rfl
            | some z =>
              show xv s n e q ((s p, sum, sg) :: K) z 43 false = _
              rw [c40]
              exact xv_cl hn h0 (by omega) b3
end RTU
