/-! the reference reads a statement and a text -/
section IT
variable {s : Nat → Int32} {n m w : Nat} {v u q : pd_V} {p : Nat} {x : Int32}
theorem xp_b (h0 : ∀ j, n ≤ j → s j = 0) : ∀ (f p : Nat) (k : List Int32) (t : Bool), p ≤ n → (xp s m f p k t).2 ≤ n := by
  intro f
  induction f with
  | zero => intro p k t h; exact h
  | succ f ih =>
    intro p k t hp
    cases t with
    | true =>
      cases e : xpl s p with
      | mk b p2 =>
        cases b with
        | true =>
          rw [xp_pl e]
          exact ih _ _ _ (xrg_n h0 hp (xpl_g e).1)
        | false =>
          obtain ⟨d1, d2, d3⟩ := xpl_f e rfl
          rw [xp_op d1 d2]
          cases Nat.beq k.length m with
          | true =>
            show xof s p ≤ n
            unfold xof
            cases c : decide (s p = 73) || decide (s p = 76) with
            | false => exact hp
            | true =>
              show p + 1 ≤ n
              have o : xok (s p) := by
                rcases or_c c with c | c
                · exact eq_ok c (by unfold xok; decide)
                · exact eq_ok c (by unfold xok; decide)
              exact xrg_n h0 hp (xrg_1 o)
          | false =>
            cases e2 : xop s p with
            | mk b2 p3 =>
              cases b2 with
              | true => exact ih _ _ _ (xrg_n h0 hp (xop_g e2).1)
              | false =>
                show p3 ≤ n
                unfold xop at e2
                rcases pd_cases e2 with ⟨c, e2⟩ | ⟨c, e2⟩
                · exact nomatch (show true = false from congrArg Prod.fst e2)
                · rcases pd_cases e2 with ⟨c, e2⟩ | ⟨c, e2⟩
                  · rcases pd_cases e2 with ⟨c2, e2⟩ | ⟨c2, e2⟩
                    · exact nomatch (show true = false from congrArg Prod.fst e2)
                    · have e3 : p + 1 = p3 := congrArg Prod.snd e2
                      subst e3
                      have o : xok (s p) := by
                        rcases or_c c with c | c
                        · exact eq_ok c (by unfold xok; decide)
                        · exact eq_ok c (by unfold xok; decide)
                      exact xrg_n h0 hp (xrg_1 o)
                  · have e3 : p = p3 := congrArg Prod.snd e2
                    subst e3
                    exact hp
    | false =>
      rw [xp]
      show (bif xsgn (s p) then xp s m f (p + 1) k true else bif k.isEmpty then (true, p) else bif decide (s p = xclo (k.headD 0)) then xp s m f (p + 1) k.tail false else (false, p)).2 ≤ n
      cases e : xsgn (s p) with
      | true => exact ih _ _ _ (xrg_n h0 hp (xrg_1 (xsgn_ok e)))
      | false =>
        cases k with
        | nil => exact hp
        | cons c k =>
          show (bif decide (s p = xclo c) then xp s m f (p + 1) k false else (false, p)).2 ≤ n
          cases z : decide (s p = xclo c) with
          | true => exact ih _ _ _ (xrg_n h0 hp (xrg_1 (xclo_ok (of_decide_eq_true z))))
          | false => exact hp
theorem xE_b (h0 : ∀ j, n ≤ j → s j = 0) (hp : p ≤ n) : (xE s p).2 ≤ n := xp_b h0 _ _ _ _ hp
theorem xE1_b (h0 : ∀ j, n ≤ j → s j = 0) (hp : p ≤ n) : (xE1 s p).2 ≤ n := by
  have h := xp_b (s := s) (m := 3) h0 200 p [] true hp
  unfold xE1 xo
  cases c : (xp s 3 200 p [] true).1 with
  | false => exact h
  | true =>
    cases c2 : decide (s (xp s 3 200 p [] true).2 = 93) with
    | false => exact h
    | true => exact xrg_n h0 h (xrg_1 (eq_ok c2 (by unfold xok; decide)))
theorem s4_t {b : Bool} {r : Nat} (hn : n ≤ 160) (h0 : ∀ j, n ≤ j → s j = 0) (hD : DR n s v) (hA : At r v) (hr : r ≤ n) : Sf (d_Mo_isSimple_154 w (bi b) v) (XR (xfin s (b, r)) v) := by
  unfold d_Mo_isSimple_154 d_Mo_isSimple_171
  cases b with
  | false => exact sf_d (fun _ => sf_some ⟨rfl, hA, MP_r, rfl⟩) (fun c => absurd rfl c)
  | true =>
    refine sf_d (fun c => absurd (show (1 : Int32) = 0 from c) (by decide)) (fun _ => ?_)
    rw [tk_t hn h0 hD hA (by omega)]
    refine sf_sb ?_
    show Sf _ (XR (bif decide (s r = 59) then (true, r + 1) else (false, r)) v)
    cases decide (s r = 59) with
    | true => exact sf_d (fun c => absurd (show (1 : Int32) = 0 from c) (by decide)) (fun _ => sf_some (XR_1 rfl))
    | false => exact sf_d (fun _ => sf_some (XR_0 hA rfl)) (fun c => absurd rfl c)
theorem s4_0 {r : Nat} (hA : At r v) : Sf (d_Mo_isSimple_154 w (0 : Int32) v) (XR (false, r) v) := by
  unfold d_Mo_isSimple_154 d_Mo_isSimple_171
  exact sf_d (fun _ => sf_some ⟨rfl, hA, MP_r, rfl⟩) (fun c => absurd rfl c)
/-- an expression and its semicolon -/
theorem es_t {b : Bool} (hw : 4294967296 < w) (hn : n ≤ 160) (h0 : ∀ j, n ≤ j → s j = 0) (hD : DR n s v) (hA : At p v) (hp : p ≤ n) : Sf ((d_Mo_isExpression w (0 : Int32) v).bind fun q => bif decide (q.1 = 0) then d_Mo_isSimple_154 w (0 : Int32) q.2 else d_Mo_isSimple_154 w (1 : Int32) q.2) (XR (xfin s (xE s p)) v) := by
  refine sf_bind (ie_0 hw hn h0 hD hA hp) (fun r hr => ?_)
  obtain ⟨r1, r2, r3, r4⟩ := hr
  have hb := xE_b (s := s) h0 hp
  cases e : xE s p with
  | mk b r0 =>
    rw [e] at r1 r2 hb
    have r1 : r.1 = bi b := r1
    rw [r1]
    cases b with
    | false =>
      refine sf_d (fun _ => ?_) (fun c => absurd rfl c)
      exact sf_mono (s4_0 r2) (fun q hq => XR_t r3 r4 hq)
    | true =>
      refine sf_d (fun c => absurd (show (1 : Int32) = 0 from c) (by decide)) (fun _ => ?_)
      exact sf_mono (s4_t (b := true) hn h0 (DR_P hD r3) r2 hb) (fun q hq => XR_t r3 r4 hq)
theorem lt_x {c : Int32} (h0 : ∀ j, n ≤ j → s j = 0) (hp : p ≤ n) (h : decide (s p = c) = true) (hc : c ≠ 0) : p + 1 ≤ n := by
  have := lt_n h0 (of_decide_eq_true h) hc
  omega
theorem lt_v (h0 : ∀ j, n ≤ j → s j = 0) (hp : p ≤ n) (h : xvar (s p) = true) : p + 1 ≤ n := xrg_n h0 hp (xrg_1 (xvar_ok h))
theorem im_t (hw : 4294967296 < w) (hn : n ≤ 160) (h0 : ∀ j, n ≤ j → s j = 0) (hD : DR n s v) (hA : At p v) (hp : p ≤ n) : Sf (d_Mo_isSimple w v) (XR (xst s p) v) := by
  have m6 : ∀ (u : pd_V) (y : Int32), MP v u → MP v (pd_w u 198 6 y) := fun u y h => MP_6 h
  have k6 : ∀ (u : pd_V) (y : Int32), u 212 = v 212 → pd_w u 198 6 y 212 = v 212 := fun u y h => (pd_wa (by decide)).trans h
  have M1 : MP v (pd_w v 198 6 (Int32.ofNat p + (1 : Int32))) := MP_6 MP_r
  have E1 : pd_w v 198 6 (Int32.ofNat p + (1 : Int32)) 212 = v 212 := pd_wa (by decide)
  have D1 := DR_P hD M1
  unfold d_Mo_isSimple d_Mo_isSimple_152 d_Mo_isSimple_119 d_Mo_isSimple_79 xst
  rw [tk_t hn h0 hD hA (by omega)]
  refine sf_sb ?_
  cases c79 : decide (s p = 79) with
  | true =>
    refine sf_d (fun c => absurd (show (1 : Int32) = 0 from c) (by decide)) (fun _ => ?_)
    refine sf_bind (ie_0 hw hn h0 D1 At_1 (lt_x h0 hp c79 (by decide))) (fun r hr => ?_)
    obtain ⟨r1, r2, r3, r4⟩ := hr
    rw [r1]
    exact sf_mono (s4_t hn h0 (DR_P D1 r3) r2 (xE_b h0 (lt_x h0 hp c79 (by decide)))) (fun q hq => XR_t (MP_t M1 r3) (r4.trans E1) hq)
  | false =>
    refine sf_d (fun _ => ?_) (fun c => absurd rfl c)
    show Sf ((d_Mo_takes (82 : Int32) v).bind _) _
    rw [tk_t hn h0 hD hA (by omega)]
    refine sf_sb ?_
    cases c82 : decide (s p = 82) with
    | true =>
      refine sf_d (fun c => absurd (show (1 : Int32) = 0 from c) (by decide)) (fun _ => ?_)
      exact sf_mono (s4_t (b := true) hn h0 D1 At_1 (lt_x h0 hp c82 (by decide))) (fun q hq => XR_t M1 E1 hq)
    | false =>
      refine sf_d (fun _ => ?_) (fun c => absurd rfl c)
      show Sf ((d_Mo_takes (76 : Int32) v).bind _) _
      rw [tk_t hn h0 hD hA (by omega)]
      refine sf_sb ?_
      cases c76 : decide (s p = 76) with
      | true =>
        have p1 := lt_x h0 hp c76 (by decide)
        refine sf_d (fun c => absurd (show (1 : Int32) = 0 from c) (by decide)) (fun _ => ?_)
        show Sf ((d_Mo_takes (91 : Int32) (pd_w v 198 6 (Int32.ofNat p + (1 : Int32)))).bind _) (XR (bif decide (s (p + 1) = 91) then (bif (xE1 s (p + 2)).1 then (bif decide (s (xE1 s (p + 2)).2 = 61) then xfin s (xE s ((xE1 s (p + 2)).2 + 1)) else (false, (xE1 s (p + 2)).2)) else xE1 s (p + 2)) else (false, p + 1)) v)
        rw [tk_t hn h0 D1 At_1 (by omega)]
        refine sf_sb ?_
        cases c91 : decide (s (p + 1) = 91) with
        | false =>
          refine sf_d (fun _ => ?_) (fun c => absurd rfl c)
          exact sf_mono (s4_0 At_1) (fun q hq => XR_t M1 E1 hq)
        | true =>
          have p2 := lt_x h0 p1 c91 (by decide)
          refine sf_d (fun c => absurd (show (1 : Int32) = 0 from c) (by decide)) (fun _ => ?_)
          have M2 := MP_6 (x := Int32.ofNat (p + 1) + (1 : Int32)) M1
          have E2 := k6 _ (Int32.ofNat (p + 1) + (1 : Int32)) E1
          have D2 := DR_P hD M2
          refine sf_bind (ie_1 hw hn h0 D2 At_1 p2) (fun r hr => ?_)
          obtain ⟨r1, r2, r3, r4⟩ := hr
          have hb := xE1_b (s := s) h0 p2
          rw [show p + 1 + 1 = p + 2 from rfl] at r1 r2 hb
          cases e : xE1 s (p + 2) with
          | mk b r0 =>
            rw [e] at r1 r2 hb
            have r1 : r.1 = bi b := r1
            rw [r1]
            have D3 := DR_P D2 r3
            cases b with
            | false =>
              refine sf_d (fun _ => ?_) (fun c => absurd rfl c)
              exact sf_mono (s4_0 r2) (fun q hq => XR_t (MP_t M2 r3) (r4.trans E2) hq)
            | true =>
              refine sf_d (fun c => absurd (show (1 : Int32) = 0 from c) (by decide)) (fun _ => ?_)
              rw [tk_t hn h0 D3 r2 (by have : r0 ≤ n := hb; show r0 ≤ 900; omega)]
              refine sf_sb ?_
              show Sf _ (XR (bif decide (s r0 = 61) then xfin s (xE s (r0 + 1)) else (false, r0)) v)
              cases c61 : decide (s r0 = 61) with
              | false =>
                refine sf_d (fun _ => ?_) (fun c => absurd rfl c)
                exact sf_mono (s4_0 r2) (fun q hq => XR_t (MP_t M2 r3) (r4.trans E2) hq)
              | true =>
                refine sf_d (fun c => absurd (show (1 : Int32) = 0 from c) (by decide)) (fun _ => ?_)
                exact sf_mono (es_t (b := true) hw hn h0 (DR_P D3 (MP_6 MP_r)) At_1 (lt_x h0 hb c61 (by decide))) (fun q hq => XR_t (MP_6 (MP_t M2 r3)) (k6 _ _ (r4.trans E2)) hq)
      | false =>
        refine sf_d (fun _ => ?_) (fun c => absurd rfl c)
        show Sf ((d_Mo_takes (88 : Int32) v).bind _) _
        rw [tk_t hn h0 hD hA (by omega)]
        refine sf_sb ?_
        cases c88 : decide (s p = 88) with
        | true =>
          have p1 := lt_x h0 hp c88 (by decide)
          refine sf_d (fun c => absurd (show (1 : Int32) = 0 from c) (by decide)) (fun _ => ?_)
          show Sf ((d_Mo_takesVariable (pd_w v 198 6 (Int32.ofNat p + (1 : Int32)))).bind _) (XR (bif xvar (s (p + 1)) then (bif xvar (s (p + 2)) then xfin s (xE s (p + 3)) else (false, p + 2)) else (false, p + 1)) v)
          rw [tv_t hn h0 D1 At_1 (by omega)]
          refine sf_sb ?_
          cases v1 : xvar (s (p + 1)) with
          | false =>
            refine sf_d (fun _ => ?_) (fun c => absurd rfl c)
            exact sf_mono (s4_0 At_1) (fun q hq => XR_t M1 E1 hq)
          | true =>
            have p2 := lt_v h0 p1 v1
            refine sf_d (fun c => absurd (show (1 : Int32) = 0 from c) (by decide)) (fun _ => ?_)
            have M2 := MP_6 (x := Int32.ofNat (p + 1) + (1 : Int32)) M1
            have E2 := k6 _ (Int32.ofNat (p + 1) + (1 : Int32)) E1
            have D2 := DR_P hD M2
            have A2 : At (p + 2) (pd_w (pd_w v 198 6 (Int32.ofNat p + (1 : Int32))) 198 6 (Int32.ofNat (p + 1) + (1 : Int32))) := At_1
            show Sf ((d_Mo_takesVariable (pd_w (pd_w v 198 6 (Int32.ofNat p + (1 : Int32))) 198 6 (Int32.ofNat (p + 1) + (1 : Int32)))).bind _) (XR (bif xvar (s (p + 2)) then xfin s (xE s (p + 3)) else (false, p + 2)) v)
            rw [tv_t hn h0 D2 A2 (by omega)]
            refine sf_sb ?_
            cases v2 : xvar (s (p + 2)) with
            | false =>
              refine sf_d (fun _ => ?_) (fun c => absurd rfl c)
              exact sf_mono (s4_0 A2) (fun q hq => XR_t M2 E2 hq)
            | true =>
              refine sf_d (fun c => absurd (show (1 : Int32) = 0 from c) (by decide)) (fun _ => ?_)
              exact sf_mono (es_t (b := true) hw hn h0 (DR_P D2 (MP_6 MP_r)) At_1 (lt_v h0 p2 v2)) (fun q hq => XR_t (MP_6 M2) (k6 _ _ E2) hq)
        | false =>
          refine sf_d (fun _ => ?_) (fun c => absurd rfl c)
          show Sf ((d_Mo_takesVariable v).bind _) (XR (bif xvar (s p) then (bif decide (s (p + 1) = 61) then xfin s (xE s (p + 2)) else (false, p + 1)) else (false, p)) v)
          rw [tv_t hn h0 hD hA (by omega)]
          refine sf_sb ?_
          cases v1 : xvar (s p) with
          | false =>
            refine sf_d (fun _ => ?_) (fun c => absurd rfl c)
            exact s4_0 hA
          | true =>
            have p1 := lt_v h0 hp v1
            refine sf_d (fun c => absurd (show (1 : Int32) = 0 from c) (by decide)) (fun _ => ?_)
            show Sf ((d_Mo_takes (61 : Int32) (pd_w v 198 6 (Int32.ofNat p + (1 : Int32)))).bind _) (XR (bif decide (s (p + 1) = 61) then xfin s (xE s (p + 2)) else (false, p + 1)) v)
            rw [tk_t hn h0 D1 At_1 (by omega)]
            refine sf_sb ?_
            cases c61 : decide (s (p + 1) = 61) with
            | false =>
              refine sf_d (fun _ => ?_) (fun c => absurd rfl c)
              exact sf_mono (s4_0 At_1) (fun q hq => XR_t M1 E1 hq)
            | true =>
              refine sf_d (fun c => absurd (show (1 : Int32) = 0 from c) (by decide)) (fun _ => ?_)
              exact sf_mono (es_t (b := true) hw hn h0 (DR_P D1 (MP_6 MP_r)) At_1 (lt_x h0 p1 c61 (by decide))) (fun q hq => XR_t (MP_6 M1) (k6 _ _ E1) hq)
end IT
