/-! a statement on the common way -/
section YUS
variable {s : Nat → Int32} {n m p p' q r c N i j l h : Nat} {W : Int32} {k k' k0 k1 k2 : xK} {inp : Nat → Int32} {D D' : xLD} {U U0 : xUS} {Y : xAS}
theorem zac_n (hh : s p = 79 ∨ s p = 82 ∨ s p = 76) : (zac s n inp l p D).1 = D.1 := by
  unfold zac
  by_cases c1 : s p = 82
  · rw [decide_eq_true c1]
    rfl
  · rw [decide_eq_false c1]
    show (bif decide (s p = 79) then _ else _ : xLD).1 = D.1
    by_cases c2 : s p = 79
    · rw [decide_eq_true c2]
      show ((xw s n (zev inp l D) (p + 1)).elim (ztr p D) (fun x => zpt x D)).1 = D.1
      cases xw s n (zev inp l D) (p + 1) <;> rfl
    · rw [decide_eq_false c2]
      show (bif decide (s p = 76) then _ else _ : xLD).1 = D.1
      have c3 : s p = 76 := by
        rcases hh with t | t | t
        · exact absurd t c2
        · exact absurd t c1
        · exact t
      rw [decide_eq_true c3]
      show ((xw s n (zev inp l D) (p + 2)).elim (ztr p D) (fun i => (xw s n (zev inp l D) ((xp s 3 200 (p + 2) [] true).2 + 2)).elim (ztr p D) (fun x => bif decide (d_Mo_beyond i 0 7 = 0) then zsc i.toNatClampNeg x D else ztr p D))).1 = D.1
      cases xw s n (zev inp l D) (p + 2) with
      | none => rfl
      | some i =>
        show ((xw s n (zev inp l D) ((xp s 3 200 (p + 2) [] true).2 + 2)).elim (ztr p D) (fun x => bif decide (d_Mo_beyond i 0 7 = 0) then zsc i.toNatClampNeg x D else ztr p D)).1 = D.1
        cases xw s n (zev inp l D) ((xp s 3 200 (p + 2) [] true).2 + 2) with
        | none => rfl
        | some x =>
          show (bif decide (d_Mo_beyond i 0 7 = 0) then zsc i.toNatClampNeg x D else ztr p D : xLD).1 = D.1
          cases decide (d_Mo_beyond i 0 7 = 0) <;> rfl
theorem zac_g (hv : xvar (s p) = true) : zac s n inp l p D = (xw s n (zev inp l D) (p + 2)).elim (ztr p D) (fun x => zsv (s p - 97).toNatClampNeg x D) := by
  unfold zac
  rw [decide_eq_false (xvar_x hv 82 (by decide)), decide_eq_false (xvar_x hv 79 (by decide)), decide_eq_false (xvar_x hv 76 (by decide))]
  rfl
theorem zel_1 (hE : xE s (p + 1) = (true, r)) (hc : zb1 s r = c + 1) (hn2 : ¬ (s p = 63 ∧ s (c + 1) = 123)) : zel s p k = (c + 1, k) := by
  have e2 : (decide (s p = 63) && decide (s (c + 1) = 123)) = false := by
    by_cases d1 : s p = 63
    · rw [decide_eq_false (fun z => hn2 ⟨d1, z⟩), Bool.and_false]
    · rw [decide_eq_false d1, Bool.false_and]
  unfold zel
  rw [hE]
  show (bif decide (s p = 63) && decide (s (zb1 s r) = 123) then _ else (zb1 s r, k)) = _
  rw [hc, e2]
  rfl
theorem zel_2 (hE : xE s (p + 1) = (true, r)) (hc : zb1 s r = c + 1) (h1 : s p = 63) (h2 : s (c + 1) = 123) : zel s p k = (c + 2, (p, 2) :: k) := by
  unfold zel
  rw [hE]
  show (bif decide (s p = 63) && decide (s (zb1 s r) = 123) then (zb1 s r + 1, (p, 2) :: k) else _) = _
  rw [hc, decide_eq_true h1, decide_eq_true h2]
  rfl
theorem URI_z (hn : n ≤ 160) (h0 : ∀ j, n ≤ j → s j = 0) (hW : xR s n []) (hF : FXP s W) (hR : xR s p k) (hp : p < n) (h125 : s p ≠ 125) (h88 : s p ≠ 88) (hst : (zls s n inp l (p, k, D)).2.2.2.2.2.2.2 = false) (h : URI s n inp W U0 p k D) : URI s n inp W U0 (zls s n inp l (p, k, D)).1 (zls s n inp l (p, k, D)).2.1 (zls s n inp l (p, k, D)).2.2 := by
  rcases xR_n h0 hW hR with ⟨e, -⟩ | ⟨p', k', ns⟩
  · omega
  obtain ⟨fx1, fx2⟩ := hF p k p' k' hR ns
  obtain ⟨i, hi, hv, hc⟩ := h
  by_cases hs : s p = 63 ∨ s p = 42
  · obtain ⟨r, g1, g2, g3, g4, g5⟩ : ∃ r, xE s (p + 1) = (true, r) ∧ k.length < 4 ∧ s r = 123 ∧ p' = r + 1 ∧ k' = (p, bif decide (s p = 63) then 1 else 0) :: k := by
      rcases xns_c ns with ⟨t, -⟩ | ⟨-, r, g⟩ | ⟨e, -, -, -, -, -, t⟩
      · exact absurd t h125
      · exact ⟨r, g⟩
      · have := XS_h t
        rcases hs with t2 | t2
        · exact absurd t2 this.2.1
        · exact absurd t2 this.2.2
    obtain ⟨c, c1, c2, c3, c4, c5, c6, c7⟩ := zhe_t hn h0 hW hR hs g1 g2 g3
    -- the value
    have hx : ∃ x, xw s n (zev inp l D) (p + 1) = some x ∧ zdc s n inp l p (p + 1) D = (x, D) := by
      cases ho : xw s n (zev inp l D) (p + 1) with
      | some x => exact ⟨x, rfl, by unfold zdc; rw [ho]; rfl⟩
      | none =>
        exfalso
        have ed : zdc s n inp l p (p + 1) D = (0, ztr p D) := by
          unfold zdc
          rw [ho]
          rfl
        by_cases d : s p = 63 ∧ s (c + 1) = 123
        · rw [zls_z2 d.1 g1 c5 d.2 (by rw [ed]), ed] at hst
          exact absurd (show true = false from hst) (by decide)
        · rw [zls_z1 hs g1 c5 d (by rw [ed]), ed] at hst
          exact absurd (show true = false from hst) (by decide)
    obtain ⟨x, hx, ed⟩ := hx
    -- where the lane goes
    have three : (x = 0 ∧ s p = 63 ∧ s (c + 1) = 123 ∧ zls s n inp l (p, k, D) = (c + 2, (p, 2) :: k, D)) ∨ (x = 0 ∧ ¬ (s p = 63 ∧ s (c + 1) = 123) ∧ zls s n inp l (p, k, D) = (c + 1, k, D)) ∨ (x ≠ 0 ∧ zls s n inp l (p, k, D) = (r + 1, (p, bif decide (s p = 63) then 1 else 0) :: k, D)) := by
      by_cases x0 : x = 0
      · by_cases d : s p = 63 ∧ s (c + 1) = 123
        · exact Or.inl ⟨x0, d.1, d.2, by rw [zls_z2 d.1 g1 c5 d.2 (by rw [ed]; exact x0), ed]⟩
        · exact Or.inr (Or.inl ⟨x0, d, by rw [zls_z1 hs g1 c5 d (by rw [ed]; exact x0), ed]⟩)
      · exact Or.inr (Or.inr ⟨x0, by rw [zls_v hs ns (by rw [ed]; exact x0), ed, g4, g5]⟩)
    rcases hc with ⟨d1, d2, d3⟩ | ⟨k1, h, m, k2, d1, d2, d3, d4, d5⟩
    · cases hb : vbl s W p with
      | true =>
        rcases three with ⟨-, t1, t2, ez⟩ | ⟨-, t1, ez⟩ | ⟨-, ez⟩
        · rw [ez]
          exact ⟨i, hi, hv, Or.inr ⟨[], p, 2, k, rfl, hb, d1, d2, d3⟩⟩
        · rw [ez]
          refine URI_s hi (by rw [d2]; exact h88) ?_
          rw [ust_v (by rw [d2]; exact hs) (by rw [d2]; exact hb), d2, d3]
          have eb : zbe s p = c + 1 := by
            have e2 : (decide (s p = 63) && decide (s (c + 1) = 123)) = false := by
              by_cases q1 : s p = 63
              · rw [decide_eq_false (fun z => t1 ⟨q1, z⟩), Bool.and_false]
              · rw [decide_eq_false q1, Bool.false_and]
            unfold zbe
            rw [g1]
            show (bif decide (s p = 63) && decide (s (zb1 s r) = 123) then zb1 s (zb1 s r) else zb1 s r) = _
            rw [c5, e2]
            rfl
          rw [eb]
          exact ⟨hv, Or.inl ⟨d1, rfl, rfl⟩⟩
        · rw [ez]
          exact ⟨i, hi, hv, Or.inr ⟨[], p, _, k, rfl, hb, d1, d2, d3⟩⟩
      | false =>
        have hE2 : xw s n (zue inp (uit s n inp W U0 i).2.2) (p + 1) = some x := by
          rw [← hx]
          have hb' : xdf s (p + 1) (r - (p + 1)) W = false := by
            unfold vbl at hb
            rw [g1] at hb
            exact hb
          exact xw_nv hn h0 (by omega) g1 hb' rfl (fun j hj hz => (hv j hj hz).symm)
        have e1 := ust_h (s := s) (n := n) (inp := inp) (W := W) (U := uit s n inp W U0 i) (x := x) (by rw [d2]; exact hs) (by rw [d2]; exact hb) (by rw [d2]; exact hE2)
        refine URI_s hi (by rw [d2]; exact h88) ?_
        rw [e1, d2, d3]
        rcases three with ⟨x0, t1, t2, ez⟩ | ⟨x0, t1, ez⟩ | ⟨x0, ez⟩
        · rw [ez, decide_eq_true x0, zel_2 g1 c5 t1 t2]
          refine ⟨hv, Or.inl ⟨?_, rfl, rfl⟩⟩
          show (vbl s W p || zun (vbs s W k)) = false
          rw [hb, d1]
          rfl
        · rw [ez, decide_eq_true x0, zel_1 g1 c5 t1]
          exact ⟨hv, Or.inl ⟨d1, rfl, rfl⟩⟩
        · rw [ez, decide_eq_false x0, ns, g4, g5]
          refine ⟨hv, Or.inl ⟨?_, rfl, rfl⟩⟩
          show (vbl s W p || zun (vbs s W k)) = false
          rw [hb, d1]
          rfl
    · rcases three with ⟨-, -, -, ez⟩ | ⟨-, -, ez⟩ | ⟨-, ez⟩
      · rw [ez]
        exact ⟨i, hi, hv, Or.inr ⟨(p, 2) :: k1, h, m, k2, by rw [d1]; rfl, d2, d3, d4, d5⟩⟩
      · rw [ez]
        exact ⟨i, hi, hv, Or.inr ⟨k1, h, m, k2, d1, d2, d3, d4, d5⟩⟩
      · rw [ez]
        exact ⟨i, hi, hv, Or.inr ⟨_ :: k1, h, m, k2, by rw [d1]; rfl, d2, d3, d4, d5⟩⟩
  · have c63 : s p ≠ 63 := fun z => hs (Or.inl z)
    have c42 : s p ≠ 42 := fun z => hs (Or.inr z)
    have ez := zls_s (n := n) (inp := inp) (l := l) (D := D) c63 c42 ns
    rw [ez] at hst ⊢
    have hst : (zac s n inp l p D).2.2.2.2.2 = false := hst
    have ek : k' = k := by
      rcases xns_c ns with ⟨t, -⟩ | ⟨t | t, -⟩ | ⟨e, -, g, -⟩
      · exact absurd t h125
      · exact absurd t c63
      · exact absurd t c42
      · exact g
    subst ek
    have kinds : (s p = 79 ∨ s p = 82 ∨ s p = 76) ∨ (xvar (s p) = true ∧ ∃ e, xE s (p + 2) = (true, e)) := by
      rcases xns_c ns with ⟨t, -⟩ | ⟨t | t, -⟩ | ⟨e, -, -, -, -, -, t⟩
      · exact absurd t h125
      · exact absurd t c63
      · exact absurd t c42
      · rcases t with ⟨t, -⟩ | ⟨t, -⟩ | ⟨t, -⟩ | ⟨t, -⟩ | ⟨t, -, g⟩
        · exact Or.inl (Or.inl t)
        · exact Or.inl (Or.inr (Or.inl t))
        · exact Or.inl (Or.inr (Or.inr t))
        · exact absurd t h88
        · exact Or.inr ⟨t, e, g⟩
    rcases kinds with hk | ⟨hx, e, hE⟩
    · have ev := zac_n (n := n) (inp := inp) (l := l) (D := D) hk
      rcases hc with ⟨d1, d2, d3⟩ | d
      · refine URI_s hi (by rw [d2]; exact h88) ?_
        rw [ust_n (by rw [d2]; exact h125) (by rw [d2]; exact c63) (by rw [d2]; exact c42) ?_, d2, d3, ns]
        · exact ⟨fun j hj hz => by rw [ev]; exact hv j hj hz, Or.inl ⟨d1, rfl, rfl⟩⟩
        · rw [d2]
          have : xvar (s p) = false := by
            rcases hk with t | t | t <;> (rw [t]; decide)
          rw [this]
          rfl
      · exact ⟨i, hi, fun j hj hz => by rw [ev]; exact hv j hj hz, Or.inr d⟩
    · have eg := zac_g (n := n) (inp := inp) (l := l) (D := D) hx
      obtain ⟨x, hw⟩ : ∃ x, xw s n (zev inp l D) (p + 2) = some x := by
        cases ho : xw s n (zev inp l D) (p + 2) with
        | some x => exact ⟨x, rfl⟩
        | none =>
          rw [eg, ho] at hst
          exact absurd (show true = false from hst) (by decide)
      have ez2 : zac s n inp l p D = zsv (s p - 97).toNatClampNeg x D := by
        rw [eg, hw]
        rfl
      rw [ez2]
      have ev : ∀ j, (zsv (s p - 97).toNatClampNeg x D).1 j = (bif Nat.beq j (s p - 97).toNatClampNeg then x else D.1 j) := fun j => rfl
      have stay : zbt W (s p - 97).toNatClampNeg = true → ∀ j, j < 8 → zbt W j = false → (zsv (s p - 97).toNatClampNeg x D).1 j = D.1 j := fun hb j hj hz => by
        rw [ev j, beq_f (fun e => by rw [e, hb] at hz; exact absurd hz (by decide))]
        rfl
      rcases hc with ⟨d1, d2, d3⟩ | d
      · refine URI_s hi (by rw [d2]; exact h88) ?_
        cases hb : zbt W (s p - 97).toNatClampNeg with
        | true =>
          rw [ust_n (by rw [d2]; exact h125) (by rw [d2]; exact c63) (by rw [d2]; exact c42) ?_, d2, d3, ns]
          · exact ⟨fun j hj hz => by rw [stay hb j hj hz]; exact hv j hj hz, Or.inl ⟨d1, rfl, rfl⟩⟩
          · rw [d2, hx, hb]
            rfl
        | false =>
          have hd : xdf s (p + 2) (e - (p + 2)) W = false := by
            cases hd : xdf s (p + 2) (e - (p + 2)) W with
            | false => rfl
            | true =>
              have := fx2 hx (Or.inl (by rw [hE]; exact hd))
              rw [hb] at this
              exact absurd this (by decide)
          have g := xE_g hE
          have hpe : p + 2 ≤ n := by
            have hen : e < n := by
              rcases xns_c ns with ⟨t, -⟩ | ⟨t | t, -⟩ | ⟨e1, -, -, g3, -, -, t⟩
              · exact absurd t h125
              · exact absurd t c63
              · exact absurd t c42
              · rcases t with ⟨t, -⟩ | ⟨t, -⟩ | ⟨t, -⟩ | ⟨t, -⟩ | ⟨-, -, g6⟩
                · exact absurd t (xvar_x hx 79 (by decide))
                · exact absurd t (xvar_x hx 82 (by decide))
                · exact absurd t (xvar_x hx 76 (by decide))
                · exact absurd t h88
                · rw [hE] at g6
                  have ee : e = e1 := congrArg Prod.snd g6
                  rw [ee]
                  exact lt_n h0 g3 (by decide)
            omega
          have hE2 : xw s n (zue inp (uit s n inp W U0 i).2.2) (p + 2) = some x := by
            rw [← hw]
            exact xw_nv hn h0 hpe hE hd rfl (fun j hj hz => (hv j hj hz).symm)
          rw [ust_g (by rw [d2]; exact h125) (by rw [d2]; exact c63) (by rw [d2]; exact c42) (by rw [d2]; exact hx) (by rw [d2]; exact hb) (by rw [d2]; exact hE2), d2, d3, ns]
          refine ⟨fun j hj hz => ?_, Or.inl ⟨d1, rfl, rfl⟩⟩
          rw [ev j]
          show (bif Nat.beq j (s p - 97).toNatClampNeg then x else D.1 j) = (bif Nat.beq j (s p - 97).toNatClampNeg then x else (uit s n inp W U0 i).2.2 j)
          rw [hv j hj hz]
      · have hb : zbt W (s p - 97).toNatClampNeg = true := by
          obtain ⟨k1, h, m, k2, d1, d2, -⟩ := d
          exact fx2 hx (Or.inr (by rw [d1]; exact zun_a k1 d2))
        exact ⟨i, hi, fun j hj hz => by rw [stay hb j hj hz]; exact hv j hj hz, Or.inr d⟩
/-- a lane goes on along it -/
theorem URI_g (hn : n ≤ 160) (h0 : ∀ j, n ≤ j → s j = 0) (hW : xR s n []) (hF : FXP s W) : ∀ (L : Nat) (Y : xAS), xR s Y.1 Y.2.1 → s Y.1 ≠ 125 → URI s n inp W U0 Y.1 Y.2.1 Y.2.2 → (zgl s n inp l L Y).2.2.2.2.2.2.2.2.2 = false → URI s n inp W U0 (zgl s n inp l L Y).2.2.1 (zgl s n inp l L Y).2.2.2.1 (zgl s n inp l L Y).2.2.2.2 := by
  intro L
  induction L with
  | zero => intro Y _ _ h _; exact h
  | succ L ih =>
    intro Y hR h125 h hst
    cases hh : zhl s n Y with
    | true =>
      rw [zgl_h hh]
      exact h
    | false =>
      rw [zgl_s hh] at hst ⊢
      obtain ⟨p, k, D⟩ := Y
      obtain ⟨-, hp, h88⟩ := zhl_f hh
      have hp : p < n := hp
      have zr := zln_R (inp := inp) (l := l) (D := D) hn h0 hW hR hp
      cases hz : (zls s n inp l (p, k, D)).2.2.2.2.2.2.2 with
      | true =>
        exfalso
        have hh2 : zhl s n (zln s n inp l (p, k, D)) = true := by
          show ((zls s n inp l (p, k, D)).2.2.2.2.2.2.2 || _) = true
          rw [hz]
          rfl
        rw [zgl_h hh2] at hst
        have hst : (zls s n inp l (p, k, D)).2.2.2.2.2.2.2 = false := hst
        rw [hz] at hst
        exact absurd hst (by decide)
      | false =>
        refine ih (zln s n inp l (p, k, D)) zr.1 zr.2 ?_ hst
        exact URI_w hn h0 hW 200 _ _ (zls_R hn h0 hW hR hp) (URI_z hn h0 hW hF hR hp h125 h88 hz h)
/-- two that come to an X come to the same -/
theorem URI_x (h0 : ∀ j, n ≤ j → s j = 0) (hW : xR s n []) (hF : FXP s W) (hR : xR s p k) (hp : s p = 88) (h : URI s n inp W U0 p k D) : ∃ i, (∀ i', i' < i → s (uit s n inp W U0 i').1 ≠ 88) ∧ (uit s n inp W U0 i).1 = p ∧ (uit s n inp W U0 i).2.1 = k ∧ zun (vbs s W k) = false ∧ ∀ j, j < 8 → zbt W j = false → D.1 j = (uit s n inp W U0 i).2.2 j := by
  obtain ⟨i, hi, hv, hc⟩ := h
  rcases hc with ⟨d1, d2, d3⟩ | ⟨k1, h, m, k2, d1, d2, -⟩
  · exact ⟨i, hi, d2, d3, d1, hv⟩
  · exfalso
    have hpn := lt_n h0 hp (by decide)
    rcases xR_n h0 hW hR with ⟨e, -⟩ | ⟨p', k', ns⟩
    · omega
    · have := ((hF p k p' k' hR ns).1 hp).2
      rw [d1, zun_a k1 d2] at this
      exact absurd this (by decide)
end YUS
