section FN
variable {xs : Nat → Int32} {L : Nat} {g : Nat → Int64} {d kc ks : Nat}
theorem pp_Mo_isExpression {xs : Nat → Int32} {L : Nat} : (pj_P xs L 108).1 = fun S => pm_look tb_Mo_isExpression S.1 S := rfl
def d_Mo_isExpression_17 (w : Nat) (f : Nat) (l1 : Int32) (l2 : Int32) (l3 : Int32) (v : pd_V) : Option (Int32 × pd_V) := match f with
  | 0 => none
  | f + 1 =>
    bif decide (l3 = 0) then
      bif decide (l3 = 0) then
        (d_Mo_see v).bind fun q3 =>
        bif decide ((d_Mo_isSign q3) = 0) then
          bif decide (l2 ≤ 0) then
            some ((1 : Int32), v)
          else
            bif pm_in (l2 - (1 : Int32)) 6 then
            (d_Mo_takes (v 219 ((l2 - (1 : Int32)).toNatClampNeg)) v).bind fun q8 =>
            bif !(decide (q8.1 = 0)) then
              bif !(decide (l1 = (1 : Int32))) then
                d_Mo_isExpression_17 w f l1 (l2 + (-1 : Int32)) l3 q8.2
              else
                bif !(decide ((l2 + (-1 : Int32)) = 0)) then
                  d_Mo_isExpression_17 w f l1 (l2 + (-1 : Int32)) l3 q8.2
                else
                  some ((1 : Int32), q8.2)
            else
              some ((0 : Int32), q8.2)
            else none
        else
          d_Mo_isExpression_17 w f l1 l2 (1 : Int32) (pd_w v 198 6 ((v 198 6) + (1 : Int32)))
      else
        (d_Mo_opens l2 v).bind fun q12 =>
        bif !(decide (q12.1 = 0)) then
          d_Mo_isExpression_17 w f l1 (l2 + (1 : Int32)) l3 q12.2
        else
          some ((0 : Int32), q12.2)
    else
      (d_Mo_isPlain w v).bind fun q14 =>
      bif decide (q14.1 = 0) then
        bif decide (l3 = 0) then
          (d_Mo_see q14.2).bind fun q17 =>
          bif decide ((d_Mo_isSign q17) = 0) then
            bif decide (l2 ≤ 0) then
              some ((1 : Int32), q14.2)
            else
              bif pm_in (l2 - (1 : Int32)) 6 then
              (d_Mo_takes (q14.2 219 ((l2 - (1 : Int32)).toNatClampNeg)) q14.2).bind fun q22 =>
              bif !(decide (q22.1 = 0)) then
                bif !(decide (l1 = (1 : Int32))) then
                  d_Mo_isExpression_17 w f l1 (l2 + (-1 : Int32)) l3 q22.2
                else
                  bif !(decide ((l2 + (-1 : Int32)) = 0)) then
                    d_Mo_isExpression_17 w f l1 (l2 + (-1 : Int32)) l3 q22.2
                  else
                    some ((1 : Int32), q22.2)
              else
                some ((0 : Int32), q22.2)
              else none
          else
            d_Mo_isExpression_17 w f l1 l2 (1 : Int32) (pd_w q14.2 198 6 ((q14.2 198 6) + (1 : Int32)))
        else
          (d_Mo_opens l2 q14.2).bind fun q26 =>
          bif !(decide (q26.1 = 0)) then
            d_Mo_isExpression_17 w f l1 (l2 + (1 : Int32)) l3 q26.2
          else
            some ((0 : Int32), q26.2)
      else
        d_Mo_isExpression_17 w f l1 l2 (0 : Int32) q14.2
theorem s_Mo_isExpression_17 {w : Nat} : ∀ (f : Nat) (l1 : Int32) (l2 : Int32) (l3 : Int32) (v : pd_V)  (q : (Int32 × pd_V)) , d_Mo_isExpression_17 w f l1 l2 l3 v = some q → pm_ev (pj_P xs L) (d + 3) 108 (17, [some (.ref 198), some (.int l1), some (.int l2), some (.int l3)], [], (223, kc, ks, pd_H g v)) (.inl (some (.int q.1)), (223, kc, ks, pd_H g q.2)) := by
  intro f
  induction f with
  | zero => intro l1 l2 l3 v q h; exact nomatch (show (none : Option (Int32 × pd_V)) = some q from h)
  | succ f ih =>
    intro l1 l2 l3 v q h
    rw [d_Mo_isExpression_17] at h
    refine ev_gos pp_Mo_isExpression 1 (S' := (18, [some (.ref 198), some (.int l1), some (.int l2), some (.int l3)], [.int l3], (223, kc, ks, pd_H g v))) rfl ?_
    refine ev_gos pp_Mo_isExpression 1 (S' := (bif decide (l3 = 0) then 33 else 21, [some (.ref 198), some (.int l1), some (.int l2), some (.int l3)], [], (223, kc, ks, pd_H g v))) rfl ?_
    rcases pd_cases h with ⟨hb1, h⟩ | ⟨hb1, h⟩
    · rw [hb1]
      refine ev_gos pp_Mo_isExpression 1 (S' := (34, [some (.ref 198), some (.int l1), some (.int l2), some (.int l3)], [.int l3], (223, kc, ks, pd_H g v))) rfl ?_
      refine ev_gos pp_Mo_isExpression 1 (S' := (bif decide (l3 = 0) then 53 else 37, [some (.ref 198), some (.int l1), some (.int l2), some (.int l3)], [], (223, kc, ks, pd_H g v))) rfl ?_
      rcases pd_cases h with ⟨hb2, h⟩ | ⟨hb2, h⟩
      · rw [hb2]
        refine ev_gos pp_Mo_isExpression 1 (S' := (54, [some (.ref 198), some (.int l1), some (.int l2), some (.int l3)], [.ref 198], (223, kc, ks, pd_H g v))) rfl ?_
        obtain ⟨q3, hq3, h⟩ := pd_bind h
        refine ev_callv pp_Mo_isExpression rfl rfl rfl rfl (s_Mo_see hq3) ?_
        refine ev_gos pp_Mo_isExpression 0 (S' := (57, [some (.ref 198), some (.int l1), some (.int l2), some (.int l3)], [.int q3], (223, kc, ks, pd_H g v))) rfl ?_
        refine ev_call pp_Mo_isExpression rfl rfl rfl (s_Mo_isSign) ?_
        refine ev_gos pp_Mo_isExpression 0 (S' := (60, [some (.ref 198), some (.int l1), some (.int l2), some (.int l3)], [.int (d_Mo_isSign q3)], (223, kc, ks, pd_H g v))) rfl ?_
        refine ev_gos pp_Mo_isExpression 1 (S' := (bif decide ((d_Mo_isSign q3) = 0) then 78 else 63, [some (.ref 198), some (.int l1), some (.int l2), some (.int l3)], [], (223, kc, ks, pd_H g v))) rfl ?_
        rcases pd_cases h with ⟨hb5, h⟩ | ⟨hb5, h⟩
        · rw [hb5]
          refine ev_gos pp_Mo_isExpression 1 (S' := (79, [some (.ref 198), some (.int l1), some (.int l2), some (.int l3)], [.int l2], (223, kc, ks, pd_H g v))) rfl ?_
          refine ev_gos pp_Mo_isExpression 1 (S' := (bif decide (l2 ≤ 0) then 113 else 82, [some (.ref 198), some (.int l1), some (.int l2), some (.int l3)], [], (223, kc, ks, pd_H g v))) rfl ?_
          rcases pd_cases h with ⟨hb6, h⟩ | ⟨hb6, h⟩
          · rw [hb6]
            refine ev_gos pp_Mo_isExpression 1 (S' := (114, [some (.ref 198), some (.int l1), some (.int l2), some (.int l3)], [.int (1 : Int32)], (223, kc, ks, pd_H g v))) rfl ?_
            cases h
            exact ev_zret pp_Mo_isExpression rfl pd_b1
          · rw [hb6]
            refine ev_gos pp_Mo_isExpression 6 (S' := (90, [some (.ref 198), some (.int l1), some (.int l2), some (.int l3)], [.int (l2 - (1 : Int32)), .ref 219, .ref 198], (223, kc, ks, pd_H g v))) rfl ?_
            obtain ⟨hc7, h⟩ := pd_chk h
            refine ev_iald pp_Mo_isExpression rfl (fun _ => rfl) hc7 ?_
            refine ev_gos pp_Mo_isExpression 0 (S' := (91, [some (.ref 198), some (.int l1), some (.int l2), some (.int l3)], [.int (v 219 ((l2 - (1 : Int32)).toNatClampNeg)), .ref 198], (223, kc, ks, pd_H g v))) rfl ?_
            obtain ⟨q8, hq8, h⟩ := pd_bind h
            refine ev_callv pp_Mo_isExpression rfl rfl rfl rfl (s_Mo_takes hq8) ?_
            refine ev_gos pp_Mo_isExpression 0 (S' := (94, [some (.ref 198), some (.int l1), some (.int l2), some (.int l3)], [.int q8.1], (223, kc, ks, pd_H g q8.2))) rfl ?_
            refine ev_gos pp_Mo_isExpression 1 (S' := (bif !(decide (q8.1 = 0)) then 99 else 97, [some (.ref 198), some (.int l1), some (.int l2), some (.int l3)], [], (223, kc, ks, pd_H g q8.2))) rfl ?_
            rcases pd_cases h with ⟨hb9, h⟩ | ⟨hb9, h⟩
            · rw [hb9]
              refine ev_gos pp_Mo_isExpression 3 (S' := (104, [some (.ref 198), some (.int l1), some (.int (l2 + (-1 : Int32))), some (.int l3)], [.int (1 : Int32), .int l1], (223, kc, ks, pd_H g q8.2))) rfl ?_
              refine ev_gos pp_Mo_isExpression 1 (S' := (bif !(decide (l1 = (1 : Int32))) then 17 else 107, [some (.ref 198), some (.int l1), some (.int (l2 + (-1 : Int32))), some (.int l3)], [], (223, kc, ks, pd_H g q8.2))) rfl ?_
              rcases pd_cases h with ⟨hb10, h⟩ | ⟨hb10, h⟩
              · rw [hb10]
                refine ev_gos pp_Mo_isExpression 0 (S' := (17, [some (.ref 198), some (.int l1), some (.int (l2 + (-1 : Int32))), some (.int l3)], [], (223, kc, ks, pd_H g q8.2))) rfl ?_
                exact ih _ _ _ _ _  h
              · rw [hb10]
                refine ev_gos pp_Mo_isExpression 1 (S' := (108, [some (.ref 198), some (.int l1), some (.int (l2 + (-1 : Int32))), some (.int l3)], [.int (l2 + (-1 : Int32))], (223, kc, ks, pd_H g q8.2))) rfl ?_
                refine ev_gos pp_Mo_isExpression 1 (S' := (bif !(decide ((l2 + (-1 : Int32)) = 0)) then 17 else 111, [some (.ref 198), some (.int l1), some (.int (l2 + (-1 : Int32))), some (.int l3)], [], (223, kc, ks, pd_H g q8.2))) rfl ?_
                rcases pd_cases h with ⟨hb11, h⟩ | ⟨hb11, h⟩
                · rw [hb11]
                  refine ev_gos pp_Mo_isExpression 0 (S' := (17, [some (.ref 198), some (.int l1), some (.int (l2 + (-1 : Int32))), some (.int l3)], [], (223, kc, ks, pd_H g q8.2))) rfl ?_
                  exact ih _ _ _ _ _  h
                · rw [hb11]
                  refine ev_gos pp_Mo_isExpression 1 (S' := (112, [some (.ref 198), some (.int l1), some (.int (l2 + (-1 : Int32))), some (.int l3)], [.int (1 : Int32)], (223, kc, ks, pd_H g q8.2))) rfl ?_
                  cases h
                  exact ev_zret pp_Mo_isExpression rfl pd_b1
            · rw [hb9]
              refine ev_gos pp_Mo_isExpression 1 (S' := (98, [some (.ref 198), some (.int l1), some (.int l2), some (.int l3)], [.int (0 : Int32)], (223, kc, ks, pd_H g q8.2))) rfl ?_
              cases h
              exact ev_zret pp_Mo_isExpression rfl pd_b0
        · rw [hb5]
          refine ev_gos pp_Mo_isExpression 5 (S' := (70, [some (.ref 198), some (.int l1), some (.int l2), some (.int l3)], [.int ((v 198 6) + (1 : Int32)), .ref 198], (223, kc, ks, pd_H g v))) rfl ?_
          refine ev_put pp_Mo_isExpression rfl (fun _ => rfl) rfl rfl rfl ?_
          refine ev_gos pp_Mo_isExpression 3 (S' := (17, [some (.ref 198), some (.int l1), some (.int l2), some (.int (1 : Int32))], [], (223, kc, ks, pd_H g (pd_w v 198 6 ((v 198 6) + (1 : Int32)))))) rfl ?_
          exact ih _ _ _ _ _  h
      · rw [hb2]
        refine ev_gos pp_Mo_isExpression 2 (S' := (39, [some (.ref 198), some (.int l1), some (.int l2), some (.int l3)], [.int l2, .ref 198], (223, kc, ks, pd_H g v))) rfl ?_
        obtain ⟨q12, hq12, h⟩ := pd_bind h
        refine ev_callv pp_Mo_isExpression rfl rfl rfl rfl (s_Mo_opens hq12) ?_
        refine ev_gos pp_Mo_isExpression 0 (S' := (42, [some (.ref 198), some (.int l1), some (.int l2), some (.int l3)], [.int q12.1], (223, kc, ks, pd_H g q12.2))) rfl ?_
        refine ev_gos pp_Mo_isExpression 1 (S' := (bif !(decide (q12.1 = 0)) then 47 else 45, [some (.ref 198), some (.int l1), some (.int l2), some (.int l3)], [], (223, kc, ks, pd_H g q12.2))) rfl ?_
        rcases pd_cases h with ⟨hb13, h⟩ | ⟨hb13, h⟩
        · rw [hb13]
          refine ev_gos pp_Mo_isExpression 2 (S' := (17, [some (.ref 198), some (.int l1), some (.int (l2 + (1 : Int32))), some (.int l3)], [], (223, kc, ks, pd_H g q12.2))) rfl ?_
          exact ih _ _ _ _ _  h
        · rw [hb13]
          refine ev_gos pp_Mo_isExpression 1 (S' := (46, [some (.ref 198), some (.int l1), some (.int l2), some (.int l3)], [.int (0 : Int32)], (223, kc, ks, pd_H g q12.2))) rfl ?_
          cases h
          exact ev_zret pp_Mo_isExpression rfl pd_b0
    · rw [hb1]
      refine ev_gos pp_Mo_isExpression 1 (S' := (22, [some (.ref 198), some (.int l1), some (.int l2), some (.int l3)], [.ref 198], (223, kc, ks, pd_H g v))) rfl ?_
      obtain ⟨q14, hq14, h⟩ := pd_bind h
      refine ev_callv pp_Mo_isExpression rfl rfl rfl rfl (s_Mo_isPlain hq14) ?_
      refine ev_gos pp_Mo_isExpression 0 (S' := (25, [some (.ref 198), some (.int l1), some (.int l2), some (.int l3)], [.int q14.1], (223, kc, ks, pd_H g q14.2))) rfl ?_
      refine ev_gos pp_Mo_isExpression 1 (S' := (bif decide (q14.1 = 0) then 33 else 28, [some (.ref 198), some (.int l1), some (.int l2), some (.int l3)], [], (223, kc, ks, pd_H g q14.2))) rfl ?_
      rcases pd_cases h with ⟨hb15, h⟩ | ⟨hb15, h⟩
      · rw [hb15]
        refine ev_gos pp_Mo_isExpression 1 (S' := (34, [some (.ref 198), some (.int l1), some (.int l2), some (.int l3)], [.int l3], (223, kc, ks, pd_H g q14.2))) rfl ?_
        refine ev_gos pp_Mo_isExpression 1 (S' := (bif decide (l3 = 0) then 53 else 37, [some (.ref 198), some (.int l1), some (.int l2), some (.int l3)], [], (223, kc, ks, pd_H g q14.2))) rfl ?_
        rcases pd_cases h with ⟨hb16, h⟩ | ⟨hb16, h⟩
        · rw [hb16]
          refine ev_gos pp_Mo_isExpression 1 (S' := (54, [some (.ref 198), some (.int l1), some (.int l2), some (.int l3)], [.ref 198], (223, kc, ks, pd_H g q14.2))) rfl ?_
          obtain ⟨q17, hq17, h⟩ := pd_bind h
          refine ev_callv pp_Mo_isExpression rfl rfl rfl rfl (s_Mo_see hq17) ?_
          refine ev_gos pp_Mo_isExpression 0 (S' := (57, [some (.ref 198), some (.int l1), some (.int l2), some (.int l3)], [.int q17], (223, kc, ks, pd_H g q14.2))) rfl ?_
          refine ev_call pp_Mo_isExpression rfl rfl rfl (s_Mo_isSign) ?_
          refine ev_gos pp_Mo_isExpression 0 (S' := (60, [some (.ref 198), some (.int l1), some (.int l2), some (.int l3)], [.int (d_Mo_isSign q17)], (223, kc, ks, pd_H g q14.2))) rfl ?_
          refine ev_gos pp_Mo_isExpression 1 (S' := (bif decide ((d_Mo_isSign q17) = 0) then 78 else 63, [some (.ref 198), some (.int l1), some (.int l2), some (.int l3)], [], (223, kc, ks, pd_H g q14.2))) rfl ?_
          rcases pd_cases h with ⟨hb19, h⟩ | ⟨hb19, h⟩
          · rw [hb19]
            refine ev_gos pp_Mo_isExpression 1 (S' := (79, [some (.ref 198), some (.int l1), some (.int l2), some (.int l3)], [.int l2], (223, kc, ks, pd_H g q14.2))) rfl ?_
            refine ev_gos pp_Mo_isExpression 1 (S' := (bif decide (l2 ≤ 0) then 113 else 82, [some (.ref 198), some (.int l1), some (.int l2), some (.int l3)], [], (223, kc, ks, pd_H g q14.2))) rfl ?_
            rcases pd_cases h with ⟨hb20, h⟩ | ⟨hb20, h⟩
            · rw [hb20]
              refine ev_gos pp_Mo_isExpression 1 (S' := (114, [some (.ref 198), some (.int l1), some (.int l2), some (.int l3)], [.int (1 : Int32)], (223, kc, ks, pd_H g q14.2))) rfl ?_
              cases h
              exact ev_zret pp_Mo_isExpression rfl pd_b1
            · rw [hb20]
              refine ev_gos pp_Mo_isExpression 6 (S' := (90, [some (.ref 198), some (.int l1), some (.int l2), some (.int l3)], [.int (l2 - (1 : Int32)), .ref 219, .ref 198], (223, kc, ks, pd_H g q14.2))) rfl ?_
              obtain ⟨hc21, h⟩ := pd_chk h
              refine ev_iald pp_Mo_isExpression rfl (fun _ => rfl) hc21 ?_
              refine ev_gos pp_Mo_isExpression 0 (S' := (91, [some (.ref 198), some (.int l1), some (.int l2), some (.int l3)], [.int (q14.2 219 ((l2 - (1 : Int32)).toNatClampNeg)), .ref 198], (223, kc, ks, pd_H g q14.2))) rfl ?_
              obtain ⟨q22, hq22, h⟩ := pd_bind h
              refine ev_callv pp_Mo_isExpression rfl rfl rfl rfl (s_Mo_takes hq22) ?_
              refine ev_gos pp_Mo_isExpression 0 (S' := (94, [some (.ref 198), some (.int l1), some (.int l2), some (.int l3)], [.int q22.1], (223, kc, ks, pd_H g q22.2))) rfl ?_
              refine ev_gos pp_Mo_isExpression 1 (S' := (bif !(decide (q22.1 = 0)) then 99 else 97, [some (.ref 198), some (.int l1), some (.int l2), some (.int l3)], [], (223, kc, ks, pd_H g q22.2))) rfl ?_
              rcases pd_cases h with ⟨hb23, h⟩ | ⟨hb23, h⟩
              · rw [hb23]
                refine ev_gos pp_Mo_isExpression 3 (S' := (104, [some (.ref 198), some (.int l1), some (.int (l2 + (-1 : Int32))), some (.int l3)], [.int (1 : Int32), .int l1], (223, kc, ks, pd_H g q22.2))) rfl ?_
                refine ev_gos pp_Mo_isExpression 1 (S' := (bif !(decide (l1 = (1 : Int32))) then 17 else 107, [some (.ref 198), some (.int l1), some (.int (l2 + (-1 : Int32))), some (.int l3)], [], (223, kc, ks, pd_H g q22.2))) rfl ?_
                rcases pd_cases h with ⟨hb24, h⟩ | ⟨hb24, h⟩
                · rw [hb24]
                  refine ev_gos pp_Mo_isExpression 0 (S' := (17, [some (.ref 198), some (.int l1), some (.int (l2 + (-1 : Int32))), some (.int l3)], [], (223, kc, ks, pd_H g q22.2))) rfl ?_
                  exact ih _ _ _ _ _  h
                · rw [hb24]
                  refine ev_gos pp_Mo_isExpression 1 (S' := (108, [some (.ref 198), some (.int l1), some (.int (l2 + (-1 : Int32))), some (.int l3)], [.int (l2 + (-1 : Int32))], (223, kc, ks, pd_H g q22.2))) rfl ?_
                  refine ev_gos pp_Mo_isExpression 1 (S' := (bif !(decide ((l2 + (-1 : Int32)) = 0)) then 17 else 111, [some (.ref 198), some (.int l1), some (.int (l2 + (-1 : Int32))), some (.int l3)], [], (223, kc, ks, pd_H g q22.2))) rfl ?_
                  rcases pd_cases h with ⟨hb25, h⟩ | ⟨hb25, h⟩
                  · rw [hb25]
                    refine ev_gos pp_Mo_isExpression 0 (S' := (17, [some (.ref 198), some (.int l1), some (.int (l2 + (-1 : Int32))), some (.int l3)], [], (223, kc, ks, pd_H g q22.2))) rfl ?_
                    exact ih _ _ _ _ _  h
                  · rw [hb25]
                    refine ev_gos pp_Mo_isExpression 1 (S' := (112, [some (.ref 198), some (.int l1), some (.int (l2 + (-1 : Int32))), some (.int l3)], [.int (1 : Int32)], (223, kc, ks, pd_H g q22.2))) rfl ?_
                    cases h
                    exact ev_zret pp_Mo_isExpression rfl pd_b1
              · rw [hb23]
                refine ev_gos pp_Mo_isExpression 1 (S' := (98, [some (.ref 198), some (.int l1), some (.int l2), some (.int l3)], [.int (0 : Int32)], (223, kc, ks, pd_H g q22.2))) rfl ?_
                cases h
                exact ev_zret pp_Mo_isExpression rfl pd_b0
          · rw [hb19]
            refine ev_gos pp_Mo_isExpression 5 (S' := (70, [some (.ref 198), some (.int l1), some (.int l2), some (.int l3)], [.int ((q14.2 198 6) + (1 : Int32)), .ref 198], (223, kc, ks, pd_H g q14.2))) rfl ?_
            refine ev_put pp_Mo_isExpression rfl (fun _ => rfl) rfl rfl rfl ?_
            refine ev_gos pp_Mo_isExpression 3 (S' := (17, [some (.ref 198), some (.int l1), some (.int l2), some (.int (1 : Int32))], [], (223, kc, ks, pd_H g (pd_w q14.2 198 6 ((q14.2 198 6) + (1 : Int32)))))) rfl ?_
            exact ih _ _ _ _ _  h
        · rw [hb16]
          refine ev_gos pp_Mo_isExpression 2 (S' := (39, [some (.ref 198), some (.int l1), some (.int l2), some (.int l3)], [.int l2, .ref 198], (223, kc, ks, pd_H g q14.2))) rfl ?_
          obtain ⟨q26, hq26, h⟩ := pd_bind h
          refine ev_callv pp_Mo_isExpression rfl rfl rfl rfl (s_Mo_opens hq26) ?_
          refine ev_gos pp_Mo_isExpression 0 (S' := (42, [some (.ref 198), some (.int l1), some (.int l2), some (.int l3)], [.int q26.1], (223, kc, ks, pd_H g q26.2))) rfl ?_
          refine ev_gos pp_Mo_isExpression 1 (S' := (bif !(decide (q26.1 = 0)) then 47 else 45, [some (.ref 198), some (.int l1), some (.int l2), some (.int l3)], [], (223, kc, ks, pd_H g q26.2))) rfl ?_
          rcases pd_cases h with ⟨hb27, h⟩ | ⟨hb27, h⟩
          · rw [hb27]
            refine ev_gos pp_Mo_isExpression 2 (S' := (17, [some (.ref 198), some (.int l1), some (.int (l2 + (1 : Int32))), some (.int l3)], [], (223, kc, ks, pd_H g q26.2))) rfl ?_
            exact ih _ _ _ _ _  h
          · rw [hb27]
            refine ev_gos pp_Mo_isExpression 1 (S' := (46, [some (.ref 198), some (.int l1), some (.int l2), some (.int l3)], [.int (0 : Int32)], (223, kc, ks, pd_H g q26.2))) rfl ?_
            cases h
            exact ev_zret pp_Mo_isExpression rfl pd_b0
      · rw [hb15]
        refine ev_gos pp_Mo_isExpression 3 (S' := (17, [some (.ref 198), some (.int l1), some (.int l2), some (.int (0 : Int32))], [], (223, kc, ks, pd_H g q14.2))) rfl ?_
        exact ih _ _ _ _ _  h
theorem s_Mo_isExpression_17z {w : Nat} : ∀ (f : Nat) (l1 : Int32) (l2 : Int32) (l3 : Int32) (v : pd_V)  (q : (Int32 × pd_V)) , d_Mo_isExpression_17 w f l1 l2 l3 v = some q → (q.1 == 0 || q.1 == 1) = true := by
  intro f
  induction f with
  | zero => intro l1 l2 l3 v q h; exact nomatch (show (none : Option (Int32 × pd_V)) = some q from h)
  | succ f ih =>
    intro l1 l2 l3 v q h
    rw [d_Mo_isExpression_17] at h
    rcases pd_cases h with ⟨hb1, h⟩ | ⟨hb1, h⟩
    · rcases pd_cases h with ⟨hb2, h⟩ | ⟨hb2, h⟩
      · obtain ⟨q3, hq3, h⟩ := pd_bind h
        rcases pd_cases h with ⟨hb5, h⟩ | ⟨hb5, h⟩
        · rcases pd_cases h with ⟨hb6, h⟩ | ⟨hb6, h⟩
          · cases h
            exact pd_b1
          · obtain ⟨hc7, h⟩ := pd_chk h
            obtain ⟨q8, hq8, h⟩ := pd_bind h
            rcases pd_cases h with ⟨hb9, h⟩ | ⟨hb9, h⟩
            · rcases pd_cases h with ⟨hb10, h⟩ | ⟨hb10, h⟩
              · exact ih _ _ _ _ _  h
              · rcases pd_cases h with ⟨hb11, h⟩ | ⟨hb11, h⟩
                · exact ih _ _ _ _ _  h
                · cases h
                  exact pd_b1
            · cases h
              exact pd_b0
        · exact ih _ _ _ _ _  h
      · obtain ⟨q12, hq12, h⟩ := pd_bind h
        rcases pd_cases h with ⟨hb13, h⟩ | ⟨hb13, h⟩
        · exact ih _ _ _ _ _  h
        · cases h
          exact pd_b0
    · obtain ⟨q14, hq14, h⟩ := pd_bind h
      rcases pd_cases h with ⟨hb15, h⟩ | ⟨hb15, h⟩
      · rcases pd_cases h with ⟨hb16, h⟩ | ⟨hb16, h⟩
        · obtain ⟨q17, hq17, h⟩ := pd_bind h
          rcases pd_cases h with ⟨hb19, h⟩ | ⟨hb19, h⟩
          · rcases pd_cases h with ⟨hb20, h⟩ | ⟨hb20, h⟩
            · cases h
              exact pd_b1
            · obtain ⟨hc21, h⟩ := pd_chk h
              obtain ⟨q22, hq22, h⟩ := pd_bind h
              rcases pd_cases h with ⟨hb23, h⟩ | ⟨hb23, h⟩
              · rcases pd_cases h with ⟨hb24, h⟩ | ⟨hb24, h⟩
                · exact ih _ _ _ _ _  h
                · rcases pd_cases h with ⟨hb25, h⟩ | ⟨hb25, h⟩
                  · exact ih _ _ _ _ _  h
                  · cases h
                    exact pd_b1
              · cases h
                exact pd_b0
          · exact ih _ _ _ _ _  h
        · obtain ⟨q26, hq26, h⟩ := pd_bind h
          rcases pd_cases h with ⟨hb27, h⟩ | ⟨hb27, h⟩
          · exact ih _ _ _ _ _  h
          · cases h
            exact pd_b0
      · exact ih _ _ _ _ _  h
def d_Mo_isExpression (w : Nat) (l1 : Int32) (v : pd_V) : Option (Int32 × pd_V) :=
  bif !(decide (l1 = (1 : Int32))) then
    d_Mo_isExpression_17 w w l1 l1 (1 : Int32) v
  else
    bif pm_in (0 : Int32) 6 then
    d_Mo_isExpression_17 w w l1 l1 (1 : Int32) (pd_w v 219 ((0 : Int32).toNatClampNeg) (93 : Int32))
    else none
theorem s_Mo_isExpression {w : Nat} {l1 : Int32} {v : pd_V} {q : (Int32 × pd_V)}  (h : d_Mo_isExpression w l1 v = some q) : pm_ev (pj_P xs L) (d + 3) 108 (0, [some (.ref 198), some (.int l1), none, none], [], (223, kc, ks, pd_H g v)) (.inl (some (.int q.1)), (223, kc, ks, pd_H g q.2)) := by
  unfold d_Mo_isExpression at h
  refine ev_gos pp_Mo_isExpression 4 (S' := (4, [some (.ref 198), some (.int l1), some (.int l1), none], [.int (1 : Int32), .int l1], (223, kc, ks, pd_H g v))) rfl ?_
  refine ev_gos pp_Mo_isExpression 1 (S' := (bif !(decide (l1 = (1 : Int32))) then 15 else 7, [some (.ref 198), some (.int l1), some (.int l1), none], [], (223, kc, ks, pd_H g v))) rfl ?_
  rcases pd_cases h with ⟨hb1, h⟩ | ⟨hb1, h⟩
  · rw [hb1]
    refine ev_gos pp_Mo_isExpression 2 (S' := (17, [some (.ref 198), some (.int l1), some (.int l1), some (.int (1 : Int32))], [], (223, kc, ks, pd_H g v))) rfl ?_
    exact s_Mo_isExpression_17 _ _ _ _ _ _  h
  · rw [hb1]
    refine ev_gos pp_Mo_isExpression 4 (S' := (14, [some (.ref 198), some (.int l1), some (.int l1), none], [.int (93 : Int32), .int (0 : Int32), .ref 219], (223, kc, ks, pd_H g v))) rfl ?_
    obtain ⟨hc2, h⟩ := pd_chk h
    refine ev_iast pp_Mo_isExpression rfl (fun _ => rfl) hc2 ?_
    refine ev_gos pp_Mo_isExpression 2 (S' := (17, [some (.ref 198), some (.int l1), some (.int l1), some (.int (1 : Int32))], [], (223, kc, ks, pd_H g (pd_w v 219 ((0 : Int32).toNatClampNeg) (93 : Int32))))) rfl ?_
    exact s_Mo_isExpression_17 _ _ _ _ _ _  h
theorem z_Mo_isExpression {w : Nat} {l1 : Int32} {v : pd_V} {q : (Int32 × pd_V)}  (h : d_Mo_isExpression w l1 v = some q) : (q.1 == 0 || q.1 == 1) = true := by
  unfold d_Mo_isExpression at h
  rcases pd_cases h with ⟨hb1, h⟩ | ⟨hb1, h⟩
  · exact s_Mo_isExpression_17z _ _ _ _ _ _  h
  · obtain ⟨hc2, h⟩ := pd_chk h
    exact s_Mo_isExpression_17z _ _ _ _ _ _  h
theorem pp_Mo_isSimple {xs : Nat → Int32} {L : Nat} : (pj_P xs L 113).1 = fun S => pm_look tb_Mo_isSimple S.1 S := rfl
def d_Mo_isSimple_171 (w : Nat)  (v : pd_V) : Option (Int32 × pd_V) :=
  some ((0 : Int32), v)
theorem s_Mo_isSimple_171 {w : Nat} : ∀  (v : pd_V) (y1 : Int32) (q : (Int32 × pd_V)) , d_Mo_isSimple_171 w v = some q → pm_ev (pj_P xs L) (d + 4) 113 (171, [some (.ref 198), some (.int y1)], [], (223, kc, ks, pd_H g v)) (.inl (some (.int q.1)), (223, kc, ks, pd_H g q.2)) := by
  intro v y1 q h
  unfold d_Mo_isSimple_171 at h
  refine ev_gos pp_Mo_isSimple 1 (S' := (172, [some (.ref 198), some (.int y1)], [.int (0 : Int32)], (223, kc, ks, pd_H g v))) rfl ?_
  cases h
  exact ev_zret pp_Mo_isSimple rfl pd_b0
theorem s_Mo_isSimple_171z {w : Nat} : ∀  (v : pd_V)  (q : (Int32 × pd_V)) , d_Mo_isSimple_171 w v = some q → (q.1 == 0 || q.1 == 1) = true := by
  intro v q h
  unfold d_Mo_isSimple_171 at h
  cases h
  exact pd_b0
def d_Mo_isSimple_154 (w : Nat) (l1 : Int32) (v : pd_V) : Option (Int32 × pd_V) :=
  bif decide (l1 = 0) then
    d_Mo_isSimple_171 w v
  else
    (d_Mo_takes (59 : Int32) v).bind fun q2 =>
    bif decide (q2.1 = 0) then
      d_Mo_isSimple_171 w q2.2
    else
      some ((1 : Int32), q2.2)
theorem s_Mo_isSimple_154 {w : Nat} : ∀ (l1 : Int32) (v : pd_V)  (q : (Int32 × pd_V)) , d_Mo_isSimple_154 w l1 v = some q → pm_ev (pj_P xs L) (d + 4) 113 (154, [some (.ref 198), some (.int l1)], [], (223, kc, ks, pd_H g v)) (.inl (some (.int q.1)), (223, kc, ks, pd_H g q.2)) := by
  intro l1 v q h
  unfold d_Mo_isSimple_154 at h
  refine ev_gos pp_Mo_isSimple 1 (S' := (155, [some (.ref 198), some (.int l1)], [.int l1], (223, kc, ks, pd_H g v))) rfl ?_
  refine ev_gos pp_Mo_isSimple 1 (S' := (bif decide (l1 = 0) then 171 else 158, [some (.ref 198), some (.int l1)], [], (223, kc, ks, pd_H g v))) rfl ?_
  rcases pd_cases h with ⟨hb1, h⟩ | ⟨hb1, h⟩
  · rw [hb1]
    refine ev_gos pp_Mo_isSimple 0 (S' := (171, [some (.ref 198), some (.int l1)], [], (223, kc, ks, pd_H g v))) rfl ?_
    exact s_Mo_isSimple_171 _ _ _  h
  · rw [hb1]
    refine ev_gos pp_Mo_isSimple 2 (S' := (161, [some (.ref 198), some (.int l1)], [.int (59 : Int32), .ref 198], (223, kc, ks, pd_H g v))) rfl ?_
    obtain ⟨q2, hq2, h⟩ := pd_bind h
    refine ev_callv pp_Mo_isSimple rfl rfl rfl rfl (s_Mo_takes hq2) ?_
    refine ev_gos pp_Mo_isSimple 0 (S' := (164, [some (.ref 198), some (.int l1)], [.int q2.1], (223, kc, ks, pd_H g q2.2))) rfl ?_
    refine ev_gos pp_Mo_isSimple 1 (S' := (bif decide (q2.1 = 0) then 171 else 167, [some (.ref 198), some (.int l1)], [], (223, kc, ks, pd_H g q2.2))) rfl ?_
    rcases pd_cases h with ⟨hb3, h⟩ | ⟨hb3, h⟩
    · rw [hb3]
      refine ev_gos pp_Mo_isSimple 0 (S' := (171, [some (.ref 198), some (.int l1)], [], (223, kc, ks, pd_H g q2.2))) rfl ?_
      exact s_Mo_isSimple_171 _ _ _  h
    · rw [hb3]
      refine ev_gos pp_Mo_isSimple 2 (S' := (172, [some (.ref 198), some (.int l1)], [.int (1 : Int32)], (223, kc, ks, pd_H g q2.2))) rfl ?_
      cases h
      exact ev_zret pp_Mo_isSimple rfl pd_b1
theorem s_Mo_isSimple_154z {w : Nat} : ∀ (l1 : Int32) (v : pd_V)  (q : (Int32 × pd_V)) , d_Mo_isSimple_154 w l1 v = some q → (q.1 == 0 || q.1 == 1) = true := by
  intro l1 v q h
  unfold d_Mo_isSimple_154 at h
  rcases pd_cases h with ⟨hb1, h⟩ | ⟨hb1, h⟩
  · exact s_Mo_isSimple_171z _ _  h
  · obtain ⟨q2, hq2, h⟩ := pd_bind h
    rcases pd_cases h with ⟨hb3, h⟩ | ⟨hb3, h⟩
    · exact s_Mo_isSimple_171z _ _  h
    · cases h
      exact pd_b1
def d_Mo_isSimple_152 (w : Nat)  (v : pd_V) : Option (Int32 × pd_V) :=
  d_Mo_isSimple_154 w (0 : Int32) v
theorem s_Mo_isSimple_152 {w : Nat} : ∀  (v : pd_V) (y1 : Option Value) (q : (Int32 × pd_V)) , d_Mo_isSimple_152 w v = some q → pm_ev (pj_P xs L) (d + 4) 113 (152, [some (.ref 198), y1], [], (223, kc, ks, pd_H g v)) (.inl (some (.int q.1)), (223, kc, ks, pd_H g q.2)) := by
  intro v y1 q h
  unfold d_Mo_isSimple_152 at h
  refine ev_gos pp_Mo_isSimple 2 (S' := (154, [some (.ref 198), some (.int (0 : Int32))], [], (223, kc, ks, pd_H g v))) rfl ?_
  exact s_Mo_isSimple_154 _ _ _  h
theorem s_Mo_isSimple_152z {w : Nat} : ∀  (v : pd_V)  (q : (Int32 × pd_V)) , d_Mo_isSimple_152 w v = some q → (q.1 == 0 || q.1 == 1) = true := by
  intro v q h
  unfold d_Mo_isSimple_152 at h
  exact s_Mo_isSimple_154z _ _ _  h
def d_Mo_isSimple_119 (w : Nat)  (v : pd_V) : Option (Int32 × pd_V) :=
  d_Mo_isSimple_154 w (0 : Int32) v
theorem s_Mo_isSimple_119 {w : Nat} : ∀  (v : pd_V) (y1 : Option Value) (q : (Int32 × pd_V)) , d_Mo_isSimple_119 w v = some q → pm_ev (pj_P xs L) (d + 4) 113 (119, [some (.ref 198), y1], [], (223, kc, ks, pd_H g v)) (.inl (some (.int q.1)), (223, kc, ks, pd_H g q.2)) := by
  intro v y1 q h
  unfold d_Mo_isSimple_119 at h
  refine ev_gos pp_Mo_isSimple 3 (S' := (154, [some (.ref 198), some (.int (0 : Int32))], [], (223, kc, ks, pd_H g v))) rfl ?_
  exact s_Mo_isSimple_154 _ _ _  h
theorem s_Mo_isSimple_119z {w : Nat} : ∀  (v : pd_V)  (q : (Int32 × pd_V)) , d_Mo_isSimple_119 w v = some q → (q.1 == 0 || q.1 == 1) = true := by
  intro v q h
  unfold d_Mo_isSimple_119 at h
  exact s_Mo_isSimple_154z _ _ _  h
def d_Mo_isSimple_79 (w : Nat)  (v : pd_V) : Option (Int32 × pd_V) :=
  d_Mo_isSimple_154 w (0 : Int32) v
theorem s_Mo_isSimple_79 {w : Nat} : ∀  (v : pd_V) (y1 : Option Value) (q : (Int32 × pd_V)) , d_Mo_isSimple_79 w v = some q → pm_ev (pj_P xs L) (d + 4) 113 (79, [some (.ref 198), y1], [], (223, kc, ks, pd_H g v)) (.inl (some (.int q.1)), (223, kc, ks, pd_H g q.2)) := by
  intro v y1 q h
  unfold d_Mo_isSimple_79 at h
  refine ev_gos pp_Mo_isSimple 3 (S' := (154, [some (.ref 198), some (.int (0 : Int32))], [], (223, kc, ks, pd_H g v))) rfl ?_
  exact s_Mo_isSimple_154 _ _ _  h
theorem s_Mo_isSimple_79z {w : Nat} : ∀  (v : pd_V)  (q : (Int32 × pd_V)) , d_Mo_isSimple_79 w v = some q → (q.1 == 0 || q.1 == 1) = true := by
  intro v q h
  unfold d_Mo_isSimple_79 at h
  exact s_Mo_isSimple_154z _ _ _  h
def d_Mo_isSimple (w : Nat)  (v : pd_V) : Option (Int32 × pd_V) :=
  (d_Mo_takes (79 : Int32) v).bind fun q1 =>
  bif decide (q1.1 = 0) then
    (d_Mo_takes (82 : Int32) q1.2).bind fun q3 =>
    bif decide (q3.1 = 0) then
      (d_Mo_takes (76 : Int32) q3.2).bind fun q5 =>
      bif decide (q5.1 = 0) then
        (d_Mo_takes (88 : Int32) q5.2).bind fun q7 =>
        bif decide (q7.1 = 0) then
          (d_Mo_takesVariable q7.2).bind fun q9 =>
          bif decide (q9.1 = 0) then
            d_Mo_isSimple_152 w q9.2
          else
            (d_Mo_takes (61 : Int32) q9.2).bind fun q11 =>
            bif decide (q11.1 = 0) then
              d_Mo_isSimple_152 w q11.2
            else
              (d_Mo_isExpression w (0 : Int32) q11.2).bind fun q13 =>
              bif decide (q13.1 = 0) then
                d_Mo_isSimple_152 w q13.2
              else
                d_Mo_isSimple_154 w (1 : Int32) q13.2
        else
          (d_Mo_takesVariable q7.2).bind fun q15 =>
          bif decide (q15.1 = 0) then
            d_Mo_isSimple_119 w q15.2
          else
            (d_Mo_takesVariable q15.2).bind fun q17 =>
            bif decide (q17.1 = 0) then
              d_Mo_isSimple_119 w q17.2
            else
              (d_Mo_isExpression w (0 : Int32) q17.2).bind fun q19 =>
              bif decide (q19.1 = 0) then
                d_Mo_isSimple_119 w q19.2
              else
                d_Mo_isSimple_154 w (1 : Int32) q19.2
      else
        (d_Mo_takes (91 : Int32) q5.2).bind fun q21 =>
        bif decide (q21.1 = 0) then
          d_Mo_isSimple_79 w q21.2
        else
          (d_Mo_isExpression w (1 : Int32) q21.2).bind fun q23 =>
          bif decide (q23.1 = 0) then
            d_Mo_isSimple_79 w q23.2
          else
            (d_Mo_takes (61 : Int32) q23.2).bind fun q25 =>
            bif decide (q25.1 = 0) then
              d_Mo_isSimple_79 w q25.2
            else
              (d_Mo_isExpression w (0 : Int32) q25.2).bind fun q27 =>
              bif decide (q27.1 = 0) then
                d_Mo_isSimple_79 w q27.2
              else
                d_Mo_isSimple_154 w (1 : Int32) q27.2
    else
      d_Mo_isSimple_154 w (1 : Int32) q3.2
  else
    (d_Mo_isExpression w (0 : Int32) q1.2).bind fun q29 =>
    d_Mo_isSimple_154 w q29.1 q29.2
theorem s_Mo_isSimple {w : Nat}  {v : pd_V} {q : (Int32 × pd_V)}  (h : d_Mo_isSimple w v = some q) : pm_ev (pj_P xs L) (d + 4) 113 (0, [some (.ref 198), none], [], (223, kc, ks, pd_H g v)) (.inl (some (.int q.1)), (223, kc, ks, pd_H g q.2)) := by
  unfold d_Mo_isSimple at h
  refine ev_gos pp_Mo_isSimple 2 (S' := (3, [some (.ref 198), none], [.int (79 : Int32), .ref 198], (223, kc, ks, pd_H g v))) rfl ?_
  obtain ⟨q1, hq1, h⟩ := pd_bind h
  refine ev_callv pp_Mo_isSimple rfl rfl rfl rfl (s_Mo_takes hq1) ?_
  refine ev_gos pp_Mo_isSimple 0 (S' := (6, [some (.ref 198), none], [.int q1.1], (223, kc, ks, pd_H g q1.2))) rfl ?_
  refine ev_gos pp_Mo_isSimple 1 (S' := (bif decide (q1.1 = 0) then 18 else 9, [some (.ref 198), none], [], (223, kc, ks, pd_H g q1.2))) rfl ?_
  rcases pd_cases h with ⟨hb2, h⟩ | ⟨hb2, h⟩
  · rw [hb2]
    refine ev_gos pp_Mo_isSimple 2 (S' := (21, [some (.ref 198), none], [.int (82 : Int32), .ref 198], (223, kc, ks, pd_H g q1.2))) rfl ?_
    obtain ⟨q3, hq3, h⟩ := pd_bind h
    refine ev_callv pp_Mo_isSimple rfl rfl rfl rfl (s_Mo_takes hq3) ?_
    refine ev_gos pp_Mo_isSimple 0 (S' := (24, [some (.ref 198), none], [.int q3.1], (223, kc, ks, pd_H g q3.2))) rfl ?_
    refine ev_gos pp_Mo_isSimple 1 (S' := (bif decide (q3.1 = 0) then 32 else 27, [some (.ref 198), none], [], (223, kc, ks, pd_H g q3.2))) rfl ?_
    rcases pd_cases h with ⟨hb4, h⟩ | ⟨hb4, h⟩
    · rw [hb4]
      refine ev_gos pp_Mo_isSimple 2 (S' := (35, [some (.ref 198), none], [.int (76 : Int32), .ref 198], (223, kc, ks, pd_H g q3.2))) rfl ?_
      obtain ⟨q5, hq5, h⟩ := pd_bind h
      refine ev_callv pp_Mo_isSimple rfl rfl rfl rfl (s_Mo_takes hq5) ?_
      refine ev_gos pp_Mo_isSimple 0 (S' := (38, [some (.ref 198), none], [.int q5.1], (223, kc, ks, pd_H g q5.2))) rfl ?_
      refine ev_gos pp_Mo_isSimple 1 (S' := (bif decide (q5.1 = 0) then 84 else 41, [some (.ref 198), none], [], (223, kc, ks, pd_H g q5.2))) rfl ?_
      rcases pd_cases h with ⟨hb6, h⟩ | ⟨hb6, h⟩
      · rw [hb6]
        refine ev_gos pp_Mo_isSimple 2 (S' := (87, [some (.ref 198), none], [.int (88 : Int32), .ref 198], (223, kc, ks, pd_H g q5.2))) rfl ?_
        obtain ⟨q7, hq7, h⟩ := pd_bind h
        refine ev_callv pp_Mo_isSimple rfl rfl rfl rfl (s_Mo_takes hq7) ?_
        refine ev_gos pp_Mo_isSimple 0 (S' := (90, [some (.ref 198), none], [.int q7.1], (223, kc, ks, pd_H g q7.2))) rfl ?_
        refine ev_gos pp_Mo_isSimple 1 (S' := (bif decide (q7.1 = 0) then 124 else 93, [some (.ref 198), none], [], (223, kc, ks, pd_H g q7.2))) rfl ?_
        rcases pd_cases h with ⟨hb8, h⟩ | ⟨hb8, h⟩
        · rw [hb8]
          refine ev_gos pp_Mo_isSimple 1 (S' := (125, [some (.ref 198), none], [.ref 198], (223, kc, ks, pd_H g q7.2))) rfl ?_
          obtain ⟨q9, hq9, h⟩ := pd_bind h
          refine ev_callv pp_Mo_isSimple rfl rfl rfl rfl (s_Mo_takesVariable hq9) ?_
          refine ev_gos pp_Mo_isSimple 0 (S' := (128, [some (.ref 198), none], [.int q9.1], (223, kc, ks, pd_H g q9.2))) rfl ?_
          refine ev_gos pp_Mo_isSimple 1 (S' := (bif decide (q9.1 = 0) then 152 else 131, [some (.ref 198), none], [], (223, kc, ks, pd_H g q9.2))) rfl ?_
          rcases pd_cases h with ⟨hb10, h⟩ | ⟨hb10, h⟩
          · rw [hb10]
            refine ev_gos pp_Mo_isSimple 0 (S' := (152, [some (.ref 198), none], [], (223, kc, ks, pd_H g q9.2))) rfl ?_
            exact s_Mo_isSimple_152 _ _ _  h
          · rw [hb10]
            refine ev_gos pp_Mo_isSimple 2 (S' := (134, [some (.ref 198), none], [.int (61 : Int32), .ref 198], (223, kc, ks, pd_H g q9.2))) rfl ?_
            obtain ⟨q11, hq11, h⟩ := pd_bind h
            refine ev_callv pp_Mo_isSimple rfl rfl rfl rfl (s_Mo_takes hq11) ?_
            refine ev_gos pp_Mo_isSimple 0 (S' := (137, [some (.ref 198), none], [.int q11.1], (223, kc, ks, pd_H g q11.2))) rfl ?_
            refine ev_gos pp_Mo_isSimple 1 (S' := (bif decide (q11.1 = 0) then 152 else 140, [some (.ref 198), none], [], (223, kc, ks, pd_H g q11.2))) rfl ?_
            rcases pd_cases h with ⟨hb12, h⟩ | ⟨hb12, h⟩
            · rw [hb12]
              refine ev_gos pp_Mo_isSimple 0 (S' := (152, [some (.ref 198), none], [], (223, kc, ks, pd_H g q11.2))) rfl ?_
              exact s_Mo_isSimple_152 _ _ _  h
            · rw [hb12]
              refine ev_gos pp_Mo_isSimple 2 (S' := (142, [some (.ref 198), none], [.int (0 : Int32), .ref 198], (223, kc, ks, pd_H g q11.2))) rfl ?_
              obtain ⟨q13, hq13, h⟩ := pd_bind h
              refine ev_callv pp_Mo_isSimple rfl rfl rfl rfl (s_Mo_isExpression hq13) ?_
              refine ev_gos pp_Mo_isSimple 0 (S' := (145, [some (.ref 198), none], [.int q13.1], (223, kc, ks, pd_H g q13.2))) rfl ?_
              refine ev_gos pp_Mo_isSimple 1 (S' := (bif decide (q13.1 = 0) then 152 else 148, [some (.ref 198), none], [], (223, kc, ks, pd_H g q13.2))) rfl ?_
              rcases pd_cases h with ⟨hb14, h⟩ | ⟨hb14, h⟩
              · rw [hb14]
                refine ev_gos pp_Mo_isSimple 0 (S' := (152, [some (.ref 198), none], [], (223, kc, ks, pd_H g q13.2))) rfl ?_
                exact s_Mo_isSimple_152 _ _ _  h
              · rw [hb14]
                refine ev_gos pp_Mo_isSimple 3 (S' := (154, [some (.ref 198), some (.int (1 : Int32))], [], (223, kc, ks, pd_H g q13.2))) rfl ?_
                exact s_Mo_isSimple_154 _ _ _  h
        · rw [hb8]
          refine ev_gos pp_Mo_isSimple 1 (S' := (94, [some (.ref 198), none], [.ref 198], (223, kc, ks, pd_H g q7.2))) rfl ?_
          obtain ⟨q15, hq15, h⟩ := pd_bind h
          refine ev_callv pp_Mo_isSimple rfl rfl rfl rfl (s_Mo_takesVariable hq15) ?_
          refine ev_gos pp_Mo_isSimple 0 (S' := (97, [some (.ref 198), none], [.int q15.1], (223, kc, ks, pd_H g q15.2))) rfl ?_
          refine ev_gos pp_Mo_isSimple 1 (S' := (bif decide (q15.1 = 0) then 119 else 100, [some (.ref 198), none], [], (223, kc, ks, pd_H g q15.2))) rfl ?_
          rcases pd_cases h with ⟨hb16, h⟩ | ⟨hb16, h⟩
          · rw [hb16]
            refine ev_gos pp_Mo_isSimple 0 (S' := (119, [some (.ref 198), none], [], (223, kc, ks, pd_H g q15.2))) rfl ?_
            exact s_Mo_isSimple_119 _ _ _  h
          · rw [hb16]
            refine ev_gos pp_Mo_isSimple 1 (S' := (101, [some (.ref 198), none], [.ref 198], (223, kc, ks, pd_H g q15.2))) rfl ?_
            obtain ⟨q17, hq17, h⟩ := pd_bind h
            refine ev_callv pp_Mo_isSimple rfl rfl rfl rfl (s_Mo_takesVariable hq17) ?_
            refine ev_gos pp_Mo_isSimple 0 (S' := (104, [some (.ref 198), none], [.int q17.1], (223, kc, ks, pd_H g q17.2))) rfl ?_
            refine ev_gos pp_Mo_isSimple 1 (S' := (bif decide (q17.1 = 0) then 119 else 107, [some (.ref 198), none], [], (223, kc, ks, pd_H g q17.2))) rfl ?_
            rcases pd_cases h with ⟨hb18, h⟩ | ⟨hb18, h⟩
            · rw [hb18]
              refine ev_gos pp_Mo_isSimple 0 (S' := (119, [some (.ref 198), none], [], (223, kc, ks, pd_H g q17.2))) rfl ?_
              exact s_Mo_isSimple_119 _ _ _  h
            · rw [hb18]
              refine ev_gos pp_Mo_isSimple 2 (S' := (109, [some (.ref 198), none], [.int (0 : Int32), .ref 198], (223, kc, ks, pd_H g q17.2))) rfl ?_
              obtain ⟨q19, hq19, h⟩ := pd_bind h
              refine ev_callv pp_Mo_isSimple rfl rfl rfl rfl (s_Mo_isExpression hq19) ?_
              refine ev_gos pp_Mo_isSimple 0 (S' := (112, [some (.ref 198), none], [.int q19.1], (223, kc, ks, pd_H g q19.2))) rfl ?_
              refine ev_gos pp_Mo_isSimple 1 (S' := (bif decide (q19.1 = 0) then 119 else 115, [some (.ref 198), none], [], (223, kc, ks, pd_H g q19.2))) rfl ?_
              rcases pd_cases h with ⟨hb20, h⟩ | ⟨hb20, h⟩
              · rw [hb20]
                refine ev_gos pp_Mo_isSimple 0 (S' := (119, [some (.ref 198), none], [], (223, kc, ks, pd_H g q19.2))) rfl ?_
                exact s_Mo_isSimple_119 _ _ _  h
              · rw [hb20]
                refine ev_gos pp_Mo_isSimple 4 (S' := (154, [some (.ref 198), some (.int (1 : Int32))], [], (223, kc, ks, pd_H g q19.2))) rfl ?_
                exact s_Mo_isSimple_154 _ _ _  h
      · rw [hb6]
        refine ev_gos pp_Mo_isSimple 2 (S' := (44, [some (.ref 198), none], [.int (91 : Int32), .ref 198], (223, kc, ks, pd_H g q5.2))) rfl ?_
        obtain ⟨q21, hq21, h⟩ := pd_bind h
        refine ev_callv pp_Mo_isSimple rfl rfl rfl rfl (s_Mo_takes hq21) ?_
        refine ev_gos pp_Mo_isSimple 0 (S' := (47, [some (.ref 198), none], [.int q21.1], (223, kc, ks, pd_H g q21.2))) rfl ?_
        refine ev_gos pp_Mo_isSimple 1 (S' := (bif decide (q21.1 = 0) then 79 else 50, [some (.ref 198), none], [], (223, kc, ks, pd_H g q21.2))) rfl ?_
        rcases pd_cases h with ⟨hb22, h⟩ | ⟨hb22, h⟩
        · rw [hb22]
          refine ev_gos pp_Mo_isSimple 0 (S' := (79, [some (.ref 198), none], [], (223, kc, ks, pd_H g q21.2))) rfl ?_
          exact s_Mo_isSimple_79 _ _ _  h
        · rw [hb22]
          refine ev_gos pp_Mo_isSimple 2 (S' := (52, [some (.ref 198), none], [.int (1 : Int32), .ref 198], (223, kc, ks, pd_H g q21.2))) rfl ?_
          obtain ⟨q23, hq23, h⟩ := pd_bind h
          refine ev_callv pp_Mo_isSimple rfl rfl rfl rfl (s_Mo_isExpression hq23) ?_
          refine ev_gos pp_Mo_isSimple 0 (S' := (55, [some (.ref 198), none], [.int q23.1], (223, kc, ks, pd_H g q23.2))) rfl ?_
          refine ev_gos pp_Mo_isSimple 1 (S' := (bif decide (q23.1 = 0) then 79 else 58, [some (.ref 198), none], [], (223, kc, ks, pd_H g q23.2))) rfl ?_
          rcases pd_cases h with ⟨hb24, h⟩ | ⟨hb24, h⟩
          · rw [hb24]
            refine ev_gos pp_Mo_isSimple 0 (S' := (79, [some (.ref 198), none], [], (223, kc, ks, pd_H g q23.2))) rfl ?_
            exact s_Mo_isSimple_79 _ _ _  h
          · rw [hb24]
            refine ev_gos pp_Mo_isSimple 2 (S' := (61, [some (.ref 198), none], [.int (61 : Int32), .ref 198], (223, kc, ks, pd_H g q23.2))) rfl ?_
            obtain ⟨q25, hq25, h⟩ := pd_bind h
            refine ev_callv pp_Mo_isSimple rfl rfl rfl rfl (s_Mo_takes hq25) ?_
            refine ev_gos pp_Mo_isSimple 0 (S' := (64, [some (.ref 198), none], [.int q25.1], (223, kc, ks, pd_H g q25.2))) rfl ?_
            refine ev_gos pp_Mo_isSimple 1 (S' := (bif decide (q25.1 = 0) then 79 else 67, [some (.ref 198), none], [], (223, kc, ks, pd_H g q25.2))) rfl ?_
            rcases pd_cases h with ⟨hb26, h⟩ | ⟨hb26, h⟩
            · rw [hb26]
              refine ev_gos pp_Mo_isSimple 0 (S' := (79, [some (.ref 198), none], [], (223, kc, ks, pd_H g q25.2))) rfl ?_
              exact s_Mo_isSimple_79 _ _ _  h
            · rw [hb26]
              refine ev_gos pp_Mo_isSimple 2 (S' := (69, [some (.ref 198), none], [.int (0 : Int32), .ref 198], (223, kc, ks, pd_H g q25.2))) rfl ?_
              obtain ⟨q27, hq27, h⟩ := pd_bind h
              refine ev_callv pp_Mo_isSimple rfl rfl rfl rfl (s_Mo_isExpression hq27) ?_
              refine ev_gos pp_Mo_isSimple 0 (S' := (72, [some (.ref 198), none], [.int q27.1], (223, kc, ks, pd_H g q27.2))) rfl ?_
              refine ev_gos pp_Mo_isSimple 1 (S' := (bif decide (q27.1 = 0) then 79 else 75, [some (.ref 198), none], [], (223, kc, ks, pd_H g q27.2))) rfl ?_
              rcases pd_cases h with ⟨hb28, h⟩ | ⟨hb28, h⟩
              · rw [hb28]
                refine ev_gos pp_Mo_isSimple 0 (S' := (79, [some (.ref 198), none], [], (223, kc, ks, pd_H g q27.2))) rfl ?_
                exact s_Mo_isSimple_79 _ _ _  h
              · rw [hb28]
                refine ev_gos pp_Mo_isSimple 4 (S' := (154, [some (.ref 198), some (.int (1 : Int32))], [], (223, kc, ks, pd_H g q27.2))) rfl ?_
                exact s_Mo_isSimple_154 _ _ _  h
    · rw [hb4]
      refine ev_gos pp_Mo_isSimple 3 (S' := (154, [some (.ref 198), some (.int (1 : Int32))], [], (223, kc, ks, pd_H g q3.2))) rfl ?_
      exact s_Mo_isSimple_154 _ _ _  h
  · rw [hb2]
    refine ev_gos pp_Mo_isSimple 2 (S' := (11, [some (.ref 198), none], [.int (0 : Int32), .ref 198], (223, kc, ks, pd_H g q1.2))) rfl ?_
    obtain ⟨q29, hq29, h⟩ := pd_bind h
    refine ev_callv pp_Mo_isSimple rfl rfl rfl rfl (s_Mo_isExpression hq29) ?_
    refine ev_gos pp_Mo_isSimple 2 (S' := (154, [some (.ref 198), some (.int q29.1)], [], (223, kc, ks, pd_H g q29.2))) rfl ?_
    exact s_Mo_isSimple_154 _ _ _  h
theorem z_Mo_isSimple {w : Nat}  {v : pd_V} {q : (Int32 × pd_V)}  (h : d_Mo_isSimple w v = some q) : (q.1 == 0 || q.1 == 1) = true := by
  unfold d_Mo_isSimple at h
  obtain ⟨q1, hq1, h⟩ := pd_bind h
  rcases pd_cases h with ⟨hb2, h⟩ | ⟨hb2, h⟩
  · obtain ⟨q3, hq3, h⟩ := pd_bind h
    rcases pd_cases h with ⟨hb4, h⟩ | ⟨hb4, h⟩
    · obtain ⟨q5, hq5, h⟩ := pd_bind h
      rcases pd_cases h with ⟨hb6, h⟩ | ⟨hb6, h⟩
      · obtain ⟨q7, hq7, h⟩ := pd_bind h
        rcases pd_cases h with ⟨hb8, h⟩ | ⟨hb8, h⟩
        · obtain ⟨q9, hq9, h⟩ := pd_bind h
          rcases pd_cases h with ⟨hb10, h⟩ | ⟨hb10, h⟩
          · exact s_Mo_isSimple_152z _ _  h
          · obtain ⟨q11, hq11, h⟩ := pd_bind h
            rcases pd_cases h with ⟨hb12, h⟩ | ⟨hb12, h⟩
            · exact s_Mo_isSimple_152z _ _  h
            · obtain ⟨q13, hq13, h⟩ := pd_bind h
              rcases pd_cases h with ⟨hb14, h⟩ | ⟨hb14, h⟩
              · exact s_Mo_isSimple_152z _ _  h
              · exact s_Mo_isSimple_154z _ _ _  h
        · obtain ⟨q15, hq15, h⟩ := pd_bind h
          rcases pd_cases h with ⟨hb16, h⟩ | ⟨hb16, h⟩
          · exact s_Mo_isSimple_119z _ _  h
          · obtain ⟨q17, hq17, h⟩ := pd_bind h
            rcases pd_cases h with ⟨hb18, h⟩ | ⟨hb18, h⟩
            · exact s_Mo_isSimple_119z _ _  h
            · obtain ⟨q19, hq19, h⟩ := pd_bind h
              rcases pd_cases h with ⟨hb20, h⟩ | ⟨hb20, h⟩
              · exact s_Mo_isSimple_119z _ _  h
              · exact s_Mo_isSimple_154z _ _ _  h
      · obtain ⟨q21, hq21, h⟩ := pd_bind h
        rcases pd_cases h with ⟨hb22, h⟩ | ⟨hb22, h⟩
        · exact s_Mo_isSimple_79z _ _  h
        · obtain ⟨q23, hq23, h⟩ := pd_bind h
          rcases pd_cases h with ⟨hb24, h⟩ | ⟨hb24, h⟩
          · exact s_Mo_isSimple_79z _ _  h
          · obtain ⟨q25, hq25, h⟩ := pd_bind h
            rcases pd_cases h with ⟨hb26, h⟩ | ⟨hb26, h⟩
            · exact s_Mo_isSimple_79z _ _  h
            · obtain ⟨q27, hq27, h⟩ := pd_bind h
              rcases pd_cases h with ⟨hb28, h⟩ | ⟨hb28, h⟩
              · exact s_Mo_isSimple_79z _ _  h
              · exact s_Mo_isSimple_154z _ _ _  h
    · exact s_Mo_isSimple_154z _ _ _  h
  · obtain ⟨q29, hq29, h⟩ := pd_bind h
    exact s_Mo_isSimple_154z _ _ _  h
end FN
