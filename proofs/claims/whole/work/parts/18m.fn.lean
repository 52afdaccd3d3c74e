section FN
variable {xs : Nat → Int32} {L : Nat} {g : Nat → Int64} {d kc ks : Nat}
theorem pp_Mo_all {xs : Nat → Int32} {L : Nat} : (pj_P xs L 124).1 = fun S => pm_look tb_Mo_all S.1 S := rfl
def d_Mo_all_14 (w : Nat) (f : Nat) (l1 : Int32) (v : pd_V) : Option pd_V := match f with
  | 0 => none
  | f + 1 =>
    bif decide (l1 < 0) then
      some v
    else
      bif decide ((v 198 4) ≤ l1) then
        some v
      else
        bif pm_in l1 160 then
        bif decide ((v 200 l1.toNatClampNeg) = (63 : Int32)) then
          (d_Mo_going w (v 198 36) v).bind fun q5 =>
          bif !(decide ((v 200 l1.toNatClampNeg) = (125 : Int32))) then
            bif !(decide (q5 = 0)) then
              (d_Mo_issues w q5 v).bind fun q8 =>
              bif !(decide (q8.1 = 0)) then
                bif decide ((1 : Int32) = 0) then
                  (d_Mo_simple w l1 q5 q8.2).bind fun q11 =>
                  (d_Mo_upTo w 200 160 l1 (59 : Int32) (59 : Int32) q11).bind fun q12 =>
                  d_Mo_all_14 w f (q12 + (1 : Int32)) q11
                else
                  (d_Mo_parts w l1 q5 q8.2).bind fun q13 =>
                  d_Mo_all_14 w f q13.1 q13.2
              else
                d_Mo_all_14 w f (-1 : Int32) q8.2
            else
              bif decide ((1 : Int32) = 0) then
                (d_Mo_upTo w 200 160 l1 (59 : Int32) (59 : Int32) v).bind fun q15 =>
                d_Mo_all_14 w f (q15 + (1 : Int32)) v
              else
                (d_Mo_behindAll w l1 v).bind fun q16 =>
                d_Mo_all_14 w f q16 v
          else
            (d_Mo_shuts w l1 v).bind fun q17 =>
            d_Mo_all_14 w f q17.1 q17.2
        else
          bif !(decide ((v 200 l1.toNatClampNeg) = (42 : Int32))) then
            (d_Mo_going w (v 198 36) v).bind fun q19 =>
            bif !(decide ((v 200 l1.toNatClampNeg) = (125 : Int32))) then
              bif !(decide (q19 = 0)) then
                (d_Mo_issues w q19 v).bind fun q22 =>
                bif !(decide (q22.1 = 0)) then
                  bif decide ((0 : Int32) = 0) then
                    (d_Mo_simple w l1 q19 q22.2).bind fun q25 =>
                    (d_Mo_upTo w 200 160 l1 (59 : Int32) (59 : Int32) q25).bind fun q26 =>
                    d_Mo_all_14 w f (q26 + (1 : Int32)) q25
                  else
                    (d_Mo_parts w l1 q19 q22.2).bind fun q27 =>
                    d_Mo_all_14 w f q27.1 q27.2
                else
                  d_Mo_all_14 w f (-1 : Int32) q22.2
              else
                bif decide ((0 : Int32) = 0) then
                  (d_Mo_upTo w 200 160 l1 (59 : Int32) (59 : Int32) v).bind fun q29 =>
                  d_Mo_all_14 w f (q29 + (1 : Int32)) v
                else
                  (d_Mo_behindAll w l1 v).bind fun q30 =>
                  d_Mo_all_14 w f q30 v
            else
              (d_Mo_shuts w l1 v).bind fun q31 =>
              d_Mo_all_14 w f q31.1 q31.2
          else
            (d_Mo_going w (v 198 36) v).bind fun q32 =>
            bif !(decide ((v 200 l1.toNatClampNeg) = (125 : Int32))) then
              bif !(decide (q32 = 0)) then
                (d_Mo_issues w q32 v).bind fun q35 =>
                bif !(decide (q35.1 = 0)) then
                  bif decide ((1 : Int32) = 0) then
                    (d_Mo_simple w l1 q32 q35.2).bind fun q38 =>
                    (d_Mo_upTo w 200 160 l1 (59 : Int32) (59 : Int32) q38).bind fun q39 =>
                    d_Mo_all_14 w f (q39 + (1 : Int32)) q38
                  else
                    (d_Mo_parts w l1 q32 q35.2).bind fun q40 =>
                    d_Mo_all_14 w f q40.1 q40.2
                else
                  d_Mo_all_14 w f (-1 : Int32) q35.2
              else
                bif decide ((1 : Int32) = 0) then
                  (d_Mo_upTo w 200 160 l1 (59 : Int32) (59 : Int32) v).bind fun q42 =>
                  d_Mo_all_14 w f (q42 + (1 : Int32)) v
                else
                  (d_Mo_behindAll w l1 v).bind fun q43 =>
                  d_Mo_all_14 w f q43 v
            else
              (d_Mo_shuts w l1 v).bind fun q44 =>
              d_Mo_all_14 w f q44.1 q44.2
        else none
theorem s_Mo_all_14 {w : Nat} : ∀ (f : Nat) (l1 : Int32) (v : pd_V) (y2 : Option Value) (y3 : Option Value) (y4 : Option Value) (q : pd_V) , d_Mo_all_14 w f l1 v = some q → pm_ev (pj_P xs L) (d + 6) 124 (14, [some (.ref 198), some (.int l1), y2, y3, y4], [], (223, kc, ks, pd_H g v)) (.inl none, (223, kc, ks, pd_H g q)) := by
  intro f
  induction f with
  | zero => intro l1 v y2 y3 y4 q h; exact nomatch (show (none : Option pd_V) = some q from h)
  | succ f ih =>
    intro l1 v y2 y3 y4 q h
    rw [d_Mo_all_14] at h
    refine ev_gos pp_Mo_all 1 (S' := (15, [some (.ref 198), some (.int l1), y2, y3, y4], [.int l1], (223, kc, ks, pd_H g v))) rfl ?_
    refine ev_gos pp_Mo_all 1 (S' := (bif decide (l1 < 0) then 165 else 18, [some (.ref 198), some (.int l1), y2, y3, y4], [], (223, kc, ks, pd_H g v))) rfl ?_
    rcases pd_cases h with ⟨hb1, h⟩ | ⟨hb1, h⟩
    · rw [hb1]
      refine ev_gos pp_Mo_all 0 (S' := (165, [some (.ref 198), some (.int l1), y2, y3, y4], [], (223, kc, ks, pd_H g v))) rfl ?_
      cases h
      exact ev_fin pp_Mo_all rfl
    · rw [hb1]
      refine ev_gos pp_Mo_all 3 (S' := (23, [some (.ref 198), some (.int l1), y2, y3, y4], [.int (v 198 4), .int l1], (223, kc, ks, pd_H g v))) rfl ?_
      refine ev_gos pp_Mo_all 1 (S' := (bif decide ((v 198 4) ≤ l1) then 165 else 26, [some (.ref 198), some (.int l1), y2, y3, y4], [], (223, kc, ks, pd_H g v))) rfl ?_
      rcases pd_cases h with ⟨hb2, h⟩ | ⟨hb2, h⟩
      · rw [hb2]
        refine ev_gos pp_Mo_all 0 (S' := (165, [some (.ref 198), some (.int l1), y2, y3, y4], [], (223, kc, ks, pd_H g v))) rfl ?_
        cases h
        exact ev_fin pp_Mo_all rfl
      · rw [hb2]
        refine ev_gos pp_Mo_all 3 (S' := (31, [some (.ref 198), some (.int l1), y2, y3, y4], [.int l1, .ref 200], (223, kc, ks, pd_H g v))) rfl ?_
        obtain ⟨hc3, h⟩ := pd_chk h
        refine ev_iald pp_Mo_all rfl (fun _ => rfl) hc3 ?_
        refine ev_gos pp_Mo_all 3 (S' := (36, [some (.ref 198), some (.int l1), some (.int (v 200 l1.toNatClampNeg)), y3, y4], [.int (63 : Int32), .int (v 200 l1.toNatClampNeg)], (223, kc, ks, pd_H g v))) rfl ?_
        refine ev_gos pp_Mo_all 1 (S' := (bif decide ((v 200 l1.toNatClampNeg) = (63 : Int32)) then 45 else 39, [some (.ref 198), some (.int l1), some (.int (v 200 l1.toNatClampNeg)), y3, y4], [], (223, kc, ks, pd_H g v))) rfl ?_
        rcases pd_cases h with ⟨hb4, h⟩ | ⟨hb4, h⟩
        · rw [hb4]
          refine ev_gos pp_Mo_all 6 (S' := (56, [some (.ref 198), some (.int l1), some (.int (v 200 l1.toNatClampNeg)), some (.int (1 : Int32)), y4], [.int (v 198 36), .ref 198], (223, kc, ks, pd_H g v))) rfl ?_
          obtain ⟨q5, hq5, h⟩ := pd_bind h
          refine ev_callv pp_Mo_all rfl rfl rfl rfl (s_Mo_going hq5) ?_
          refine ev_gos pp_Mo_all 3 (S' := (64, [some (.ref 198), some (.int l1), some (.int (v 200 l1.toNatClampNeg)), some (.int (1 : Int32)), some (.int q5)], [.int (125 : Int32), .int (v 200 l1.toNatClampNeg)], (223, kc, ks, pd_H g v))) rfl ?_
          refine ev_gos pp_Mo_all 1 (S' := (bif !(decide ((v 200 l1.toNatClampNeg) = (125 : Int32))) then 76 else 67, [some (.ref 198), some (.int l1), some (.int (v 200 l1.toNatClampNeg)), some (.int (1 : Int32)), some (.int q5)], [], (223, kc, ks, pd_H g v))) rfl ?_
          rcases pd_cases h with ⟨hb6, h⟩ | ⟨hb6, h⟩
          · rw [hb6]
            refine ev_gos pp_Mo_all 1 (S' := (78, [some (.ref 198), some (.int l1), some (.int (v 200 l1.toNatClampNeg)), some (.int (1 : Int32)), some (.int q5)], [.int q5], (223, kc, ks, pd_H g v))) rfl ?_
            refine ev_gos pp_Mo_all 1 (S' := (bif !(decide (q5 = 0)) then 111 else 81, [some (.ref 198), some (.int l1), some (.int (v 200 l1.toNatClampNeg)), some (.int (1 : Int32)), some (.int q5)], [], (223, kc, ks, pd_H g v))) rfl ?_
            rcases pd_cases h with ⟨hb7, h⟩ | ⟨hb7, h⟩
            · rw [hb7]
              refine ev_gos pp_Mo_all 2 (S' := (114, [some (.ref 198), some (.int l1), some (.int (v 200 l1.toNatClampNeg)), some (.int (1 : Int32)), some (.int q5)], [.int q5, .ref 198], (223, kc, ks, pd_H g v))) rfl ?_
              obtain ⟨q8, hq8, h⟩ := pd_bind h
              refine ev_callv pp_Mo_all rfl rfl rfl rfl (s_Mo_issues hq8) ?_
              refine ev_gos pp_Mo_all 0 (S' := (117, [some (.ref 198), some (.int l1), some (.int (v 200 l1.toNatClampNeg)), some (.int (1 : Int32)), some (.int q5)], [.int q8.1], (223, kc, ks, pd_H g q8.2))) rfl ?_
              refine ev_gos pp_Mo_all 1 (S' := (bif !(decide (q8.1 = 0)) then 125 else 120, [some (.ref 198), some (.int l1), some (.int (v 200 l1.toNatClampNeg)), some (.int (1 : Int32)), some (.int q5)], [], (223, kc, ks, pd_H g q8.2))) rfl ?_
              rcases pd_cases h with ⟨hb9, h⟩ | ⟨hb9, h⟩
              · rw [hb9]
                refine ev_gos pp_Mo_all 1 (S' := (126, [some (.ref 198), some (.int l1), some (.int (v 200 l1.toNatClampNeg)), some (.int (1 : Int32)), some (.int q5)], [.int (1 : Int32)], (223, kc, ks, pd_H g q8.2))) rfl ?_
                refine ev_gos pp_Mo_all 1 (S' := (bif decide ((1 : Int32) = 0) then 140 else 129, [some (.ref 198), some (.int l1), some (.int (v 200 l1.toNatClampNeg)), some (.int (1 : Int32)), some (.int q5)], [], (223, kc, ks, pd_H g q8.2))) rfl ?_
                rcases pd_cases h with ⟨hb10, h⟩ | ⟨hb10, h⟩
                · rw [hb10]
                  refine ev_gos pp_Mo_all 3 (S' := (144, [some (.ref 198), some (.int l1), some (.int (v 200 l1.toNatClampNeg)), some (.int (1 : Int32)), some (.int q5)], [.int q5, .int l1, .ref 198], (223, kc, ks, pd_H g q8.2))) rfl ?_
                  obtain ⟨q11, hq11, h⟩ := pd_bind h
                  refine ev_callv pp_Mo_all rfl rfl rfl rfl (s_Mo_simple hq11) ?_
                  refine ev_gos pp_Mo_all 5 (S' := (156, [some (.ref 198), some (.int l1), some (.int (v 200 l1.toNatClampNeg)), some (.int (1 : Int32)), some (.int q5)], [.int (59 : Int32), .int (59 : Int32), .int l1, .ref 200], (223, kc, ks, pd_H g q11))) rfl ?_
                  obtain ⟨q12, hq12, h⟩ := pd_bind h
                  refine ev_call pp_Mo_all rfl rfl rfl (s_Mo_upTo (fun _ => rfl) hq12) ?_
                  refine ev_gos pp_Mo_all 4 (S' := (14, [some (.ref 198), some (.int (q12 + (1 : Int32))), some (.int (v 200 l1.toNatClampNeg)), some (.int (1 : Int32)), some (.int q5)], [], (223, kc, ks, pd_H g q11))) rfl ?_
                  exact ih _ _ _ _ _ _  h
                · rw [hb10]
                  refine ev_gos pp_Mo_all 3 (S' := (133, [some (.ref 198), some (.int l1), some (.int (v 200 l1.toNatClampNeg)), some (.int (1 : Int32)), some (.int q5)], [.int q5, .int l1, .ref 198], (223, kc, ks, pd_H g q8.2))) rfl ?_
                  obtain ⟨q13, hq13, h⟩ := pd_bind h
                  refine ev_callv pp_Mo_all rfl rfl rfl rfl (s_Mo_parts hq13) ?_
                  refine ev_gos pp_Mo_all 3 (S' := (14, [some (.ref 198), some (.int q13.1), some (.int (v 200 l1.toNatClampNeg)), some (.int (1 : Int32)), some (.int q5)], [], (223, kc, ks, pd_H g q13.2))) rfl ?_
                  exact ih _ _ _ _ _ _  h
              · rw [hb9]
                refine ev_gos pp_Mo_all 4 (S' := (14, [some (.ref 198), some (.int (-1 : Int32)), some (.int (v 200 l1.toNatClampNeg)), some (.int (1 : Int32)), some (.int q5)], [], (223, kc, ks, pd_H g q8.2))) rfl ?_
                exact ih _ _ _ _ _ _  h
            · rw [hb7]
              refine ev_gos pp_Mo_all 1 (S' := (82, [some (.ref 198), some (.int l1), some (.int (v 200 l1.toNatClampNeg)), some (.int (1 : Int32)), some (.int q5)], [.int (1 : Int32)], (223, kc, ks, pd_H g v))) rfl ?_
              refine ev_gos pp_Mo_all 1 (S' := (bif decide ((1 : Int32) = 0) then 93 else 85, [some (.ref 198), some (.int l1), some (.int (v 200 l1.toNatClampNeg)), some (.int (1 : Int32)), some (.int q5)], [], (223, kc, ks, pd_H g v))) rfl ?_
              rcases pd_cases h with ⟨hb14, h⟩ | ⟨hb14, h⟩
              · rw [hb14]
                refine ev_gos pp_Mo_all 5 (S' := (102, [some (.ref 198), some (.int l1), some (.int (v 200 l1.toNatClampNeg)), some (.int (1 : Int32)), some (.int q5)], [.int (59 : Int32), .int (59 : Int32), .int l1, .ref 200], (223, kc, ks, pd_H g v))) rfl ?_
                obtain ⟨q15, hq15, h⟩ := pd_bind h
                refine ev_call pp_Mo_all rfl rfl rfl (s_Mo_upTo (fun _ => rfl) hq15) ?_
                refine ev_gos pp_Mo_all 5 (S' := (14, [some (.ref 198), some (.int (q15 + (1 : Int32))), some (.int (v 200 l1.toNatClampNeg)), some (.int (1 : Int32)), some (.int q5)], [], (223, kc, ks, pd_H g v))) rfl ?_
                exact ih _ _ _ _ _ _  h
              · rw [hb14]
                refine ev_gos pp_Mo_all 2 (S' := (87, [some (.ref 198), some (.int l1), some (.int (v 200 l1.toNatClampNeg)), some (.int (1 : Int32)), some (.int q5)], [.int l1, .ref 198], (223, kc, ks, pd_H g v))) rfl ?_
                obtain ⟨q16, hq16, h⟩ := pd_bind h
                refine ev_callv pp_Mo_all rfl rfl rfl rfl (s_Mo_behindAll hq16) ?_
                refine ev_gos pp_Mo_all 4 (S' := (14, [some (.ref 198), some (.int q16), some (.int (v 200 l1.toNatClampNeg)), some (.int (1 : Int32)), some (.int q5)], [], (223, kc, ks, pd_H g v))) rfl ?_
                exact ih _ _ _ _ _ _  h
          · rw [hb6]
            refine ev_gos pp_Mo_all 2 (S' := (69, [some (.ref 198), some (.int l1), some (.int (v 200 l1.toNatClampNeg)), some (.int (1 : Int32)), some (.int q5)], [.int l1, .ref 198], (223, kc, ks, pd_H g v))) rfl ?_
            obtain ⟨q17, hq17, h⟩ := pd_bind h
            refine ev_callv pp_Mo_all rfl rfl rfl rfl (s_Mo_shuts hq17) ?_
            refine ev_gos pp_Mo_all 3 (S' := (14, [some (.ref 198), some (.int q17.1), some (.int (v 200 l1.toNatClampNeg)), some (.int (1 : Int32)), some (.int q5)], [], (223, kc, ks, pd_H g q17.2))) rfl ?_
            exact ih _ _ _ _ _ _  h
        · rw [hb4]
          refine ev_gos pp_Mo_all 2 (S' := (42, [some (.ref 198), some (.int l1), some (.int (v 200 l1.toNatClampNeg)), y3, y4], [.int (42 : Int32), .int (v 200 l1.toNatClampNeg)], (223, kc, ks, pd_H g v))) rfl ?_
          refine ev_gos pp_Mo_all 1 (S' := (bif !(decide ((v 200 l1.toNatClampNeg) = (42 : Int32))) then 49 else 45, [some (.ref 198), some (.int l1), some (.int (v 200 l1.toNatClampNeg)), y3, y4], [], (223, kc, ks, pd_H g v))) rfl ?_
          rcases pd_cases h with ⟨hb18, h⟩ | ⟨hb18, h⟩
          · rw [hb18]
            refine ev_gos pp_Mo_all 5 (S' := (56, [some (.ref 198), some (.int l1), some (.int (v 200 l1.toNatClampNeg)), some (.int (0 : Int32)), y4], [.int (v 198 36), .ref 198], (223, kc, ks, pd_H g v))) rfl ?_
            obtain ⟨q19, hq19, h⟩ := pd_bind h
            refine ev_callv pp_Mo_all rfl rfl rfl rfl (s_Mo_going hq19) ?_
            refine ev_gos pp_Mo_all 3 (S' := (64, [some (.ref 198), some (.int l1), some (.int (v 200 l1.toNatClampNeg)), some (.int (0 : Int32)), some (.int q19)], [.int (125 : Int32), .int (v 200 l1.toNatClampNeg)], (223, kc, ks, pd_H g v))) rfl ?_
            refine ev_gos pp_Mo_all 1 (S' := (bif !(decide ((v 200 l1.toNatClampNeg) = (125 : Int32))) then 76 else 67, [some (.ref 198), some (.int l1), some (.int (v 200 l1.toNatClampNeg)), some (.int (0 : Int32)), some (.int q19)], [], (223, kc, ks, pd_H g v))) rfl ?_
            rcases pd_cases h with ⟨hb20, h⟩ | ⟨hb20, h⟩
            · rw [hb20]
              refine ev_gos pp_Mo_all 1 (S' := (78, [some (.ref 198), some (.int l1), some (.int (v 200 l1.toNatClampNeg)), some (.int (0 : Int32)), some (.int q19)], [.int q19], (223, kc, ks, pd_H g v))) rfl ?_
              refine ev_gos pp_Mo_all 1 (S' := (bif !(decide (q19 = 0)) then 111 else 81, [some (.ref 198), some (.int l1), some (.int (v 200 l1.toNatClampNeg)), some (.int (0 : Int32)), some (.int q19)], [], (223, kc, ks, pd_H g v))) rfl ?_
              rcases pd_cases h with ⟨hb21, h⟩ | ⟨hb21, h⟩
              · rw [hb21]
                refine ev_gos pp_Mo_all 2 (S' := (114, [some (.ref 198), some (.int l1), some (.int (v 200 l1.toNatClampNeg)), some (.int (0 : Int32)), some (.int q19)], [.int q19, .ref 198], (223, kc, ks, pd_H g v))) rfl ?_
                obtain ⟨q22, hq22, h⟩ := pd_bind h
                refine ev_callv pp_Mo_all rfl rfl rfl rfl (s_Mo_issues hq22) ?_
                refine ev_gos pp_Mo_all 0 (S' := (117, [some (.ref 198), some (.int l1), some (.int (v 200 l1.toNatClampNeg)), some (.int (0 : Int32)), some (.int q19)], [.int q22.1], (223, kc, ks, pd_H g q22.2))) rfl ?_
                refine ev_gos pp_Mo_all 1 (S' := (bif !(decide (q22.1 = 0)) then 125 else 120, [some (.ref 198), some (.int l1), some (.int (v 200 l1.toNatClampNeg)), some (.int (0 : Int32)), some (.int q19)], [], (223, kc, ks, pd_H g q22.2))) rfl ?_
                rcases pd_cases h with ⟨hb23, h⟩ | ⟨hb23, h⟩
                · rw [hb23]
                  refine ev_gos pp_Mo_all 1 (S' := (126, [some (.ref 198), some (.int l1), some (.int (v 200 l1.toNatClampNeg)), some (.int (0 : Int32)), some (.int q19)], [.int (0 : Int32)], (223, kc, ks, pd_H g q22.2))) rfl ?_
                  refine ev_gos pp_Mo_all 1 (S' := (bif decide ((0 : Int32) = 0) then 140 else 129, [some (.ref 198), some (.int l1), some (.int (v 200 l1.toNatClampNeg)), some (.int (0 : Int32)), some (.int q19)], [], (223, kc, ks, pd_H g q22.2))) rfl ?_
                  rcases pd_cases h with ⟨hb24, h⟩ | ⟨hb24, h⟩
                  · rw [hb24]
                    refine ev_gos pp_Mo_all 3 (S' := (144, [some (.ref 198), some (.int l1), some (.int (v 200 l1.toNatClampNeg)), some (.int (0 : Int32)), some (.int q19)], [.int q19, .int l1, .ref 198], (223, kc, ks, pd_H g q22.2))) rfl ?_
                    obtain ⟨q25, hq25, h⟩ := pd_bind h
                    refine ev_callv pp_Mo_all rfl rfl rfl rfl (s_Mo_simple hq25) ?_
                    refine ev_gos pp_Mo_all 5 (S' := (156, [some (.ref 198), some (.int l1), some (.int (v 200 l1.toNatClampNeg)), some (.int (0 : Int32)), some (.int q19)], [.int (59 : Int32), .int (59 : Int32), .int l1, .ref 200], (223, kc, ks, pd_H g q25))) rfl ?_
                    obtain ⟨q26, hq26, h⟩ := pd_bind h
                    refine ev_call pp_Mo_all rfl rfl rfl (s_Mo_upTo (fun _ => rfl) hq26) ?_
                    refine ev_gos pp_Mo_all 4 (S' := (14, [some (.ref 198), some (.int (q26 + (1 : Int32))), some (.int (v 200 l1.toNatClampNeg)), some (.int (0 : Int32)), some (.int q19)], [], (223, kc, ks, pd_H g q25))) rfl ?_
                    exact ih _ _ _ _ _ _  h
                  · rw [hb24]
                    refine ev_gos pp_Mo_all 3 (S' := (133, [some (.ref 198), some (.int l1), some (.int (v 200 l1.toNatClampNeg)), some (.int (0 : Int32)), some (.int q19)], [.int q19, .int l1, .ref 198], (223, kc, ks, pd_H g q22.2))) rfl ?_
                    obtain ⟨q27, hq27, h⟩ := pd_bind h
                    refine ev_callv pp_Mo_all rfl rfl rfl rfl (s_Mo_parts hq27) ?_
                    refine ev_gos pp_Mo_all 3 (S' := (14, [some (.ref 198), some (.int q27.1), some (.int (v 200 l1.toNatClampNeg)), some (.int (0 : Int32)), some (.int q19)], [], (223, kc, ks, pd_H g q27.2))) rfl ?_
                    exact ih _ _ _ _ _ _  h
                · rw [hb23]
                  refine ev_gos pp_Mo_all 4 (S' := (14, [some (.ref 198), some (.int (-1 : Int32)), some (.int (v 200 l1.toNatClampNeg)), some (.int (0 : Int32)), some (.int q19)], [], (223, kc, ks, pd_H g q22.2))) rfl ?_
                  exact ih _ _ _ _ _ _  h
              · rw [hb21]
                refine ev_gos pp_Mo_all 1 (S' := (82, [some (.ref 198), some (.int l1), some (.int (v 200 l1.toNatClampNeg)), some (.int (0 : Int32)), some (.int q19)], [.int (0 : Int32)], (223, kc, ks, pd_H g v))) rfl ?_
                refine ev_gos pp_Mo_all 1 (S' := (bif decide ((0 : Int32) = 0) then 93 else 85, [some (.ref 198), some (.int l1), some (.int (v 200 l1.toNatClampNeg)), some (.int (0 : Int32)), some (.int q19)], [], (223, kc, ks, pd_H g v))) rfl ?_
                rcases pd_cases h with ⟨hb28, h⟩ | ⟨hb28, h⟩
                · rw [hb28]
                  refine ev_gos pp_Mo_all 5 (S' := (102, [some (.ref 198), some (.int l1), some (.int (v 200 l1.toNatClampNeg)), some (.int (0 : Int32)), some (.int q19)], [.int (59 : Int32), .int (59 : Int32), .int l1, .ref 200], (223, kc, ks, pd_H g v))) rfl ?_
                  obtain ⟨q29, hq29, h⟩ := pd_bind h
                  refine ev_call pp_Mo_all rfl rfl rfl (s_Mo_upTo (fun _ => rfl) hq29) ?_
                  refine ev_gos pp_Mo_all 5 (S' := (14, [some (.ref 198), some (.int (q29 + (1 : Int32))), some (.int (v 200 l1.toNatClampNeg)), some (.int (0 : Int32)), some (.int q19)], [], (223, kc, ks, pd_H g v))) rfl ?_
                  exact ih _ _ _ _ _ _  h
                · rw [hb28]
                  refine ev_gos pp_Mo_all 2 (S' := (87, [some (.ref 198), some (.int l1), some (.int (v 200 l1.toNatClampNeg)), some (.int (0 : Int32)), some (.int q19)], [.int l1, .ref 198], (223, kc, ks, pd_H g v))) rfl ?_
                  obtain ⟨q30, hq30, h⟩ := pd_bind h
                  refine ev_callv pp_Mo_all rfl rfl rfl rfl (s_Mo_behindAll hq30) ?_
                  refine ev_gos pp_Mo_all 4 (S' := (14, [some (.ref 198), some (.int q30), some (.int (v 200 l1.toNatClampNeg)), some (.int (0 : Int32)), some (.int q19)], [], (223, kc, ks, pd_H g v))) rfl ?_
                  exact ih _ _ _ _ _ _  h
            · rw [hb20]
              refine ev_gos pp_Mo_all 2 (S' := (69, [some (.ref 198), some (.int l1), some (.int (v 200 l1.toNatClampNeg)), some (.int (0 : Int32)), some (.int q19)], [.int l1, .ref 198], (223, kc, ks, pd_H g v))) rfl ?_
              obtain ⟨q31, hq31, h⟩ := pd_bind h
              refine ev_callv pp_Mo_all rfl rfl rfl rfl (s_Mo_shuts hq31) ?_
              refine ev_gos pp_Mo_all 3 (S' := (14, [some (.ref 198), some (.int q31.1), some (.int (v 200 l1.toNatClampNeg)), some (.int (0 : Int32)), some (.int q19)], [], (223, kc, ks, pd_H g q31.2))) rfl ?_
              exact ih _ _ _ _ _ _  h
          · rw [hb18]
            refine ev_gos pp_Mo_all 6 (S' := (56, [some (.ref 198), some (.int l1), some (.int (v 200 l1.toNatClampNeg)), some (.int (1 : Int32)), y4], [.int (v 198 36), .ref 198], (223, kc, ks, pd_H g v))) rfl ?_
            obtain ⟨q32, hq32, h⟩ := pd_bind h
            refine ev_callv pp_Mo_all rfl rfl rfl rfl (s_Mo_going hq32) ?_
            refine ev_gos pp_Mo_all 3 (S' := (64, [some (.ref 198), some (.int l1), some (.int (v 200 l1.toNatClampNeg)), some (.int (1 : Int32)), some (.int q32)], [.int (125 : Int32), .int (v 200 l1.toNatClampNeg)], (223, kc, ks, pd_H g v))) rfl ?_
            refine ev_gos pp_Mo_all 1 (S' := (bif !(decide ((v 200 l1.toNatClampNeg) = (125 : Int32))) then 76 else 67, [some (.ref 198), some (.int l1), some (.int (v 200 l1.toNatClampNeg)), some (.int (1 : Int32)), some (.int q32)], [], (223, kc, ks, pd_H g v))) rfl ?_
            rcases pd_cases h with ⟨hb33, h⟩ | ⟨hb33, h⟩
            · rw [hb33]
              refine ev_gos pp_Mo_all 1 (S' := (78, [some (.ref 198), some (.int l1), some (.int (v 200 l1.toNatClampNeg)), some (.int (1 : Int32)), some (.int q32)], [.int q32], (223, kc, ks, pd_H g v))) rfl ?_
              refine ev_gos pp_Mo_all 1 (S' := (bif !(decide (q32 = 0)) then 111 else 81, [some (.ref 198), some (.int l1), some (.int (v 200 l1.toNatClampNeg)), some (.int (1 : Int32)), some (.int q32)], [], (223, kc, ks, pd_H g v))) rfl ?_
              rcases pd_cases h with ⟨hb34, h⟩ | ⟨hb34, h⟩
              · rw [hb34]
                refine ev_gos pp_Mo_all 2 (S' := (114, [some (.ref 198), some (.int l1), some (.int (v 200 l1.toNatClampNeg)), some (.int (1 : Int32)), some (.int q32)], [.int q32, .ref 198], (223, kc, ks, pd_H g v))) rfl ?_
                obtain ⟨q35, hq35, h⟩ := pd_bind h
                refine ev_callv pp_Mo_all rfl rfl rfl rfl (s_Mo_issues hq35) ?_
                refine ev_gos pp_Mo_all 0 (S' := (117, [some (.ref 198), some (.int l1), some (.int (v 200 l1.toNatClampNeg)), some (.int (1 : Int32)), some (.int q32)], [.int q35.1], (223, kc, ks, pd_H g q35.2))) rfl ?_
                refine ev_gos pp_Mo_all 1 (S' := (bif !(decide (q35.1 = 0)) then 125 else 120, [some (.ref 198), some (.int l1), some (.int (v 200 l1.toNatClampNeg)), some (.int (1 : Int32)), some (.int q32)], [], (223, kc, ks, pd_H g q35.2))) rfl ?_
                rcases pd_cases h with ⟨hb36, h⟩ | ⟨hb36, h⟩
                · rw [hb36]
                  refine ev_gos pp_Mo_all 1 (S' := (126, [some (.ref 198), some (.int l1), some (.int (v 200 l1.toNatClampNeg)), some (.int (1 : Int32)), some (.int q32)], [.int (1 : Int32)], (223, kc, ks, pd_H g q35.2))) rfl ?_
                  refine ev_gos pp_Mo_all 1 (S' := (bif decide ((1 : Int32) = 0) then 140 else 129, [some (.ref 198), some (.int l1), some (.int (v 200 l1.toNatClampNeg)), some (.int (1 : Int32)), some (.int q32)], [], (223, kc, ks, pd_H g q35.2))) rfl ?_
                  rcases pd_cases h with ⟨hb37, h⟩ | ⟨hb37, h⟩
                  · rw [hb37]
                    refine ev_gos pp_Mo_all 3 (S' := (144, [some (.ref 198), some (.int l1), some (.int (v 200 l1.toNatClampNeg)), some (.int (1 : Int32)), some (.int q32)], [.int q32, .int l1, .ref 198], (223, kc, ks, pd_H g q35.2))) rfl ?_
                    obtain ⟨q38, hq38, h⟩ := pd_bind h
                    refine ev_callv pp_Mo_all rfl rfl rfl rfl (s_Mo_simple hq38) ?_
                    refine ev_gos pp_Mo_all 5 (S' := (156, [some (.ref 198), some (.int l1), some (.int (v 200 l1.toNatClampNeg)), some (.int (1 : Int32)), some (.int q32)], [.int (59 : Int32), .int (59 : Int32), .int l1, .ref 200], (223, kc, ks, pd_H g q38))) rfl ?_
                    obtain ⟨q39, hq39, h⟩ := pd_bind h
                    refine ev_call pp_Mo_all rfl rfl rfl (s_Mo_upTo (fun _ => rfl) hq39) ?_
                    refine ev_gos pp_Mo_all 4 (S' := (14, [some (.ref 198), some (.int (q39 + (1 : Int32))), some (.int (v 200 l1.toNatClampNeg)), some (.int (1 : Int32)), some (.int q32)], [], (223, kc, ks, pd_H g q38))) rfl ?_
                    exact ih _ _ _ _ _ _  h
                  · rw [hb37]
                    refine ev_gos pp_Mo_all 3 (S' := (133, [some (.ref 198), some (.int l1), some (.int (v 200 l1.toNatClampNeg)), some (.int (1 : Int32)), some (.int q32)], [.int q32, .int l1, .ref 198], (223, kc, ks, pd_H g q35.2))) rfl ?_
                    obtain ⟨q40, hq40, h⟩ := pd_bind h
                    refine ev_callv pp_Mo_all rfl rfl rfl rfl (s_Mo_parts hq40) ?_
                    refine ev_gos pp_Mo_all 3 (S' := (14, [some (.ref 198), some (.int q40.1), some (.int (v 200 l1.toNatClampNeg)), some (.int (1 : Int32)), some (.int q32)], [], (223, kc, ks, pd_H g q40.2))) rfl ?_
                    exact ih _ _ _ _ _ _  h
                · rw [hb36]
                  refine ev_gos pp_Mo_all 4 (S' := (14, [some (.ref 198), some (.int (-1 : Int32)), some (.int (v 200 l1.toNatClampNeg)), some (.int (1 : Int32)), some (.int q32)], [], (223, kc, ks, pd_H g q35.2))) rfl ?_
                  exact ih _ _ _ _ _ _  h
              · rw [hb34]
                refine ev_gos pp_Mo_all 1 (S' := (82, [some (.ref 198), some (.int l1), some (.int (v 200 l1.toNatClampNeg)), some (.int (1 : Int32)), some (.int q32)], [.int (1 : Int32)], (223, kc, ks, pd_H g v))) rfl ?_
                refine ev_gos pp_Mo_all 1 (S' := (bif decide ((1 : Int32) = 0) then 93 else 85, [some (.ref 198), some (.int l1), some (.int (v 200 l1.toNatClampNeg)), some (.int (1 : Int32)), some (.int q32)], [], (223, kc, ks, pd_H g v))) rfl ?_
                rcases pd_cases h with ⟨hb41, h⟩ | ⟨hb41, h⟩
                · rw [hb41]
                  refine ev_gos pp_Mo_all 5 (S' := (102, [some (.ref 198), some (.int l1), some (.int (v 200 l1.toNatClampNeg)), some (.int (1 : Int32)), some (.int q32)], [.int (59 : Int32), .int (59 : Int32), .int l1, .ref 200], (223, kc, ks, pd_H g v))) rfl ?_
                  obtain ⟨q42, hq42, h⟩ := pd_bind h
                  refine ev_call pp_Mo_all rfl rfl rfl (s_Mo_upTo (fun _ => rfl) hq42) ?_
                  refine ev_gos pp_Mo_all 5 (S' := (14, [some (.ref 198), some (.int (q42 + (1 : Int32))), some (.int (v 200 l1.toNatClampNeg)), some (.int (1 : Int32)), some (.int q32)], [], (223, kc, ks, pd_H g v))) rfl ?_
                  exact ih _ _ _ _ _ _  h
                · rw [hb41]
                  refine ev_gos pp_Mo_all 2 (S' := (87, [some (.ref 198), some (.int l1), some (.int (v 200 l1.toNatClampNeg)), some (.int (1 : Int32)), some (.int q32)], [.int l1, .ref 198], (223, kc, ks, pd_H g v))) rfl ?_
                  obtain ⟨q43, hq43, h⟩ := pd_bind h
                  refine ev_callv pp_Mo_all rfl rfl rfl rfl (s_Mo_behindAll hq43) ?_
                  refine ev_gos pp_Mo_all 4 (S' := (14, [some (.ref 198), some (.int q43), some (.int (v 200 l1.toNatClampNeg)), some (.int (1 : Int32)), some (.int q32)], [], (223, kc, ks, pd_H g v))) rfl ?_
                  exact ih _ _ _ _ _ _  h
            · rw [hb33]
              refine ev_gos pp_Mo_all 2 (S' := (69, [some (.ref 198), some (.int l1), some (.int (v 200 l1.toNatClampNeg)), some (.int (1 : Int32)), some (.int q32)], [.int l1, .ref 198], (223, kc, ks, pd_H g v))) rfl ?_
              obtain ⟨q44, hq44, h⟩ := pd_bind h
              refine ev_callv pp_Mo_all rfl rfl rfl rfl (s_Mo_shuts hq44) ?_
              refine ev_gos pp_Mo_all 3 (S' := (14, [some (.ref 198), some (.int q44.1), some (.int (v 200 l1.toNatClampNeg)), some (.int (1 : Int32)), some (.int q32)], [], (223, kc, ks, pd_H g q44.2))) rfl ?_
              exact ih _ _ _ _ _ _  h
def d_Mo_all (w : Nat)  (v : pd_V) : Option pd_V :=
  d_Mo_all_14 w w (0 : Int32) (pd_w (pd_w v 198 35 (0 : Int32)) 198 36 (255 : Int32))
theorem s_Mo_all {w : Nat}  {v : pd_V} {q : pd_V}  (h : d_Mo_all w v = some q) : pm_ev (pj_P xs L) (d + 6) 124 (0, [some (.ref 198), none, none, none, none], [], (223, kc, ks, pd_H g v)) (.inl none, (223, kc, ks, pd_H g q)) := by
  unfold d_Mo_all at h
  refine ev_gos pp_Mo_all 4 (S' := (4, [some (.ref 198), some (.int (0 : Int32)), none, none, none], [.int (0 : Int32), .ref 198], (223, kc, ks, pd_H g v))) rfl ?_
  refine ev_put pp_Mo_all rfl (fun _ => rfl) rfl rfl rfl ?_
  refine ev_gos pp_Mo_all 2 (S' := (11, [some (.ref 198), some (.int (0 : Int32)), none, none, none], [.int (255 : Int32), .ref 198], (223, kc, ks, pd_H g (pd_w v 198 35 (0 : Int32))))) rfl ?_
  refine ev_put pp_Mo_all rfl (fun _ => rfl) rfl rfl rfl ?_
  refine ev_gos pp_Mo_all 0 (S' := (14, [some (.ref 198), some (.int (0 : Int32)), none, none, none], [], (223, kc, ks, pd_H g (pd_w (pd_w v 198 35 (0 : Int32)) 198 36 (255 : Int32))))) rfl ?_
  exact s_Mo_all_14 _ _ _ _ _ _ _  h
theorem pp_Mo_again {xs : Nat → Int32} {L : Nat} : (pj_P xs L 122).1 = fun S => pm_look tb_Mo_again S.1 S := rfl
def d_Mo_again (w : Nat)  (v : pd_V) : Option (Int32 × pd_V) :=
  (d_Mo_begin w (0 : Int32) (v 198 21) v).bind fun q1 =>
  (d_Mo_all w (pd_w (pd_w (pd_w (pd_w q1 198 23 (0 : Int32)) 198 24 (0 : Int32)) 198 25 (0 : Int32)) 198 26 (0 : Int32))).bind fun q2 =>
  bif decide ((q2 198 25) = 0) then
    some ((1 : Int32), q2)
  else
    some ((0 : Int32), q2)
theorem s_Mo_again {w : Nat}  {v : pd_V} {q : (Int32 × pd_V)}  (h : d_Mo_again w v = some q) : pm_ev (pj_P xs L) (d + 7) 122 (0, [some (.ref 198)], [], (223, kc, ks, pd_H g v)) (.inl (some (.int q.1)), (223, kc, ks, pd_H g q.2)) := by
  unfold d_Mo_again at h
  refine ev_gos pp_Mo_again 4 (S' := (6, [some (.ref 198)], [.int (v 198 21), .int (0 : Int32), .ref 198], (223, kc, ks, pd_H g v))) rfl ?_
  obtain ⟨q1, hq1, h⟩ := pd_bind h
  refine ev_callv pp_Mo_again rfl rfl rfl rfl (s_Mo_begin hq1) ?_
  refine ev_gos pp_Mo_again 2 (S' := (11, [some (.ref 198)], [.int (0 : Int32), .ref 198], (223, kc, ks, pd_H g q1))) rfl ?_
  refine ev_put pp_Mo_again rfl (fun _ => rfl) rfl rfl rfl ?_
  refine ev_gos pp_Mo_again 2 (S' := (16, [some (.ref 198)], [.int (0 : Int32), .ref 198], (223, kc, ks, pd_H g (pd_w q1 198 23 (0 : Int32))))) rfl ?_
  refine ev_put pp_Mo_again rfl (fun _ => rfl) rfl rfl rfl ?_
  refine ev_gos pp_Mo_again 2 (S' := (21, [some (.ref 198)], [.int (0 : Int32), .ref 198], (223, kc, ks, pd_H g (pd_w (pd_w q1 198 23 (0 : Int32)) 198 24 (0 : Int32))))) rfl ?_
  refine ev_put pp_Mo_again rfl (fun _ => rfl) rfl rfl (pd_fit pd_b0) ?_
  refine ev_gos pp_Mo_again 2 (S' := (26, [some (.ref 198)], [.int (0 : Int32), .ref 198], (223, kc, ks, pd_H g (pd_w (pd_w (pd_w q1 198 23 (0 : Int32)) 198 24 (0 : Int32)) 198 25 (0 : Int32))))) rfl ?_
  refine ev_put pp_Mo_again rfl (fun _ => rfl) rfl rfl rfl ?_
  refine ev_gos pp_Mo_again 1 (S' := (30, [some (.ref 198)], [.ref 198], (223, kc, ks, pd_H g (pd_w (pd_w (pd_w (pd_w q1 198 23 (0 : Int32)) 198 24 (0 : Int32)) 198 25 (0 : Int32)) 198 26 (0 : Int32))))) rfl ?_
  obtain ⟨q2, hq2, h⟩ := pd_bind h
  refine ev_callv pp_Mo_again rfl rfl rfl rfl (s_Mo_all hq2) ?_
  refine ev_gos pp_Mo_again 2 (S' := (37, [some (.ref 198)], [.int (q2 198 25)], (223, kc, ks, pd_H g q2))) rfl ?_
  refine ev_gos pp_Mo_again 1 (S' := (bif decide ((q2 198 25) = 0) then 44 else 40, [some (.ref 198)], [], (223, kc, ks, pd_H g q2))) rfl ?_
  rcases pd_cases h with ⟨hb3, h⟩ | ⟨hb3, h⟩
  · rw [hb3]
    refine ev_gos pp_Mo_again 1 (S' := (45, [some (.ref 198)], [.int (1 : Int32)], (223, kc, ks, pd_H g q2))) rfl ?_
    cases h
    exact ev_fin pp_Mo_again rfl
  · rw [hb3]
    refine ev_gos pp_Mo_again 2 (S' := (45, [some (.ref 198)], [.int (0 : Int32)], (223, kc, ks, pd_H g q2))) rfl ?_
    cases h
    exact ev_fin pp_Mo_again rfl
theorem pp_Mo_start {xs : Nat → Int32} {L : Nat} : (pj_P xs L 121).1 = fun S => pm_look tb_Mo_start S.1 S := rfl
def d_Mo_start (w : Nat)  (v : pd_V) : Option pd_V :=
  bif !(decide ((v 198 5) = 0)) then
    (d_Mo_throwing (0 : Int32) (0 : Int32) (0 : Int32) v).bind fun q2 =>
    bif decide (q2.1 = 0) then
      (d_Mo_again w (pd_w (pd_w (pd_w q2.2 198 20 (1 : Int32)) 198 21 (q2.2 198 12)) 198 22 (0 : Int32))).bind fun q4 =>
      some q4.2
    else
      some q2.2
  else
    (d_Mo_throwing (1 : Int32) (0 : Int32) (0 : Int32) v).bind fun q5 =>
    bif decide (q5.1 = 0) then
      (d_Mo_again w (pd_w (pd_w (pd_w q5.2 198 20 (1 : Int32)) 198 21 (q5.2 198 12)) 198 22 (0 : Int32))).bind fun q7 =>
      some q7.2
    else
      some q5.2
theorem s_Mo_start {w : Nat}  {v : pd_V} {q : pd_V}  (h : d_Mo_start w v = some q) : pm_ev (pj_P xs L) (d + 8) 121 (0, [some (.ref 198)], [], (223, kc, ks, pd_H g v)) (.inl none, (223, kc, ks, pd_H g q)) := by
  unfold d_Mo_start at h
  refine ev_gos pp_Mo_start 3 (S' := (5, [some (.ref 198)], [.int (v 198 5), .ref 198], (223, kc, ks, pd_H g v))) rfl ?_
  refine ev_gos pp_Mo_start 1 (S' := (bif !(decide ((v 198 5) = 0)) then 12 else 8, [some (.ref 198)], [.ref 198], (223, kc, ks, pd_H g v))) rfl ?_
  rcases pd_cases h with ⟨hb1, h⟩ | ⟨hb1, h⟩
  · rw [hb1]
    refine ev_gos pp_Mo_start 3 (S' := (15, [some (.ref 198)], [.int (0 : Int32), .int (0 : Int32), .int (0 : Int32), .ref 198], (223, kc, ks, pd_H g v))) rfl ?_
    obtain ⟨q2, hq2, h⟩ := pd_bind h
    refine ev_callv pp_Mo_start rfl rfl rfl rfl (s_Mo_throwing hq2) ?_
    refine ev_gos pp_Mo_start 0 (S' := (18, [some (.ref 198)], [.int q2.1], (223, kc, ks, pd_H g q2.2))) rfl ?_
    refine ev_gos pp_Mo_start 1 (S' := (bif decide (q2.1 = 0) then 22 else 21, [some (.ref 198)], [], (223, kc, ks, pd_H g q2.2))) rfl ?_
    rcases pd_cases h with ⟨hb3, h⟩ | ⟨hb3, h⟩
    · rw [hb3]
      refine ev_gos pp_Mo_start 2 (S' := (24, [some (.ref 198)], [.int (1 : Int32), .ref 198], (223, kc, ks, pd_H g q2.2))) rfl ?_
      refine ev_put pp_Mo_start rfl (fun _ => rfl) rfl rfl (pd_fit pd_b1) ?_
      refine ev_gos pp_Mo_start 3 (S' := (32, [some (.ref 198)], [.int (q2.2 198 12), .ref 198], (223, kc, ks, pd_H g (pd_w q2.2 198 20 (1 : Int32))))) rfl ?_
      refine ev_put pp_Mo_start rfl (fun _ => rfl) rfl rfl rfl ?_
      refine ev_gos pp_Mo_start 2 (S' := (37, [some (.ref 198)], [.int (0 : Int32), .ref 198], (223, kc, ks, pd_H g (pd_w (pd_w q2.2 198 20 (1 : Int32)) 198 21 (q2.2 198 12))))) rfl ?_
      refine ev_put pp_Mo_start rfl (fun _ => rfl) rfl rfl rfl ?_
      refine ev_gos pp_Mo_start 1 (S' := (41, [some (.ref 198)], [.ref 198], (223, kc, ks, pd_H g (pd_w (pd_w (pd_w q2.2 198 20 (1 : Int32)) 198 21 (q2.2 198 12)) 198 22 (0 : Int32))))) rfl ?_
      obtain ⟨q4, hq4, h⟩ := pd_bind h
      refine ev_callv pp_Mo_start rfl rfl rfl rfl (s_Mo_again hq4) ?_
      refine ev_gos pp_Mo_start 1 (S' := (45, [some (.ref 198)], [], (223, kc, ks, pd_H g q4.2))) rfl ?_
      cases h
      exact ev_fin pp_Mo_start rfl
    · rw [hb3]
      refine ev_gos pp_Mo_start 0 (S' := (21, [some (.ref 198)], [], (223, kc, ks, pd_H g q2.2))) rfl ?_
      cases h
      exact ev_fin pp_Mo_start rfl
  · rw [hb1]
    refine ev_gos pp_Mo_start 4 (S' := (15, [some (.ref 198)], [.int (0 : Int32), .int (0 : Int32), .int (1 : Int32), .ref 198], (223, kc, ks, pd_H g v))) rfl ?_
    obtain ⟨q5, hq5, h⟩ := pd_bind h
    refine ev_callv pp_Mo_start rfl rfl rfl rfl (s_Mo_throwing hq5) ?_
    refine ev_gos pp_Mo_start 0 (S' := (18, [some (.ref 198)], [.int q5.1], (223, kc, ks, pd_H g q5.2))) rfl ?_
    refine ev_gos pp_Mo_start 1 (S' := (bif decide (q5.1 = 0) then 22 else 21, [some (.ref 198)], [], (223, kc, ks, pd_H g q5.2))) rfl ?_
    rcases pd_cases h with ⟨hb6, h⟩ | ⟨hb6, h⟩
    · rw [hb6]
      refine ev_gos pp_Mo_start 2 (S' := (24, [some (.ref 198)], [.int (1 : Int32), .ref 198], (223, kc, ks, pd_H g q5.2))) rfl ?_
      refine ev_put pp_Mo_start rfl (fun _ => rfl) rfl rfl (pd_fit pd_b1) ?_
      refine ev_gos pp_Mo_start 3 (S' := (32, [some (.ref 198)], [.int (q5.2 198 12), .ref 198], (223, kc, ks, pd_H g (pd_w q5.2 198 20 (1 : Int32))))) rfl ?_
      refine ev_put pp_Mo_start rfl (fun _ => rfl) rfl rfl rfl ?_
      refine ev_gos pp_Mo_start 2 (S' := (37, [some (.ref 198)], [.int (0 : Int32), .ref 198], (223, kc, ks, pd_H g (pd_w (pd_w q5.2 198 20 (1 : Int32)) 198 21 (q5.2 198 12))))) rfl ?_
      refine ev_put pp_Mo_start rfl (fun _ => rfl) rfl rfl rfl ?_
      refine ev_gos pp_Mo_start 1 (S' := (41, [some (.ref 198)], [.ref 198], (223, kc, ks, pd_H g (pd_w (pd_w (pd_w q5.2 198 20 (1 : Int32)) 198 21 (q5.2 198 12)) 198 22 (0 : Int32))))) rfl ?_
      obtain ⟨q7, hq7, h⟩ := pd_bind h
      refine ev_callv pp_Mo_start rfl rfl rfl rfl (s_Mo_again hq7) ?_
      refine ev_gos pp_Mo_start 1 (S' := (45, [some (.ref 198)], [], (223, kc, ks, pd_H g q7.2))) rfl ?_
      cases h
      exact ev_fin pp_Mo_start rfl
    · rw [hb6]
      refine ev_gos pp_Mo_start 0 (S' := (21, [some (.ref 198)], [], (223, kc, ks, pd_H g q5.2))) rfl ?_
      cases h
      exact ev_fin pp_Mo_start rfl
theorem pp_Mo_run {xs : Nat → Int32} {L : Nat} : (pj_P xs L 141).1 = fun S => pm_look tb_Mo_run S.1 S := rfl
def d_Mo_run (w : Nat) (l1 : Int32) (v : pd_V) : Option (Int32 × pd_V) :=
  bif !(decide ((v 198 20) = 0)) then
    bif decide ((v 198 20) = 0) then
      (d_Mo_throwing (0 : Int32) (0 : Int32) (0 : Int32) v).bind fun q3 =>
      bif decide (q3.1 = 0) then
        bif !(decide ((q3.2 198 26) = 0)) then
          (d_Mo_again w (pd_w q3.2 198 22 ((q3.2 198 22) + l1))).bind fun q6 =>
          some (q6.1, q6.2)
        else
          some ((1 : Int32), q3.2)
      else
        some ((0 : Int32), q3.2)
    else
      bif decide ((d_Mo_beyond l1 (1 : Int32) (500 : Int32)) = 0) then
        (d_Mo_throwing (0 : Int32) (0 : Int32) (0 : Int32) v).bind fun q9 =>
        bif decide (q9.1 = 0) then
          bif !(decide ((q9.2 198 26) = 0)) then
            (d_Mo_again w (pd_w q9.2 198 22 ((q9.2 198 22) + l1))).bind fun q12 =>
            some (q12.1, q12.2)
          else
            some ((1 : Int32), q9.2)
        else
          some ((0 : Int32), q9.2)
      else
        (d_Mo_throwing (0 : Int32) (1 : Int32) (0 : Int32) v).bind fun q13 =>
        bif decide (q13.1 = 0) then
          bif !(decide ((q13.2 198 26) = 0)) then
            (d_Mo_again w (pd_w q13.2 198 22 ((q13.2 198 22) + l1))).bind fun q16 =>
            some (q16.1, q16.2)
          else
            some ((1 : Int32), q13.2)
        else
          some ((0 : Int32), q13.2)
  else
    bif decide ((v 198 20) = 0) then
      (d_Mo_throwing (1 : Int32) (0 : Int32) (0 : Int32) v).bind fun q18 =>
      bif decide (q18.1 = 0) then
        bif !(decide ((q18.2 198 26) = 0)) then
          (d_Mo_again w (pd_w q18.2 198 22 ((q18.2 198 22) + l1))).bind fun q21 =>
          some (q21.1, q21.2)
        else
          some ((1 : Int32), q18.2)
      else
        some ((0 : Int32), q18.2)
    else
      bif decide ((d_Mo_beyond l1 (1 : Int32) (500 : Int32)) = 0) then
        (d_Mo_throwing (1 : Int32) (0 : Int32) (0 : Int32) v).bind fun q24 =>
        bif decide (q24.1 = 0) then
          bif !(decide ((q24.2 198 26) = 0)) then
            (d_Mo_again w (pd_w q24.2 198 22 ((q24.2 198 22) + l1))).bind fun q27 =>
            some (q27.1, q27.2)
          else
            some ((1 : Int32), q24.2)
        else
          some ((0 : Int32), q24.2)
      else
        (d_Mo_throwing (1 : Int32) (1 : Int32) (0 : Int32) v).bind fun q28 =>
        bif decide (q28.1 = 0) then
          bif !(decide ((q28.2 198 26) = 0)) then
            (d_Mo_again w (pd_w q28.2 198 22 ((q28.2 198 22) + l1))).bind fun q31 =>
            some (q31.1, q31.2)
          else
            some ((1 : Int32), q28.2)
        else
          some ((0 : Int32), q28.2)
theorem s_Mo_run {w : Nat} {l1 : Int32} {v : pd_V} {q : (Int32 × pd_V)}  (h : d_Mo_run w l1 v = some q) : pm_ev (pj_P xs L) (d + 8) 141 (0, [some (.ref 198), some (.int l1)], [], (223, kc, ks, pd_H g v)) (.inl (some (.int q.1)), (223, kc, ks, pd_H g q.2)) := by
  unfold d_Mo_run at h
  refine ev_gos pp_Mo_run 3 (S' := (5, [some (.ref 198), some (.int l1)], [.int (v 198 20), .ref 198], (223, kc, ks, pd_H g v))) rfl ?_
  refine ev_gos pp_Mo_run 1 (S' := (bif !(decide ((v 198 20) = 0)) then 12 else 8, [some (.ref 198), some (.int l1)], [.ref 198], (223, kc, ks, pd_H g v))) rfl ?_
  rcases pd_cases h with ⟨hb1, h⟩ | ⟨hb1, h⟩
  · rw [hb1]
    refine ev_gos pp_Mo_run 3 (S' := (17, [some (.ref 198), some (.int l1)], [.int (v 198 20), .int (0 : Int32), .ref 198], (223, kc, ks, pd_H g v))) rfl ?_
    refine ev_gos pp_Mo_run 1 (S' := (bif decide ((v 198 20) = 0) then 35 else 20, [some (.ref 198), some (.int l1)], [.int (0 : Int32), .ref 198], (223, kc, ks, pd_H g v))) rfl ?_
    rcases pd_cases h with ⟨hb2, h⟩ | ⟨hb2, h⟩
    · rw [hb2]
      refine ev_gos pp_Mo_run 2 (S' := (37, [some (.ref 198), some (.int l1)], [.int (0 : Int32), .int (0 : Int32), .int (0 : Int32), .ref 198], (223, kc, ks, pd_H g v))) rfl ?_
      obtain ⟨q3, hq3, h⟩ := pd_bind h
      refine ev_callv pp_Mo_run rfl rfl rfl rfl (s_Mo_throwing hq3) ?_
      refine ev_gos pp_Mo_run 0 (S' := (40, [some (.ref 198), some (.int l1)], [.int q3.1], (223, kc, ks, pd_H g q3.2))) rfl ?_
      refine ev_gos pp_Mo_run 1 (S' := (bif decide (q3.1 = 0) then 45 else 43, [some (.ref 198), some (.int l1)], [], (223, kc, ks, pd_H g q3.2))) rfl ?_
      rcases pd_cases h with ⟨hb4, h⟩ | ⟨hb4, h⟩
      · rw [hb4]
        refine ev_gos pp_Mo_run 2 (S' := (49, [some (.ref 198), some (.int l1)], [.int (q3.2 198 26)], (223, kc, ks, pd_H g q3.2))) rfl ?_
        refine ev_gos pp_Mo_run 1 (S' := (bif !(decide ((q3.2 198 26) = 0)) then 54 else 52, [some (.ref 198), some (.int l1)], [], (223, kc, ks, pd_H g q3.2))) rfl ?_
        rcases pd_cases h with ⟨hb5, h⟩ | ⟨hb5, h⟩
        · rw [hb5]
          refine ev_gos pp_Mo_run 5 (S' := (61, [some (.ref 198), some (.int l1)], [.int ((q3.2 198 22) + l1), .ref 198], (223, kc, ks, pd_H g q3.2))) rfl ?_
          refine ev_put pp_Mo_run rfl (fun _ => rfl) rfl rfl rfl ?_
          refine ev_gos pp_Mo_run 1 (S' := (65, [some (.ref 198), some (.int l1)], [.ref 198], (223, kc, ks, pd_H g (pd_w q3.2 198 22 ((q3.2 198 22) + l1))))) rfl ?_
          obtain ⟨q6, hq6, h⟩ := pd_bind h
          refine ev_callv pp_Mo_run rfl rfl rfl rfl (s_Mo_again hq6) ?_
          refine ev_gos pp_Mo_run 0 (S' := (68, [some (.ref 198), some (.int l1)], [.int q6.1], (223, kc, ks, pd_H g q6.2))) rfl ?_
          cases h
          exact ev_fin pp_Mo_run rfl
        · rw [hb5]
          refine ev_gos pp_Mo_run 1 (S' := (53, [some (.ref 198), some (.int l1)], [.int (1 : Int32)], (223, kc, ks, pd_H g q3.2))) rfl ?_
          cases h
          exact ev_fin pp_Mo_run rfl
      · rw [hb4]
        refine ev_gos pp_Mo_run 1 (S' := (44, [some (.ref 198), some (.int l1)], [.int (0 : Int32)], (223, kc, ks, pd_H g q3.2))) rfl ?_
        cases h
        exact ev_fin pp_Mo_run rfl
    · rw [hb2]
      refine ev_gos pp_Mo_run 3 (S' := (25, [some (.ref 198), some (.int l1)], [.int (500 : Int32), .int (1 : Int32), .int l1, .int (0 : Int32), .ref 198], (223, kc, ks, pd_H g v))) rfl ?_
      refine ev_call pp_Mo_run rfl rfl rfl (s_Mo_beyond) ?_
      refine ev_gos pp_Mo_run 0 (S' := (28, [some (.ref 198), some (.int l1)], [.int (d_Mo_beyond l1 (1 : Int32) (500 : Int32)), .int (0 : Int32), .ref 198], (223, kc, ks, pd_H g v))) rfl ?_
      refine ev_gos pp_Mo_run 1 (S' := (bif decide ((d_Mo_beyond l1 (1 : Int32) (500 : Int32)) = 0) then 35 else 31, [some (.ref 198), some (.int l1)], [.int (0 : Int32), .ref 198], (223, kc, ks, pd_H g v))) rfl ?_
      rcases pd_cases h with ⟨hb8, h⟩ | ⟨hb8, h⟩
      · rw [hb8]
        refine ev_gos pp_Mo_run 2 (S' := (37, [some (.ref 198), some (.int l1)], [.int (0 : Int32), .int (0 : Int32), .int (0 : Int32), .ref 198], (223, kc, ks, pd_H g v))) rfl ?_
        obtain ⟨q9, hq9, h⟩ := pd_bind h
        refine ev_callv pp_Mo_run rfl rfl rfl rfl (s_Mo_throwing hq9) ?_
        refine ev_gos pp_Mo_run 0 (S' := (40, [some (.ref 198), some (.int l1)], [.int q9.1], (223, kc, ks, pd_H g q9.2))) rfl ?_
        refine ev_gos pp_Mo_run 1 (S' := (bif decide (q9.1 = 0) then 45 else 43, [some (.ref 198), some (.int l1)], [], (223, kc, ks, pd_H g q9.2))) rfl ?_
        rcases pd_cases h with ⟨hb10, h⟩ | ⟨hb10, h⟩
        · rw [hb10]
          refine ev_gos pp_Mo_run 2 (S' := (49, [some (.ref 198), some (.int l1)], [.int (q9.2 198 26)], (223, kc, ks, pd_H g q9.2))) rfl ?_
          refine ev_gos pp_Mo_run 1 (S' := (bif !(decide ((q9.2 198 26) = 0)) then 54 else 52, [some (.ref 198), some (.int l1)], [], (223, kc, ks, pd_H g q9.2))) rfl ?_
          rcases pd_cases h with ⟨hb11, h⟩ | ⟨hb11, h⟩
          · rw [hb11]
            refine ev_gos pp_Mo_run 5 (S' := (61, [some (.ref 198), some (.int l1)], [.int ((q9.2 198 22) + l1), .ref 198], (223, kc, ks, pd_H g q9.2))) rfl ?_
            refine ev_put pp_Mo_run rfl (fun _ => rfl) rfl rfl rfl ?_
            refine ev_gos pp_Mo_run 1 (S' := (65, [some (.ref 198), some (.int l1)], [.ref 198], (223, kc, ks, pd_H g (pd_w q9.2 198 22 ((q9.2 198 22) + l1))))) rfl ?_
            obtain ⟨q12, hq12, h⟩ := pd_bind h
            refine ev_callv pp_Mo_run rfl rfl rfl rfl (s_Mo_again hq12) ?_
            refine ev_gos pp_Mo_run 0 (S' := (68, [some (.ref 198), some (.int l1)], [.int q12.1], (223, kc, ks, pd_H g q12.2))) rfl ?_
            cases h
            exact ev_fin pp_Mo_run rfl
          · rw [hb11]
            refine ev_gos pp_Mo_run 1 (S' := (53, [some (.ref 198), some (.int l1)], [.int (1 : Int32)], (223, kc, ks, pd_H g q9.2))) rfl ?_
            cases h
            exact ev_fin pp_Mo_run rfl
        · rw [hb10]
          refine ev_gos pp_Mo_run 1 (S' := (44, [some (.ref 198), some (.int l1)], [.int (0 : Int32)], (223, kc, ks, pd_H g q9.2))) rfl ?_
          cases h
          exact ev_fin pp_Mo_run rfl
      · rw [hb8]
        refine ev_gos pp_Mo_run 3 (S' := (37, [some (.ref 198), some (.int l1)], [.int (0 : Int32), .int (1 : Int32), .int (0 : Int32), .ref 198], (223, kc, ks, pd_H g v))) rfl ?_
        obtain ⟨q13, hq13, h⟩ := pd_bind h
        refine ev_callv pp_Mo_run rfl rfl rfl rfl (s_Mo_throwing hq13) ?_
        refine ev_gos pp_Mo_run 0 (S' := (40, [some (.ref 198), some (.int l1)], [.int q13.1], (223, kc, ks, pd_H g q13.2))) rfl ?_
        refine ev_gos pp_Mo_run 1 (S' := (bif decide (q13.1 = 0) then 45 else 43, [some (.ref 198), some (.int l1)], [], (223, kc, ks, pd_H g q13.2))) rfl ?_
        rcases pd_cases h with ⟨hb14, h⟩ | ⟨hb14, h⟩
        · rw [hb14]
          refine ev_gos pp_Mo_run 2 (S' := (49, [some (.ref 198), some (.int l1)], [.int (q13.2 198 26)], (223, kc, ks, pd_H g q13.2))) rfl ?_
          refine ev_gos pp_Mo_run 1 (S' := (bif !(decide ((q13.2 198 26) = 0)) then 54 else 52, [some (.ref 198), some (.int l1)], [], (223, kc, ks, pd_H g q13.2))) rfl ?_
          rcases pd_cases h with ⟨hb15, h⟩ | ⟨hb15, h⟩
          · rw [hb15]
            refine ev_gos pp_Mo_run 5 (S' := (61, [some (.ref 198), some (.int l1)], [.int ((q13.2 198 22) + l1), .ref 198], (223, kc, ks, pd_H g q13.2))) rfl ?_
            refine ev_put pp_Mo_run rfl (fun _ => rfl) rfl rfl rfl ?_
            refine ev_gos pp_Mo_run 1 (S' := (65, [some (.ref 198), some (.int l1)], [.ref 198], (223, kc, ks, pd_H g (pd_w q13.2 198 22 ((q13.2 198 22) + l1))))) rfl ?_
            obtain ⟨q16, hq16, h⟩ := pd_bind h
            refine ev_callv pp_Mo_run rfl rfl rfl rfl (s_Mo_again hq16) ?_
            refine ev_gos pp_Mo_run 0 (S' := (68, [some (.ref 198), some (.int l1)], [.int q16.1], (223, kc, ks, pd_H g q16.2))) rfl ?_
            cases h
            exact ev_fin pp_Mo_run rfl
          · rw [hb15]
            refine ev_gos pp_Mo_run 1 (S' := (53, [some (.ref 198), some (.int l1)], [.int (1 : Int32)], (223, kc, ks, pd_H g q13.2))) rfl ?_
            cases h
            exact ev_fin pp_Mo_run rfl
        · rw [hb14]
          refine ev_gos pp_Mo_run 1 (S' := (44, [some (.ref 198), some (.int l1)], [.int (0 : Int32)], (223, kc, ks, pd_H g q13.2))) rfl ?_
          cases h
          exact ev_fin pp_Mo_run rfl
  · rw [hb1]
    refine ev_gos pp_Mo_run 4 (S' := (17, [some (.ref 198), some (.int l1)], [.int (v 198 20), .int (1 : Int32), .ref 198], (223, kc, ks, pd_H g v))) rfl ?_
    refine ev_gos pp_Mo_run 1 (S' := (bif decide ((v 198 20) = 0) then 35 else 20, [some (.ref 198), some (.int l1)], [.int (1 : Int32), .ref 198], (223, kc, ks, pd_H g v))) rfl ?_
    rcases pd_cases h with ⟨hb17, h⟩ | ⟨hb17, h⟩
    · rw [hb17]
      refine ev_gos pp_Mo_run 2 (S' := (37, [some (.ref 198), some (.int l1)], [.int (0 : Int32), .int (0 : Int32), .int (1 : Int32), .ref 198], (223, kc, ks, pd_H g v))) rfl ?_
      obtain ⟨q18, hq18, h⟩ := pd_bind h
      refine ev_callv pp_Mo_run rfl rfl rfl rfl (s_Mo_throwing hq18) ?_
      refine ev_gos pp_Mo_run 0 (S' := (40, [some (.ref 198), some (.int l1)], [.int q18.1], (223, kc, ks, pd_H g q18.2))) rfl ?_
      refine ev_gos pp_Mo_run 1 (S' := (bif decide (q18.1 = 0) then 45 else 43, [some (.ref 198), some (.int l1)], [], (223, kc, ks, pd_H g q18.2))) rfl ?_
      rcases pd_cases h with ⟨hb19, h⟩ | ⟨hb19, h⟩
      · rw [hb19]
        refine ev_gos pp_Mo_run 2 (S' := (49, [some (.ref 198), some (.int l1)], [.int (q18.2 198 26)], (223, kc, ks, pd_H g q18.2))) rfl ?_
        refine ev_gos pp_Mo_run 1 (S' := (bif !(decide ((q18.2 198 26) = 0)) then 54 else 52, [some (.ref 198), some (.int l1)], [], (223, kc, ks, pd_H g q18.2))) rfl ?_
        rcases pd_cases h with ⟨hb20, h⟩ | ⟨hb20, h⟩
        · rw [hb20]
          refine ev_gos pp_Mo_run 5 (S' := (61, [some (.ref 198), some (.int l1)], [.int ((q18.2 198 22) + l1), .ref 198], (223, kc, ks, pd_H g q18.2))) rfl ?_
          refine ev_put pp_Mo_run rfl (fun _ => rfl) rfl rfl rfl ?_
          refine ev_gos pp_Mo_run 1 (S' := (65, [some (.ref 198), some (.int l1)], [.ref 198], (223, kc, ks, pd_H g (pd_w q18.2 198 22 ((q18.2 198 22) + l1))))) rfl ?_
          obtain ⟨q21, hq21, h⟩ := pd_bind h
          refine ev_callv pp_Mo_run rfl rfl rfl rfl (s_Mo_again hq21) ?_
          refine ev_gos pp_Mo_run 0 (S' := (68, [some (.ref 198), some (.int l1)], [.int q21.1], (223, kc, ks, pd_H g q21.2))) rfl ?_
          cases h
          exact ev_fin pp_Mo_run rfl
        · rw [hb20]
          refine ev_gos pp_Mo_run 1 (S' := (53, [some (.ref 198), some (.int l1)], [.int (1 : Int32)], (223, kc, ks, pd_H g q18.2))) rfl ?_
          cases h
          exact ev_fin pp_Mo_run rfl
      · rw [hb19]
        refine ev_gos pp_Mo_run 1 (S' := (44, [some (.ref 198), some (.int l1)], [.int (0 : Int32)], (223, kc, ks, pd_H g q18.2))) rfl ?_
        cases h
        exact ev_fin pp_Mo_run rfl
    · rw [hb17]
      refine ev_gos pp_Mo_run 3 (S' := (25, [some (.ref 198), some (.int l1)], [.int (500 : Int32), .int (1 : Int32), .int l1, .int (1 : Int32), .ref 198], (223, kc, ks, pd_H g v))) rfl ?_
      refine ev_call pp_Mo_run rfl rfl rfl (s_Mo_beyond) ?_
      refine ev_gos pp_Mo_run 0 (S' := (28, [some (.ref 198), some (.int l1)], [.int (d_Mo_beyond l1 (1 : Int32) (500 : Int32)), .int (1 : Int32), .ref 198], (223, kc, ks, pd_H g v))) rfl ?_
      refine ev_gos pp_Mo_run 1 (S' := (bif decide ((d_Mo_beyond l1 (1 : Int32) (500 : Int32)) = 0) then 35 else 31, [some (.ref 198), some (.int l1)], [.int (1 : Int32), .ref 198], (223, kc, ks, pd_H g v))) rfl ?_
      rcases pd_cases h with ⟨hb23, h⟩ | ⟨hb23, h⟩
      · rw [hb23]
        refine ev_gos pp_Mo_run 2 (S' := (37, [some (.ref 198), some (.int l1)], [.int (0 : Int32), .int (0 : Int32), .int (1 : Int32), .ref 198], (223, kc, ks, pd_H g v))) rfl ?_
        obtain ⟨q24, hq24, h⟩ := pd_bind h
        refine ev_callv pp_Mo_run rfl rfl rfl rfl (s_Mo_throwing hq24) ?_
        refine ev_gos pp_Mo_run 0 (S' := (40, [some (.ref 198), some (.int l1)], [.int q24.1], (223, kc, ks, pd_H g q24.2))) rfl ?_
        refine ev_gos pp_Mo_run 1 (S' := (bif decide (q24.1 = 0) then 45 else 43, [some (.ref 198), some (.int l1)], [], (223, kc, ks, pd_H g q24.2))) rfl ?_
        rcases pd_cases h with ⟨hb25, h⟩ | ⟨hb25, h⟩
        · rw [hb25]
          refine ev_gos pp_Mo_run 2 (S' := (49, [some (.ref 198), some (.int l1)], [.int (q24.2 198 26)], (223, kc, ks, pd_H g q24.2))) rfl ?_
          refine ev_gos pp_Mo_run 1 (S' := (bif !(decide ((q24.2 198 26) = 0)) then 54 else 52, [some (.ref 198), some (.int l1)], [], (223, kc, ks, pd_H g q24.2))) rfl ?_
          rcases pd_cases h with ⟨hb26, h⟩ | ⟨hb26, h⟩
          · rw [hb26]
            refine ev_gos pp_Mo_run 5 (S' := (61, [some (.ref 198), some (.int l1)], [.int ((q24.2 198 22) + l1), .ref 198], (223, kc, ks, pd_H g q24.2))) rfl ?_
            refine ev_put pp_Mo_run rfl (fun _ => rfl) rfl rfl rfl ?_
            refine ev_gos pp_Mo_run 1 (S' := (65, [some (.ref 198), some (.int l1)], [.ref 198], (223, kc, ks, pd_H g (pd_w q24.2 198 22 ((q24.2 198 22) + l1))))) rfl ?_
            obtain ⟨q27, hq27, h⟩ := pd_bind h
            refine ev_callv pp_Mo_run rfl rfl rfl rfl (s_Mo_again hq27) ?_
            refine ev_gos pp_Mo_run 0 (S' := (68, [some (.ref 198), some (.int l1)], [.int q27.1], (223, kc, ks, pd_H g q27.2))) rfl ?_
            cases h
            exact ev_fin pp_Mo_run rfl
          · rw [hb26]
            refine ev_gos pp_Mo_run 1 (S' := (53, [some (.ref 198), some (.int l1)], [.int (1 : Int32)], (223, kc, ks, pd_H g q24.2))) rfl ?_
            cases h
            exact ev_fin pp_Mo_run rfl
        · rw [hb25]
          refine ev_gos pp_Mo_run 1 (S' := (44, [some (.ref 198), some (.int l1)], [.int (0 : Int32)], (223, kc, ks, pd_H g q24.2))) rfl ?_
          cases h
          exact ev_fin pp_Mo_run rfl
      · rw [hb23]
        refine ev_gos pp_Mo_run 3 (S' := (37, [some (.ref 198), some (.int l1)], [.int (0 : Int32), .int (1 : Int32), .int (1 : Int32), .ref 198], (223, kc, ks, pd_H g v))) rfl ?_
        obtain ⟨q28, hq28, h⟩ := pd_bind h
        refine ev_callv pp_Mo_run rfl rfl rfl rfl (s_Mo_throwing hq28) ?_
        refine ev_gos pp_Mo_run 0 (S' := (40, [some (.ref 198), some (.int l1)], [.int q28.1], (223, kc, ks, pd_H g q28.2))) rfl ?_
        refine ev_gos pp_Mo_run 1 (S' := (bif decide (q28.1 = 0) then 45 else 43, [some (.ref 198), some (.int l1)], [], (223, kc, ks, pd_H g q28.2))) rfl ?_
        rcases pd_cases h with ⟨hb29, h⟩ | ⟨hb29, h⟩
        · rw [hb29]
          refine ev_gos pp_Mo_run 2 (S' := (49, [some (.ref 198), some (.int l1)], [.int (q28.2 198 26)], (223, kc, ks, pd_H g q28.2))) rfl ?_
          refine ev_gos pp_Mo_run 1 (S' := (bif !(decide ((q28.2 198 26) = 0)) then 54 else 52, [some (.ref 198), some (.int l1)], [], (223, kc, ks, pd_H g q28.2))) rfl ?_
          rcases pd_cases h with ⟨hb30, h⟩ | ⟨hb30, h⟩
          · rw [hb30]
            refine ev_gos pp_Mo_run 5 (S' := (61, [some (.ref 198), some (.int l1)], [.int ((q28.2 198 22) + l1), .ref 198], (223, kc, ks, pd_H g q28.2))) rfl ?_
            refine ev_put pp_Mo_run rfl (fun _ => rfl) rfl rfl rfl ?_
            refine ev_gos pp_Mo_run 1 (S' := (65, [some (.ref 198), some (.int l1)], [.ref 198], (223, kc, ks, pd_H g (pd_w q28.2 198 22 ((q28.2 198 22) + l1))))) rfl ?_
            obtain ⟨q31, hq31, h⟩ := pd_bind h
            refine ev_callv pp_Mo_run rfl rfl rfl rfl (s_Mo_again hq31) ?_
            refine ev_gos pp_Mo_run 0 (S' := (68, [some (.ref 198), some (.int l1)], [.int q31.1], (223, kc, ks, pd_H g q31.2))) rfl ?_
            cases h
            exact ev_fin pp_Mo_run rfl
          · rw [hb30]
            refine ev_gos pp_Mo_run 1 (S' := (53, [some (.ref 198), some (.int l1)], [.int (1 : Int32)], (223, kc, ks, pd_H g q28.2))) rfl ?_
            cases h
            exact ev_fin pp_Mo_run rfl
        · rw [hb29]
          refine ev_gos pp_Mo_run 1 (S' := (44, [some (.ref 198), some (.int l1)], [.int (0 : Int32)], (223, kc, ks, pd_H g q28.2))) rfl ?_
          cases h
          exact ev_fin pp_Mo_run rfl
theorem pp_Mo_mask {xs : Nat → Int32} {L : Nat} : (pj_P xs L 142).1 = fun S => pm_look tb_Mo_mask S.1 S := rfl
def d_Mo_mask  (v : pd_V) : Option (Int32 × pd_V) :=
  some ((v 198 26), (pd_w v 198 0 (0 : Int32)))
theorem s_Mo_mask  {v : pd_V} {q : (Int32 × pd_V)}  (h : d_Mo_mask v = some q) : pm_ev (pj_P xs L) d 142 (0, [some (.ref 198)], [], (223, kc, ks, pd_H g v)) (.inl (some (.int q.1)), (223, kc, ks, pd_H g q.2)) := by
  unfold d_Mo_mask at h
  refine ev_gos pp_Mo_mask 2 (S' := (2, [some (.ref 198)], [.int (0 : Int32), .ref 198], (223, kc, ks, pd_H g v))) rfl ?_
  refine ev_put pp_Mo_mask rfl (fun _ => rfl) rfl rfl rfl ?_
  refine ev_gos pp_Mo_mask 2 (S' := (9, [some (.ref 198)], [.int (v 198 26)], (223, kc, ks, pd_H g (pd_w v 198 0 (0 : Int32))))) rfl ?_
  cases h
  exact ev_fin pp_Mo_mask rfl
theorem pp_Mo_spent {xs : Nat → Int32} {L : Nat} : (pj_P xs L 143).1 = fun S => pm_look tb_Mo_spent S.1 S := rfl
def d_Mo_spent (l1 : Int32) (v : pd_V) : Option (Int32 × pd_V) :=
  bif !(decide ((d_Mo_beyond l1 (0 : Int32) (1 : Int32)) = 0)) then
    (d_Mo_throwing (d_Mo_beyond l1 (0 : Int32) (1 : Int32)) (0 : Int32) (0 : Int32) v).bind fun q3 =>
    bif decide (q3.1 = 0) then
      bif !(decide (l1 = 0)) then
        some ((q3.2 198 24), q3.2)
      else
        some ((q3.2 198 23), q3.2)
    else
      some ((0 : Int32), q3.2)
  else
    bif !(decide ((v 198 20) = 0)) then
      (d_Mo_throwing (d_Mo_beyond l1 (0 : Int32) (1 : Int32)) (0 : Int32) (0 : Int32) v).bind fun q7 =>
      bif decide (q7.1 = 0) then
        bif !(decide (l1 = 0)) then
          some ((q7.2 198 24), q7.2)
        else
          some ((q7.2 198 23), q7.2)
      else
        some ((0 : Int32), q7.2)
    else
      (d_Mo_throwing (d_Mo_beyond l1 (0 : Int32) (1 : Int32)) (1 : Int32) (0 : Int32) v).bind fun q10 =>
      bif decide (q10.1 = 0) then
        bif !(decide (l1 = 0)) then
          some ((q10.2 198 24), q10.2)
        else
          some ((q10.2 198 23), q10.2)
      else
        some ((0 : Int32), q10.2)
theorem s_Mo_spent {l1 : Int32} {v : pd_V} {q : (Int32 × pd_V)}  (h : d_Mo_spent l1 v = some q) : pm_ev (pj_P xs L) (d + 1) 143 (0, [some (.ref 198), some (.int l1), none], [], (223, kc, ks, pd_H g v)) (.inl (some (.int q.1)), (223, kc, ks, pd_H g q.2)) := by
  unfold d_Mo_spent at h
  refine ev_gos pp_Mo_spent 3 (S' := (3, [some (.ref 198), some (.int l1), none], [.int (1 : Int32), .int (0 : Int32), .int l1], (223, kc, ks, pd_H g v))) rfl ?_
  refine ev_call pp_Mo_spent rfl rfl rfl (s_Mo_beyond) ?_
  refine ev_gos pp_Mo_spent 4 (S' := (10, [some (.ref 198), some (.int l1), some (.int (d_Mo_beyond l1 (0 : Int32) (1 : Int32)))], [.int (d_Mo_beyond l1 (0 : Int32) (1 : Int32)), .int (d_Mo_beyond l1 (0 : Int32) (1 : Int32)), .ref 198], (223, kc, ks, pd_H g v))) rfl ?_
  refine ev_gos pp_Mo_spent 1 (S' := (bif !(decide ((d_Mo_beyond l1 (0 : Int32) (1 : Int32)) = 0)) then 24 else 13, [some (.ref 198), some (.int l1), some (.int (d_Mo_beyond l1 (0 : Int32) (1 : Int32)))], [.int (d_Mo_beyond l1 (0 : Int32) (1 : Int32)), .ref 198], (223, kc, ks, pd_H g v))) rfl ?_
  rcases pd_cases h with ⟨hb2, h⟩ | ⟨hb2, h⟩
  · rw [hb2]
    refine ev_gos pp_Mo_spent 2 (S' := (26, [some (.ref 198), some (.int l1), some (.int (d_Mo_beyond l1 (0 : Int32) (1 : Int32)))], [.int (0 : Int32), .int (0 : Int32), .int (d_Mo_beyond l1 (0 : Int32) (1 : Int32)), .ref 198], (223, kc, ks, pd_H g v))) rfl ?_
    obtain ⟨q3, hq3, h⟩ := pd_bind h
    refine ev_callv pp_Mo_spent rfl rfl rfl rfl (s_Mo_throwing hq3) ?_
    refine ev_gos pp_Mo_spent 0 (S' := (29, [some (.ref 198), some (.int l1), some (.int (d_Mo_beyond l1 (0 : Int32) (1 : Int32)))], [.int q3.1], (223, kc, ks, pd_H g q3.2))) rfl ?_
    refine ev_gos pp_Mo_spent 1 (S' := (bif decide (q3.1 = 0) then 34 else 32, [some (.ref 198), some (.int l1), some (.int (d_Mo_beyond l1 (0 : Int32) (1 : Int32)))], [], (223, kc, ks, pd_H g q3.2))) rfl ?_
    rcases pd_cases h with ⟨hb4, h⟩ | ⟨hb4, h⟩
    · rw [hb4]
      refine ev_gos pp_Mo_spent 1 (S' := (35, [some (.ref 198), some (.int l1), some (.int (d_Mo_beyond l1 (0 : Int32) (1 : Int32)))], [.int l1], (223, kc, ks, pd_H g q3.2))) rfl ?_
      refine ev_gos pp_Mo_spent 1 (S' := (bif !(decide (l1 = 0)) then 45 else 38, [some (.ref 198), some (.int l1), some (.int (d_Mo_beyond l1 (0 : Int32) (1 : Int32)))], [], (223, kc, ks, pd_H g q3.2))) rfl ?_
      rcases pd_cases h with ⟨hb5, h⟩ | ⟨hb5, h⟩
      · rw [hb5]
        refine ev_gos pp_Mo_spent 2 (S' := (49, [some (.ref 198), some (.int l1), some (.int (d_Mo_beyond l1 (0 : Int32) (1 : Int32)))], [.int (q3.2 198 24)], (223, kc, ks, pd_H g q3.2))) rfl ?_
        cases h
        exact ev_fin pp_Mo_spent rfl
      · rw [hb5]
        refine ev_gos pp_Mo_spent 3 (S' := (49, [some (.ref 198), some (.int l1), some (.int (d_Mo_beyond l1 (0 : Int32) (1 : Int32)))], [.int (q3.2 198 23)], (223, kc, ks, pd_H g q3.2))) rfl ?_
        cases h
        exact ev_fin pp_Mo_spent rfl
    · rw [hb4]
      refine ev_gos pp_Mo_spent 1 (S' := (33, [some (.ref 198), some (.int l1), some (.int (d_Mo_beyond l1 (0 : Int32) (1 : Int32)))], [.int (0 : Int32)], (223, kc, ks, pd_H g q3.2))) rfl ?_
      cases h
      exact ev_fin pp_Mo_spent rfl
  · rw [hb2]
    refine ev_gos pp_Mo_spent 2 (S' := (17, [some (.ref 198), some (.int l1), some (.int (d_Mo_beyond l1 (0 : Int32) (1 : Int32)))], [.int (v 198 20), .int (d_Mo_beyond l1 (0 : Int32) (1 : Int32)), .ref 198], (223, kc, ks, pd_H g v))) rfl ?_
    refine ev_gos pp_Mo_spent 1 (S' := (bif !(decide ((v 198 20) = 0)) then 24 else 20, [some (.ref 198), some (.int l1), some (.int (d_Mo_beyond l1 (0 : Int32) (1 : Int32)))], [.int (d_Mo_beyond l1 (0 : Int32) (1 : Int32)), .ref 198], (223, kc, ks, pd_H g v))) rfl ?_
    rcases pd_cases h with ⟨hb6, h⟩ | ⟨hb6, h⟩
    · rw [hb6]
      refine ev_gos pp_Mo_spent 2 (S' := (26, [some (.ref 198), some (.int l1), some (.int (d_Mo_beyond l1 (0 : Int32) (1 : Int32)))], [.int (0 : Int32), .int (0 : Int32), .int (d_Mo_beyond l1 (0 : Int32) (1 : Int32)), .ref 198], (223, kc, ks, pd_H g v))) rfl ?_
      obtain ⟨q7, hq7, h⟩ := pd_bind h
      refine ev_callv pp_Mo_spent rfl rfl rfl rfl (s_Mo_throwing hq7) ?_
      refine ev_gos pp_Mo_spent 0 (S' := (29, [some (.ref 198), some (.int l1), some (.int (d_Mo_beyond l1 (0 : Int32) (1 : Int32)))], [.int q7.1], (223, kc, ks, pd_H g q7.2))) rfl ?_
      refine ev_gos pp_Mo_spent 1 (S' := (bif decide (q7.1 = 0) then 34 else 32, [some (.ref 198), some (.int l1), some (.int (d_Mo_beyond l1 (0 : Int32) (1 : Int32)))], [], (223, kc, ks, pd_H g q7.2))) rfl ?_
      rcases pd_cases h with ⟨hb8, h⟩ | ⟨hb8, h⟩
      · rw [hb8]
        refine ev_gos pp_Mo_spent 1 (S' := (35, [some (.ref 198), some (.int l1), some (.int (d_Mo_beyond l1 (0 : Int32) (1 : Int32)))], [.int l1], (223, kc, ks, pd_H g q7.2))) rfl ?_
        refine ev_gos pp_Mo_spent 1 (S' := (bif !(decide (l1 = 0)) then 45 else 38, [some (.ref 198), some (.int l1), some (.int (d_Mo_beyond l1 (0 : Int32) (1 : Int32)))], [], (223, kc, ks, pd_H g q7.2))) rfl ?_
        rcases pd_cases h with ⟨hb9, h⟩ | ⟨hb9, h⟩
        · rw [hb9]
          refine ev_gos pp_Mo_spent 2 (S' := (49, [some (.ref 198), some (.int l1), some (.int (d_Mo_beyond l1 (0 : Int32) (1 : Int32)))], [.int (q7.2 198 24)], (223, kc, ks, pd_H g q7.2))) rfl ?_
          cases h
          exact ev_fin pp_Mo_spent rfl
        · rw [hb9]
          refine ev_gos pp_Mo_spent 3 (S' := (49, [some (.ref 198), some (.int l1), some (.int (d_Mo_beyond l1 (0 : Int32) (1 : Int32)))], [.int (q7.2 198 23)], (223, kc, ks, pd_H g q7.2))) rfl ?_
          cases h
          exact ev_fin pp_Mo_spent rfl
      · rw [hb8]
        refine ev_gos pp_Mo_spent 1 (S' := (33, [some (.ref 198), some (.int l1), some (.int (d_Mo_beyond l1 (0 : Int32) (1 : Int32)))], [.int (0 : Int32)], (223, kc, ks, pd_H g q7.2))) rfl ?_
        cases h
        exact ev_fin pp_Mo_spent rfl
    · rw [hb6]
      refine ev_gos pp_Mo_spent 3 (S' := (26, [some (.ref 198), some (.int l1), some (.int (d_Mo_beyond l1 (0 : Int32) (1 : Int32)))], [.int (0 : Int32), .int (1 : Int32), .int (d_Mo_beyond l1 (0 : Int32) (1 : Int32)), .ref 198], (223, kc, ks, pd_H g v))) rfl ?_
      obtain ⟨q10, hq10, h⟩ := pd_bind h
      refine ev_callv pp_Mo_spent rfl rfl rfl rfl (s_Mo_throwing hq10) ?_
      refine ev_gos pp_Mo_spent 0 (S' := (29, [some (.ref 198), some (.int l1), some (.int (d_Mo_beyond l1 (0 : Int32) (1 : Int32)))], [.int q10.1], (223, kc, ks, pd_H g q10.2))) rfl ?_
      refine ev_gos pp_Mo_spent 1 (S' := (bif decide (q10.1 = 0) then 34 else 32, [some (.ref 198), some (.int l1), some (.int (d_Mo_beyond l1 (0 : Int32) (1 : Int32)))], [], (223, kc, ks, pd_H g q10.2))) rfl ?_
      rcases pd_cases h with ⟨hb11, h⟩ | ⟨hb11, h⟩
      · rw [hb11]
        refine ev_gos pp_Mo_spent 1 (S' := (35, [some (.ref 198), some (.int l1), some (.int (d_Mo_beyond l1 (0 : Int32) (1 : Int32)))], [.int l1], (223, kc, ks, pd_H g q10.2))) rfl ?_
        refine ev_gos pp_Mo_spent 1 (S' := (bif !(decide (l1 = 0)) then 45 else 38, [some (.ref 198), some (.int l1), some (.int (d_Mo_beyond l1 (0 : Int32) (1 : Int32)))], [], (223, kc, ks, pd_H g q10.2))) rfl ?_
        rcases pd_cases h with ⟨hb12, h⟩ | ⟨hb12, h⟩
        · rw [hb12]
          refine ev_gos pp_Mo_spent 2 (S' := (49, [some (.ref 198), some (.int l1), some (.int (d_Mo_beyond l1 (0 : Int32) (1 : Int32)))], [.int (q10.2 198 24)], (223, kc, ks, pd_H g q10.2))) rfl ?_
          cases h
          exact ev_fin pp_Mo_spent rfl
        · rw [hb12]
          refine ev_gos pp_Mo_spent 3 (S' := (49, [some (.ref 198), some (.int l1), some (.int (d_Mo_beyond l1 (0 : Int32) (1 : Int32)))], [.int (q10.2 198 23)], (223, kc, ks, pd_H g q10.2))) rfl ?_
          cases h
          exact ev_fin pp_Mo_spent rfl
      · rw [hb11]
        refine ev_gos pp_Mo_spent 1 (S' := (33, [some (.ref 198), some (.int l1), some (.int (d_Mo_beyond l1 (0 : Int32) (1 : Int32)))], [.int (0 : Int32)], (223, kc, ks, pd_H g q10.2))) rfl ?_
        cases h
        exact ev_fin pp_Mo_spent rfl
theorem pp_Mo_top {xs : Nat → Int32} {L : Nat} : (pj_P xs L 148).1 = fun S => pm_look tb_Mo_top S.1 S := rfl
def d_Mo_top (l1 : Int32) (v : pd_V) : Option Int32 :=
  bif pm_in l1 8 then
  bif pm_in ((((5 : Int32) * l1) + (v 211 l1.toNatClampNeg)) - (1 : Int32)) 40 then
  some (v 212 (((((5 : Int32) * l1) + (v 211 l1.toNatClampNeg)) - (1 : Int32)).toNatClampNeg))
  else none
  else none
theorem s_Mo_top {l1 : Int32} {v : pd_V} {q : Int32}  (h : d_Mo_top l1 v = some q) : pm_ev (pj_P xs L) d 148 (0, [some (.ref 198), some (.int l1)], [], (223, kc, ks, pd_H g v)) (.inl (some (.int q)), (223, kc, ks, pd_H g v)) := by
  unfold d_Mo_top at h
  refine ev_gos pp_Mo_top 8 (S' := (12, [some (.ref 198), some (.int l1)], [.int l1, .ref 211, .int ((5 : Int32) * l1), .ref 212], (223, kc, ks, pd_H g v))) rfl ?_
  obtain ⟨hc1, h⟩ := pd_chk h
  refine ev_iald pp_Mo_top rfl (fun _ => rfl) hc1 ?_
  refine ev_gos pp_Mo_top 3 (S' := (16, [some (.ref 198), some (.int l1)], [.int ((((5 : Int32) * l1) + (v 211 l1.toNatClampNeg)) - (1 : Int32)), .ref 212], (223, kc, ks, pd_H g v))) rfl ?_
  obtain ⟨hc2, h⟩ := pd_chk h
  refine ev_iald pp_Mo_top rfl (fun _ => rfl) hc2 ?_
  refine ev_gos pp_Mo_top 0 (S' := (17, [some (.ref 198), some (.int l1)], [.int (v 212 (((((5 : Int32) * l1) + (v 211 l1.toNatClampNeg)) - (1 : Int32)).toNatClampNeg))], (223, kc, ks, pd_H g v))) rfl ?_
  cases h
  exact ev_fin pp_Mo_top rfl
theorem pp_Mo_leave {xs : Nat → Int32} {L : Nat} : (pj_P xs L 147).1 = fun S => pm_look tb_Mo_leave S.1 S := rfl
def d_Mo_leave (w : Nat) (l1 : Int32) (v : pd_V) : Option pd_V :=
  (d_Mo_top l1 v).bind fun q1 =>
  bif pm_in l1 8 then
  bif pm_in l1 8 then
  bif pm_in l1 8 then
  bif decide (q1 < 0) then
    bif !(decide (q1 = (-1 : Int32))) then
      bif pm_in l1 8 then
      some (pd_w (pd_w v 211 l1.toNatClampNeg ((v 211 l1.toNatClampNeg) - (1 : Int32))) 210 l1.toNatClampNeg ((v 210 l1.toNatClampNeg) + (1 : Int32)))
      else none
    else
      bif decide ((v 198 4) ≤ ((v 210 l1.toNatClampNeg) + (1 : Int32))) then
        bif pm_in l1 8 then
        some (pd_w (pd_w v 211 l1.toNatClampNeg ((v 211 l1.toNatClampNeg) - (1 : Int32))) 210 l1.toNatClampNeg ((v 210 l1.toNatClampNeg) + (1 : Int32)))
        else none
      else
        bif pm_in ((v 210 l1.toNatClampNeg) + (1 : Int32)) 160 then
        bif !(decide ((v 200 (((v 210 l1.toNatClampNeg) + (1 : Int32)).toNatClampNeg)) = (123 : Int32))) then
          bif pm_in l1 8 then
          some (pd_w (pd_w v 211 l1.toNatClampNeg ((v 211 l1.toNatClampNeg) - (1 : Int32))) 210 l1.toNatClampNeg ((v 210 l1.toNatClampNeg) + (1 : Int32)))
          else none
        else
          (d_Mo_behind w 200 160 ((v 210 l1.toNatClampNeg) + (1 : Int32)) (pd_w v 211 l1.toNatClampNeg ((v 211 l1.toNatClampNeg) - (1 : Int32)))).bind fun q13 =>
          bif pm_in l1 8 then
          some (pd_w (pd_w v 211 l1.toNatClampNeg ((v 211 l1.toNatClampNeg) - (1 : Int32))) 210 l1.toNatClampNeg q13)
          else none
        else none
  else
    bif pm_in l1 8 then
    some (pd_w (pd_w v 211 l1.toNatClampNeg ((v 211 l1.toNatClampNeg) - (1 : Int32))) 210 l1.toNatClampNeg q1)
    else none
  else none
  else none
  else none
theorem s_Mo_leave {w : Nat} {l1 : Int32} {v : pd_V} {q : pd_V}  (h : d_Mo_leave w l1 v = some q) : pm_ev (pj_P xs L) (d + 1) 147 (0, [some (.ref 198), some (.int l1), none, none], [], (223, kc, ks, pd_H g v)) (.inl none, (223, kc, ks, pd_H g q)) := by
  unfold d_Mo_leave at h
  refine ev_gos pp_Mo_leave 2 (S' := (2, [some (.ref 198), some (.int l1), none, none], [.int l1, .ref 198], (223, kc, ks, pd_H g v))) rfl ?_
  obtain ⟨q1, hq1, h⟩ := pd_bind h
  refine ev_callv pp_Mo_leave rfl rfl rfl rfl (s_Mo_top hq1) ?_
  refine ev_gos pp_Mo_leave 4 (S' := (11, [some (.ref 198), some (.int l1), some (.int q1), none], [.int l1, .ref 210], (223, kc, ks, pd_H g v))) rfl ?_
  obtain ⟨hc2, h⟩ := pd_chk h
  refine ev_iald pp_Mo_leave rfl (fun _ => rfl) hc2 ?_
  refine ev_gos pp_Mo_leave 7 (S' := (21, [some (.ref 198), some (.int l1), some (.int q1), some (.int ((v 210 l1.toNatClampNeg) + (1 : Int32)))], [.int l1, .ref 211, .int l1, .ref 211], (223, kc, ks, pd_H g v))) rfl ?_
  obtain ⟨hc3, h⟩ := pd_chk h
  refine ev_iald pp_Mo_leave rfl (fun _ => rfl) hc3 ?_
  refine ev_gos pp_Mo_leave 2 (S' := (24, [some (.ref 198), some (.int l1), some (.int q1), some (.int ((v 210 l1.toNatClampNeg) + (1 : Int32)))], [.int ((v 211 l1.toNatClampNeg) - (1 : Int32)), .int l1, .ref 211], (223, kc, ks, pd_H g v))) rfl ?_
  obtain ⟨hc4, h⟩ := pd_chk h
  refine ev_iast pp_Mo_leave rfl (fun _ => rfl) hc4 ?_
  refine ev_gos pp_Mo_leave 4 (S' := (31, [some (.ref 198), some (.int l1), some (.int q1), some (.int ((v 210 l1.toNatClampNeg) + (1 : Int32)))], [.int q1, .int l1, .ref 210], (223, kc, ks, pd_H g (pd_w v 211 l1.toNatClampNeg ((v 211 l1.toNatClampNeg) - (1 : Int32)))))) rfl ?_
  refine ev_gos pp_Mo_leave 1 (S' := (bif decide (q1 < 0) then 38 else 34, [some (.ref 198), some (.int l1), some (.int q1), some (.int ((v 210 l1.toNatClampNeg) + (1 : Int32)))], [.int l1, .ref 210], (223, kc, ks, pd_H g (pd_w v 211 l1.toNatClampNeg ((v 211 l1.toNatClampNeg) - (1 : Int32)))))) rfl ?_
  rcases pd_cases h with ⟨hb5, h⟩ | ⟨hb5, h⟩
  · rw [hb5]
    refine ev_gos pp_Mo_leave 2 (S' := (40, [some (.ref 198), some (.int l1), some (.int q1), some (.int ((v 210 l1.toNatClampNeg) + (1 : Int32)))], [.int (-1 : Int32), .int q1, .int l1, .ref 210], (223, kc, ks, pd_H g (pd_w v 211 l1.toNatClampNeg ((v 211 l1.toNatClampNeg) - (1 : Int32)))))) rfl ?_
    refine ev_gos pp_Mo_leave 1 (S' := (bif !(decide (q1 = (-1 : Int32))) then 73 else 43, [some (.ref 198), some (.int l1), some (.int q1), some (.int ((v 210 l1.toNatClampNeg) + (1 : Int32)))], [.int l1, .ref 210], (223, kc, ks, pd_H g (pd_w v 211 l1.toNatClampNeg ((v 211 l1.toNatClampNeg) - (1 : Int32)))))) rfl ?_
    rcases pd_cases h with ⟨hb6, h⟩ | ⟨hb6, h⟩
    · rw [hb6]
      refine ev_gos pp_Mo_leave 1 (S' := (74, [some (.ref 198), some (.int l1), some (.int q1), some (.int ((v 210 l1.toNatClampNeg) + (1 : Int32)))], [.int ((v 210 l1.toNatClampNeg) + (1 : Int32)), .int l1, .ref 210], (223, kc, ks, pd_H g (pd_w v 211 l1.toNatClampNeg ((v 211 l1.toNatClampNeg) - (1 : Int32)))))) rfl ?_
      obtain ⟨hc7, h⟩ := pd_chk h
      refine ev_iast pp_Mo_leave rfl (fun _ => rfl) hc7 ?_
      refine ev_gos pp_Mo_leave 0 (S' := (75, [some (.ref 198), some (.int l1), some (.int q1), some (.int ((v 210 l1.toNatClampNeg) + (1 : Int32)))], [], (223, kc, ks, pd_H g (pd_w (pd_w v 211 l1.toNatClampNeg ((v 211 l1.toNatClampNeg) - (1 : Int32))) 210 l1.toNatClampNeg ((v 210 l1.toNatClampNeg) + (1 : Int32)))))) rfl ?_
      cases h
      exact ev_fin pp_Mo_leave rfl
    · rw [hb6]
      refine ev_gos pp_Mo_leave 3 (S' := (48, [some (.ref 198), some (.int l1), some (.int q1), some (.int ((v 210 l1.toNatClampNeg) + (1 : Int32)))], [.int (v 198 4), .int ((v 210 l1.toNatClampNeg) + (1 : Int32)), .int l1, .ref 210], (223, kc, ks, pd_H g (pd_w v 211 l1.toNatClampNeg ((v 211 l1.toNatClampNeg) - (1 : Int32)))))) rfl ?_
      refine ev_gos pp_Mo_leave 1 (S' := (bif decide ((v 198 4) ≤ ((v 210 l1.toNatClampNeg) + (1 : Int32))) then 73 else 51, [some (.ref 198), some (.int l1), some (.int q1), some (.int ((v 210 l1.toNatClampNeg) + (1 : Int32)))], [.int l1, .ref 210], (223, kc, ks, pd_H g (pd_w v 211 l1.toNatClampNeg ((v 211 l1.toNatClampNeg) - (1 : Int32)))))) rfl ?_
      rcases pd_cases h with ⟨hb8, h⟩ | ⟨hb8, h⟩
      · rw [hb8]
        refine ev_gos pp_Mo_leave 1 (S' := (74, [some (.ref 198), some (.int l1), some (.int q1), some (.int ((v 210 l1.toNatClampNeg) + (1 : Int32)))], [.int ((v 210 l1.toNatClampNeg) + (1 : Int32)), .int l1, .ref 210], (223, kc, ks, pd_H g (pd_w v 211 l1.toNatClampNeg ((v 211 l1.toNatClampNeg) - (1 : Int32)))))) rfl ?_
        obtain ⟨hc9, h⟩ := pd_chk h
        refine ev_iast pp_Mo_leave rfl (fun _ => rfl) hc9 ?_
        refine ev_gos pp_Mo_leave 0 (S' := (75, [some (.ref 198), some (.int l1), some (.int q1), some (.int ((v 210 l1.toNatClampNeg) + (1 : Int32)))], [], (223, kc, ks, pd_H g (pd_w (pd_w v 211 l1.toNatClampNeg ((v 211 l1.toNatClampNeg) - (1 : Int32))) 210 l1.toNatClampNeg ((v 210 l1.toNatClampNeg) + (1 : Int32)))))) rfl ?_
        cases h
        exact ev_fin pp_Mo_leave rfl
      · rw [hb8]
        refine ev_gos pp_Mo_leave 3 (S' := (56, [some (.ref 198), some (.int l1), some (.int q1), some (.int ((v 210 l1.toNatClampNeg) + (1 : Int32)))], [.int ((v 210 l1.toNatClampNeg) + (1 : Int32)), .ref 200, .int l1, .ref 210], (223, kc, ks, pd_H g (pd_w v 211 l1.toNatClampNeg ((v 211 l1.toNatClampNeg) - (1 : Int32)))))) rfl ?_
        obtain ⟨hc10, h⟩ := pd_chk h
        refine ev_iald pp_Mo_leave rfl (fun _ => rfl) hc10 ?_
        refine ev_gos pp_Mo_leave 1 (S' := (59, [some (.ref 198), some (.int l1), some (.int q1), some (.int ((v 210 l1.toNatClampNeg) + (1 : Int32)))], [.int (123 : Int32), .int (v 200 (((v 210 l1.toNatClampNeg) + (1 : Int32)).toNatClampNeg)), .int l1, .ref 210], (223, kc, ks, pd_H g (pd_w v 211 l1.toNatClampNeg ((v 211 l1.toNatClampNeg) - (1 : Int32)))))) rfl ?_
        refine ev_gos pp_Mo_leave 1 (S' := (bif !(decide ((v 200 (((v 210 l1.toNatClampNeg) + (1 : Int32)).toNatClampNeg)) = (123 : Int32))) then 73 else 62, [some (.ref 198), some (.int l1), some (.int q1), some (.int ((v 210 l1.toNatClampNeg) + (1 : Int32)))], [.int l1, .ref 210], (223, kc, ks, pd_H g (pd_w v 211 l1.toNatClampNeg ((v 211 l1.toNatClampNeg) - (1 : Int32)))))) rfl ?_
        rcases pd_cases h with ⟨hb11, h⟩ | ⟨hb11, h⟩
        · rw [hb11]
          refine ev_gos pp_Mo_leave 1 (S' := (74, [some (.ref 198), some (.int l1), some (.int q1), some (.int ((v 210 l1.toNatClampNeg) + (1 : Int32)))], [.int ((v 210 l1.toNatClampNeg) + (1 : Int32)), .int l1, .ref 210], (223, kc, ks, pd_H g (pd_w v 211 l1.toNatClampNeg ((v 211 l1.toNatClampNeg) - (1 : Int32)))))) rfl ?_
          obtain ⟨hc12, h⟩ := pd_chk h
          refine ev_iast pp_Mo_leave rfl (fun _ => rfl) hc12 ?_
          refine ev_gos pp_Mo_leave 0 (S' := (75, [some (.ref 198), some (.int l1), some (.int q1), some (.int ((v 210 l1.toNatClampNeg) + (1 : Int32)))], [], (223, kc, ks, pd_H g (pd_w (pd_w v 211 l1.toNatClampNeg ((v 211 l1.toNatClampNeg) - (1 : Int32))) 210 l1.toNatClampNeg ((v 210 l1.toNatClampNeg) + (1 : Int32)))))) rfl ?_
          cases h
          exact ev_fin pp_Mo_leave rfl
        · rw [hb11]
          refine ev_gos pp_Mo_leave 3 (S' := (67, [some (.ref 198), some (.int l1), some (.int q1), some (.int ((v 210 l1.toNatClampNeg) + (1 : Int32)))], [.int ((v 210 l1.toNatClampNeg) + (1 : Int32)), .ref 200, .int l1, .ref 210], (223, kc, ks, pd_H g (pd_w v 211 l1.toNatClampNeg ((v 211 l1.toNatClampNeg) - (1 : Int32)))))) rfl ?_
          obtain ⟨q13, hq13, h⟩ := pd_bind h
          refine ev_call pp_Mo_leave rfl rfl rfl (s_Mo_behind (fun _ => rfl) hq13) ?_
          refine ev_gos pp_Mo_leave 1 (S' := (74, [some (.ref 198), some (.int l1), some (.int q1), some (.int ((v 210 l1.toNatClampNeg) + (1 : Int32)))], [.int q13, .int l1, .ref 210], (223, kc, ks, pd_H g (pd_w v 211 l1.toNatClampNeg ((v 211 l1.toNatClampNeg) - (1 : Int32)))))) rfl ?_
          obtain ⟨hc14, h⟩ := pd_chk h
          refine ev_iast pp_Mo_leave rfl (fun _ => rfl) hc14 ?_
          refine ev_gos pp_Mo_leave 0 (S' := (75, [some (.ref 198), some (.int l1), some (.int q1), some (.int ((v 210 l1.toNatClampNeg) + (1 : Int32)))], [], (223, kc, ks, pd_H g (pd_w (pd_w v 211 l1.toNatClampNeg ((v 211 l1.toNatClampNeg) - (1 : Int32))) 210 l1.toNatClampNeg q13)))) rfl ?_
          cases h
          exact ev_fin pp_Mo_leave rfl
  · rw [hb5]
    refine ev_gos pp_Mo_leave 2 (S' := (74, [some (.ref 198), some (.int l1), some (.int q1), some (.int ((v 210 l1.toNatClampNeg) + (1 : Int32)))], [.int q1, .int l1, .ref 210], (223, kc, ks, pd_H g (pd_w v 211 l1.toNatClampNeg ((v 211 l1.toNatClampNeg) - (1 : Int32)))))) rfl ?_
    obtain ⟨hc15, h⟩ := pd_chk h
    refine ev_iast pp_Mo_leave rfl (fun _ => rfl) hc15 ?_
    refine ev_gos pp_Mo_leave 0 (S' := (75, [some (.ref 198), some (.int l1), some (.int q1), some (.int ((v 210 l1.toNatClampNeg) + (1 : Int32)))], [], (223, kc, ks, pd_H g (pd_w (pd_w v 211 l1.toNatClampNeg ((v 211 l1.toNatClampNeg) - (1 : Int32))) 210 l1.toNatClampNeg q1)))) rfl ?_
    cases h
    exact ev_fin pp_Mo_leave rfl
theorem pp_Mo_enter {xs : Nat → Int32} {L : Nat} : (pj_P xs L 150).1 = fun S => pm_look tb_Mo_enter S.1 S := rfl
def d_Mo_enter (l1 : Int32) (l2 : Int32) (l3 : Int32) (v : pd_V) : Option pd_V :=
  bif pm_in l1 8 then
  bif pm_in (((5 : Int32) * l1) + (v 211 l1.toNatClampNeg)) 40 then
  bif pm_in l1 8 then
  bif pm_in l1 8 then
  bif pm_in l1 8 then
  some (pd_w (pd_w (pd_w v 212 ((((5 : Int32) * l1) + (v 211 l1.toNatClampNeg)).toNatClampNeg) l2) 211 l1.toNatClampNeg ((v 211 l1.toNatClampNeg) + (1 : Int32))) 210 l1.toNatClampNeg l3)
  else none
  else none
  else none
  else none
  else none
theorem s_Mo_enter {l1 : Int32} {l2 : Int32} {l3 : Int32} {v : pd_V} {q : pd_V}  (h : d_Mo_enter l1 l2 l3 v = some q) : pm_ev (pj_P xs L) d 150 (0, [some (.ref 198), some (.int l1), some (.int l2), some (.int l3)], [], (223, kc, ks, pd_H g v)) (.inl none, (223, kc, ks, pd_H g q)) := by
  unfold d_Mo_enter at h
  refine ev_gos pp_Mo_enter 8 (S' := (12, [some (.ref 198), some (.int l1), some (.int l2), some (.int l3)], [.int l1, .ref 211, .int ((5 : Int32) * l1), .ref 212], (223, kc, ks, pd_H g v))) rfl ?_
  obtain ⟨hc1, h⟩ := pd_chk h
  refine ev_iald pp_Mo_enter rfl (fun _ => rfl) hc1 ?_
  refine ev_gos pp_Mo_enter 2 (S' := (15, [some (.ref 198), some (.int l1), some (.int l2), some (.int l3)], [.int l2, .int (((5 : Int32) * l1) + (v 211 l1.toNatClampNeg)), .ref 212], (223, kc, ks, pd_H g v))) rfl ?_
  obtain ⟨hc2, h⟩ := pd_chk h
  refine ev_iast pp_Mo_enter rfl (fun _ => rfl) hc2 ?_
  refine ev_gos pp_Mo_enter 4 (S' := (22, [some (.ref 198), some (.int l1), some (.int l2), some (.int l3)], [.int l1, .ref 211, .int l1, .ref 211], (223, kc, ks, pd_H g (pd_w v 212 ((((5 : Int32) * l1) + (v 211 l1.toNatClampNeg)).toNatClampNeg) l2)))) rfl ?_
  obtain ⟨hc3, h⟩ := pd_chk h
  refine ev_iald pp_Mo_enter rfl (fun _ => rfl) hc3 ?_
  refine ev_gos pp_Mo_enter 2 (S' := (25, [some (.ref 198), some (.int l1), some (.int l2), some (.int l3)], [.int ((v 211 l1.toNatClampNeg) + (1 : Int32)), .int l1, .ref 211], (223, kc, ks, pd_H g (pd_w v 212 ((((5 : Int32) * l1) + (v 211 l1.toNatClampNeg)).toNatClampNeg) l2)))) rfl ?_
  obtain ⟨hc4, h⟩ := pd_chk h
  refine ev_iast pp_Mo_enter rfl (fun _ => rfl) hc4 ?_
  refine ev_gos pp_Mo_enter 4 (S' := (32, [some (.ref 198), some (.int l1), some (.int l2), some (.int l3)], [.int l3, .int l1, .ref 210], (223, kc, ks, pd_H g (pd_w (pd_w v 212 ((((5 : Int32) * l1) + (v 211 l1.toNatClampNeg)).toNatClampNeg) l2) 211 l1.toNatClampNeg ((v 211 l1.toNatClampNeg) + (1 : Int32)))))) rfl ?_
  obtain ⟨hc5, h⟩ := pd_chk h
  refine ev_iast pp_Mo_enter rfl (fun _ => rfl) hc5 ?_
  refine ev_gos pp_Mo_enter 0 (S' := (33, [some (.ref 198), some (.int l1), some (.int l2), some (.int l3)], [], (223, kc, ks, pd_H g (pd_w (pd_w (pd_w v 212 ((((5 : Int32) * l1) + (v 211 l1.toNatClampNeg)).toNatClampNeg) l2) 211 l1.toNatClampNeg ((v 211 l1.toNatClampNeg) + (1 : Int32))) 210 l1.toNatClampNeg l3)))) rfl ?_
  cases h
  exact ev_fin pp_Mo_enter rfl
theorem pp_Mo_choose {xs : Nat → Int32} {L : Nat} : (pj_P xs L 149).1 = fun S => pm_look tb_Mo_choose S.1 S := rfl
def d_Mo_choose (w : Nat) (l1 : Int32) (l2 : Int32) (l3 : Int32) (v : pd_V) : Option pd_V :=
  (d_Mo_upTo w 200 160 l3 (123 : Int32) (123 : Int32) v).bind fun q1 =>
  (d_Mo_behind w 200 160 q1 v).bind fun q2 =>
  (d_Mo_valueOf w l1 (l3 + (1 : Int32)) l3 v).bind fun q3 =>
  bif pm_in l1 16 then
  bif decide ((q3.2 209 l1.toNatClampNeg) = 0) then
    bif pm_in l3 160 then
    bif !(decide ((q3.2 200 l3.toNatClampNeg) = (42 : Int32))) then
      bif decide (q3.1 = 0) then
        bif decide ((q3.2 198 4) ≤ q2) then
          bif pm_in l2 8 then
          some (pd_w q3.2 210 l2.toNatClampNeg q2)
          else none
        else
          bif pm_in q2 160 then
          bif !(decide ((q3.2 200 q2.toNatClampNeg) = (123 : Int32))) then
            bif pm_in l2 8 then
            some (pd_w q3.2 210 l2.toNatClampNeg q2)
            else none
          else
            (d_Mo_enter l2 (-2 : Int32) (q2 + (1 : Int32)) q3.2).bind fun q14 =>
            some q14
          else none
      else
        (d_Mo_enter l2 (-1 : Int32) (q1 + (1 : Int32)) q3.2).bind fun q15 =>
        some q15
    else
      bif decide (q3.1 = 0) then
        bif pm_in l2 8 then
        some (pd_w q3.2 210 l2.toNatClampNeg q2)
        else none
      else
        (d_Mo_enter l2 l3 (q1 + (1 : Int32)) q3.2).bind fun q18 =>
        some q18
    else none
  else
    some q3.2
  else none
theorem s_Mo_choose {w : Nat} {l1 : Int32} {l2 : Int32} {l3 : Int32} {v : pd_V} {q : pd_V}  (h : d_Mo_choose w l1 l2 l3 v = some q) : pm_ev (pj_P xs L) (d + 4) 149 (0, [some (.ref 198), some (.int l1), some (.int l2), some (.int l3), none, none, none], [], (223, kc, ks, pd_H g v)) (.inl none, (223, kc, ks, pd_H g q)) := by
  unfold d_Mo_choose at h
  refine ev_gos pp_Mo_choose 5 (S' := (9, [some (.ref 198), some (.int l1), some (.int l2), some (.int l3), none, none, none], [.int (123 : Int32), .int (123 : Int32), .int l3, .ref 200], (223, kc, ks, pd_H g v))) rfl ?_
  obtain ⟨q1, hq1, h⟩ := pd_bind h
  refine ev_call pp_Mo_choose rfl rfl rfl (s_Mo_upTo (fun _ => rfl) hq1) ?_
  refine ev_gos pp_Mo_choose 4 (S' := (20, [some (.ref 198), some (.int l1), some (.int l2), some (.int l3), some (.int q1), none, none], [.int q1, .ref 200], (223, kc, ks, pd_H g v))) rfl ?_
  obtain ⟨q2, hq2, h⟩ := pd_bind h
  refine ev_call pp_Mo_choose rfl rfl rfl (s_Mo_behind (fun _ => rfl) hq2) ?_
  refine ev_gos pp_Mo_choose 7 (S' := (31, [some (.ref 198), some (.int l1), some (.int l2), some (.int l3), some (.int q1), some (.int q2), none], [.int l3, .int (l3 + (1 : Int32)), .int l1, .ref 198], (223, kc, ks, pd_H g v))) rfl ?_
  obtain ⟨q3, hq3, h⟩ := pd_bind h
  refine ev_callv pp_Mo_choose rfl rfl rfl rfl (s_Mo_valueOf hq3) ?_
  refine ev_gos pp_Mo_choose 4 (S' := (41, [some (.ref 198), some (.int l1), some (.int l2), some (.int l3), some (.int q1), some (.int q2), some (.int q3.1)], [.int l1, .ref 209], (223, kc, ks, pd_H g q3.2))) rfl ?_
  obtain ⟨hc4, h⟩ := pd_chk h
  refine ev_zald pp_Mo_choose rfl (fun _ => rfl) hc4 ?_
  refine ev_gos pp_Mo_choose 0 (S' := (42, [some (.ref 198), some (.int l1), some (.int l2), some (.int l3), some (.int q1), some (.int q2), some (.int q3.1)], [.int (q3.2 209 l1.toNatClampNeg)], (223, kc, ks, pd_H g q3.2))) rfl ?_
  refine ev_gos pp_Mo_choose 1 (S' := (bif decide ((q3.2 209 l1.toNatClampNeg) = 0) then 46 else 45, [some (.ref 198), some (.int l1), some (.int l2), some (.int l3), some (.int q1), some (.int q2), some (.int q3.1)], [], (223, kc, ks, pd_H g q3.2))) rfl ?_
  rcases pd_cases h with ⟨hb5, h⟩ | ⟨hb5, h⟩
  · rw [hb5]
    refine ev_gos pp_Mo_choose 3 (S' := (51, [some (.ref 198), some (.int l1), some (.int l2), some (.int l3), some (.int q1), some (.int q2), some (.int q3.1)], [.int l3, .ref 200], (223, kc, ks, pd_H g q3.2))) rfl ?_
    obtain ⟨hc6, h⟩ := pd_chk h
    refine ev_iald pp_Mo_choose rfl (fun _ => rfl) hc6 ?_
    refine ev_gos pp_Mo_choose 1 (S' := (54, [some (.ref 198), some (.int l1), some (.int l2), some (.int l3), some (.int q1), some (.int q2), some (.int q3.1)], [.int (42 : Int32), .int (q3.2 200 l3.toNatClampNeg)], (223, kc, ks, pd_H g q3.2))) rfl ?_
    refine ev_gos pp_Mo_choose 1 (S' := (bif !(decide ((q3.2 200 l3.toNatClampNeg) = (42 : Int32))) then 86 else 57, [some (.ref 198), some (.int l1), some (.int l2), some (.int l3), some (.int q1), some (.int q2), some (.int q3.1)], [], (223, kc, ks, pd_H g q3.2))) rfl ?_
    rcases pd_cases h with ⟨hb7, h⟩ | ⟨hb7, h⟩
    · rw [hb7]
      refine ev_gos pp_Mo_choose 1 (S' := (88, [some (.ref 198), some (.int l1), some (.int l2), some (.int l3), some (.int q1), some (.int q2), some (.int q3.1)], [.int q3.1], (223, kc, ks, pd_H g q3.2))) rfl ?_
      refine ev_gos pp_Mo_choose 1 (S' := (bif decide (q3.1 = 0) then 104 else 91, [some (.ref 198), some (.int l1), some (.int l2), some (.int l3), some (.int q1), some (.int q2), some (.int q3.1)], [], (223, kc, ks, pd_H g q3.2))) rfl ?_
      rcases pd_cases h with ⟨hb8, h⟩ | ⟨hb8, h⟩
      · rw [hb8]
        refine ev_gos pp_Mo_choose 3 (S' := (110, [some (.ref 198), some (.int l1), some (.int l2), some (.int l3), some (.int q1), some (.int q2), some (.int q3.1)], [.int (q3.2 198 4), .int q2], (223, kc, ks, pd_H g q3.2))) rfl ?_
        refine ev_gos pp_Mo_choose 1 (S' := (bif decide ((q3.2 198 4) ≤ q2) then 139 else 113, [some (.ref 198), some (.int l1), some (.int l2), some (.int l3), some (.int q1), some (.int q2), some (.int q3.1)], [], (223, kc, ks, pd_H g q3.2))) rfl ?_
        rcases pd_cases h with ⟨hb9, h⟩ | ⟨hb9, h⟩
        · rw [hb9]
          refine ev_gos pp_Mo_choose 4 (S' := (146, [some (.ref 198), some (.int l1), some (.int l2), some (.int l3), some (.int q1), some (.int q2), some (.int q3.1)], [.int q2, .int l2, .ref 210], (223, kc, ks, pd_H g q3.2))) rfl ?_
          obtain ⟨hc10, h⟩ := pd_chk h
          refine ev_iast pp_Mo_choose rfl (fun _ => rfl) hc10 ?_
          refine ev_gos pp_Mo_choose 0 (S' := (147, [some (.ref 198), some (.int l1), some (.int l2), some (.int l3), some (.int q1), some (.int q2), some (.int q3.1)], [], (223, kc, ks, pd_H g (pd_w q3.2 210 l2.toNatClampNeg q2)))) rfl ?_
          cases h
          exact ev_fin pp_Mo_choose rfl
        · rw [hb9]
          refine ev_gos pp_Mo_choose 3 (S' := (119, [some (.ref 198), some (.int l1), some (.int l2), some (.int l3), some (.int q1), some (.int q2), some (.int q3.1)], [.int q2, .ref 200], (223, kc, ks, pd_H g q3.2))) rfl ?_
          obtain ⟨hc11, h⟩ := pd_chk h
          refine ev_iald pp_Mo_choose rfl (fun _ => rfl) hc11 ?_
          refine ev_gos pp_Mo_choose 1 (S' := (122, [some (.ref 198), some (.int l1), some (.int l2), some (.int l3), some (.int q1), some (.int q2), some (.int q3.1)], [.int (123 : Int32), .int (q3.2 200 q2.toNatClampNeg)], (223, kc, ks, pd_H g q3.2))) rfl ?_
          refine ev_gos pp_Mo_choose 1 (S' := (bif !(decide ((q3.2 200 q2.toNatClampNeg) = (123 : Int32))) then 139 else 125, [some (.ref 198), some (.int l1), some (.int l2), some (.int l3), some (.int q1), some (.int q2), some (.int q3.1)], [], (223, kc, ks, pd_H g q3.2))) rfl ?_
          rcases pd_cases h with ⟨hb12, h⟩ | ⟨hb12, h⟩
          · rw [hb12]
            refine ev_gos pp_Mo_choose 4 (S' := (146, [some (.ref 198), some (.int l1), some (.int l2), some (.int l3), some (.int q1), some (.int q2), some (.int q3.1)], [.int q2, .int l2, .ref 210], (223, kc, ks, pd_H g q3.2))) rfl ?_
            obtain ⟨hc13, h⟩ := pd_chk h
            refine ev_iast pp_Mo_choose rfl (fun _ => rfl) hc13 ?_
            refine ev_gos pp_Mo_choose 0 (S' := (147, [some (.ref 198), some (.int l1), some (.int l2), some (.int l3), some (.int q1), some (.int q2), some (.int q3.1)], [], (223, kc, ks, pd_H g (pd_w q3.2 210 l2.toNatClampNeg q2)))) rfl ?_
            cases h
            exact ev_fin pp_Mo_choose rfl
          · rw [hb12]
            refine ev_gos pp_Mo_choose 6 (S' := (133, [some (.ref 198), some (.int l1), some (.int l2), some (.int l3), some (.int q1), some (.int q2), some (.int q3.1)], [.int (q2 + (1 : Int32)), .int (-2 : Int32), .int l2, .ref 198], (223, kc, ks, pd_H g q3.2))) rfl ?_
            obtain ⟨q14, hq14, h⟩ := pd_bind h
            refine ev_callv pp_Mo_choose rfl rfl rfl rfl (s_Mo_enter hq14) ?_
            refine ev_gos pp_Mo_choose 1 (S' := (147, [some (.ref 198), some (.int l1), some (.int l2), some (.int l3), some (.int q1), some (.int q2), some (.int q3.1)], [], (223, kc, ks, pd_H g q14))) rfl ?_
            cases h
            exact ev_fin pp_Mo_choose rfl
      · rw [hb8]
        refine ev_gos pp_Mo_choose 6 (S' := (98, [some (.ref 198), some (.int l1), some (.int l2), some (.int l3), some (.int q1), some (.int q2), some (.int q3.1)], [.int (q1 + (1 : Int32)), .int (-1 : Int32), .int l2, .ref 198], (223, kc, ks, pd_H g q3.2))) rfl ?_
        obtain ⟨q15, hq15, h⟩ := pd_bind h
        refine ev_callv pp_Mo_choose rfl rfl rfl rfl (s_Mo_enter hq15) ?_
        refine ev_gos pp_Mo_choose 1 (S' := (147, [some (.ref 198), some (.int l1), some (.int l2), some (.int l3), some (.int q1), some (.int q2), some (.int q3.1)], [], (223, kc, ks, pd_H g q15))) rfl ?_
        cases h
        exact ev_fin pp_Mo_choose rfl
    · rw [hb7]
      refine ev_gos pp_Mo_choose 1 (S' := (59, [some (.ref 198), some (.int l1), some (.int l2), some (.int l3), some (.int q1), some (.int q2), some (.int q3.1)], [.int q3.1], (223, kc, ks, pd_H g q3.2))) rfl ?_
      refine ev_gos pp_Mo_choose 1 (S' := (bif decide (q3.1 = 0) then 75 else 62, [some (.ref 198), some (.int l1), some (.int l2), some (.int l3), some (.int q1), some (.int q2), some (.int q3.1)], [], (223, kc, ks, pd_H g q3.2))) rfl ?_
      rcases pd_cases h with ⟨hb16, h⟩ | ⟨hb16, h⟩
      · rw [hb16]
        refine ev_gos pp_Mo_choose 4 (S' := (82, [some (.ref 198), some (.int l1), some (.int l2), some (.int l3), some (.int q1), some (.int q2), some (.int q3.1)], [.int q2, .int l2, .ref 210], (223, kc, ks, pd_H g q3.2))) rfl ?_
        obtain ⟨hc17, h⟩ := pd_chk h
        refine ev_iast pp_Mo_choose rfl (fun _ => rfl) hc17 ?_
        refine ev_gos pp_Mo_choose 1 (S' := (147, [some (.ref 198), some (.int l1), some (.int l2), some (.int l3), some (.int q1), some (.int q2), some (.int q3.1)], [], (223, kc, ks, pd_H g (pd_w q3.2 210 l2.toNatClampNeg q2)))) rfl ?_
        cases h
        exact ev_fin pp_Mo_choose rfl
      · rw [hb16]
        refine ev_gos pp_Mo_choose 6 (S' := (69, [some (.ref 198), some (.int l1), some (.int l2), some (.int l3), some (.int q1), some (.int q2), some (.int q3.1)], [.int (q1 + (1 : Int32)), .int l3, .int l2, .ref 198], (223, kc, ks, pd_H g q3.2))) rfl ?_
        obtain ⟨q18, hq18, h⟩ := pd_bind h
        refine ev_callv pp_Mo_choose rfl rfl rfl rfl (s_Mo_enter hq18) ?_
        refine ev_gos pp_Mo_choose 1 (S' := (147, [some (.ref 198), some (.int l1), some (.int l2), some (.int l3), some (.int q1), some (.int q2), some (.int q3.1)], [], (223, kc, ks, pd_H g q18))) rfl ?_
        cases h
        exact ev_fin pp_Mo_choose rfl
  · rw [hb5]
    refine ev_gos pp_Mo_choose 0 (S' := (45, [some (.ref 198), some (.int l1), some (.int l2), some (.int l3), some (.int q1), some (.int q2), some (.int q3.1)], [], (223, kc, ks, pd_H g q3.2))) rfl ?_
    cases h
    exact ev_fin pp_Mo_choose rfl
theorem pp_Mo_goes {xs : Nat → Int32} {L : Nat} : (pj_P xs L 146).1 = fun S => pm_look tb_Mo_goes S.1 S := rfl
def d_Mo_goes_5 (w : Nat) (f : Nat) (l1 : Int32) (l2 : Int32) (v : pd_V) : Option (Int32 × pd_V) := match f with
  | 0 => none
  | f + 1 =>
    bif pm_in l2 16 then
    bif !(decide ((v 209 l2.toNatClampNeg) = 0)) then
      bif pm_in l2 16 then
      some ((1 : Int32), (pd_w v 209 l2.toNatClampNeg (1 : Int32)))
      else none
    else
      bif pm_in l1 8 then
      bif decide ((v 198 4) ≤ (v 210 l1.toNatClampNeg)) then
        bif pm_in l2 16 then
        some ((1 : Int32), (pd_w v 209 l2.toNatClampNeg (1 : Int32)))
        else none
      else
        bif pm_in l1 8 then
        bif pm_in (v 210 l1.toNatClampNeg) 160 then
        bif !(decide ((v 200 ((v 210 l1.toNatClampNeg).toNatClampNeg)) = (125 : Int32))) then
          bif pm_in (v 210 l1.toNatClampNeg) 160 then
          bif !(decide ((v 200 ((v 210 l1.toNatClampNeg).toNatClampNeg)) = (88 : Int32))) then
            bif !(decide ((v 198 28) = 0)) then
              bif pm_in (v 210 l1.toNatClampNeg) 160 then
              bif decide ((v 200 ((v 210 l1.toNatClampNeg).toNatClampNeg)) = (63 : Int32)) then
                (d_Mo_choose w l2 l1 (v 210 l1.toNatClampNeg) (pd_w v 198 28 ((v 198 28) - (1 : Int32)))).bind fun q15 =>
                d_Mo_goes_5 w f l1 l2 q15
              else
                bif pm_in (v 210 l1.toNatClampNeg) 160 then
                bif !(decide ((v 200 ((v 210 l1.toNatClampNeg).toNatClampNeg)) = (42 : Int32))) then
                  (d_Mo_act w l2 (v 210 l1.toNatClampNeg) (pd_w v 198 28 ((v 198 28) - (1 : Int32)))).bind fun q18 =>
                  (d_Mo_upTo w 200 160 (v 210 l1.toNatClampNeg) (59 : Int32) (59 : Int32) q18).bind fun q19 =>
                  bif pm_in l1 8 then
                  d_Mo_goes_5 w f l1 l2 (pd_w q18 210 l1.toNatClampNeg (q19 + (1 : Int32)))
                  else none
                else
                  (d_Mo_choose w l2 l1 (v 210 l1.toNatClampNeg) (pd_w v 198 28 ((v 198 28) - (1 : Int32)))).bind fun q21 =>
                  d_Mo_goes_5 w f l1 l2 q21
                else none
              else none
            else
              some ((0 : Int32), v)
          else
            bif pm_in l1 8 then
            some ((1 : Int32), (pd_w v 215 l1.toNatClampNeg (1 : Int32)))
            else none
          else none
        else
          (d_Mo_leave w l1 v).bind fun q23 =>
          d_Mo_goes_5 w f l1 l2 q23
        else none
        else none
      else none
    else none
theorem s_Mo_goes_5 {w : Nat} : ∀ (f : Nat) (l1 : Int32) (l2 : Int32) (v : pd_V) (y3 : Option Value) (q : (Int32 × pd_V)) , d_Mo_goes_5 w f l1 l2 v = some q → pm_ev (pj_P xs L) (d + 5) 146 (5, [some (.ref 198), some (.int l1), some (.int l2), y3], [], (223, kc, ks, pd_H g v)) (.inl (some (.int q.1)), (223, kc, ks, pd_H g q.2)) := by
  intro f
  induction f with
  | zero => intro l1 l2 v y3 q h; exact nomatch (show (none : Option (Int32 × pd_V)) = some q from h)
  | succ f ih =>
    intro l1 l2 v y3 q h
    rw [d_Mo_goes_5] at h
    refine ev_gos pp_Mo_goes 3 (S' := (10, [some (.ref 198), some (.int l1), some (.int l2), y3], [.int l2, .ref 209], (223, kc, ks, pd_H g v))) rfl ?_
    obtain ⟨hc1, h⟩ := pd_chk h
    refine ev_zald pp_Mo_goes rfl (fun _ => rfl) hc1 ?_
    refine ev_gos pp_Mo_goes 0 (S' := (11, [some (.ref 198), some (.int l1), some (.int l2), y3], [.int (v 209 l2.toNatClampNeg)], (223, kc, ks, pd_H g v))) rfl ?_
    refine ev_gos pp_Mo_goes 1 (S' := (bif !(decide ((v 209 l2.toNatClampNeg) = 0)) then 153 else 14, [some (.ref 198), some (.int l1), some (.int l2), y3], [], (223, kc, ks, pd_H g v))) rfl ?_
    rcases pd_cases h with ⟨hb2, h⟩ | ⟨hb2, h⟩
    · rw [hb2]
      refine ev_gos pp_Mo_goes 4 (S' := (159, [some (.ref 198), some (.int l1), some (.int l2), y3], [.int (1 : Int32), .int l2, .ref 209], (223, kc, ks, pd_H g v))) rfl ?_
      obtain ⟨hc3, h⟩ := pd_chk h
      refine ev_zast pp_Mo_goes rfl (fun _ => rfl) hc3 pd_b1 ?_
      refine ev_gos pp_Mo_goes 1 (S' := (161, [some (.ref 198), some (.int l1), some (.int l2), y3], [.int (1 : Int32)], (223, kc, ks, pd_H g (pd_w v 209 l2.toNatClampNeg (1 : Int32))))) rfl ?_
      cases h
      exact ev_zret pp_Mo_goes rfl pd_b1
    · rw [hb2]
      refine ev_gos pp_Mo_goes 3 (S' := (19, [some (.ref 198), some (.int l1), some (.int l2), y3], [.int l1, .ref 210], (223, kc, ks, pd_H g v))) rfl ?_
      obtain ⟨hc4, h⟩ := pd_chk h
      refine ev_iald pp_Mo_goes rfl (fun _ => rfl) hc4 ?_
      refine ev_gos pp_Mo_goes 2 (S' := (24, [some (.ref 198), some (.int l1), some (.int l2), y3], [.int (v 198 4), .int (v 210 l1.toNatClampNeg)], (223, kc, ks, pd_H g v))) rfl ?_
      refine ev_gos pp_Mo_goes 1 (S' := (bif decide ((v 198 4) ≤ (v 210 l1.toNatClampNeg)) then 153 else 27, [some (.ref 198), some (.int l1), some (.int l2), y3], [], (223, kc, ks, pd_H g v))) rfl ?_
      rcases pd_cases h with ⟨hb5, h⟩ | ⟨hb5, h⟩
      · rw [hb5]
        refine ev_gos pp_Mo_goes 4 (S' := (159, [some (.ref 198), some (.int l1), some (.int l2), y3], [.int (1 : Int32), .int l2, .ref 209], (223, kc, ks, pd_H g v))) rfl ?_
        obtain ⟨hc6, h⟩ := pd_chk h
        refine ev_zast pp_Mo_goes rfl (fun _ => rfl) hc6 pd_b1 ?_
        refine ev_gos pp_Mo_goes 1 (S' := (161, [some (.ref 198), some (.int l1), some (.int l2), y3], [.int (1 : Int32)], (223, kc, ks, pd_H g (pd_w v 209 l2.toNatClampNeg (1 : Int32))))) rfl ?_
        cases h
        exact ev_zret pp_Mo_goes rfl pd_b1
      · rw [hb5]
        refine ev_gos pp_Mo_goes 3 (S' := (32, [some (.ref 198), some (.int l1), some (.int l2), y3], [.int l1, .ref 210], (223, kc, ks, pd_H g v))) rfl ?_
        obtain ⟨hc7, h⟩ := pd_chk h
        refine ev_iald pp_Mo_goes rfl (fun _ => rfl) hc7 ?_
        refine ev_gos pp_Mo_goes 4 (S' := (39, [some (.ref 198), some (.int l1), some (.int l2), some (.int (v 210 l1.toNatClampNeg))], [.int (v 210 l1.toNatClampNeg), .ref 200], (223, kc, ks, pd_H g v))) rfl ?_
        obtain ⟨hc8, h⟩ := pd_chk h
        refine ev_iald pp_Mo_goes rfl (fun _ => rfl) hc8 ?_
        refine ev_gos pp_Mo_goes 1 (S' := (42, [some (.ref 198), some (.int l1), some (.int l2), some (.int (v 210 l1.toNatClampNeg))], [.int (125 : Int32), .int (v 200 ((v 210 l1.toNatClampNeg).toNatClampNeg))], (223, kc, ks, pd_H g v))) rfl ?_
        refine ev_gos pp_Mo_goes 1 (S' := (bif !(decide ((v 200 ((v 210 l1.toNatClampNeg).toNatClampNeg)) = (125 : Int32))) then 53 else 45, [some (.ref 198), some (.int l1), some (.int l2), some (.int (v 210 l1.toNatClampNeg))], [], (223, kc, ks, pd_H g v))) rfl ?_
        rcases pd_cases h with ⟨hb9, h⟩ | ⟨hb9, h⟩
        · rw [hb9]
          refine ev_gos pp_Mo_goes 3 (S' := (58, [some (.ref 198), some (.int l1), some (.int l2), some (.int (v 210 l1.toNatClampNeg))], [.int (v 210 l1.toNatClampNeg), .ref 200], (223, kc, ks, pd_H g v))) rfl ?_
          obtain ⟨hc10, h⟩ := pd_chk h
          refine ev_iald pp_Mo_goes rfl (fun _ => rfl) hc10 ?_
          refine ev_gos pp_Mo_goes 1 (S' := (61, [some (.ref 198), some (.int l1), some (.int l2), some (.int (v 210 l1.toNatClampNeg))], [.int (88 : Int32), .int (v 200 ((v 210 l1.toNatClampNeg).toNatClampNeg))], (223, kc, ks, pd_H g v))) rfl ?_
          refine ev_gos pp_Mo_goes 1 (S' := (bif !(decide ((v 200 ((v 210 l1.toNatClampNeg).toNatClampNeg)) = (88 : Int32))) then 73 else 64, [some (.ref 198), some (.int l1), some (.int l2), some (.int (v 210 l1.toNatClampNeg))], [], (223, kc, ks, pd_H g v))) rfl ?_
          rcases pd_cases h with ⟨hb11, h⟩ | ⟨hb11, h⟩
          · rw [hb11]
            refine ev_gos pp_Mo_goes 2 (S' := (77, [some (.ref 198), some (.int l1), some (.int l2), some (.int (v 210 l1.toNatClampNeg))], [.int (v 198 28)], (223, kc, ks, pd_H g v))) rfl ?_
            refine ev_gos pp_Mo_goes 1 (S' := (bif !(decide ((v 198 28) = 0)) then 82 else 80, [some (.ref 198), some (.int l1), some (.int l2), some (.int (v 210 l1.toNatClampNeg))], [], (223, kc, ks, pd_H g v))) rfl ?_
            rcases pd_cases h with ⟨hb12, h⟩ | ⟨hb12, h⟩
            · rw [hb12]
              refine ev_gos pp_Mo_goes 5 (S' := (89, [some (.ref 198), some (.int l1), some (.int l2), some (.int (v 210 l1.toNatClampNeg))], [.int ((v 198 28) - (1 : Int32)), .ref 198], (223, kc, ks, pd_H g v))) rfl ?_
              refine ev_put pp_Mo_goes rfl (fun _ => rfl) rfl rfl rfl ?_
              refine ev_gos pp_Mo_goes 3 (S' := (97, [some (.ref 198), some (.int l1), some (.int l2), some (.int (v 210 l1.toNatClampNeg))], [.int (v 210 l1.toNatClampNeg), .ref 200], (223, kc, ks, pd_H g (pd_w v 198 28 ((v 198 28) - (1 : Int32)))))) rfl ?_
              obtain ⟨hc13, h⟩ := pd_chk h
              refine ev_iald pp_Mo_goes rfl (fun _ => rfl) hc13 ?_
              refine ev_gos pp_Mo_goes 1 (S' := (100, [some (.ref 198), some (.int l1), some (.int l2), some (.int (v 210 l1.toNatClampNeg))], [.int (63 : Int32), .int (v 200 ((v 210 l1.toNatClampNeg).toNatClampNeg))], (223, kc, ks, pd_H g (pd_w v 198 28 ((v 198 28) - (1 : Int32)))))) rfl ?_
              refine ev_gos pp_Mo_goes 1 (S' := (bif decide ((v 200 ((v 210 l1.toNatClampNeg).toNatClampNeg)) = (63 : Int32)) then 114 else 103, [some (.ref 198), some (.int l1), some (.int l2), some (.int (v 210 l1.toNatClampNeg))], [], (223, kc, ks, pd_H g (pd_w v 198 28 ((v 198 28) - (1 : Int32)))))) rfl ?_
              rcases pd_cases h with ⟨hb14, h⟩ | ⟨hb14, h⟩
              · rw [hb14]
                refine ev_gos pp_Mo_goes 4 (S' := (118, [some (.ref 198), some (.int l1), some (.int l2), some (.int (v 210 l1.toNatClampNeg))], [.int (v 210 l1.toNatClampNeg), .int l1, .int l2, .ref 198], (223, kc, ks, pd_H g (pd_w v 198 28 ((v 198 28) - (1 : Int32)))))) rfl ?_
                obtain ⟨q15, hq15, h⟩ := pd_bind h
                refine ev_callv pp_Mo_goes rfl rfl rfl rfl (s_Mo_choose hq15) ?_
                refine ev_gos pp_Mo_goes 2 (S' := (5, [some (.ref 198), some (.int l1), some (.int l2), some (.int (v 210 l1.toNatClampNeg))], [], (223, kc, ks, pd_H g q15))) rfl ?_
                exact ih _ _ _ _ _  h
              · rw [hb14]
                refine ev_gos pp_Mo_goes 3 (S' := (108, [some (.ref 198), some (.int l1), some (.int l2), some (.int (v 210 l1.toNatClampNeg))], [.int (v 210 l1.toNatClampNeg), .ref 200], (223, kc, ks, pd_H g (pd_w v 198 28 ((v 198 28) - (1 : Int32)))))) rfl ?_
                obtain ⟨hc16, h⟩ := pd_chk h
                refine ev_iald pp_Mo_goes rfl (fun _ => rfl) hc16 ?_
                refine ev_gos pp_Mo_goes 1 (S' := (111, [some (.ref 198), some (.int l1), some (.int l2), some (.int (v 210 l1.toNatClampNeg))], [.int (42 : Int32), .int (v 200 ((v 210 l1.toNatClampNeg).toNatClampNeg))], (223, kc, ks, pd_H g (pd_w v 198 28 ((v 198 28) - (1 : Int32)))))) rfl ?_
                refine ev_gos pp_Mo_goes 1 (S' := (bif !(decide ((v 200 ((v 210 l1.toNatClampNeg).toNatClampNeg)) = (42 : Int32))) then 124 else 114, [some (.ref 198), some (.int l1), some (.int l2), some (.int (v 210 l1.toNatClampNeg))], [], (223, kc, ks, pd_H g (pd_w v 198 28 ((v 198 28) - (1 : Int32)))))) rfl ?_
                rcases pd_cases h with ⟨hb17, h⟩ | ⟨hb17, h⟩
                · rw [hb17]
                  refine ev_gos pp_Mo_goes 3 (S' := (127, [some (.ref 198), some (.int l1), some (.int l2), some (.int (v 210 l1.toNatClampNeg))], [.int (v 210 l1.toNatClampNeg), .int l2, .ref 198], (223, kc, ks, pd_H g (pd_w v 198 28 ((v 198 28) - (1 : Int32)))))) rfl ?_
                  obtain ⟨q18, hq18, h⟩ := pd_bind h
                  refine ev_callv pp_Mo_goes rfl rfl rfl rfl (s_Mo_act hq18) ?_
                  refine ev_gos pp_Mo_goes 8 (S' := (144, [some (.ref 198), some (.int l1), some (.int l2), some (.int (v 210 l1.toNatClampNeg))], [.int (59 : Int32), .int (59 : Int32), .int (v 210 l1.toNatClampNeg), .ref 200, .int l1, .ref 210], (223, kc, ks, pd_H g q18))) rfl ?_
                  obtain ⟨q19, hq19, h⟩ := pd_bind h
                  refine ev_call pp_Mo_goes rfl rfl rfl (s_Mo_upTo (fun _ => rfl) hq19) ?_
                  refine ev_gos pp_Mo_goes 2 (S' := (149, [some (.ref 198), some (.int l1), some (.int l2), some (.int (v 210 l1.toNatClampNeg))], [.int (q19 + (1 : Int32)), .int l1, .ref 210], (223, kc, ks, pd_H g q18))) rfl ?_
                  obtain ⟨hc20, h⟩ := pd_chk h
                  refine ev_iast pp_Mo_goes rfl (fun _ => rfl) hc20 ?_
                  refine ev_gos pp_Mo_goes 1 (S' := (5, [some (.ref 198), some (.int l1), some (.int l2), some (.int (v 210 l1.toNatClampNeg))], [], (223, kc, ks, pd_H g (pd_w q18 210 l1.toNatClampNeg (q19 + (1 : Int32)))))) rfl ?_
                  exact ih _ _ _ _ _  h
                · rw [hb17]
                  refine ev_gos pp_Mo_goes 4 (S' := (118, [some (.ref 198), some (.int l1), some (.int l2), some (.int (v 210 l1.toNatClampNeg))], [.int (v 210 l1.toNatClampNeg), .int l1, .int l2, .ref 198], (223, kc, ks, pd_H g (pd_w v 198 28 ((v 198 28) - (1 : Int32)))))) rfl ?_
                  obtain ⟨q21, hq21, h⟩ := pd_bind h
                  refine ev_callv pp_Mo_goes rfl rfl rfl rfl (s_Mo_choose hq21) ?_
                  refine ev_gos pp_Mo_goes 2 (S' := (5, [some (.ref 198), some (.int l1), some (.int l2), some (.int (v 210 l1.toNatClampNeg))], [], (223, kc, ks, pd_H g q21))) rfl ?_
                  exact ih _ _ _ _ _  h
            · rw [hb12]
              refine ev_gos pp_Mo_goes 1 (S' := (81, [some (.ref 198), some (.int l1), some (.int l2), some (.int (v 210 l1.toNatClampNeg))], [.int (0 : Int32)], (223, kc, ks, pd_H g v))) rfl ?_
              cases h
              exact ev_zret pp_Mo_goes rfl pd_b0
          · rw [hb11]
            refine ev_gos pp_Mo_goes 4 (S' := (70, [some (.ref 198), some (.int l1), some (.int l2), some (.int (v 210 l1.toNatClampNeg))], [.int (1 : Int32), .int l1, .ref 215], (223, kc, ks, pd_H g v))) rfl ?_
            obtain ⟨hc22, h⟩ := pd_chk h
            refine ev_zast pp_Mo_goes rfl (fun _ => rfl) hc22 pd_b1 ?_
            refine ev_gos pp_Mo_goes 1 (S' := (72, [some (.ref 198), some (.int l1), some (.int l2), some (.int (v 210 l1.toNatClampNeg))], [.int (1 : Int32)], (223, kc, ks, pd_H g (pd_w v 215 l1.toNatClampNeg (1 : Int32))))) rfl ?_
            cases h
            exact ev_zret pp_Mo_goes rfl pd_b1
        · rw [hb9]
          refine ev_gos pp_Mo_goes 2 (S' := (47, [some (.ref 198), some (.int l1), some (.int l2), some (.int (v 210 l1.toNatClampNeg))], [.int l1, .ref 198], (223, kc, ks, pd_H g v))) rfl ?_
          obtain ⟨q23, hq23, h⟩ := pd_bind h
          refine ev_callv pp_Mo_goes rfl rfl rfl rfl (s_Mo_leave hq23) ?_
          refine ev_gos pp_Mo_goes 1 (S' := (5, [some (.ref 198), some (.int l1), some (.int l2), some (.int (v 210 l1.toNatClampNeg))], [], (223, kc, ks, pd_H g q23))) rfl ?_
          exact ih _ _ _ _ _  h
theorem s_Mo_goes_5z {w : Nat} : ∀ (f : Nat) (l1 : Int32) (l2 : Int32) (v : pd_V)  (q : (Int32 × pd_V)) , d_Mo_goes_5 w f l1 l2 v = some q → (q.1 == 0 || q.1 == 1) = true := by
  intro f
  induction f with
  | zero => intro l1 l2 v q h; exact nomatch (show (none : Option (Int32 × pd_V)) = some q from h)
  | succ f ih =>
    intro l1 l2 v q h
    rw [d_Mo_goes_5] at h
    obtain ⟨hc1, h⟩ := pd_chk h
    rcases pd_cases h with ⟨hb2, h⟩ | ⟨hb2, h⟩
    · obtain ⟨hc3, h⟩ := pd_chk h
      cases h
      exact pd_b1
    · obtain ⟨hc4, h⟩ := pd_chk h
      rcases pd_cases h with ⟨hb5, h⟩ | ⟨hb5, h⟩
      · obtain ⟨hc6, h⟩ := pd_chk h
        cases h
        exact pd_b1
      · obtain ⟨hc7, h⟩ := pd_chk h
        obtain ⟨hc8, h⟩ := pd_chk h
        rcases pd_cases h with ⟨hb9, h⟩ | ⟨hb9, h⟩
        · obtain ⟨hc10, h⟩ := pd_chk h
          rcases pd_cases h with ⟨hb11, h⟩ | ⟨hb11, h⟩
          · rcases pd_cases h with ⟨hb12, h⟩ | ⟨hb12, h⟩
            · obtain ⟨hc13, h⟩ := pd_chk h
              rcases pd_cases h with ⟨hb14, h⟩ | ⟨hb14, h⟩
              · obtain ⟨q15, hq15, h⟩ := pd_bind h
                exact ih _ _ _ _  h
              · obtain ⟨hc16, h⟩ := pd_chk h
                rcases pd_cases h with ⟨hb17, h⟩ | ⟨hb17, h⟩
                · obtain ⟨q18, hq18, h⟩ := pd_bind h
                  obtain ⟨q19, hq19, h⟩ := pd_bind h
                  obtain ⟨hc20, h⟩ := pd_chk h
                  exact ih _ _ _ _  h
                · obtain ⟨q21, hq21, h⟩ := pd_bind h
                  exact ih _ _ _ _  h
            · cases h
              exact pd_b0
          · obtain ⟨hc22, h⟩ := pd_chk h
            cases h
            exact pd_b1
        · obtain ⟨q23, hq23, h⟩ := pd_bind h
          exact ih _ _ _ _  h
def d_Mo_goes (w : Nat) (l1 : Int32) (v : pd_V) : Option (Int32 × pd_V) :=
  d_Mo_goes_5 w w l1 ((8 : Int32) + l1) v
theorem s_Mo_goes {w : Nat} {l1 : Int32} {v : pd_V} {q : (Int32 × pd_V)}  (h : d_Mo_goes w l1 v = some q) : pm_ev (pj_P xs L) (d + 5) 146 (0, [some (.ref 198), some (.int l1), none, none], [], (223, kc, ks, pd_H g v)) (.inl (some (.int q.1)), (223, kc, ks, pd_H g q.2)) := by
  unfold d_Mo_goes at h
  refine ev_gos pp_Mo_goes 4 (S' := (5, [some (.ref 198), some (.int l1), some (.int ((8 : Int32) + l1)), none], [], (223, kc, ks, pd_H g v))) rfl ?_
  exact s_Mo_goes_5 _ _ _ _ _ _  h
theorem z_Mo_goes {w : Nat} {l1 : Int32} {v : pd_V} {q : (Int32 × pd_V)}  (h : d_Mo_goes w l1 v = some q) : (q.1 == 0 || q.1 == 1) = true := by
  unfold d_Mo_goes at h
  exact s_Mo_goes_5z _ _ _ _ _  h
end FN
