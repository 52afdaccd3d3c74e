section FN
variable {xs : Nat → Int32} {L : Nat} {g : Nat → Int64} {d kc ks : Nat}
theorem pp_Mo_isText {xs : Nat → Int32} {L : Nat} : (pj_P xs L 105).1 = fun S => pm_look tb_Mo_isText S.1 S := rfl
def d_Mo_isText_126 (w : Nat)  (v : pd_V) : Option (Int32 × pd_V) :=
  some ((0 : Int32), v)
theorem s_Mo_isText_126 {w : Nat} : ∀  (v : pd_V) (y1 : Int32) (y2 : Int32) (q : (Int32 × pd_V)) , d_Mo_isText_126 w v = some q → pm_ev (pj_P xs L) (d + 5) 105 (126, [some (.ref 198), some (.int y1), some (.int y2)], [], (223, kc, ks, pd_H g v)) (.inl (some (.int q.1)), (223, kc, ks, pd_H g q.2)) := by
  intro v y1 y2 q h
  unfold d_Mo_isText_126 at h
  refine ev_gos pp_Mo_isText 1 (S' := (127, [some (.ref 198), some (.int y1), some (.int y2)], [.int (0 : Int32)], (223, kc, ks, pd_H g v))) rfl ?_
  cases h
  exact ev_zret pp_Mo_isText rfl pd_b0
theorem s_Mo_isText_126z {w : Nat} : ∀  (v : pd_V)  (q : (Int32 × pd_V)) , d_Mo_isText_126 w v = some q → (q.1 == 0 || q.1 == 1) = true := by
  intro v q h
  unfold d_Mo_isText_126 at h
  cases h
  exact pd_b0
def d_Mo_isText_7 (w : Nat) (f : Nat) (l1 : Int32) (v : pd_V) : Option (Int32 × pd_V) := match f with
  | 0 => none
  | f + 1 =>
    bif decide ((v 198 6) < (v 198 2)) then
      (d_Mo_see v).bind fun q2 =>
      bif decide (l1 ≤ 0) then
        bif decide (q2 = (63 : Int32)) then
          (d_Mo_isExpression w (0 : Int32) (pd_w v 198 6 ((v 198 6) + (1 : Int32)))).bind fun q5 =>
          bif decide (q5.1 = 0) then
            d_Mo_isText_126 w q5.2
          else
            bif decide (l1 = (4 : Int32)) then
              d_Mo_isText_126 w q5.2
            else
              (d_Mo_takes (123 : Int32) q5.2).bind fun q8 =>
              bif !(decide (q8.1 = 0)) then
                bif !(decide (q2 = (63 : Int32))) then
                  bif pm_in l1 40 then
                  d_Mo_isText_7 w f (l1 + (1 : Int32)) (pd_w q8.2 212 l1.toNatClampNeg (2 : Int32))
                  else none
                else
                  bif pm_in l1 40 then
                  d_Mo_isText_7 w f (l1 + (1 : Int32)) (pd_w q8.2 212 l1.toNatClampNeg (1 : Int32))
                  else none
              else
                d_Mo_isText_126 w q8.2
        else
          bif !(decide (q2 = (42 : Int32))) then
            (d_Mo_isSimple w v).bind fun q14 =>
            bif !(decide (q14.1 = 0)) then
              d_Mo_isText_7 w f l1 q14.2
            else
              some ((0 : Int32), q14.2)
          else
            (d_Mo_isExpression w (0 : Int32) (pd_w v 198 6 ((v 198 6) + (1 : Int32)))).bind fun q16 =>
            bif decide (q16.1 = 0) then
              d_Mo_isText_126 w q16.2
            else
              bif decide (l1 = (4 : Int32)) then
                d_Mo_isText_126 w q16.2
              else
                (d_Mo_takes (123 : Int32) q16.2).bind fun q19 =>
                bif !(decide (q19.1 = 0)) then
                  bif !(decide (q2 = (63 : Int32))) then
                    bif pm_in l1 40 then
                    d_Mo_isText_7 w f (l1 + (1 : Int32)) (pd_w q19.2 212 l1.toNatClampNeg (2 : Int32))
                    else none
                  else
                    bif pm_in l1 40 then
                    d_Mo_isText_7 w f (l1 + (1 : Int32)) (pd_w q19.2 212 l1.toNatClampNeg (1 : Int32))
                    else none
                else
                  d_Mo_isText_126 w q19.2
      else
        bif !(decide (q2 = (125 : Int32))) then
          bif decide (q2 = (63 : Int32)) then
            (d_Mo_isExpression w (0 : Int32) (pd_w v 198 6 ((v 198 6) + (1 : Int32)))).bind fun q26 =>
            bif decide (q26.1 = 0) then
              d_Mo_isText_126 w q26.2
            else
              bif decide (l1 = (4 : Int32)) then
                d_Mo_isText_126 w q26.2
              else
                (d_Mo_takes (123 : Int32) q26.2).bind fun q29 =>
                bif !(decide (q29.1 = 0)) then
                  bif !(decide (q2 = (63 : Int32))) then
                    bif pm_in l1 40 then
                    d_Mo_isText_7 w f (l1 + (1 : Int32)) (pd_w q29.2 212 l1.toNatClampNeg (2 : Int32))
                    else none
                  else
                    bif pm_in l1 40 then
                    d_Mo_isText_7 w f (l1 + (1 : Int32)) (pd_w q29.2 212 l1.toNatClampNeg (1 : Int32))
                    else none
                else
                  d_Mo_isText_126 w q29.2
          else
            bif !(decide (q2 = (42 : Int32))) then
              (d_Mo_isSimple w v).bind fun q35 =>
              bif !(decide (q35.1 = 0)) then
                d_Mo_isText_7 w f l1 q35.2
              else
                some ((0 : Int32), q35.2)
            else
              (d_Mo_isExpression w (0 : Int32) (pd_w v 198 6 ((v 198 6) + (1 : Int32)))).bind fun q37 =>
              bif decide (q37.1 = 0) then
                d_Mo_isText_126 w q37.2
              else
                bif decide (l1 = (4 : Int32)) then
                  d_Mo_isText_126 w q37.2
                else
                  (d_Mo_takes (123 : Int32) q37.2).bind fun q40 =>
                  bif !(decide (q40.1 = 0)) then
                    bif !(decide (q2 = (63 : Int32))) then
                      bif pm_in l1 40 then
                      d_Mo_isText_7 w f (l1 + (1 : Int32)) (pd_w q40.2 212 l1.toNatClampNeg (2 : Int32))
                      else none
                    else
                      bif pm_in l1 40 then
                      d_Mo_isText_7 w f (l1 + (1 : Int32)) (pd_w q40.2 212 l1.toNatClampNeg (1 : Int32))
                      else none
                  else
                    d_Mo_isText_126 w q40.2
        else
          bif pm_in (l1 + (-1 : Int32)) 40 then
          bif !(decide ((v 212 ((l1 + (-1 : Int32)).toNatClampNeg)) = (1 : Int32))) then
            d_Mo_isText_7 w f (l1 + (-1 : Int32)) (pd_w v 198 6 ((v 198 6) + (1 : Int32)))
          else
            (d_Mo_takes (123 : Int32) (pd_w v 198 6 ((v 198 6) + (1 : Int32)))).bind fun q47 =>
            bif decide (q47.1 = 0) then
              d_Mo_isText_7 w f (l1 + (-1 : Int32)) q47.2
            else
              bif pm_in (l1 + (-1 : Int32)) 40 then
              d_Mo_isText_7 w f ((l1 + (-1 : Int32)) + (1 : Int32)) (pd_w q47.2 212 ((l1 + (-1 : Int32)).toNatClampNeg) (2 : Int32))
              else none
          else none
    else
      bif decide (l1 ≤ 0) then
        some ((1 : Int32), v)
      else
        (d_Mo_see v).bind fun q51 =>
        bif decide (l1 ≤ 0) then
          bif decide (q51 = (63 : Int32)) then
            (d_Mo_isExpression w (0 : Int32) (pd_w v 198 6 ((v 198 6) + (1 : Int32)))).bind fun q54 =>
            bif decide (q54.1 = 0) then
              d_Mo_isText_126 w q54.2
            else
              bif decide (l1 = (4 : Int32)) then
                d_Mo_isText_126 w q54.2
              else
                (d_Mo_takes (123 : Int32) q54.2).bind fun q57 =>
                bif !(decide (q57.1 = 0)) then
                  bif !(decide (q51 = (63 : Int32))) then
                    bif pm_in l1 40 then
                    d_Mo_isText_7 w f (l1 + (1 : Int32)) (pd_w q57.2 212 l1.toNatClampNeg (2 : Int32))
                    else none
                  else
                    bif pm_in l1 40 then
                    d_Mo_isText_7 w f (l1 + (1 : Int32)) (pd_w q57.2 212 l1.toNatClampNeg (1 : Int32))
                    else none
                else
                  d_Mo_isText_126 w q57.2
          else
            bif !(decide (q51 = (42 : Int32))) then
              (d_Mo_isSimple w v).bind fun q63 =>
              bif !(decide (q63.1 = 0)) then
                d_Mo_isText_7 w f l1 q63.2
              else
                some ((0 : Int32), q63.2)
            else
              (d_Mo_isExpression w (0 : Int32) (pd_w v 198 6 ((v 198 6) + (1 : Int32)))).bind fun q65 =>
              bif decide (q65.1 = 0) then
                d_Mo_isText_126 w q65.2
              else
                bif decide (l1 = (4 : Int32)) then
                  d_Mo_isText_126 w q65.2
                else
                  (d_Mo_takes (123 : Int32) q65.2).bind fun q68 =>
                  bif !(decide (q68.1 = 0)) then
                    bif !(decide (q51 = (63 : Int32))) then
                      bif pm_in l1 40 then
                      d_Mo_isText_7 w f (l1 + (1 : Int32)) (pd_w q68.2 212 l1.toNatClampNeg (2 : Int32))
                      else none
                    else
                      bif pm_in l1 40 then
                      d_Mo_isText_7 w f (l1 + (1 : Int32)) (pd_w q68.2 212 l1.toNatClampNeg (1 : Int32))
                      else none
                  else
                    d_Mo_isText_126 w q68.2
        else
          bif !(decide (q51 = (125 : Int32))) then
            bif decide (q51 = (63 : Int32)) then
              (d_Mo_isExpression w (0 : Int32) (pd_w v 198 6 ((v 198 6) + (1 : Int32)))).bind fun q75 =>
              bif decide (q75.1 = 0) then
                d_Mo_isText_126 w q75.2
              else
                bif decide (l1 = (4 : Int32)) then
                  d_Mo_isText_126 w q75.2
                else
                  (d_Mo_takes (123 : Int32) q75.2).bind fun q78 =>
                  bif !(decide (q78.1 = 0)) then
                    bif !(decide (q51 = (63 : Int32))) then
                      bif pm_in l1 40 then
                      d_Mo_isText_7 w f (l1 + (1 : Int32)) (pd_w q78.2 212 l1.toNatClampNeg (2 : Int32))
                      else none
                    else
                      bif pm_in l1 40 then
                      d_Mo_isText_7 w f (l1 + (1 : Int32)) (pd_w q78.2 212 l1.toNatClampNeg (1 : Int32))
                      else none
                  else
                    d_Mo_isText_126 w q78.2
            else
              bif !(decide (q51 = (42 : Int32))) then
                (d_Mo_isSimple w v).bind fun q84 =>
                bif !(decide (q84.1 = 0)) then
                  d_Mo_isText_7 w f l1 q84.2
                else
                  some ((0 : Int32), q84.2)
              else
                (d_Mo_isExpression w (0 : Int32) (pd_w v 198 6 ((v 198 6) + (1 : Int32)))).bind fun q86 =>
                bif decide (q86.1 = 0) then
                  d_Mo_isText_126 w q86.2
                else
                  bif decide (l1 = (4 : Int32)) then
                    d_Mo_isText_126 w q86.2
                  else
                    (d_Mo_takes (123 : Int32) q86.2).bind fun q89 =>
                    bif !(decide (q89.1 = 0)) then
                      bif !(decide (q51 = (63 : Int32))) then
                        bif pm_in l1 40 then
                        d_Mo_isText_7 w f (l1 + (1 : Int32)) (pd_w q89.2 212 l1.toNatClampNeg (2 : Int32))
                        else none
                      else
                        bif pm_in l1 40 then
                        d_Mo_isText_7 w f (l1 + (1 : Int32)) (pd_w q89.2 212 l1.toNatClampNeg (1 : Int32))
                        else none
                    else
                      d_Mo_isText_126 w q89.2
          else
            bif pm_in (l1 + (-1 : Int32)) 40 then
            bif !(decide ((v 212 ((l1 + (-1 : Int32)).toNatClampNeg)) = (1 : Int32))) then
              d_Mo_isText_7 w f (l1 + (-1 : Int32)) (pd_w v 198 6 ((v 198 6) + (1 : Int32)))
            else
              (d_Mo_takes (123 : Int32) (pd_w v 198 6 ((v 198 6) + (1 : Int32)))).bind fun q96 =>
              bif decide (q96.1 = 0) then
                d_Mo_isText_7 w f (l1 + (-1 : Int32)) q96.2
              else
                bif pm_in (l1 + (-1 : Int32)) 40 then
                d_Mo_isText_7 w f ((l1 + (-1 : Int32)) + (1 : Int32)) (pd_w q96.2 212 ((l1 + (-1 : Int32)).toNatClampNeg) (2 : Int32))
                else none
            else none
theorem s_Mo_isText_7 {w : Nat} : ∀ (f : Nat) (l1 : Int32) (v : pd_V) (y2 : Option Value) (q : (Int32 × pd_V)) , d_Mo_isText_7 w f l1 v = some q → pm_ev (pj_P xs L) (d + 5) 105 (7, [some (.ref 198), some (.int l1), y2], [], (223, kc, ks, pd_H g v)) (.inl (some (.int q.1)), (223, kc, ks, pd_H g q.2)) := by
  intro f
  induction f with
  | zero => intro l1 v y2 q h; exact nomatch (show (none : Option (Int32 × pd_V)) = some q from h)
  | succ f ih =>
    intro l1 v y2 q h
    rw [d_Mo_isText_7] at h
    refine ev_gos pp_Mo_isText 4 (S' := (15, [some (.ref 198), some (.int l1), y2], [.int (v 198 2), .int (v 198 6)], (223, kc, ks, pd_H g v))) rfl ?_
    refine ev_gos pp_Mo_isText 1 (S' := (bif decide ((v 198 6) < (v 198 2)) then 22 else 18, [some (.ref 198), some (.int l1), y2], [], (223, kc, ks, pd_H g v))) rfl ?_
    rcases pd_cases h with ⟨hb1, h⟩ | ⟨hb1, h⟩
    · rw [hb1]
      refine ev_gos pp_Mo_isText 1 (S' := (23, [some (.ref 198), some (.int l1), y2], [.ref 198], (223, kc, ks, pd_H g v))) rfl ?_
      obtain ⟨q2, hq2, h⟩ := pd_bind h
      refine ev_callv pp_Mo_isText rfl rfl rfl rfl (s_Mo_see hq2) ?_
      refine ev_gos pp_Mo_isText 2 (S' := (28, [some (.ref 198), some (.int l1), some (.int q2)], [.int l1], (223, kc, ks, pd_H g v))) rfl ?_
      refine ev_gos pp_Mo_isText 1 (S' := (bif decide (l1 ≤ 0) then 82 else 31, [some (.ref 198), some (.int l1), some (.int q2)], [], (223, kc, ks, pd_H g v))) rfl ?_
      rcases pd_cases h with ⟨hb3, h⟩ | ⟨hb3, h⟩
      · rw [hb3]
        refine ev_gos pp_Mo_isText 2 (S' := (85, [some (.ref 198), some (.int l1), some (.int q2)], [.int (63 : Int32), .int q2], (223, kc, ks, pd_H g v))) rfl ?_
        refine ev_gos pp_Mo_isText 1 (S' := (bif decide (q2 = (63 : Int32)) then 94 else 88, [some (.ref 198), some (.int l1), some (.int q2)], [], (223, kc, ks, pd_H g v))) rfl ?_
        rcases pd_cases h with ⟨hb4, h⟩ | ⟨hb4, h⟩
        · rw [hb4]
          refine ev_gos pp_Mo_isText 5 (S' := (101, [some (.ref 198), some (.int l1), some (.int q2)], [.int ((v 198 6) + (1 : Int32)), .ref 198], (223, kc, ks, pd_H g v))) rfl ?_
          refine ev_put pp_Mo_isText rfl (fun _ => rfl) rfl rfl rfl ?_
          refine ev_gos pp_Mo_isText 2 (S' := (106, [some (.ref 198), some (.int l1), some (.int q2)], [.int (0 : Int32), .ref 198], (223, kc, ks, pd_H g (pd_w v 198 6 ((v 198 6) + (1 : Int32)))))) rfl ?_
          obtain ⟨q5, hq5, h⟩ := pd_bind h
          refine ev_callv pp_Mo_isText rfl rfl rfl rfl (s_Mo_isExpression hq5) ?_
          refine ev_gos pp_Mo_isText 0 (S' := (109, [some (.ref 198), some (.int l1), some (.int q2)], [.int q5.1], (223, kc, ks, pd_H g q5.2))) rfl ?_
          refine ev_gos pp_Mo_isText 1 (S' := (bif decide (q5.1 = 0) then 126 else 112, [some (.ref 198), some (.int l1), some (.int q2)], [], (223, kc, ks, pd_H g q5.2))) rfl ?_
          rcases pd_cases h with ⟨hb6, h⟩ | ⟨hb6, h⟩
          · rw [hb6]
            refine ev_gos pp_Mo_isText 0 (S' := (126, [some (.ref 198), some (.int l1), some (.int q2)], [], (223, kc, ks, pd_H g q5.2))) rfl ?_
            exact s_Mo_isText_126 _ _ _ _  h
          · rw [hb6]
            refine ev_gos pp_Mo_isText 2 (S' := (114, [some (.ref 198), some (.int l1), some (.int q2)], [.int (4 : Int32), .int l1], (223, kc, ks, pd_H g q5.2))) rfl ?_
            refine ev_gos pp_Mo_isText 1 (S' := (bif decide (l1 = (4 : Int32)) then 126 else 117, [some (.ref 198), some (.int l1), some (.int q2)], [], (223, kc, ks, pd_H g q5.2))) rfl ?_
            rcases pd_cases h with ⟨hb7, h⟩ | ⟨hb7, h⟩
            · rw [hb7]
              refine ev_gos pp_Mo_isText 0 (S' := (126, [some (.ref 198), some (.int l1), some (.int q2)], [], (223, kc, ks, pd_H g q5.2))) rfl ?_
              exact s_Mo_isText_126 _ _ _ _  h
            · rw [hb7]
              refine ev_gos pp_Mo_isText 2 (S' := (120, [some (.ref 198), some (.int l1), some (.int q2)], [.int (123 : Int32), .ref 198], (223, kc, ks, pd_H g q5.2))) rfl ?_
              obtain ⟨q8, hq8, h⟩ := pd_bind h
              refine ev_callv pp_Mo_isText rfl rfl rfl rfl (s_Mo_takes hq8) ?_
              refine ev_gos pp_Mo_isText 0 (S' := (123, [some (.ref 198), some (.int l1), some (.int q2)], [.int q8.1], (223, kc, ks, pd_H g q8.2))) rfl ?_
              refine ev_gos pp_Mo_isText 1 (S' := (bif !(decide (q8.1 = 0)) then 128 else 126, [some (.ref 198), some (.int l1), some (.int q2)], [], (223, kc, ks, pd_H g q8.2))) rfl ?_
              rcases pd_cases h with ⟨hb9, h⟩ | ⟨hb9, h⟩
              · rw [hb9]
                refine ev_gos pp_Mo_isText 5 (S' := (136, [some (.ref 198), some (.int l1), some (.int q2)], [.int (63 : Int32), .int q2, .int l1, .ref 212], (223, kc, ks, pd_H g q8.2))) rfl ?_
                refine ev_gos pp_Mo_isText 1 (S' := (bif !(decide (q2 = (63 : Int32))) then 143 else 139, [some (.ref 198), some (.int l1), some (.int q2)], [.int l1, .ref 212], (223, kc, ks, pd_H g q8.2))) rfl ?_
                rcases pd_cases h with ⟨hb10, h⟩ | ⟨hb10, h⟩
                · rw [hb10]
                  refine ev_gos pp_Mo_isText 1 (S' := (144, [some (.ref 198), some (.int l1), some (.int q2)], [.int (2 : Int32), .int l1, .ref 212], (223, kc, ks, pd_H g q8.2))) rfl ?_
                  obtain ⟨hc11, h⟩ := pd_chk h
                  refine ev_iast pp_Mo_isText rfl (fun _ => rfl) hc11 ?_
                  refine ev_gos pp_Mo_isText 3 (S' := (7, [some (.ref 198), some (.int (l1 + (1 : Int32))), some (.int q2)], [], (223, kc, ks, pd_H g (pd_w q8.2 212 l1.toNatClampNeg (2 : Int32))))) rfl ?_
                  exact ih _ _ _ _  h
                · rw [hb10]
                  refine ev_gos pp_Mo_isText 2 (S' := (144, [some (.ref 198), some (.int l1), some (.int q2)], [.int (1 : Int32), .int l1, .ref 212], (223, kc, ks, pd_H g q8.2))) rfl ?_
                  obtain ⟨hc12, h⟩ := pd_chk h
                  refine ev_iast pp_Mo_isText rfl (fun _ => rfl) hc12 ?_
                  refine ev_gos pp_Mo_isText 3 (S' := (7, [some (.ref 198), some (.int (l1 + (1 : Int32))), some (.int q2)], [], (223, kc, ks, pd_H g (pd_w q8.2 212 l1.toNatClampNeg (1 : Int32))))) rfl ?_
                  exact ih _ _ _ _  h
              · rw [hb9]
                refine ev_gos pp_Mo_isText 0 (S' := (126, [some (.ref 198), some (.int l1), some (.int q2)], [], (223, kc, ks, pd_H g q8.2))) rfl ?_
                exact s_Mo_isText_126 _ _ _ _  h
        · rw [hb4]
          refine ev_gos pp_Mo_isText 2 (S' := (91, [some (.ref 198), some (.int l1), some (.int q2)], [.int (42 : Int32), .int q2], (223, kc, ks, pd_H g v))) rfl ?_
          refine ev_gos pp_Mo_isText 1 (S' := (bif !(decide (q2 = (42 : Int32))) then 151 else 94, [some (.ref 198), some (.int l1), some (.int q2)], [], (223, kc, ks, pd_H g v))) rfl ?_
          rcases pd_cases h with ⟨hb13, h⟩ | ⟨hb13, h⟩
          · rw [hb13]
            refine ev_gos pp_Mo_isText 1 (S' := (152, [some (.ref 198), some (.int l1), some (.int q2)], [.ref 198], (223, kc, ks, pd_H g v))) rfl ?_
            obtain ⟨q14, hq14, h⟩ := pd_bind h
            refine ev_callv pp_Mo_isText rfl rfl rfl rfl (s_Mo_isSimple hq14) ?_
            refine ev_gos pp_Mo_isText 0 (S' := (155, [some (.ref 198), some (.int l1), some (.int q2)], [.int q14.1], (223, kc, ks, pd_H g q14.2))) rfl ?_
            refine ev_gos pp_Mo_isText 1 (S' := (bif !(decide (q14.1 = 0)) then 160 else 158, [some (.ref 198), some (.int l1), some (.int q2)], [], (223, kc, ks, pd_H g q14.2))) rfl ?_
            rcases pd_cases h with ⟨hb15, h⟩ | ⟨hb15, h⟩
            · rw [hb15]
              refine ev_gos pp_Mo_isText 1 (S' := (7, [some (.ref 198), some (.int l1), some (.int q2)], [], (223, kc, ks, pd_H g q14.2))) rfl ?_
              exact ih _ _ _ _  h
            · rw [hb15]
              refine ev_gos pp_Mo_isText 1 (S' := (159, [some (.ref 198), some (.int l1), some (.int q2)], [.int (0 : Int32)], (223, kc, ks, pd_H g q14.2))) rfl ?_
              cases h
              exact ev_zret pp_Mo_isText rfl pd_b0
          · rw [hb13]
            refine ev_gos pp_Mo_isText 5 (S' := (101, [some (.ref 198), some (.int l1), some (.int q2)], [.int ((v 198 6) + (1 : Int32)), .ref 198], (223, kc, ks, pd_H g v))) rfl ?_
            refine ev_put pp_Mo_isText rfl (fun _ => rfl) rfl rfl rfl ?_
            refine ev_gos pp_Mo_isText 2 (S' := (106, [some (.ref 198), some (.int l1), some (.int q2)], [.int (0 : Int32), .ref 198], (223, kc, ks, pd_H g (pd_w v 198 6 ((v 198 6) + (1 : Int32)))))) rfl ?_
            obtain ⟨q16, hq16, h⟩ := pd_bind h
            refine ev_callv pp_Mo_isText rfl rfl rfl rfl (s_Mo_isExpression hq16) ?_
            refine ev_gos pp_Mo_isText 0 (S' := (109, [some (.ref 198), some (.int l1), some (.int q2)], [.int q16.1], (223, kc, ks, pd_H g q16.2))) rfl ?_
            refine ev_gos pp_Mo_isText 1 (S' := (bif decide (q16.1 = 0) then 126 else 112, [some (.ref 198), some (.int l1), some (.int q2)], [], (223, kc, ks, pd_H g q16.2))) rfl ?_
            rcases pd_cases h with ⟨hb17, h⟩ | ⟨hb17, h⟩
            · rw [hb17]
              refine ev_gos pp_Mo_isText 0 (S' := (126, [some (.ref 198), some (.int l1), some (.int q2)], [], (223, kc, ks, pd_H g q16.2))) rfl ?_
              exact s_Mo_isText_126 _ _ _ _  h
            · rw [hb17]
              refine ev_gos pp_Mo_isText 2 (S' := (114, [some (.ref 198), some (.int l1), some (.int q2)], [.int (4 : Int32), .int l1], (223, kc, ks, pd_H g q16.2))) rfl ?_
              refine ev_gos pp_Mo_isText 1 (S' := (bif decide (l1 = (4 : Int32)) then 126 else 117, [some (.ref 198), some (.int l1), some (.int q2)], [], (223, kc, ks, pd_H g q16.2))) rfl ?_
              rcases pd_cases h with ⟨hb18, h⟩ | ⟨hb18, h⟩
              · rw [hb18]
                refine ev_gos pp_Mo_isText 0 (S' := (126, [some (.ref 198), some (.int l1), some (.int q2)], [], (223, kc, ks, pd_H g q16.2))) rfl ?_
                exact s_Mo_isText_126 _ _ _ _  h
              · rw [hb18]
                refine ev_gos pp_Mo_isText 2 (S' := (120, [some (.ref 198), some (.int l1), some (.int q2)], [.int (123 : Int32), .ref 198], (223, kc, ks, pd_H g q16.2))) rfl ?_
                obtain ⟨q19, hq19, h⟩ := pd_bind h
                refine ev_callv pp_Mo_isText rfl rfl rfl rfl (s_Mo_takes hq19) ?_
                refine ev_gos pp_Mo_isText 0 (S' := (123, [some (.ref 198), some (.int l1), some (.int q2)], [.int q19.1], (223, kc, ks, pd_H g q19.2))) rfl ?_
                refine ev_gos pp_Mo_isText 1 (S' := (bif !(decide (q19.1 = 0)) then 128 else 126, [some (.ref 198), some (.int l1), some (.int q2)], [], (223, kc, ks, pd_H g q19.2))) rfl ?_
                rcases pd_cases h with ⟨hb20, h⟩ | ⟨hb20, h⟩
                · rw [hb20]
                  refine ev_gos pp_Mo_isText 5 (S' := (136, [some (.ref 198), some (.int l1), some (.int q2)], [.int (63 : Int32), .int q2, .int l1, .ref 212], (223, kc, ks, pd_H g q19.2))) rfl ?_
                  refine ev_gos pp_Mo_isText 1 (S' := (bif !(decide (q2 = (63 : Int32))) then 143 else 139, [some (.ref 198), some (.int l1), some (.int q2)], [.int l1, .ref 212], (223, kc, ks, pd_H g q19.2))) rfl ?_
                  rcases pd_cases h with ⟨hb21, h⟩ | ⟨hb21, h⟩
                  · rw [hb21]
                    refine ev_gos pp_Mo_isText 1 (S' := (144, [some (.ref 198), some (.int l1), some (.int q2)], [.int (2 : Int32), .int l1, .ref 212], (223, kc, ks, pd_H g q19.2))) rfl ?_
                    obtain ⟨hc22, h⟩ := pd_chk h
                    refine ev_iast pp_Mo_isText rfl (fun _ => rfl) hc22 ?_
                    refine ev_gos pp_Mo_isText 3 (S' := (7, [some (.ref 198), some (.int (l1 + (1 : Int32))), some (.int q2)], [], (223, kc, ks, pd_H g (pd_w q19.2 212 l1.toNatClampNeg (2 : Int32))))) rfl ?_
                    exact ih _ _ _ _  h
                  · rw [hb21]
                    refine ev_gos pp_Mo_isText 2 (S' := (144, [some (.ref 198), some (.int l1), some (.int q2)], [.int (1 : Int32), .int l1, .ref 212], (223, kc, ks, pd_H g q19.2))) rfl ?_
                    obtain ⟨hc23, h⟩ := pd_chk h
                    refine ev_iast pp_Mo_isText rfl (fun _ => rfl) hc23 ?_
                    refine ev_gos pp_Mo_isText 3 (S' := (7, [some (.ref 198), some (.int (l1 + (1 : Int32))), some (.int q2)], [], (223, kc, ks, pd_H g (pd_w q19.2 212 l1.toNatClampNeg (1 : Int32))))) rfl ?_
                    exact ih _ _ _ _  h
                · rw [hb20]
                  refine ev_gos pp_Mo_isText 0 (S' := (126, [some (.ref 198), some (.int l1), some (.int q2)], [], (223, kc, ks, pd_H g q19.2))) rfl ?_
                  exact s_Mo_isText_126 _ _ _ _  h
      · rw [hb3]
        refine ev_gos pp_Mo_isText 2 (S' := (34, [some (.ref 198), some (.int l1), some (.int q2)], [.int (125 : Int32), .int q2], (223, kc, ks, pd_H g v))) rfl ?_
        refine ev_gos pp_Mo_isText 1 (S' := (bif !(decide (q2 = (125 : Int32))) then 82 else 37, [some (.ref 198), some (.int l1), some (.int q2)], [], (223, kc, ks, pd_H g v))) rfl ?_
        rcases pd_cases h with ⟨hb24, h⟩ | ⟨hb24, h⟩
        · rw [hb24]
          refine ev_gos pp_Mo_isText 2 (S' := (85, [some (.ref 198), some (.int l1), some (.int q2)], [.int (63 : Int32), .int q2], (223, kc, ks, pd_H g v))) rfl ?_
          refine ev_gos pp_Mo_isText 1 (S' := (bif decide (q2 = (63 : Int32)) then 94 else 88, [some (.ref 198), some (.int l1), some (.int q2)], [], (223, kc, ks, pd_H g v))) rfl ?_
          rcases pd_cases h with ⟨hb25, h⟩ | ⟨hb25, h⟩
          · rw [hb25]
            refine ev_gos pp_Mo_isText 5 (S' := (101, [some (.ref 198), some (.int l1), some (.int q2)], [.int ((v 198 6) + (1 : Int32)), .ref 198], (223, kc, ks, pd_H g v))) rfl ?_
            refine ev_put pp_Mo_isText rfl (fun _ => rfl) rfl rfl rfl ?_
            refine ev_gos pp_Mo_isText 2 (S' := (106, [some (.ref 198), some (.int l1), some (.int q2)], [.int (0 : Int32), .ref 198], (223, kc, ks, pd_H g (pd_w v 198 6 ((v 198 6) + (1 : Int32)))))) rfl ?_
            obtain ⟨q26, hq26, h⟩ := pd_bind h
            refine ev_callv pp_Mo_isText rfl rfl rfl rfl (s_Mo_isExpression hq26) ?_
            refine ev_gos pp_Mo_isText 0 (S' := (109, [some (.ref 198), some (.int l1), some (.int q2)], [.int q26.1], (223, kc, ks, pd_H g q26.2))) rfl ?_
            refine ev_gos pp_Mo_isText 1 (S' := (bif decide (q26.1 = 0) then 126 else 112, [some (.ref 198), some (.int l1), some (.int q2)], [], (223, kc, ks, pd_H g q26.2))) rfl ?_
            rcases pd_cases h with ⟨hb27, h⟩ | ⟨hb27, h⟩
            · rw [hb27]
              refine ev_gos pp_Mo_isText 0 (S' := (126, [some (.ref 198), some (.int l1), some (.int q2)], [], (223, kc, ks, pd_H g q26.2))) rfl ?_
              exact s_Mo_isText_126 _ _ _ _  h
            · rw [hb27]
              refine ev_gos pp_Mo_isText 2 (S' := (114, [some (.ref 198), some (.int l1), some (.int q2)], [.int (4 : Int32), .int l1], (223, kc, ks, pd_H g q26.2))) rfl ?_
              refine ev_gos pp_Mo_isText 1 (S' := (bif decide (l1 = (4 : Int32)) then 126 else 117, [some (.ref 198), some (.int l1), some (.int q2)], [], (223, kc, ks, pd_H g q26.2))) rfl ?_
              rcases pd_cases h with ⟨hb28, h⟩ | ⟨hb28, h⟩
              · rw [hb28]
                refine ev_gos pp_Mo_isText 0 (S' := (126, [some (.ref 198), some (.int l1), some (.int q2)], [], (223, kc, ks, pd_H g q26.2))) rfl ?_
                exact s_Mo_isText_126 _ _ _ _  h
              · rw [hb28]
                refine ev_gos pp_Mo_isText 2 (S' := (120, [some (.ref 198), some (.int l1), some (.int q2)], [.int (123 : Int32), .ref 198], (223, kc, ks, pd_H g q26.2))) rfl ?_
                obtain ⟨q29, hq29, h⟩ := pd_bind h
                refine ev_callv pp_Mo_isText rfl rfl rfl rfl (s_Mo_takes hq29) ?_
                refine ev_gos pp_Mo_isText 0 (S' := (123, [some (.ref 198), some (.int l1), some (.int q2)], [.int q29.1], (223, kc, ks, pd_H g q29.2))) rfl ?_
                refine ev_gos pp_Mo_isText 1 (S' := (bif !(decide (q29.1 = 0)) then 128 else 126, [some (.ref 198), some (.int l1), some (.int q2)], [], (223, kc, ks, pd_H g q29.2))) rfl ?_
                rcases pd_cases h with ⟨hb30, h⟩ | ⟨hb30, h⟩
                · rw [hb30]
                  refine ev_gos pp_Mo_isText 5 (S' := (136, [some (.ref 198), some (.int l1), some (.int q2)], [.int (63 : Int32), .int q2, .int l1, .ref 212], (223, kc, ks, pd_H g q29.2))) rfl ?_
                  refine ev_gos pp_Mo_isText 1 (S' := (bif !(decide (q2 = (63 : Int32))) then 143 else 139, [some (.ref 198), some (.int l1), some (.int q2)], [.int l1, .ref 212], (223, kc, ks, pd_H g q29.2))) rfl ?_
                  rcases pd_cases h with ⟨hb31, h⟩ | ⟨hb31, h⟩
                  · rw [hb31]
                    refine ev_gos pp_Mo_isText 1 (S' := (144, [some (.ref 198), some (.int l1), some (.int q2)], [.int (2 : Int32), .int l1, .ref 212], (223, kc, ks, pd_H g q29.2))) rfl ?_
                    obtain ⟨hc32, h⟩ := pd_chk h
                    refine ev_iast pp_Mo_isText rfl (fun _ => rfl) hc32 ?_
                    refine ev_gos pp_Mo_isText 3 (S' := (7, [some (.ref 198), some (.int (l1 + (1 : Int32))), some (.int q2)], [], (223, kc, ks, pd_H g (pd_w q29.2 212 l1.toNatClampNeg (2 : Int32))))) rfl ?_
                    exact ih _ _ _ _  h
                  · rw [hb31]
                    refine ev_gos pp_Mo_isText 2 (S' := (144, [some (.ref 198), some (.int l1), some (.int q2)], [.int (1 : Int32), .int l1, .ref 212], (223, kc, ks, pd_H g q29.2))) rfl ?_
                    obtain ⟨hc33, h⟩ := pd_chk h
                    refine ev_iast pp_Mo_isText rfl (fun _ => rfl) hc33 ?_
                    refine ev_gos pp_Mo_isText 3 (S' := (7, [some (.ref 198), some (.int (l1 + (1 : Int32))), some (.int q2)], [], (223, kc, ks, pd_H g (pd_w q29.2 212 l1.toNatClampNeg (1 : Int32))))) rfl ?_
                    exact ih _ _ _ _  h
                · rw [hb30]
                  refine ev_gos pp_Mo_isText 0 (S' := (126, [some (.ref 198), some (.int l1), some (.int q2)], [], (223, kc, ks, pd_H g q29.2))) rfl ?_
                  exact s_Mo_isText_126 _ _ _ _  h
          · rw [hb25]
            refine ev_gos pp_Mo_isText 2 (S' := (91, [some (.ref 198), some (.int l1), some (.int q2)], [.int (42 : Int32), .int q2], (223, kc, ks, pd_H g v))) rfl ?_
            refine ev_gos pp_Mo_isText 1 (S' := (bif !(decide (q2 = (42 : Int32))) then 151 else 94, [some (.ref 198), some (.int l1), some (.int q2)], [], (223, kc, ks, pd_H g v))) rfl ?_
            rcases pd_cases h with ⟨hb34, h⟩ | ⟨hb34, h⟩
            · rw [hb34]
              refine ev_gos pp_Mo_isText 1 (S' := (152, [some (.ref 198), some (.int l1), some (.int q2)], [.ref 198], (223, kc, ks, pd_H g v))) rfl ?_
              obtain ⟨q35, hq35, h⟩ := pd_bind h
              refine ev_callv pp_Mo_isText rfl rfl rfl rfl (s_Mo_isSimple hq35) ?_
              refine ev_gos pp_Mo_isText 0 (S' := (155, [some (.ref 198), some (.int l1), some (.int q2)], [.int q35.1], (223, kc, ks, pd_H g q35.2))) rfl ?_
              refine ev_gos pp_Mo_isText 1 (S' := (bif !(decide (q35.1 = 0)) then 160 else 158, [some (.ref 198), some (.int l1), some (.int q2)], [], (223, kc, ks, pd_H g q35.2))) rfl ?_
              rcases pd_cases h with ⟨hb36, h⟩ | ⟨hb36, h⟩
              · rw [hb36]
                refine ev_gos pp_Mo_isText 1 (S' := (7, [some (.ref 198), some (.int l1), some (.int q2)], [], (223, kc, ks, pd_H g q35.2))) rfl ?_
                exact ih _ _ _ _  h
              · rw [hb36]
                refine ev_gos pp_Mo_isText 1 (S' := (159, [some (.ref 198), some (.int l1), some (.int q2)], [.int (0 : Int32)], (223, kc, ks, pd_H g q35.2))) rfl ?_
                cases h
                exact ev_zret pp_Mo_isText rfl pd_b0
            · rw [hb34]
              refine ev_gos pp_Mo_isText 5 (S' := (101, [some (.ref 198), some (.int l1), some (.int q2)], [.int ((v 198 6) + (1 : Int32)), .ref 198], (223, kc, ks, pd_H g v))) rfl ?_
              refine ev_put pp_Mo_isText rfl (fun _ => rfl) rfl rfl rfl ?_
              refine ev_gos pp_Mo_isText 2 (S' := (106, [some (.ref 198), some (.int l1), some (.int q2)], [.int (0 : Int32), .ref 198], (223, kc, ks, pd_H g (pd_w v 198 6 ((v 198 6) + (1 : Int32)))))) rfl ?_
              obtain ⟨q37, hq37, h⟩ := pd_bind h
              refine ev_callv pp_Mo_isText rfl rfl rfl rfl (s_Mo_isExpression hq37) ?_
              refine ev_gos pp_Mo_isText 0 (S' := (109, [some (.ref 198), some (.int l1), some (.int q2)], [.int q37.1], (223, kc, ks, pd_H g q37.2))) rfl ?_
              refine ev_gos pp_Mo_isText 1 (S' := (bif decide (q37.1 = 0) then 126 else 112, [some (.ref 198), some (.int l1), some (.int q2)], [], (223, kc, ks, pd_H g q37.2))) rfl ?_
              rcases pd_cases h with ⟨hb38, h⟩ | ⟨hb38, h⟩
              · rw [hb38]
                refine ev_gos pp_Mo_isText 0 (S' := (126, [some (.ref 198), some (.int l1), some (.int q2)], [], (223, kc, ks, pd_H g q37.2))) rfl ?_
                exact s_Mo_isText_126 _ _ _ _  h
              · rw [hb38]
                refine ev_gos pp_Mo_isText 2 (S' := (114, [some (.ref 198), some (.int l1), some (.int q2)], [.int (4 : Int32), .int l1], (223, kc, ks, pd_H g q37.2))) rfl ?_
                refine ev_gos pp_Mo_isText 1 (S' := (bif decide (l1 = (4 : Int32)) then 126 else 117, [some (.ref 198), some (.int l1), some (.int q2)], [], (223, kc, ks, pd_H g q37.2))) rfl ?_
                rcases pd_cases h with ⟨hb39, h⟩ | ⟨hb39, h⟩
                · rw [hb39]
                  refine ev_gos pp_Mo_isText 0 (S' := (126, [some (.ref 198), some (.int l1), some (.int q2)], [], (223, kc, ks, pd_H g q37.2))) rfl ?_
                  exact s_Mo_isText_126 _ _ _ _  h
                · rw [hb39]
                  refine ev_gos pp_Mo_isText 2 (S' := (120, [some (.ref 198), some (.int l1), some (.int q2)], [.int (123 : Int32), .ref 198], (223, kc, ks, pd_H g q37.2))) rfl ?_
                  obtain ⟨q40, hq40, h⟩ := pd_bind h
                  refine ev_callv pp_Mo_isText rfl rfl rfl rfl (s_Mo_takes hq40) ?_
                  refine ev_gos pp_Mo_isText 0 (S' := (123, [some (.ref 198), some (.int l1), some (.int q2)], [.int q40.1], (223, kc, ks, pd_H g q40.2))) rfl ?_
                  refine ev_gos pp_Mo_isText 1 (S' := (bif !(decide (q40.1 = 0)) then 128 else 126, [some (.ref 198), some (.int l1), some (.int q2)], [], (223, kc, ks, pd_H g q40.2))) rfl ?_
                  rcases pd_cases h with ⟨hb41, h⟩ | ⟨hb41, h⟩
                  · rw [hb41]
                    refine ev_gos pp_Mo_isText 5 (S' := (136, [some (.ref 198), some (.int l1), some (.int q2)], [.int (63 : Int32), .int q2, .int l1, .ref 212], (223, kc, ks, pd_H g q40.2))) rfl ?_
                    refine ev_gos pp_Mo_isText 1 (S' := (bif !(decide (q2 = (63 : Int32))) then 143 else 139, [some (.ref 198), some (.int l1), some (.int q2)], [.int l1, .ref 212], (223, kc, ks, pd_H g q40.2))) rfl ?_
                    rcases pd_cases h with ⟨hb42, h⟩ | ⟨hb42, h⟩
                    · rw [hb42]
                      refine ev_gos pp_Mo_isText 1 (S' := (144, [some (.ref 198), some (.int l1), some (.int q2)], [.int (2 : Int32), .int l1, .ref 212], (223, kc, ks, pd_H g q40.2))) rfl ?_
                      obtain ⟨hc43, h⟩ := pd_chk h
                      refine ev_iast pp_Mo_isText rfl (fun _ => rfl) hc43 ?_
                      refine ev_gos pp_Mo_isText 3 (S' := (7, [some (.ref 198), some (.int (l1 + (1 : Int32))), some (.int q2)], [], (223, kc, ks, pd_H g (pd_w q40.2 212 l1.toNatClampNeg (2 : Int32))))) rfl ?_
                      exact ih _ _ _ _  h
                    · rw [hb42]
                      refine ev_gos pp_Mo_isText 2 (S' := (144, [some (.ref 198), some (.int l1), some (.int q2)], [.int (1 : Int32), .int l1, .ref 212], (223, kc, ks, pd_H g q40.2))) rfl ?_
                      obtain ⟨hc44, h⟩ := pd_chk h
                      refine ev_iast pp_Mo_isText rfl (fun _ => rfl) hc44 ?_
                      refine ev_gos pp_Mo_isText 3 (S' := (7, [some (.ref 198), some (.int (l1 + (1 : Int32))), some (.int q2)], [], (223, kc, ks, pd_H g (pd_w q40.2 212 l1.toNatClampNeg (1 : Int32))))) rfl ?_
                      exact ih _ _ _ _  h
                  · rw [hb41]
                    refine ev_gos pp_Mo_isText 0 (S' := (126, [some (.ref 198), some (.int l1), some (.int q2)], [], (223, kc, ks, pd_H g q40.2))) rfl ?_
                    exact s_Mo_isText_126 _ _ _ _  h
        · rw [hb24]
          refine ev_gos pp_Mo_isText 5 (S' := (44, [some (.ref 198), some (.int l1), some (.int q2)], [.int ((v 198 6) + (1 : Int32)), .ref 198], (223, kc, ks, pd_H g v))) rfl ?_
          refine ev_put pp_Mo_isText rfl (fun _ => rfl) rfl rfl rfl ?_
          refine ev_gos pp_Mo_isText 4 (S' := (55, [some (.ref 198), some (.int (l1 + (-1 : Int32))), some (.int q2)], [.int (l1 + (-1 : Int32)), .ref 212], (223, kc, ks, pd_H g (pd_w v 198 6 ((v 198 6) + (1 : Int32)))))) rfl ?_
          obtain ⟨hc45, h⟩ := pd_chk h
          refine ev_iald pp_Mo_isText rfl (fun _ => rfl) hc45 ?_
          refine ev_gos pp_Mo_isText 1 (S' := (57, [some (.ref 198), some (.int (l1 + (-1 : Int32))), some (.int q2)], [.int (1 : Int32), .int (v 212 ((l1 + (-1 : Int32)).toNatClampNeg))], (223, kc, ks, pd_H g (pd_w v 198 6 ((v 198 6) + (1 : Int32)))))) rfl ?_
          refine ev_gos pp_Mo_isText 1 (S' := (bif !(decide ((v 212 ((l1 + (-1 : Int32)).toNatClampNeg)) = (1 : Int32))) then 160 else 60, [some (.ref 198), some (.int (l1 + (-1 : Int32))), some (.int q2)], [], (223, kc, ks, pd_H g (pd_w v 198 6 ((v 198 6) + (1 : Int32)))))) rfl ?_
          rcases pd_cases h with ⟨hb46, h⟩ | ⟨hb46, h⟩
          · rw [hb46]
            refine ev_gos pp_Mo_isText 1 (S' := (7, [some (.ref 198), some (.int (l1 + (-1 : Int32))), some (.int q2)], [], (223, kc, ks, pd_H g (pd_w v 198 6 ((v 198 6) + (1 : Int32)))))) rfl ?_
            exact ih _ _ _ _  h
          · rw [hb46]
            refine ev_gos pp_Mo_isText 2 (S' := (63, [some (.ref 198), some (.int (l1 + (-1 : Int32))), some (.int q2)], [.int (123 : Int32), .ref 198], (223, kc, ks, pd_H g (pd_w v 198 6 ((v 198 6) + (1 : Int32)))))) rfl ?_
            obtain ⟨q47, hq47, h⟩ := pd_bind h
            refine ev_callv pp_Mo_isText rfl rfl rfl rfl (s_Mo_takes hq47) ?_
            refine ev_gos pp_Mo_isText 0 (S' := (66, [some (.ref 198), some (.int (l1 + (-1 : Int32))), some (.int q2)], [.int q47.1], (223, kc, ks, pd_H g q47.2))) rfl ?_
            refine ev_gos pp_Mo_isText 1 (S' := (bif decide (q47.1 = 0) then 160 else 69, [some (.ref 198), some (.int (l1 + (-1 : Int32))), some (.int q2)], [], (223, kc, ks, pd_H g q47.2))) rfl ?_
            rcases pd_cases h with ⟨hb48, h⟩ | ⟨hb48, h⟩
            · rw [hb48]
              refine ev_gos pp_Mo_isText 1 (S' := (7, [some (.ref 198), some (.int (l1 + (-1 : Int32))), some (.int q2)], [], (223, kc, ks, pd_H g q47.2))) rfl ?_
              exact ih _ _ _ _  h
            · rw [hb48]
              refine ev_gos pp_Mo_isText 4 (S' := (75, [some (.ref 198), some (.int (l1 + (-1 : Int32))), some (.int q2)], [.int (2 : Int32), .int (l1 + (-1 : Int32)), .ref 212], (223, kc, ks, pd_H g q47.2))) rfl ?_
              obtain ⟨hc49, h⟩ := pd_chk h
              refine ev_iast pp_Mo_isText rfl (fun _ => rfl) hc49 ?_
              refine ev_gos pp_Mo_isText 3 (S' := (7, [some (.ref 198), some (.int ((l1 + (-1 : Int32)) + (1 : Int32))), some (.int q2)], [], (223, kc, ks, pd_H g (pd_w q47.2 212 ((l1 + (-1 : Int32)).toNatClampNeg) (2 : Int32))))) rfl ?_
              exact ih _ _ _ _  h
    · rw [hb1]
      refine ev_gos pp_Mo_isText 1 (S' := (19, [some (.ref 198), some (.int l1), y2], [.int l1], (223, kc, ks, pd_H g v))) rfl ?_
      refine ev_gos pp_Mo_isText 1 (S' := (bif decide (l1 ≤ 0) then 163 else 22, [some (.ref 198), some (.int l1), y2], [], (223, kc, ks, pd_H g v))) rfl ?_
      rcases pd_cases h with ⟨hb50, h⟩ | ⟨hb50, h⟩
      · rw [hb50]
        refine ev_gos pp_Mo_isText 1 (S' := (164, [some (.ref 198), some (.int l1), y2], [.int (1 : Int32)], (223, kc, ks, pd_H g v))) rfl ?_
        cases h
        exact ev_zret pp_Mo_isText rfl pd_b1
      · rw [hb50]
        refine ev_gos pp_Mo_isText 1 (S' := (23, [some (.ref 198), some (.int l1), y2], [.ref 198], (223, kc, ks, pd_H g v))) rfl ?_
        obtain ⟨q51, hq51, h⟩ := pd_bind h
        refine ev_callv pp_Mo_isText rfl rfl rfl rfl (s_Mo_see hq51) ?_
        refine ev_gos pp_Mo_isText 2 (S' := (28, [some (.ref 198), some (.int l1), some (.int q51)], [.int l1], (223, kc, ks, pd_H g v))) rfl ?_
        refine ev_gos pp_Mo_isText 1 (S' := (bif decide (l1 ≤ 0) then 82 else 31, [some (.ref 198), some (.int l1), some (.int q51)], [], (223, kc, ks, pd_H g v))) rfl ?_
        rcases pd_cases h with ⟨hb52, h⟩ | ⟨hb52, h⟩
        · rw [hb52]
          refine ev_gos pp_Mo_isText 2 (S' := (85, [some (.ref 198), some (.int l1), some (.int q51)], [.int (63 : Int32), .int q51], (223, kc, ks, pd_H g v))) rfl ?_
          refine ev_gos pp_Mo_isText 1 (S' := (bif decide (q51 = (63 : Int32)) then 94 else 88, [some (.ref 198), some (.int l1), some (.int q51)], [], (223, kc, ks, pd_H g v))) rfl ?_
          rcases pd_cases h with ⟨hb53, h⟩ | ⟨hb53, h⟩
          · rw [hb53]
            refine ev_gos pp_Mo_isText 5 (S' := (101, [some (.ref 198), some (.int l1), some (.int q51)], [.int ((v 198 6) + (1 : Int32)), .ref 198], (223, kc, ks, pd_H g v))) rfl ?_
            refine ev_put pp_Mo_isText rfl (fun _ => rfl) rfl rfl rfl ?_
            refine ev_gos pp_Mo_isText 2 (S' := (106, [some (.ref 198), some (.int l1), some (.int q51)], [.int (0 : Int32), .ref 198], (223, kc, ks, pd_H g (pd_w v 198 6 ((v 198 6) + (1 : Int32)))))) rfl ?_
            obtain ⟨q54, hq54, h⟩ := pd_bind h
            refine ev_callv pp_Mo_isText rfl rfl rfl rfl (s_Mo_isExpression hq54) ?_
            refine ev_gos pp_Mo_isText 0 (S' := (109, [some (.ref 198), some (.int l1), some (.int q51)], [.int q54.1], (223, kc, ks, pd_H g q54.2))) rfl ?_
            refine ev_gos pp_Mo_isText 1 (S' := (bif decide (q54.1 = 0) then 126 else 112, [some (.ref 198), some (.int l1), some (.int q51)], [], (223, kc, ks, pd_H g q54.2))) rfl ?_
            rcases pd_cases h with ⟨hb55, h⟩ | ⟨hb55, h⟩
            · rw [hb55]
              refine ev_gos pp_Mo_isText 0 (S' := (126, [some (.ref 198), some (.int l1), some (.int q51)], [], (223, kc, ks, pd_H g q54.2))) rfl ?_
              exact s_Mo_isText_126 _ _ _ _  h
            · rw [hb55]
              refine ev_gos pp_Mo_isText 2 (S' := (114, [some (.ref 198), some (.int l1), some (.int q51)], [.int (4 : Int32), .int l1], (223, kc, ks, pd_H g q54.2))) rfl ?_
              refine ev_gos pp_Mo_isText 1 (S' := (bif decide (l1 = (4 : Int32)) then 126 else 117, [some (.ref 198), some (.int l1), some (.int q51)], [], (223, kc, ks, pd_H g q54.2))) rfl ?_
              rcases pd_cases h with ⟨hb56, h⟩ | ⟨hb56, h⟩
              · rw [hb56]
                refine ev_gos pp_Mo_isText 0 (S' := (126, [some (.ref 198), some (.int l1), some (.int q51)], [], (223, kc, ks, pd_H g q54.2))) rfl ?_
                exact s_Mo_isText_126 _ _ _ _  h
              · rw [hb56]
                refine ev_gos pp_Mo_isText 2 (S' := (120, [some (.ref 198), some (.int l1), some (.int q51)], [.int (123 : Int32), .ref 198], (223, kc, ks, pd_H g q54.2))) rfl ?_
                obtain ⟨q57, hq57, h⟩ := pd_bind h
                refine ev_callv pp_Mo_isText rfl rfl rfl rfl (s_Mo_takes hq57) ?_
                refine ev_gos pp_Mo_isText 0 (S' := (123, [some (.ref 198), some (.int l1), some (.int q51)], [.int q57.1], (223, kc, ks, pd_H g q57.2))) rfl ?_
                refine ev_gos pp_Mo_isText 1 (S' := (bif !(decide (q57.1 = 0)) then 128 else 126, [some (.ref 198), some (.int l1), some (.int q51)], [], (223, kc, ks, pd_H g q57.2))) rfl ?_
                rcases pd_cases h with ⟨hb58, h⟩ | ⟨hb58, h⟩
                · rw [hb58]
                  refine ev_gos pp_Mo_isText 5 (S' := (136, [some (.ref 198), some (.int l1), some (.int q51)], [.int (63 : Int32), .int q51, .int l1, .ref 212], (223, kc, ks, pd_H g q57.2))) rfl ?_
                  refine ev_gos pp_Mo_isText 1 (S' := (bif !(decide (q51 = (63 : Int32))) then 143 else 139, [some (.ref 198), some (.int l1), some (.int q51)], [.int l1, .ref 212], (223, kc, ks, pd_H g q57.2))) rfl ?_
                  rcases pd_cases h with ⟨hb59, h⟩ | ⟨hb59, h⟩
                  · rw [hb59]
                    refine ev_gos pp_Mo_isText 1 (S' := (144, [some (.ref 198), some (.int l1), some (.int q51)], [.int (2 : Int32), .int l1, .ref 212], (223, kc, ks, pd_H g q57.2))) rfl ?_
                    obtain ⟨hc60, h⟩ := pd_chk h
                    refine ev_iast pp_Mo_isText rfl (fun _ => rfl) hc60 ?_
                    refine ev_gos pp_Mo_isText 3 (S' := (7, [some (.ref 198), some (.int (l1 + (1 : Int32))), some (.int q51)], [], (223, kc, ks, pd_H g (pd_w q57.2 212 l1.toNatClampNeg (2 : Int32))))) rfl ?_
                    exact ih _ _ _ _  h
                  · rw [hb59]
                    refine ev_gos pp_Mo_isText 2 (S' := (144, [some (.ref 198), some (.int l1), some (.int q51)], [.int (1 : Int32), .int l1, .ref 212], (223, kc, ks, pd_H g q57.2))) rfl ?_
                    obtain ⟨hc61, h⟩ := pd_chk h
                    refine ev_iast pp_Mo_isText rfl (fun _ => rfl) hc61 ?_
                    refine ev_gos pp_Mo_isText 3 (S' := (7, [some (.ref 198), some (.int (l1 + (1 : Int32))), some (.int q51)], [], (223, kc, ks, pd_H g (pd_w q57.2 212 l1.toNatClampNeg (1 : Int32))))) rfl ?_
                    exact ih _ _ _ _  h
                · rw [hb58]
                  refine ev_gos pp_Mo_isText 0 (S' := (126, [some (.ref 198), some (.int l1), some (.int q51)], [], (223, kc, ks, pd_H g q57.2))) rfl ?_
                  exact s_Mo_isText_126 _ _ _ _  h
          · rw [hb53]
            refine ev_gos pp_Mo_isText 2 (S' := (91, [some (.ref 198), some (.int l1), some (.int q51)], [.int (42 : Int32), .int q51], (223, kc, ks, pd_H g v))) rfl ?_
            refine ev_gos pp_Mo_isText 1 (S' := (bif !(decide (q51 = (42 : Int32))) then 151 else 94, [some (.ref 198), some (.int l1), some (.int q51)], [], (223, kc, ks, pd_H g v))) rfl ?_
            rcases pd_cases h with ⟨hb62, h⟩ | ⟨hb62, h⟩
            · rw [hb62]
              refine ev_gos pp_Mo_isText 1 (S' := (152, [some (.ref 198), some (.int l1), some (.int q51)], [.ref 198], (223, kc, ks, pd_H g v))) rfl ?_
              obtain ⟨q63, hq63, h⟩ := pd_bind h
              refine ev_callv pp_Mo_isText rfl rfl rfl rfl (s_Mo_isSimple hq63) ?_
              refine ev_gos pp_Mo_isText 0 (S' := (155, [some (.ref 198), some (.int l1), some (.int q51)], [.int q63.1], (223, kc, ks, pd_H g q63.2))) rfl ?_
              refine ev_gos pp_Mo_isText 1 (S' := (bif !(decide (q63.1 = 0)) then 160 else 158, [some (.ref 198), some (.int l1), some (.int q51)], [], (223, kc, ks, pd_H g q63.2))) rfl ?_
              rcases pd_cases h with ⟨hb64, h⟩ | ⟨hb64, h⟩
              · rw [hb64]
                refine ev_gos pp_Mo_isText 1 (S' := (7, [some (.ref 198), some (.int l1), some (.int q51)], [], (223, kc, ks, pd_H g q63.2))) rfl ?_
                exact ih _ _ _ _  h
              · rw [hb64]
                refine ev_gos pp_Mo_isText 1 (S' := (159, [some (.ref 198), some (.int l1), some (.int q51)], [.int (0 : Int32)], (223, kc, ks, pd_H g q63.2))) rfl ?_
                cases h
                exact ev_zret pp_Mo_isText rfl pd_b0
            · rw [hb62]
              refine ev_gos pp_Mo_isText 5 (S' := (101, [some (.ref 198), some (.int l1), some (.int q51)], [.int ((v 198 6) + (1 : Int32)), .ref 198], (223, kc, ks, pd_H g v))) rfl ?_
              refine ev_put pp_Mo_isText rfl (fun _ => rfl) rfl rfl rfl ?_
              refine ev_gos pp_Mo_isText 2 (S' := (106, [some (.ref 198), some (.int l1), some (.int q51)], [.int (0 : Int32), .ref 198], (223, kc, ks, pd_H g (pd_w v 198 6 ((v 198 6) + (1 : Int32)))))) rfl ?_
              obtain ⟨q65, hq65, h⟩ := pd_bind h
              refine ev_callv pp_Mo_isText rfl rfl rfl rfl (s_Mo_isExpression hq65) ?_
              refine ev_gos pp_Mo_isText 0 (S' := (109, [some (.ref 198), some (.int l1), some (.int q51)], [.int q65.1], (223, kc, ks, pd_H g q65.2))) rfl ?_
              refine ev_gos pp_Mo_isText 1 (S' := (bif decide (q65.1 = 0) then 126 else 112, [some (.ref 198), some (.int l1), some (.int q51)], [], (223, kc, ks, pd_H g q65.2))) rfl ?_
              rcases pd_cases h with ⟨hb66, h⟩ | ⟨hb66, h⟩
              · rw [hb66]
                refine ev_gos pp_Mo_isText 0 (S' := (126, [some (.ref 198), some (.int l1), some (.int q51)], [], (223, kc, ks, pd_H g q65.2))) rfl ?_
                exact s_Mo_isText_126 _ _ _ _  h
              · rw [hb66]
                refine ev_gos pp_Mo_isText 2 (S' := (114, [some (.ref 198), some (.int l1), some (.int q51)], [.int (4 : Int32), .int l1], (223, kc, ks, pd_H g q65.2))) rfl ?_
                refine ev_gos pp_Mo_isText 1 (S' := (bif decide (l1 = (4 : Int32)) then 126 else 117, [some (.ref 198), some (.int l1), some (.int q51)], [], (223, kc, ks, pd_H g q65.2))) rfl ?_
                rcases pd_cases h with ⟨hb67, h⟩ | ⟨hb67, h⟩
                · rw [hb67]
                  refine ev_gos pp_Mo_isText 0 (S' := (126, [some (.ref 198), some (.int l1), some (.int q51)], [], (223, kc, ks, pd_H g q65.2))) rfl ?_
                  exact s_Mo_isText_126 _ _ _ _  h
                · rw [hb67]
                  refine ev_gos pp_Mo_isText 2 (S' := (120, [some (.ref 198), some (.int l1), some (.int q51)], [.int (123 : Int32), .ref 198], (223, kc, ks, pd_H g q65.2))) rfl ?_
                  obtain ⟨q68, hq68, h⟩ := pd_bind h
                  refine ev_callv pp_Mo_isText rfl rfl rfl rfl (s_Mo_takes hq68) ?_
                  refine ev_gos pp_Mo_isText 0 (S' := (123, [some (.ref 198), some (.int l1), some (.int q51)], [.int q68.1], (223, kc, ks, pd_H g q68.2))) rfl ?_
                  refine ev_gos pp_Mo_isText 1 (S' := (bif !(decide (q68.1 = 0)) then 128 else 126, [some (.ref 198), some (.int l1), some (.int q51)], [], (223, kc, ks, pd_H g q68.2))) rfl ?_
                  rcases pd_cases h with ⟨hb69, h⟩ | ⟨hb69, h⟩
                  · rw [hb69]
                    refine ev_gos pp_Mo_isText 5 (S' := (136, [some (.ref 198), some (.int l1), some (.int q51)], [.int (63 : Int32), .int q51, .int l1, .ref 212], (223, kc, ks, pd_H g q68.2))) rfl ?_
                    refine ev_gos pp_Mo_isText 1 (S' := (bif !(decide (q51 = (63 : Int32))) then 143 else 139, [some (.ref 198), some (.int l1), some (.int q51)], [.int l1, .ref 212], (223, kc, ks, pd_H g q68.2))) rfl ?_
                    rcases pd_cases h with ⟨hb70, h⟩ | ⟨hb70, h⟩
                    · rw [hb70]
                      refine ev_gos pp_Mo_isText 1 (S' := (144, [some (.ref 198), some (.int l1), some (.int q51)], [.int (2 : Int32), .int l1, .ref 212], (223, kc, ks, pd_H g q68.2))) rfl ?_
                      obtain ⟨hc71, h⟩ := pd_chk h
                      refine ev_iast pp_Mo_isText rfl (fun _ => rfl) hc71 ?_
                      refine ev_gos pp_Mo_isText 3 (S' := (7, [some (.ref 198), some (.int (l1 + (1 : Int32))), some (.int q51)], [], (223, kc, ks, pd_H g (pd_w q68.2 212 l1.toNatClampNeg (2 : Int32))))) rfl ?_
                      exact ih _ _ _ _  h
                    · rw [hb70]
                      refine ev_gos pp_Mo_isText 2 (S' := (144, [some (.ref 198), some (.int l1), some (.int q51)], [.int (1 : Int32), .int l1, .ref 212], (223, kc, ks, pd_H g q68.2))) rfl ?_
                      obtain ⟨hc72, h⟩ := pd_chk h
                      refine ev_iast pp_Mo_isText rfl (fun _ => rfl) hc72 ?_
                      refine ev_gos pp_Mo_isText 3 (S' := (7, [some (.ref 198), some (.int (l1 + (1 : Int32))), some (.int q51)], [], (223, kc, ks, pd_H g (pd_w q68.2 212 l1.toNatClampNeg (1 : Int32))))) rfl ?_
                      exact ih _ _ _ _  h
                  · rw [hb69]
                    refine ev_gos pp_Mo_isText 0 (S' := (126, [some (.ref 198), some (.int l1), some (.int q51)], [], (223, kc, ks, pd_H g q68.2))) rfl ?_
                    exact s_Mo_isText_126 _ _ _ _  h
        · rw [hb52]
          refine ev_gos pp_Mo_isText 2 (S' := (34, [some (.ref 198), some (.int l1), some (.int q51)], [.int (125 : Int32), .int q51], (223, kc, ks, pd_H g v))) rfl ?_
          refine ev_gos pp_Mo_isText 1 (S' := (bif !(decide (q51 = (125 : Int32))) then 82 else 37, [some (.ref 198), some (.int l1), some (.int q51)], [], (223, kc, ks, pd_H g v))) rfl ?_
          rcases pd_cases h with ⟨hb73, h⟩ | ⟨hb73, h⟩
          · rw [hb73]
            refine ev_gos pp_Mo_isText 2 (S' := (85, [some (.ref 198), some (.int l1), some (.int q51)], [.int (63 : Int32), .int q51], (223, kc, ks, pd_H g v))) rfl ?_
            refine ev_gos pp_Mo_isText 1 (S' := (bif decide (q51 = (63 : Int32)) then 94 else 88, [some (.ref 198), some (.int l1), some (.int q51)], [], (223, kc, ks, pd_H g v))) rfl ?_
            rcases pd_cases h with ⟨hb74, h⟩ | ⟨hb74, h⟩
            · rw [hb74]
              refine ev_gos pp_Mo_isText 5 (S' := (101, [some (.ref 198), some (.int l1), some (.int q51)], [.int ((v 198 6) + (1 : Int32)), .ref 198], (223, kc, ks, pd_H g v))) rfl ?_
              refine ev_put pp_Mo_isText rfl (fun _ => rfl) rfl rfl rfl ?_
              refine ev_gos pp_Mo_isText 2 (S' := (106, [some (.ref 198), some (.int l1), some (.int q51)], [.int (0 : Int32), .ref 198], (223, kc, ks, pd_H g (pd_w v 198 6 ((v 198 6) + (1 : Int32)))))) rfl ?_
              obtain ⟨q75, hq75, h⟩ := pd_bind h
              refine ev_callv pp_Mo_isText rfl rfl rfl rfl (s_Mo_isExpression hq75) ?_
              refine ev_gos pp_Mo_isText 0 (S' := (109, [some (.ref 198), some (.int l1), some (.int q51)], [.int q75.1], (223, kc, ks, pd_H g q75.2))) rfl ?_
              refine ev_gos pp_Mo_isText 1 (S' := (bif decide (q75.1 = 0) then 126 else 112, [some (.ref 198), some (.int l1), some (.int q51)], [], (223, kc, ks, pd_H g q75.2))) rfl ?_
              rcases pd_cases h with ⟨hb76, h⟩ | ⟨hb76, h⟩
              · rw [hb76]
                refine ev_gos pp_Mo_isText 0 (S' := (126, [some (.ref 198), some (.int l1), some (.int q51)], [], (223, kc, ks, pd_H g q75.2))) rfl ?_
                exact s_Mo_isText_126 _ _ _ _  h
              · rw [hb76]
                refine ev_gos pp_Mo_isText 2 (S' := (114, [some (.ref 198), some (.int l1), some (.int q51)], [.int (4 : Int32), .int l1], (223, kc, ks, pd_H g q75.2))) rfl ?_
                refine ev_gos pp_Mo_isText 1 (S' := (bif decide (l1 = (4 : Int32)) then 126 else 117, [some (.ref 198), some (.int l1), some (.int q51)], [], (223, kc, ks, pd_H g q75.2))) rfl ?_
                rcases pd_cases h with ⟨hb77, h⟩ | ⟨hb77, h⟩
                · rw [hb77]
                  refine ev_gos pp_Mo_isText 0 (S' := (126, [some (.ref 198), some (.int l1), some (.int q51)], [], (223, kc, ks, pd_H g q75.2))) rfl ?_
                  exact s_Mo_isText_126 _ _ _ _  h
                · rw [hb77]
                  refine ev_gos pp_Mo_isText 2 (S' := (120, [some (.ref 198), some (.int l1), some (.int q51)], [.int (123 : Int32), .ref 198], (223, kc, ks, pd_H g q75.2))) rfl ?_
                  obtain ⟨q78, hq78, h⟩ := pd_bind h
                  refine ev_callv pp_Mo_isText rfl rfl rfl rfl (s_Mo_takes hq78) ?_
                  refine ev_gos pp_Mo_isText 0 (S' := (123, [some (.ref 198), some (.int l1), some (.int q51)], [.int q78.1], (223, kc, ks, pd_H g q78.2))) rfl ?_
                  refine ev_gos pp_Mo_isText 1 (S' := (bif !(decide (q78.1 = 0)) then 128 else 126, [some (.ref 198), some (.int l1), some (.int q51)], [], (223, kc, ks, pd_H g q78.2))) rfl ?_
                  rcases pd_cases h with ⟨hb79, h⟩ | ⟨hb79, h⟩
                  · rw [hb79]
                    refine ev_gos pp_Mo_isText 5 (S' := (136, [some (.ref 198), some (.int l1), some (.int q51)], [.int (63 : Int32), .int q51, .int l1, .ref 212], (223, kc, ks, pd_H g q78.2))) rfl ?_
                    refine ev_gos pp_Mo_isText 1 (S' := (bif !(decide (q51 = (63 : Int32))) then 143 else 139, [some (.ref 198), some (.int l1), some (.int q51)], [.int l1, .ref 212], (223, kc, ks, pd_H g q78.2))) rfl ?_
                    rcases pd_cases h with ⟨hb80, h⟩ | ⟨hb80, h⟩
                    · rw [hb80]
                      refine ev_gos pp_Mo_isText 1 (S' := (144, [some (.ref 198), some (.int l1), some (.int q51)], [.int (2 : Int32), .int l1, .ref 212], (223, kc, ks, pd_H g q78.2))) rfl ?_
                      obtain ⟨hc81, h⟩ := pd_chk h
                      refine ev_iast pp_Mo_isText rfl (fun _ => rfl) hc81 ?_
                      refine ev_gos pp_Mo_isText 3 (S' := (7, [some (.ref 198), some (.int (l1 + (1 : Int32))), some (.int q51)], [], (223, kc, ks, pd_H g (pd_w q78.2 212 l1.toNatClampNeg (2 : Int32))))) rfl ?_
                      exact ih _ _ _ _  h
                    · rw [hb80]
                      refine ev_gos pp_Mo_isText 2 (S' := (144, [some (.ref 198), some (.int l1), some (.int q51)], [.int (1 : Int32), .int l1, .ref 212], (223, kc, ks, pd_H g q78.2))) rfl ?_
                      obtain ⟨hc82, h⟩ := pd_chk h
                      refine ev_iast pp_Mo_isText rfl (fun _ => rfl) hc82 ?_
                      refine ev_gos pp_Mo_isText 3 (S' := (7, [some (.ref 198), some (.int (l1 + (1 : Int32))), some (.int q51)], [], (223, kc, ks, pd_H g (pd_w q78.2 212 l1.toNatClampNeg (1 : Int32))))) rfl ?_
                      exact ih _ _ _ _  h
                  · rw [hb79]
                    refine ev_gos pp_Mo_isText 0 (S' := (126, [some (.ref 198), some (.int l1), some (.int q51)], [], (223, kc, ks, pd_H g q78.2))) rfl ?_
                    exact s_Mo_isText_126 _ _ _ _  h
            · rw [hb74]
              refine ev_gos pp_Mo_isText 2 (S' := (91, [some (.ref 198), some (.int l1), some (.int q51)], [.int (42 : Int32), .int q51], (223, kc, ks, pd_H g v))) rfl ?_
              refine ev_gos pp_Mo_isText 1 (S' := (bif !(decide (q51 = (42 : Int32))) then 151 else 94, [some (.ref 198), some (.int l1), some (.int q51)], [], (223, kc, ks, pd_H g v))) rfl ?_
              rcases pd_cases h with ⟨hb83, h⟩ | ⟨hb83, h⟩
              · rw [hb83]
                refine ev_gos pp_Mo_isText 1 (S' := (152, [some (.ref 198), some (.int l1), some (.int q51)], [.ref 198], (223, kc, ks, pd_H g v))) rfl ?_
                obtain ⟨q84, hq84, h⟩ := pd_bind h
                refine ev_callv pp_Mo_isText rfl rfl rfl rfl (s_Mo_isSimple hq84) ?_
                refine ev_gos pp_Mo_isText 0 (S' := (155, [some (.ref 198), some (.int l1), some (.int q51)], [.int q84.1], (223, kc, ks, pd_H g q84.2))) rfl ?_
                refine ev_gos pp_Mo_isText 1 (S' := (bif !(decide (q84.1 = 0)) then 160 else 158, [some (.ref 198), some (.int l1), some (.int q51)], [], (223, kc, ks, pd_H g q84.2))) rfl ?_
                rcases pd_cases h with ⟨hb85, h⟩ | ⟨hb85, h⟩
                · rw [hb85]
                  refine ev_gos pp_Mo_isText 1 (S' := (7, [some (.ref 198), some (.int l1), some (.int q51)], [], (223, kc, ks, pd_H g q84.2))) rfl ?_
                  exact ih _ _ _ _  h
                · rw [hb85]
                  refine ev_gos pp_Mo_isText 1 (S' := (159, [some (.ref 198), some (.int l1), some (.int q51)], [.int (0 : Int32)], (223, kc, ks, pd_H g q84.2))) rfl ?_
                  cases h
                  exact ev_zret pp_Mo_isText rfl pd_b0
              · rw [hb83]
                refine ev_gos pp_Mo_isText 5 (S' := (101, [some (.ref 198), some (.int l1), some (.int q51)], [.int ((v 198 6) + (1 : Int32)), .ref 198], (223, kc, ks, pd_H g v))) rfl ?_
                refine ev_put pp_Mo_isText rfl (fun _ => rfl) rfl rfl rfl ?_
                refine ev_gos pp_Mo_isText 2 (S' := (106, [some (.ref 198), some (.int l1), some (.int q51)], [.int (0 : Int32), .ref 198], (223, kc, ks, pd_H g (pd_w v 198 6 ((v 198 6) + (1 : Int32)))))) rfl ?_
                obtain ⟨q86, hq86, h⟩ := pd_bind h
                refine ev_callv pp_Mo_isText rfl rfl rfl rfl (s_Mo_isExpression hq86) ?_
                refine ev_gos pp_Mo_isText 0 (S' := (109, [some (.ref 198), some (.int l1), some (.int q51)], [.int q86.1], (223, kc, ks, pd_H g q86.2))) rfl ?_
                refine ev_gos pp_Mo_isText 1 (S' := (bif decide (q86.1 = 0) then 126 else 112, [some (.ref 198), some (.int l1), some (.int q51)], [], (223, kc, ks, pd_H g q86.2))) rfl ?_
                rcases pd_cases h with ⟨hb87, h⟩ | ⟨hb87, h⟩
                · rw [hb87]
                  refine ev_gos pp_Mo_isText 0 (S' := (126, [some (.ref 198), some (.int l1), some (.int q51)], [], (223, kc, ks, pd_H g q86.2))) rfl ?_
                  exact s_Mo_isText_126 _ _ _ _  h
                · rw [hb87]
                  refine ev_gos pp_Mo_isText 2 (S' := (114, [some (.ref 198), some (.int l1), some (.int q51)], [.int (4 : Int32), .int l1], (223, kc, ks, pd_H g q86.2))) rfl ?_
                  refine ev_gos pp_Mo_isText 1 (S' := (bif decide (l1 = (4 : Int32)) then 126 else 117, [some (.ref 198), some (.int l1), some (.int q51)], [], (223, kc, ks, pd_H g q86.2))) rfl ?_
                  rcases pd_cases h with ⟨hb88, h⟩ | ⟨hb88, h⟩
                  · rw [hb88]
                    refine ev_gos pp_Mo_isText 0 (S' := (126, [some (.ref 198), some (.int l1), some (.int q51)], [], (223, kc, ks, pd_H g q86.2))) rfl ?_
                    exact s_Mo_isText_126 _ _ _ _  h
                  · rw [hb88]
                    refine ev_gos pp_Mo_isText 2 (S' := (120, [some (.ref 198), some (.int l1), some (.int q51)], [.int (123 : Int32), .ref 198], (223, kc, ks, pd_H g q86.2))) rfl ?_
                    obtain ⟨q89, hq89, h⟩ := pd_bind h
                    refine ev_callv pp_Mo_isText rfl rfl rfl rfl (s_Mo_takes hq89) ?_
                    refine ev_gos pp_Mo_isText 0 (S' := (123, [some (.ref 198), some (.int l1), some (.int q51)], [.int q89.1], (223, kc, ks, pd_H g q89.2))) rfl ?_
                    refine ev_gos pp_Mo_isText 1 (S' := (bif !(decide (q89.1 = 0)) then 128 else 126, [some (.ref 198), some (.int l1), some (.int q51)], [], (223, kc, ks, pd_H g q89.2))) rfl ?_
                    rcases pd_cases h with ⟨hb90, h⟩ | ⟨hb90, h⟩
                    · rw [hb90]
                      refine ev_gos pp_Mo_isText 5 (S' := (136, [some (.ref 198), some (.int l1), some (.int q51)], [.int (63 : Int32), .int q51, .int l1, .ref 212], (223, kc, ks, pd_H g q89.2))) rfl ?_
                      refine ev_gos pp_Mo_isText 1 (S' := (bif !(decide (q51 = (63 : Int32))) then 143 else 139, [some (.ref 198), some (.int l1), some (.int q51)], [.int l1, .ref 212], (223, kc, ks, pd_H g q89.2))) rfl ?_
                      rcases pd_cases h with ⟨hb91, h⟩ | ⟨hb91, h⟩
                      · rw [hb91]
                        refine ev_gos pp_Mo_isText 1 (S' := (144, [some (.ref 198), some (.int l1), some (.int q51)], [.int (2 : Int32), .int l1, .ref 212], (223, kc, ks, pd_H g q89.2))) rfl ?_
                        obtain ⟨hc92, h⟩ := pd_chk h
                        refine ev_iast pp_Mo_isText rfl (fun _ => rfl) hc92 ?_
                        refine ev_gos pp_Mo_isText 3 (S' := (7, [some (.ref 198), some (.int (l1 + (1 : Int32))), some (.int q51)], [], (223, kc, ks, pd_H g (pd_w q89.2 212 l1.toNatClampNeg (2 : Int32))))) rfl ?_
                        exact ih _ _ _ _  h
                      · rw [hb91]
                        refine ev_gos pp_Mo_isText 2 (S' := (144, [some (.ref 198), some (.int l1), some (.int q51)], [.int (1 : Int32), .int l1, .ref 212], (223, kc, ks, pd_H g q89.2))) rfl ?_
                        obtain ⟨hc93, h⟩ := pd_chk h
                        refine ev_iast pp_Mo_isText rfl (fun _ => rfl) hc93 ?_
                        refine ev_gos pp_Mo_isText 3 (S' := (7, [some (.ref 198), some (.int (l1 + (1 : Int32))), some (.int q51)], [], (223, kc, ks, pd_H g (pd_w q89.2 212 l1.toNatClampNeg (1 : Int32))))) rfl ?_
                        exact ih _ _ _ _  h
                    · rw [hb90]
                      refine ev_gos pp_Mo_isText 0 (S' := (126, [some (.ref 198), some (.int l1), some (.int q51)], [], (223, kc, ks, pd_H g q89.2))) rfl ?_
                      exact s_Mo_isText_126 _ _ _ _  h
          · rw [hb73]
            refine ev_gos pp_Mo_isText 5 (S' := (44, [some (.ref 198), some (.int l1), some (.int q51)], [.int ((v 198 6) + (1 : Int32)), .ref 198], (223, kc, ks, pd_H g v))) rfl ?_
            refine ev_put pp_Mo_isText rfl (fun _ => rfl) rfl rfl rfl ?_
            refine ev_gos pp_Mo_isText 4 (S' := (55, [some (.ref 198), some (.int (l1 + (-1 : Int32))), some (.int q51)], [.int (l1 + (-1 : Int32)), .ref 212], (223, kc, ks, pd_H g (pd_w v 198 6 ((v 198 6) + (1 : Int32)))))) rfl ?_
            obtain ⟨hc94, h⟩ := pd_chk h
            refine ev_iald pp_Mo_isText rfl (fun _ => rfl) hc94 ?_
            refine ev_gos pp_Mo_isText 1 (S' := (57, [some (.ref 198), some (.int (l1 + (-1 : Int32))), some (.int q51)], [.int (1 : Int32), .int (v 212 ((l1 + (-1 : Int32)).toNatClampNeg))], (223, kc, ks, pd_H g (pd_w v 198 6 ((v 198 6) + (1 : Int32)))))) rfl ?_
            refine ev_gos pp_Mo_isText 1 (S' := (bif !(decide ((v 212 ((l1 + (-1 : Int32)).toNatClampNeg)) = (1 : Int32))) then 160 else 60, [some (.ref 198), some (.int (l1 + (-1 : Int32))), some (.int q51)], [], (223, kc, ks, pd_H g (pd_w v 198 6 ((v 198 6) + (1 : Int32)))))) rfl ?_
            rcases pd_cases h with ⟨hb95, h⟩ | ⟨hb95, h⟩
            · rw [hb95]
              refine ev_gos pp_Mo_isText 1 (S' := (7, [some (.ref 198), some (.int (l1 + (-1 : Int32))), some (.int q51)], [], (223, kc, ks, pd_H g (pd_w v 198 6 ((v 198 6) + (1 : Int32)))))) rfl ?_
              exact ih _ _ _ _  h
            · rw [hb95]
              refine ev_gos pp_Mo_isText 2 (S' := (63, [some (.ref 198), some (.int (l1 + (-1 : Int32))), some (.int q51)], [.int (123 : Int32), .ref 198], (223, kc, ks, pd_H g (pd_w v 198 6 ((v 198 6) + (1 : Int32)))))) rfl ?_
              obtain ⟨q96, hq96, h⟩ := pd_bind h
              refine ev_callv pp_Mo_isText rfl rfl rfl rfl (s_Mo_takes hq96) ?_
              refine ev_gos pp_Mo_isText 0 (S' := (66, [some (.ref 198), some (.int (l1 + (-1 : Int32))), some (.int q51)], [.int q96.1], (223, kc, ks, pd_H g q96.2))) rfl ?_
              refine ev_gos pp_Mo_isText 1 (S' := (bif decide (q96.1 = 0) then 160 else 69, [some (.ref 198), some (.int (l1 + (-1 : Int32))), some (.int q51)], [], (223, kc, ks, pd_H g q96.2))) rfl ?_
              rcases pd_cases h with ⟨hb97, h⟩ | ⟨hb97, h⟩
              · rw [hb97]
                refine ev_gos pp_Mo_isText 1 (S' := (7, [some (.ref 198), some (.int (l1 + (-1 : Int32))), some (.int q51)], [], (223, kc, ks, pd_H g q96.2))) rfl ?_
                exact ih _ _ _ _  h
              · rw [hb97]
                refine ev_gos pp_Mo_isText 4 (S' := (75, [some (.ref 198), some (.int (l1 + (-1 : Int32))), some (.int q51)], [.int (2 : Int32), .int (l1 + (-1 : Int32)), .ref 212], (223, kc, ks, pd_H g q96.2))) rfl ?_
                obtain ⟨hc98, h⟩ := pd_chk h
                refine ev_iast pp_Mo_isText rfl (fun _ => rfl) hc98 ?_
                refine ev_gos pp_Mo_isText 3 (S' := (7, [some (.ref 198), some (.int ((l1 + (-1 : Int32)) + (1 : Int32))), some (.int q51)], [], (223, kc, ks, pd_H g (pd_w q96.2 212 ((l1 + (-1 : Int32)).toNatClampNeg) (2 : Int32))))) rfl ?_
                exact ih _ _ _ _  h
theorem s_Mo_isText_7z {w : Nat} : ∀ (f : Nat) (l1 : Int32) (v : pd_V)  (q : (Int32 × pd_V)) , d_Mo_isText_7 w f l1 v = some q → (q.1 == 0 || q.1 == 1) = true := by
  intro f
  induction f with
  | zero => intro l1 v q h; exact nomatch (show (none : Option (Int32 × pd_V)) = some q from h)
  | succ f ih =>
    intro l1 v q h
    rw [d_Mo_isText_7] at h
    rcases pd_cases h with ⟨hb1, h⟩ | ⟨hb1, h⟩
    · obtain ⟨q2, hq2, h⟩ := pd_bind h
      rcases pd_cases h with ⟨hb3, h⟩ | ⟨hb3, h⟩
      · rcases pd_cases h with ⟨hb4, h⟩ | ⟨hb4, h⟩
        · obtain ⟨q5, hq5, h⟩ := pd_bind h
          rcases pd_cases h with ⟨hb6, h⟩ | ⟨hb6, h⟩
          · exact s_Mo_isText_126z _ _  h
          · rcases pd_cases h with ⟨hb7, h⟩ | ⟨hb7, h⟩
            · exact s_Mo_isText_126z _ _  h
            · obtain ⟨q8, hq8, h⟩ := pd_bind h
              rcases pd_cases h with ⟨hb9, h⟩ | ⟨hb9, h⟩
              · rcases pd_cases h with ⟨hb10, h⟩ | ⟨hb10, h⟩
                · obtain ⟨hc11, h⟩ := pd_chk h
                  exact ih _ _ _  h
                · obtain ⟨hc12, h⟩ := pd_chk h
                  exact ih _ _ _  h
              · exact s_Mo_isText_126z _ _  h
        · rcases pd_cases h with ⟨hb13, h⟩ | ⟨hb13, h⟩
          · obtain ⟨q14, hq14, h⟩ := pd_bind h
            rcases pd_cases h with ⟨hb15, h⟩ | ⟨hb15, h⟩
            · exact ih _ _ _  h
            · cases h
              exact pd_b0
          · obtain ⟨q16, hq16, h⟩ := pd_bind h
            rcases pd_cases h with ⟨hb17, h⟩ | ⟨hb17, h⟩
            · exact s_Mo_isText_126z _ _  h
            · rcases pd_cases h with ⟨hb18, h⟩ | ⟨hb18, h⟩
              · exact s_Mo_isText_126z _ _  h
              · obtain ⟨q19, hq19, h⟩ := pd_bind h
                rcases pd_cases h with ⟨hb20, h⟩ | ⟨hb20, h⟩
                · rcases pd_cases h with ⟨hb21, h⟩ | ⟨hb21, h⟩
                  · obtain ⟨hc22, h⟩ := pd_chk h
                    exact ih _ _ _  h
                  · obtain ⟨hc23, h⟩ := pd_chk h
                    exact ih _ _ _  h
                · exact s_Mo_isText_126z _ _  h
      · rcases pd_cases h with ⟨hb24, h⟩ | ⟨hb24, h⟩
        · rcases pd_cases h with ⟨hb25, h⟩ | ⟨hb25, h⟩
          · obtain ⟨q26, hq26, h⟩ := pd_bind h
            rcases pd_cases h with ⟨hb27, h⟩ | ⟨hb27, h⟩
            · exact s_Mo_isText_126z _ _  h
            · rcases pd_cases h with ⟨hb28, h⟩ | ⟨hb28, h⟩
              · exact s_Mo_isText_126z _ _  h
              · obtain ⟨q29, hq29, h⟩ := pd_bind h
                rcases pd_cases h with ⟨hb30, h⟩ | ⟨hb30, h⟩
                · rcases pd_cases h with ⟨hb31, h⟩ | ⟨hb31, h⟩
                  · obtain ⟨hc32, h⟩ := pd_chk h
                    exact ih _ _ _  h
                  · obtain ⟨hc33, h⟩ := pd_chk h
                    exact ih _ _ _  h
                · exact s_Mo_isText_126z _ _  h
          · rcases pd_cases h with ⟨hb34, h⟩ | ⟨hb34, h⟩
            · obtain ⟨q35, hq35, h⟩ := pd_bind h
              rcases pd_cases h with ⟨hb36, h⟩ | ⟨hb36, h⟩
              · exact ih _ _ _  h
              · cases h
                exact pd_b0
            · obtain ⟨q37, hq37, h⟩ := pd_bind h
              rcases pd_cases h with ⟨hb38, h⟩ | ⟨hb38, h⟩
              · exact s_Mo_isText_126z _ _  h
              · rcases pd_cases h with ⟨hb39, h⟩ | ⟨hb39, h⟩
                · exact s_Mo_isText_126z _ _  h
                · obtain ⟨q40, hq40, h⟩ := pd_bind h
                  rcases pd_cases h with ⟨hb41, h⟩ | ⟨hb41, h⟩
                  · rcases pd_cases h with ⟨hb42, h⟩ | ⟨hb42, h⟩
                    · obtain ⟨hc43, h⟩ := pd_chk h
                      exact ih _ _ _  h
                    · obtain ⟨hc44, h⟩ := pd_chk h
                      exact ih _ _ _  h
                  · exact s_Mo_isText_126z _ _  h
        · obtain ⟨hc45, h⟩ := pd_chk h
          rcases pd_cases h with ⟨hb46, h⟩ | ⟨hb46, h⟩
          · exact ih _ _ _  h
          · obtain ⟨q47, hq47, h⟩ := pd_bind h
            rcases pd_cases h with ⟨hb48, h⟩ | ⟨hb48, h⟩
            · exact ih _ _ _  h
            · obtain ⟨hc49, h⟩ := pd_chk h
              exact ih _ _ _  h
    · rcases pd_cases h with ⟨hb50, h⟩ | ⟨hb50, h⟩
      · cases h
        exact pd_b1
      · obtain ⟨q51, hq51, h⟩ := pd_bind h
        rcases pd_cases h with ⟨hb52, h⟩ | ⟨hb52, h⟩
        · rcases pd_cases h with ⟨hb53, h⟩ | ⟨hb53, h⟩
          · obtain ⟨q54, hq54, h⟩ := pd_bind h
            rcases pd_cases h with ⟨hb55, h⟩ | ⟨hb55, h⟩
            · exact s_Mo_isText_126z _ _  h
            · rcases pd_cases h with ⟨hb56, h⟩ | ⟨hb56, h⟩
              · exact s_Mo_isText_126z _ _  h
              · obtain ⟨q57, hq57, h⟩ := pd_bind h
                rcases pd_cases h with ⟨hb58, h⟩ | ⟨hb58, h⟩
                · rcases pd_cases h with ⟨hb59, h⟩ | ⟨hb59, h⟩
                  · obtain ⟨hc60, h⟩ := pd_chk h
                    exact ih _ _ _  h
                  · obtain ⟨hc61, h⟩ := pd_chk h
                    exact ih _ _ _  h
                · exact s_Mo_isText_126z _ _  h
          · rcases pd_cases h with ⟨hb62, h⟩ | ⟨hb62, h⟩
            · obtain ⟨q63, hq63, h⟩ := pd_bind h
              rcases pd_cases h with ⟨hb64, h⟩ | ⟨hb64, h⟩
              · exact ih _ _ _  h
              · cases h
                exact pd_b0
            · obtain ⟨q65, hq65, h⟩ := pd_bind h
              rcases pd_cases h with ⟨hb66, h⟩ | ⟨hb66, h⟩
              · exact s_Mo_isText_126z _ _  h
              · rcases pd_cases h with ⟨hb67, h⟩ | ⟨hb67, h⟩
                · exact s_Mo_isText_126z _ _  h
                · obtain ⟨q68, hq68, h⟩ := pd_bind h
                  rcases pd_cases h with ⟨hb69, h⟩ | ⟨hb69, h⟩
                  · rcases pd_cases h with ⟨hb70, h⟩ | ⟨hb70, h⟩
                    · obtain ⟨hc71, h⟩ := pd_chk h
                      exact ih _ _ _  h
                    · obtain ⟨hc72, h⟩ := pd_chk h
                      exact ih _ _ _  h
                  · exact s_Mo_isText_126z _ _  h
        · rcases pd_cases h with ⟨hb73, h⟩ | ⟨hb73, h⟩
          · rcases pd_cases h with ⟨hb74, h⟩ | ⟨hb74, h⟩
            · obtain ⟨q75, hq75, h⟩ := pd_bind h
              rcases pd_cases h with ⟨hb76, h⟩ | ⟨hb76, h⟩
              · exact s_Mo_isText_126z _ _  h
              · rcases pd_cases h with ⟨hb77, h⟩ | ⟨hb77, h⟩
                · exact s_Mo_isText_126z _ _  h
                · obtain ⟨q78, hq78, h⟩ := pd_bind h
                  rcases pd_cases h with ⟨hb79, h⟩ | ⟨hb79, h⟩
                  · rcases pd_cases h with ⟨hb80, h⟩ | ⟨hb80, h⟩
                    · obtain ⟨hc81, h⟩ := pd_chk h
                      exact ih _ _ _  h
                    · obtain ⟨hc82, h⟩ := pd_chk h
                      exact ih _ _ _  h
                  · exact s_Mo_isText_126z _ _  h
            · rcases pd_cases h with ⟨hb83, h⟩ | ⟨hb83, h⟩
              · obtain ⟨q84, hq84, h⟩ := pd_bind h
                rcases pd_cases h with ⟨hb85, h⟩ | ⟨hb85, h⟩
                · exact ih _ _ _  h
                · cases h
                  exact pd_b0
              · obtain ⟨q86, hq86, h⟩ := pd_bind h
                rcases pd_cases h with ⟨hb87, h⟩ | ⟨hb87, h⟩
                · exact s_Mo_isText_126z _ _  h
                · rcases pd_cases h with ⟨hb88, h⟩ | ⟨hb88, h⟩
                  · exact s_Mo_isText_126z _ _  h
                  · obtain ⟨q89, hq89, h⟩ := pd_bind h
                    rcases pd_cases h with ⟨hb90, h⟩ | ⟨hb90, h⟩
                    · rcases pd_cases h with ⟨hb91, h⟩ | ⟨hb91, h⟩
                      · obtain ⟨hc92, h⟩ := pd_chk h
                        exact ih _ _ _  h
                      · obtain ⟨hc93, h⟩ := pd_chk h
                        exact ih _ _ _  h
                    · exact s_Mo_isText_126z _ _  h
          · obtain ⟨hc94, h⟩ := pd_chk h
            rcases pd_cases h with ⟨hb95, h⟩ | ⟨hb95, h⟩
            · exact ih _ _ _  h
            · obtain ⟨q96, hq96, h⟩ := pd_bind h
              rcases pd_cases h with ⟨hb97, h⟩ | ⟨hb97, h⟩
              · exact ih _ _ _  h
              · obtain ⟨hc98, h⟩ := pd_chk h
                exact ih _ _ _  h
def d_Mo_isText (w : Nat)  (v : pd_V) : Option (Int32 × pd_V) :=
  d_Mo_isText_7 w w (0 : Int32) (pd_w v 198 6 (0 : Int32))
theorem s_Mo_isText {w : Nat}  {v : pd_V} {q : (Int32 × pd_V)}  (h : d_Mo_isText w v = some q) : pm_ev (pj_P xs L) (d + 5) 105 (0, [some (.ref 198), none, none], [], (223, kc, ks, pd_H g v)) (.inl (some (.int q.1)), (223, kc, ks, pd_H g q.2)) := by
  unfold d_Mo_isText at h
  refine ev_gos pp_Mo_isText 4 (S' := (4, [some (.ref 198), some (.int (0 : Int32)), none], [.int (0 : Int32), .ref 198], (223, kc, ks, pd_H g v))) rfl ?_
  refine ev_put pp_Mo_isText rfl (fun _ => rfl) rfl rfl rfl ?_
  refine ev_gos pp_Mo_isText 0 (S' := (7, [some (.ref 198), some (.int (0 : Int32)), none], [], (223, kc, ks, pd_H g (pd_w v 198 6 (0 : Int32))))) rfl ?_
  exact s_Mo_isText_7 _ _ _ _ _  h
theorem z_Mo_isText {w : Nat}  {v : pd_V} {q : (Int32 × pd_V)}  (h : d_Mo_isText w v = some q) : (q.1 == 0 || q.1 == 1) = true := by
  unfold d_Mo_isText at h
  exact s_Mo_isText_7z _ _ _ _  h
theorem pp_Mo_upTo {xs : Nat → Int32} {L : Nat} : (pj_P xs L 115).1 = fun S => pm_look tb_Mo_upTo S.1 S := rfl
def d_Mo_upTo_3 (w : Nat) (f : Nat) (l0 : Nat) (nl0 : Nat) (l2 : Int32) (l3 : Int32) (l4 : Int32) (v : pd_V) : Option Int32 := match f with
  | 0 => none
  | f + 1 =>
    bif pm_in l4 nl0 then
    bif decide ((v l0 l4.toNatClampNeg) = l2) then
      some l4
    else
      bif pm_in l4 nl0 then
      bif decide ((v l0 l4.toNatClampNeg) = l3) then
        some l4
      else
        d_Mo_upTo_3 w f l0 nl0 l2 l3 (l4 + (1 : Int32)) v
      else none
    else none
theorem s_Mo_upTo_3 {w : Nat} : ∀ (f : Nat) (l0 : Nat) (nl0 : Nat) (l2 : Int32) (l3 : Int32) (l4 : Int32) (v : pd_V) (y1 : Int32) (q : Int32) (hl0 : pd_ai g l0 nl0), d_Mo_upTo_3 w f l0 nl0 l2 l3 l4 v = some q → pm_ev (pj_P xs L) d 115 (3, [some (.ref l0), some (.int y1), some (.int l2), some (.int l3), some (.int l4)], [], (223, kc, ks, pd_H g v)) (.inl (some (.int q)), (223, kc, ks, pd_H g v)) := by
  intro f
  induction f with
  | zero => intro l0 nl0 l2 l3 l4 v y1 q hl0 h; exact nomatch (show (none : Option Int32) = some q from h)
  | succ f ih =>
    intro l0 nl0 l2 l3 l4 v y1 q hl0 h
    rw [d_Mo_upTo_3] at h
    refine ev_gos pp_Mo_upTo 2 (S' := (6, [some (.ref l0), some (.int y1), some (.int l2), some (.int l3), some (.int l4)], [.int l4, .ref l0], (223, kc, ks, pd_H g v))) rfl ?_
    obtain ⟨hc1, h⟩ := pd_chk h
    refine ev_iald pp_Mo_upTo rfl hl0 hc1 ?_
    refine ev_gos pp_Mo_upTo 1 (S' := (8, [some (.ref l0), some (.int y1), some (.int l2), some (.int l3), some (.int l4)], [.int l2, .int (v l0 l4.toNatClampNeg)], (223, kc, ks, pd_H g v))) rfl ?_
    refine ev_gos pp_Mo_upTo 1 (S' := (bif decide ((v l0 l4.toNatClampNeg) = l2) then 25 else 11, [some (.ref l0), some (.int y1), some (.int l2), some (.int l3), some (.int l4)], [], (223, kc, ks, pd_H g v))) rfl ?_
    rcases pd_cases h with ⟨hb2, h⟩ | ⟨hb2, h⟩
    · rw [hb2]
      refine ev_gos pp_Mo_upTo 1 (S' := (27, [some (.ref l0), some (.int y1), some (.int l2), some (.int l3), some (.int l4)], [.int l4], (223, kc, ks, pd_H g v))) rfl ?_
      cases h
      exact ev_fin pp_Mo_upTo rfl
    · rw [hb2]
      refine ev_gos pp_Mo_upTo 2 (S' := (14, [some (.ref l0), some (.int y1), some (.int l2), some (.int l3), some (.int l4)], [.int l4, .ref l0], (223, kc, ks, pd_H g v))) rfl ?_
      obtain ⟨hc3, h⟩ := pd_chk h
      refine ev_iald pp_Mo_upTo rfl hl0 hc3 ?_
      refine ev_gos pp_Mo_upTo 1 (S' := (16, [some (.ref l0), some (.int y1), some (.int l2), some (.int l3), some (.int l4)], [.int l3, .int (v l0 l4.toNatClampNeg)], (223, kc, ks, pd_H g v))) rfl ?_
      refine ev_gos pp_Mo_upTo 1 (S' := (bif decide ((v l0 l4.toNatClampNeg) = l3) then 25 else 19, [some (.ref l0), some (.int y1), some (.int l2), some (.int l3), some (.int l4)], [], (223, kc, ks, pd_H g v))) rfl ?_
      rcases pd_cases h with ⟨hb4, h⟩ | ⟨hb4, h⟩
      · rw [hb4]
        refine ev_gos pp_Mo_upTo 1 (S' := (27, [some (.ref l0), some (.int y1), some (.int l2), some (.int l3), some (.int l4)], [.int l4], (223, kc, ks, pd_H g v))) rfl ?_
        cases h
        exact ev_fin pp_Mo_upTo rfl
      · rw [hb4]
        refine ev_gos pp_Mo_upTo 2 (S' := (3, [some (.ref l0), some (.int y1), some (.int l2), some (.int l3), some (.int (l4 + (1 : Int32)))], [], (223, kc, ks, pd_H g v))) rfl ?_
        exact ih _ _ _ _ _ _ _ _ hl0 h
def d_Mo_upTo (w : Nat) (l0 : Nat) (nl0 : Nat) (l1 : Int32) (l2 : Int32) (l3 : Int32) (v : pd_V) : Option Int32 :=
  d_Mo_upTo_3 w w l0 nl0 l2 l3 l1 v
theorem s_Mo_upTo {w : Nat} {l0 : Nat} {nl0 : Nat} {l1 : Int32} {l2 : Int32} {l3 : Int32} {v : pd_V} {q : Int32} (hl0 : pd_ai g l0 nl0) (h : d_Mo_upTo w l0 nl0 l1 l2 l3 v = some q) : pm_ev (pj_P xs L) d 115 (0, [some (.ref l0), some (.int l1), some (.int l2), some (.int l3), none], [], (223, kc, ks, pd_H g v)) (.inl (some (.int q)), (223, kc, ks, pd_H g v)) := by
  unfold d_Mo_upTo at h
  refine ev_gos pp_Mo_upTo 2 (S' := (3, [some (.ref l0), some (.int l1), some (.int l2), some (.int l3), some (.int l1)], [], (223, kc, ks, pd_H g v))) rfl ?_
  exact s_Mo_upTo_3 _ _ _ _ _ _ _ _ _ hl0 h
theorem pp_Mo_isVarying {xs : Nat → Int32} {L : Nat} : (pj_P xs L 116).1 = fun S => pm_look tb_Mo_isVarying S.1 S := rfl
def d_Mo_isVarying_5 (w : Nat) (f : Nat) (l2 : Int32) (l3 : Int32) (l4 : Int32) (v : pd_V) : Option Int32 := match f with
  | 0 => none
  | f + 1 =>
    bif decide (l2 ≤ l4) then
      bif (l3 == 0 || l3 == 1) then
      some l3
      else none
    else
      bif !(decide (l3 = 0)) then
        d_Mo_isVarying_5 w f l2 (1 : Int32) (l4 + (1 : Int32)) v
      else
        bif pm_in l4 160 then
        bif decide ((v 199 l4.toNatClampNeg) = (110 : Int32)) then
          d_Mo_isVarying_5 w f l2 (1 : Int32) (l4 + (1 : Int32)) v
        else
          bif pm_in l4 160 then
          bif decide ((v 199 l4.toNatClampNeg) = (76 : Int32)) then
            d_Mo_isVarying_5 w f l2 (1 : Int32) (l4 + (1 : Int32)) v
          else
            bif pm_in l4 160 then
            bif !(decide ((d_Mo_beyond (v 199 l4.toNatClampNeg) (97 : Int32) (104 : Int32)) = 0)) then
              d_Mo_isVarying_5 w f l2 (0 : Int32) (l4 + (1 : Int32)) v
            else
              bif pm_in l4 160 then
              bif pm_in ((v 199 l4.toNatClampNeg) - (97 : Int32)) 8 then
              bif decide ((v 201 (((v 199 l4.toNatClampNeg) - (97 : Int32)).toNatClampNeg)) = 0) then
                d_Mo_isVarying_5 w f l2 (0 : Int32) (l4 + (1 : Int32)) v
              else
                d_Mo_isVarying_5 w f l2 (1 : Int32) (l4 + (1 : Int32)) v
              else none
              else none
            else none
          else none
        else none
theorem s_Mo_isVarying_5 {w : Nat} : ∀ (f : Nat) (l2 : Int32) (l3 : Int32) (l4 : Int32) (v : pd_V) (y1 : Int32) (q : Int32) , d_Mo_isVarying_5 w f l2 l3 l4 v = some q → pm_ev (pj_P xs L) (d + 1) 116 (5, [some (.ref 198), some (.int y1), some (.int l2), some (.int l3), some (.int l4)], [], (223, kc, ks, pd_H g v)) (.inl (some (.int q)), (223, kc, ks, pd_H g v)) := by
  intro f
  induction f with
  | zero => intro l2 l3 l4 v y1 q h; exact nomatch (show (none : Option Int32) = some q from h)
  | succ f ih =>
    intro l2 l3 l4 v y1 q h
    rw [d_Mo_isVarying_5] at h
    refine ev_gos pp_Mo_isVarying 2 (S' := (8, [some (.ref 198), some (.int y1), some (.int l2), some (.int l3), some (.int l4)], [.int l2, .int l4], (223, kc, ks, pd_H g v))) rfl ?_
    refine ev_gos pp_Mo_isVarying 1 (S' := (bif decide (l2 ≤ l4) then 86 else 11, [some (.ref 198), some (.int y1), some (.int l2), some (.int l3), some (.int l4)], [], (223, kc, ks, pd_H g v))) rfl ?_
    rcases pd_cases h with ⟨hb1, h⟩ | ⟨hb1, h⟩
    · rw [hb1]
      refine ev_gos pp_Mo_isVarying 1 (S' := (87, [some (.ref 198), some (.int y1), some (.int l2), some (.int l3), some (.int l4)], [.int l3], (223, kc, ks, pd_H g v))) rfl ?_
      obtain ⟨hc2, h⟩ := pd_chk h
      cases h
      exact ev_zret pp_Mo_isVarying rfl hc2
    · rw [hb1]
      refine ev_gos pp_Mo_isVarying 1 (S' := (12, [some (.ref 198), some (.int y1), some (.int l2), some (.int l3), some (.int l4)], [.int l3], (223, kc, ks, pd_H g v))) rfl ?_
      refine ev_gos pp_Mo_isVarying 1 (S' := (bif !(decide (l3 = 0)) then 74 else 15, [some (.ref 198), some (.int y1), some (.int l2), some (.int l3), some (.int l4)], [], (223, kc, ks, pd_H g v))) rfl ?_
      rcases pd_cases h with ⟨hb3, h⟩ | ⟨hb3, h⟩
      · rw [hb3]
        refine ev_gos pp_Mo_isVarying 5 (S' := (5, [some (.ref 198), some (.int y1), some (.int l2), some (.int (1 : Int32)), some (.int (l4 + (1 : Int32)))], [], (223, kc, ks, pd_H g v))) rfl ?_
        exact ih _ _ _ _ _ _  h
      · rw [hb3]
        refine ev_gos pp_Mo_isVarying 3 (S' := (21, [some (.ref 198), some (.int y1), some (.int l2), some (.int l3), some (.int l4)], [.int l4, .ref 199], (223, kc, ks, pd_H g v))) rfl ?_
        obtain ⟨hc4, h⟩ := pd_chk h
        refine ev_iald pp_Mo_isVarying rfl (fun _ => rfl) hc4 ?_
        refine ev_gos pp_Mo_isVarying 1 (S' := (24, [some (.ref 198), some (.int y1), some (.int l2), some (.int l3), some (.int l4)], [.int (110 : Int32), .int (v 199 l4.toNatClampNeg)], (223, kc, ks, pd_H g v))) rfl ?_
        refine ev_gos pp_Mo_isVarying 1 (S' := (bif decide ((v 199 l4.toNatClampNeg) = (110 : Int32)) then 74 else 27, [some (.ref 198), some (.int y1), some (.int l2), some (.int l3), some (.int l4)], [], (223, kc, ks, pd_H g v))) rfl ?_
        rcases pd_cases h with ⟨hb5, h⟩ | ⟨hb5, h⟩
        · rw [hb5]
          refine ev_gos pp_Mo_isVarying 5 (S' := (5, [some (.ref 198), some (.int y1), some (.int l2), some (.int (1 : Int32)), some (.int (l4 + (1 : Int32)))], [], (223, kc, ks, pd_H g v))) rfl ?_
          exact ih _ _ _ _ _ _  h
        · rw [hb5]
          refine ev_gos pp_Mo_isVarying 3 (S' := (33, [some (.ref 198), some (.int y1), some (.int l2), some (.int l3), some (.int l4)], [.int l4, .ref 199], (223, kc, ks, pd_H g v))) rfl ?_
          obtain ⟨hc6, h⟩ := pd_chk h
          refine ev_iald pp_Mo_isVarying rfl (fun _ => rfl) hc6 ?_
          refine ev_gos pp_Mo_isVarying 1 (S' := (36, [some (.ref 198), some (.int y1), some (.int l2), some (.int l3), some (.int l4)], [.int (76 : Int32), .int (v 199 l4.toNatClampNeg)], (223, kc, ks, pd_H g v))) rfl ?_
          refine ev_gos pp_Mo_isVarying 1 (S' := (bif decide ((v 199 l4.toNatClampNeg) = (76 : Int32)) then 74 else 39, [some (.ref 198), some (.int y1), some (.int l2), some (.int l3), some (.int l4)], [], (223, kc, ks, pd_H g v))) rfl ?_
          rcases pd_cases h with ⟨hb7, h⟩ | ⟨hb7, h⟩
          · rw [hb7]
            refine ev_gos pp_Mo_isVarying 5 (S' := (5, [some (.ref 198), some (.int y1), some (.int l2), some (.int (1 : Int32)), some (.int (l4 + (1 : Int32)))], [], (223, kc, ks, pd_H g v))) rfl ?_
            exact ih _ _ _ _ _ _  h
          · rw [hb7]
            refine ev_gos pp_Mo_isVarying 3 (S' := (45, [some (.ref 198), some (.int y1), some (.int l2), some (.int l3), some (.int l4)], [.int l4, .ref 199], (223, kc, ks, pd_H g v))) rfl ?_
            obtain ⟨hc8, h⟩ := pd_chk h
            refine ev_iald pp_Mo_isVarying rfl (fun _ => rfl) hc8 ?_
            refine ev_gos pp_Mo_isVarying 2 (S' := (50, [some (.ref 198), some (.int y1), some (.int l2), some (.int l3), some (.int l4)], [.int (104 : Int32), .int (97 : Int32), .int (v 199 l4.toNatClampNeg)], (223, kc, ks, pd_H g v))) rfl ?_
            refine ev_call pp_Mo_isVarying rfl rfl rfl (s_Mo_beyond) ?_
            refine ev_gos pp_Mo_isVarying 0 (S' := (53, [some (.ref 198), some (.int y1), some (.int l2), some (.int l3), some (.int l4)], [.int (d_Mo_beyond (v 199 l4.toNatClampNeg) (97 : Int32) (104 : Int32))], (223, kc, ks, pd_H g v))) rfl ?_
            refine ev_gos pp_Mo_isVarying 1 (S' := (bif !(decide ((d_Mo_beyond (v 199 l4.toNatClampNeg) (97 : Int32) (104 : Int32)) = 0)) then 78 else 56, [some (.ref 198), some (.int y1), some (.int l2), some (.int l3), some (.int l4)], [], (223, kc, ks, pd_H g v))) rfl ?_
            rcases pd_cases h with ⟨hb10, h⟩ | ⟨hb10, h⟩
            · rw [hb10]
              refine ev_gos pp_Mo_isVarying 4 (S' := (5, [some (.ref 198), some (.int y1), some (.int l2), some (.int (0 : Int32)), some (.int (l4 + (1 : Int32)))], [], (223, kc, ks, pd_H g v))) rfl ?_
              exact ih _ _ _ _ _ _  h
            · rw [hb10]
              refine ev_gos pp_Mo_isVarying 5 (S' := (66, [some (.ref 198), some (.int y1), some (.int l2), some (.int l3), some (.int l4)], [.int l4, .ref 199, .ref 201], (223, kc, ks, pd_H g v))) rfl ?_
              obtain ⟨hc11, h⟩ := pd_chk h
              refine ev_iald pp_Mo_isVarying rfl (fun _ => rfl) hc11 ?_
              refine ev_gos pp_Mo_isVarying 2 (S' := (70, [some (.ref 198), some (.int y1), some (.int l2), some (.int l3), some (.int l4)], [.int ((v 199 l4.toNatClampNeg) - (97 : Int32)), .ref 201], (223, kc, ks, pd_H g v))) rfl ?_
              obtain ⟨hc12, h⟩ := pd_chk h
              refine ev_zald pp_Mo_isVarying rfl (fun _ => rfl) hc12 ?_
              refine ev_gos pp_Mo_isVarying 0 (S' := (71, [some (.ref 198), some (.int y1), some (.int l2), some (.int l3), some (.int l4)], [.int (v 201 (((v 199 l4.toNatClampNeg) - (97 : Int32)).toNatClampNeg))], (223, kc, ks, pd_H g v))) rfl ?_
              refine ev_gos pp_Mo_isVarying 1 (S' := (bif decide ((v 201 (((v 199 l4.toNatClampNeg) - (97 : Int32)).toNatClampNeg)) = 0) then 78 else 74, [some (.ref 198), some (.int y1), some (.int l2), some (.int l3), some (.int l4)], [], (223, kc, ks, pd_H g v))) rfl ?_
              rcases pd_cases h with ⟨hb13, h⟩ | ⟨hb13, h⟩
              · rw [hb13]
                refine ev_gos pp_Mo_isVarying 4 (S' := (5, [some (.ref 198), some (.int y1), some (.int l2), some (.int (0 : Int32)), some (.int (l4 + (1 : Int32)))], [], (223, kc, ks, pd_H g v))) rfl ?_
                exact ih _ _ _ _ _ _  h
              · rw [hb13]
                refine ev_gos pp_Mo_isVarying 5 (S' := (5, [some (.ref 198), some (.int y1), some (.int l2), some (.int (1 : Int32)), some (.int (l4 + (1 : Int32)))], [], (223, kc, ks, pd_H g v))) rfl ?_
                exact ih _ _ _ _ _ _  h
theorem s_Mo_isVarying_5z {w : Nat} : ∀ (f : Nat) (l2 : Int32) (l3 : Int32) (l4 : Int32) (v : pd_V)  (q : Int32) , d_Mo_isVarying_5 w f l2 l3 l4 v = some q → (q == 0 || q == 1) = true := by
  intro f
  induction f with
  | zero => intro l2 l3 l4 v q h; exact nomatch (show (none : Option Int32) = some q from h)
  | succ f ih =>
    intro l2 l3 l4 v q h
    rw [d_Mo_isVarying_5] at h
    rcases pd_cases h with ⟨hb1, h⟩ | ⟨hb1, h⟩
    · obtain ⟨hc2, h⟩ := pd_chk h
      cases h
      exact hc2
    · rcases pd_cases h with ⟨hb3, h⟩ | ⟨hb3, h⟩
      · exact ih _ _ _ _ _  h
      · obtain ⟨hc4, h⟩ := pd_chk h
        rcases pd_cases h with ⟨hb5, h⟩ | ⟨hb5, h⟩
        · exact ih _ _ _ _ _  h
        · obtain ⟨hc6, h⟩ := pd_chk h
          rcases pd_cases h with ⟨hb7, h⟩ | ⟨hb7, h⟩
          · exact ih _ _ _ _ _  h
          · obtain ⟨hc8, h⟩ := pd_chk h
            rcases pd_cases h with ⟨hb10, h⟩ | ⟨hb10, h⟩
            · exact ih _ _ _ _ _  h
            · obtain ⟨hc11, h⟩ := pd_chk h
              obtain ⟨hc12, h⟩ := pd_chk h
              rcases pd_cases h with ⟨hb13, h⟩ | ⟨hb13, h⟩
              · exact ih _ _ _ _ _  h
              · exact ih _ _ _ _ _  h
def d_Mo_isVarying (w : Nat) (l1 : Int32) (l2 : Int32) (v : pd_V) : Option Int32 :=
  d_Mo_isVarying_5 w w l2 (0 : Int32) l1 v
theorem s_Mo_isVarying {w : Nat} {l1 : Int32} {l2 : Int32} {v : pd_V} {q : Int32}  (h : d_Mo_isVarying w l1 l2 v = some q) : pm_ev (pj_P xs L) (d + 1) 116 (0, [some (.ref 198), some (.int l1), some (.int l2), none, none], [], (223, kc, ks, pd_H g v)) (.inl (some (.int q)), (223, kc, ks, pd_H g v)) := by
  unfold d_Mo_isVarying at h
  refine ev_gos pp_Mo_isVarying 4 (S' := (5, [some (.ref 198), some (.int l1), some (.int l2), some (.int (0 : Int32)), some (.int l1)], [], (223, kc, ks, pd_H g v))) rfl ?_
  exact s_Mo_isVarying_5 _ _ _ _ _ _ _  h
theorem z_Mo_isVarying {w : Nat} {l1 : Int32} {l2 : Int32} {v : pd_V} {q : Int32}  (h : d_Mo_isVarying w l1 l2 v = some q) : (q == 0 || q == 1) = true := by
  unfold d_Mo_isVarying at h
  exact s_Mo_isVarying_5z _ _ _ _ _ _  h
end FN
