section FN
variable {xs : Nat → Int32} {L : Nat} {g : Nat → Int64} {d kc ks : Nat}
theorem pp_Re_readTerm {xs : Nat → Int32} {L : Nat} : (pj_P xs L 27).1 = fun S => pm_look tb_Re_readTerm S.1 S := rfl
def d_Re_readTerm (w : Nat) (E : Int32 → pd_V → Option (Int32 × pd_V)) (l1 : Int32) (v : pd_V) : Option (Int32 × pd_V) :=
  (d_Re_next v).bind fun q1 =>
  bif decide ((d_Re_isDigit q1) = 0) then
    bif decide ((d_Re_isVariable q1) = 0) then
      bif !(decide (q1 = (40 : Int32))) then
        bif decide (q1 = (110 : Int32)) then
          bif !(decide (q1 = (73 : Int32))) then
            bif decide (q1 = (110 : Int32)) then
              (d_Ke_addItem (kerOf (v 1 3)) q1 (0 : Int32) (pd_w (pd_w v 1 2 ((v 1 2) + (1 : Int32))) 1 6 ((v 1 6) ||| (256 : Int32)))).bind fun q10 =>
              some ((1 : Int32), q10)
            else
              (d_Re_readBracket E (91 : Int32) (93 : Int32) l1 (pd_w (pd_w v 1 2 ((v 1 2) + (1 : Int32))) 1 6 ((v 1 6) ||| (256 : Int32)))).bind fun q11 =>
              bif !(decide (q11.1 = 0)) then
                (d_Ke_addItem (kerOf (q11.2 1 3)) q1 (0 : Int32) q11.2).bind fun q13 =>
                some ((1 : Int32), q13)
              else
                some ((0 : Int32), q11.2)
          else
            bif decide (q1 = (110 : Int32)) then
              (d_Ke_addItem (kerOf (v 1 3)) q1 (0 : Int32) (pd_w (pd_w v 1 2 ((v 1 2) + (1 : Int32))) 1 6 ((v 1 6) ||| (0 : Int32)))).bind fun q15 =>
              some ((1 : Int32), q15)
            else
              (d_Re_readBracket E (91 : Int32) (93 : Int32) l1 (pd_w (pd_w v 1 2 ((v 1 2) + (1 : Int32))) 1 6 ((v 1 6) ||| (0 : Int32)))).bind fun q16 =>
              bif !(decide (q16.1 = 0)) then
                (d_Ke_addItem (kerOf (q16.2 1 3)) q1 (0 : Int32) q16.2).bind fun q18 =>
                some ((1 : Int32), q18)
              else
                some ((0 : Int32), q16.2)
        else
          bif decide (q1 = (73 : Int32)) then
            bif !(decide (q1 = (73 : Int32))) then
              bif decide (q1 = (110 : Int32)) then
                (d_Ke_addItem (kerOf (v 1 3)) q1 (0 : Int32) (pd_w (pd_w v 1 2 ((v 1 2) + (1 : Int32))) 1 6 ((v 1 6) ||| (256 : Int32)))).bind fun q22 =>
                some ((1 : Int32), q22)
              else
                (d_Re_readBracket E (91 : Int32) (93 : Int32) l1 (pd_w (pd_w v 1 2 ((v 1 2) + (1 : Int32))) 1 6 ((v 1 6) ||| (256 : Int32)))).bind fun q23 =>
                bif !(decide (q23.1 = 0)) then
                  (d_Ke_addItem (kerOf (q23.2 1 3)) q1 (0 : Int32) q23.2).bind fun q25 =>
                  some ((1 : Int32), q25)
                else
                  some ((0 : Int32), q23.2)
            else
              bif decide (q1 = (110 : Int32)) then
                (d_Ke_addItem (kerOf (v 1 3)) q1 (0 : Int32) (pd_w (pd_w v 1 2 ((v 1 2) + (1 : Int32))) 1 6 ((v 1 6) ||| (0 : Int32)))).bind fun q27 =>
                some ((1 : Int32), q27)
              else
                (d_Re_readBracket E (91 : Int32) (93 : Int32) l1 (pd_w (pd_w v 1 2 ((v 1 2) + (1 : Int32))) 1 6 ((v 1 6) ||| (0 : Int32)))).bind fun q28 =>
                bif !(decide (q28.1 = 0)) then
                  (d_Ke_addItem (kerOf (q28.2 1 3)) q1 (0 : Int32) q28.2).bind fun q30 =>
                  some ((1 : Int32), q30)
                else
                  some ((0 : Int32), q28.2)
          else
            bif decide (q1 = (76 : Int32)) then
              bif !(decide (q1 = (73 : Int32))) then
                bif decide (q1 = (110 : Int32)) then
                  (d_Ke_addItem (kerOf (v 1 3)) q1 (0 : Int32) (pd_w (pd_w v 1 2 ((v 1 2) + (1 : Int32))) 1 6 ((v 1 6) ||| (256 : Int32)))).bind fun q34 =>
                  some ((1 : Int32), q34)
                else
                  (d_Re_readBracket E (91 : Int32) (93 : Int32) l1 (pd_w (pd_w v 1 2 ((v 1 2) + (1 : Int32))) 1 6 ((v 1 6) ||| (256 : Int32)))).bind fun q35 =>
                  bif !(decide (q35.1 = 0)) then
                    (d_Ke_addItem (kerOf (q35.2 1 3)) q1 (0 : Int32) q35.2).bind fun q37 =>
                    some ((1 : Int32), q37)
                  else
                    some ((0 : Int32), q35.2)
              else
                bif decide (q1 = (110 : Int32)) then
                  (d_Ke_addItem (kerOf (v 1 3)) q1 (0 : Int32) (pd_w (pd_w v 1 2 ((v 1 2) + (1 : Int32))) 1 6 ((v 1 6) ||| (0 : Int32)))).bind fun q39 =>
                  some ((1 : Int32), q39)
                else
                  (d_Re_readBracket E (91 : Int32) (93 : Int32) l1 (pd_w (pd_w v 1 2 ((v 1 2) + (1 : Int32))) 1 6 ((v 1 6) ||| (0 : Int32)))).bind fun q40 =>
                  bif !(decide (q40.1 = 0)) then
                    (d_Ke_addItem (kerOf (q40.2 1 3)) q1 (0 : Int32) q40.2).bind fun q42 =>
                    some ((1 : Int32), q42)
                  else
                    some ((0 : Int32), q40.2)
            else
              some ((0 : Int32), v)
      else
        (d_Re_readBracket E (40 : Int32) (41 : Int32) l1 v).bind fun q43 =>
        some (q43.1, q43.2)
    else
      (d_Ke_addItem (kerOf (v 1 3)) (97 : Int32) (q1 - (97 : Int32)) (pd_w (pd_w v 1 2 ((v 1 2) + (1 : Int32))) 1 6 ((v 1 6) ||| ((1 : Int32) <<< ((q1 - (97 : Int32)) &&& 31))))).bind fun q44 =>
      some ((1 : Int32), q44)
  else
    (d_Re_readNumber w v).bind fun q45 =>
    (d_Ke_addItem (kerOf (v 1 3)) (48 : Int32) q45.1 q45.2).bind fun q46 =>
    some ((1 : Int32), q46)
theorem s_Re_readTerm {w : Nat} {E : Int32 → pd_V → Option (Int32 × pd_V)} (hE : ∀ {l1 : Int32} {v : pd_V} {q : Int32 × pd_V}, E l1 v = some q → pm_ev (pj_P xs L) (d + 3) 26 (0, [some (.ref 1), some (.int l1), none, none], [], (223, kc, ks, pd_H g v)) (.inl (some (.int q.1)), (223, kc, ks, pd_H g q.2))) (hEz : ∀ {l1 : Int32} {v : pd_V} {q : Int32 × pd_V}, E l1 v = some q → (q.1 == 0 || q.1 == 1) = true) {l1 : Int32} {v : pd_V} {q : (Int32 × pd_V)}  (h : d_Re_readTerm w E l1 v = some q) : pm_ev (pj_P xs L) (d + 5) 27 (0, [some (.ref 1), some (.int l1), none], [], (223, kc, ks, pd_H g v)) (.inl (some (.int q.1)), (223, kc, ks, pd_H g q.2)) := by
  unfold d_Re_readTerm at h
  refine ev_gos pp_Re_readTerm 1 (S' := (1, [some (.ref 1), some (.int l1), none], [.ref 1], (223, kc, ks, pd_H g v))) rfl ?_
  obtain ⟨q1, hq1, h⟩ := pd_bind h
  refine ev_callv pp_Re_readTerm rfl rfl rfl rfl (s_Re_next hq1) ?_
  refine ev_gos pp_Re_readTerm 2 (S' := (6, [some (.ref 1), some (.int l1), some (.int q1)], [.int q1], (223, kc, ks, pd_H g v))) rfl ?_
  refine ev_call pp_Re_readTerm rfl rfl rfl (s_Re_isDigit) ?_
  refine ev_gos pp_Re_readTerm 0 (S' := (9, [some (.ref 1), some (.int l1), some (.int q1)], [.int (d_Re_isDigit q1)], (223, kc, ks, pd_H g v))) rfl ?_
  refine ev_gos pp_Re_readTerm 1 (S' := (bif decide ((d_Re_isDigit q1) = 0) then 27 else 12, [some (.ref 1), some (.int l1), some (.int q1)], [], (223, kc, ks, pd_H g v))) rfl ?_
  rcases pd_cases h with ⟨hb3, h⟩ | ⟨hb3, h⟩
  · rw [hb3]
    refine ev_gos pp_Re_readTerm 1 (S' := (28, [some (.ref 1), some (.int l1), some (.int q1)], [.int q1], (223, kc, ks, pd_H g v))) rfl ?_
    refine ev_call pp_Re_readTerm rfl rfl rfl (s_Re_isVariable) ?_
    refine ev_gos pp_Re_readTerm 0 (S' := (31, [some (.ref 1), some (.int l1), some (.int q1)], [.int (d_Re_isVariable q1)], (223, kc, ks, pd_H g v))) rfl ?_
    refine ev_gos pp_Re_readTerm 1 (S' := (bif decide ((d_Re_isVariable q1) = 0) then 74 else 34, [some (.ref 1), some (.int l1), some (.int q1)], [], (223, kc, ks, pd_H g v))) rfl ?_
    rcases pd_cases h with ⟨hb5, h⟩ | ⟨hb5, h⟩
    · rw [hb5]
      refine ev_gos pp_Re_readTerm 2 (S' := (77, [some (.ref 1), some (.int l1), some (.int q1)], [.int (40 : Int32), .int q1], (223, kc, ks, pd_H g v))) rfl ?_
      refine ev_gos pp_Re_readTerm 1 (S' := (bif !(decide (q1 = (40 : Int32))) then 90 else 80, [some (.ref 1), some (.int l1), some (.int q1)], [], (223, kc, ks, pd_H g v))) rfl ?_
      rcases pd_cases h with ⟨hb6, h⟩ | ⟨hb6, h⟩
      · rw [hb6]
        refine ev_gos pp_Re_readTerm 2 (S' := (93, [some (.ref 1), some (.int l1), some (.int q1)], [.int (110 : Int32), .int q1], (223, kc, ks, pd_H g v))) rfl ?_
        refine ev_gos pp_Re_readTerm 1 (S' := (bif decide (q1 = (110 : Int32)) then 110 else 96, [some (.ref 1), some (.int l1), some (.int q1)], [], (223, kc, ks, pd_H g v))) rfl ?_
        rcases pd_cases h with ⟨hb7, h⟩ | ⟨hb7, h⟩
        · rw [hb7]
          refine ev_gos pp_Re_readTerm 5 (S' := (117, [some (.ref 1), some (.int l1), some (.int q1)], [.int ((v 1 2) + (1 : Int32)), .ref 1], (223, kc, ks, pd_H g v))) rfl ?_
          refine ev_put pp_Re_readTerm rfl (fun _ => rfl) rfl rfl rfl ?_
          refine ev_gos pp_Re_readTerm 5 (S' := (128, [some (.ref 1), some (.int l1), some (.int q1)], [.int (73 : Int32), .int q1, .int (v 1 6), .ref 1], (223, kc, ks, pd_H g (pd_w v 1 2 ((v 1 2) + (1 : Int32)))))) rfl ?_
          refine ev_gos pp_Re_readTerm 1 (S' := (bif !(decide (q1 = (73 : Int32))) then 135 else 131, [some (.ref 1), some (.int l1), some (.int q1)], [.int (v 1 6), .ref 1], (223, kc, ks, pd_H g (pd_w v 1 2 ((v 1 2) + (1 : Int32)))))) rfl ?_
          rcases pd_cases h with ⟨hb8, h⟩ | ⟨hb8, h⟩
          · rw [hb8]
            refine ev_gos pp_Re_readTerm 2 (S' := (139, [some (.ref 1), some (.int l1), some (.int q1)], [.int ((v 1 6) ||| (256 : Int32)), .ref 1], (223, kc, ks, pd_H g (pd_w v 1 2 ((v 1 2) + (1 : Int32)))))) rfl ?_
            refine ev_put pp_Re_readTerm rfl (fun _ => rfl) rfl rfl rfl ?_
            refine ev_gos pp_Re_readTerm 2 (S' := (145, [some (.ref 1), some (.int l1), some (.int q1)], [.int (110 : Int32), .int q1], (223, kc, ks, pd_H g (pd_w (pd_w v 1 2 ((v 1 2) + (1 : Int32))) 1 6 ((v 1 6) ||| (256 : Int32)))))) rfl ?_
            refine ev_gos pp_Re_readTerm 1 (S' := (bif decide (q1 = (110 : Int32)) then 162 else 148, [some (.ref 1), some (.int l1), some (.int q1)], [], (223, kc, ks, pd_H g (pd_w (pd_w v 1 2 ((v 1 2) + (1 : Int32))) 1 6 ((v 1 6) ||| (256 : Int32)))))) rfl ?_
            rcases pd_cases h with ⟨hb9, h⟩ | ⟨hb9, h⟩
            · rw [hb9]
              refine ev_gos pp_Re_readTerm 4 (S' := (168, [some (.ref 1), some (.int l1), some (.int q1)], [.int (0 : Int32), .int q1, .ref (kerOf (v 1 3))], (223, kc, ks, pd_H g (pd_w (pd_w v 1 2 ((v 1 2) + (1 : Int32))) 1 6 ((v 1 6) ||| (256 : Int32)))))) rfl ?_
              obtain ⟨q10, hq10, h⟩ := pd_bind h
              refine ev_callv pp_Re_readTerm rfl rfl (pd_isa (c_ke (ker_of _))) rfl (s_Ke_addItem (ker_of _) hq10) ?_
              refine ev_gos pp_Re_readTerm 1 (S' := (172, [some (.ref 1), some (.int l1), some (.int q1)], [.int (1 : Int32)], (223, kc, ks, pd_H g q10))) rfl ?_
              cases h
              exact ev_zret pp_Re_readTerm rfl pd_b1
            · rw [hb9]
              refine ev_gos pp_Re_readTerm 4 (S' := (154, [some (.ref 1), some (.int l1), some (.int q1)], [.int l1, .int (93 : Int32), .int (91 : Int32), .ref 1], (223, kc, ks, pd_H g (pd_w (pd_w v 1 2 ((v 1 2) + (1 : Int32))) 1 6 ((v 1 6) ||| (256 : Int32)))))) rfl ?_
              obtain ⟨q11, hq11, h⟩ := pd_bind h
              refine ev_callv pp_Re_readTerm rfl rfl rfl rfl (s_Re_readBracket hE hEz hq11) ?_
              refine ev_gos pp_Re_readTerm 0 (S' := (157, [some (.ref 1), some (.int l1), some (.int q1)], [.int q11.1], (223, kc, ks, pd_H g q11.2))) rfl ?_
              refine ev_gos pp_Re_readTerm 1 (S' := (bif !(decide (q11.1 = 0)) then 162 else 160, [some (.ref 1), some (.int l1), some (.int q1)], [], (223, kc, ks, pd_H g q11.2))) rfl ?_
              rcases pd_cases h with ⟨hb12, h⟩ | ⟨hb12, h⟩
              · rw [hb12]
                refine ev_gos pp_Re_readTerm 4 (S' := (168, [some (.ref 1), some (.int l1), some (.int q1)], [.int (0 : Int32), .int q1, .ref (kerOf (q11.2 1 3))], (223, kc, ks, pd_H g q11.2))) rfl ?_
                obtain ⟨q13, hq13, h⟩ := pd_bind h
                refine ev_callv pp_Re_readTerm rfl rfl (pd_isa (c_ke (ker_of _))) rfl (s_Ke_addItem (ker_of _) hq13) ?_
                refine ev_gos pp_Re_readTerm 1 (S' := (172, [some (.ref 1), some (.int l1), some (.int q1)], [.int (1 : Int32)], (223, kc, ks, pd_H g q13))) rfl ?_
                cases h
                exact ev_zret pp_Re_readTerm rfl pd_b1
              · rw [hb12]
                refine ev_gos pp_Re_readTerm 1 (S' := (161, [some (.ref 1), some (.int l1), some (.int q1)], [.int (0 : Int32)], (223, kc, ks, pd_H g q11.2))) rfl ?_
                cases h
                exact ev_zret pp_Re_readTerm rfl pd_b0
          · rw [hb8]
            refine ev_gos pp_Re_readTerm 3 (S' := (139, [some (.ref 1), some (.int l1), some (.int q1)], [.int ((v 1 6) ||| (0 : Int32)), .ref 1], (223, kc, ks, pd_H g (pd_w v 1 2 ((v 1 2) + (1 : Int32)))))) rfl ?_
            refine ev_put pp_Re_readTerm rfl (fun _ => rfl) rfl rfl rfl ?_
            refine ev_gos pp_Re_readTerm 2 (S' := (145, [some (.ref 1), some (.int l1), some (.int q1)], [.int (110 : Int32), .int q1], (223, kc, ks, pd_H g (pd_w (pd_w v 1 2 ((v 1 2) + (1 : Int32))) 1 6 ((v 1 6) ||| (0 : Int32)))))) rfl ?_
            refine ev_gos pp_Re_readTerm 1 (S' := (bif decide (q1 = (110 : Int32)) then 162 else 148, [some (.ref 1), some (.int l1), some (.int q1)], [], (223, kc, ks, pd_H g (pd_w (pd_w v 1 2 ((v 1 2) + (1 : Int32))) 1 6 ((v 1 6) ||| (0 : Int32)))))) rfl ?_
            rcases pd_cases h with ⟨hb14, h⟩ | ⟨hb14, h⟩
            · rw [hb14]
              refine ev_gos pp_Re_readTerm 4 (S' := (168, [some (.ref 1), some (.int l1), some (.int q1)], [.int (0 : Int32), .int q1, .ref (kerOf (v 1 3))], (223, kc, ks, pd_H g (pd_w (pd_w v 1 2 ((v 1 2) + (1 : Int32))) 1 6 ((v 1 6) ||| (0 : Int32)))))) rfl ?_
              obtain ⟨q15, hq15, h⟩ := pd_bind h
              refine ev_callv pp_Re_readTerm rfl rfl (pd_isa (c_ke (ker_of _))) rfl (s_Ke_addItem (ker_of _) hq15) ?_
              refine ev_gos pp_Re_readTerm 1 (S' := (172, [some (.ref 1), some (.int l1), some (.int q1)], [.int (1 : Int32)], (223, kc, ks, pd_H g q15))) rfl ?_
              cases h
              exact ev_zret pp_Re_readTerm rfl pd_b1
            · rw [hb14]
              refine ev_gos pp_Re_readTerm 4 (S' := (154, [some (.ref 1), some (.int l1), some (.int q1)], [.int l1, .int (93 : Int32), .int (91 : Int32), .ref 1], (223, kc, ks, pd_H g (pd_w (pd_w v 1 2 ((v 1 2) + (1 : Int32))) 1 6 ((v 1 6) ||| (0 : Int32)))))) rfl ?_
              obtain ⟨q16, hq16, h⟩ := pd_bind h
              refine ev_callv pp_Re_readTerm rfl rfl rfl rfl (s_Re_readBracket hE hEz hq16) ?_
              refine ev_gos pp_Re_readTerm 0 (S' := (157, [some (.ref 1), some (.int l1), some (.int q1)], [.int q16.1], (223, kc, ks, pd_H g q16.2))) rfl ?_
              refine ev_gos pp_Re_readTerm 1 (S' := (bif !(decide (q16.1 = 0)) then 162 else 160, [some (.ref 1), some (.int l1), some (.int q1)], [], (223, kc, ks, pd_H g q16.2))) rfl ?_
              rcases pd_cases h with ⟨hb17, h⟩ | ⟨hb17, h⟩
              · rw [hb17]
                refine ev_gos pp_Re_readTerm 4 (S' := (168, [some (.ref 1), some (.int l1), some (.int q1)], [.int (0 : Int32), .int q1, .ref (kerOf (q16.2 1 3))], (223, kc, ks, pd_H g q16.2))) rfl ?_
                obtain ⟨q18, hq18, h⟩ := pd_bind h
                refine ev_callv pp_Re_readTerm rfl rfl (pd_isa (c_ke (ker_of _))) rfl (s_Ke_addItem (ker_of _) hq18) ?_
                refine ev_gos pp_Re_readTerm 1 (S' := (172, [some (.ref 1), some (.int l1), some (.int q1)], [.int (1 : Int32)], (223, kc, ks, pd_H g q18))) rfl ?_
                cases h
                exact ev_zret pp_Re_readTerm rfl pd_b1
              · rw [hb17]
                refine ev_gos pp_Re_readTerm 1 (S' := (161, [some (.ref 1), some (.int l1), some (.int q1)], [.int (0 : Int32)], (223, kc, ks, pd_H g q16.2))) rfl ?_
                cases h
                exact ev_zret pp_Re_readTerm rfl pd_b0
        · rw [hb7]
          refine ev_gos pp_Re_readTerm 2 (S' := (99, [some (.ref 1), some (.int l1), some (.int q1)], [.int (73 : Int32), .int q1], (223, kc, ks, pd_H g v))) rfl ?_
          refine ev_gos pp_Re_readTerm 1 (S' := (bif decide (q1 = (73 : Int32)) then 110 else 102, [some (.ref 1), some (.int l1), some (.int q1)], [], (223, kc, ks, pd_H g v))) rfl ?_
          rcases pd_cases h with ⟨hb19, h⟩ | ⟨hb19, h⟩
          · rw [hb19]
            refine ev_gos pp_Re_readTerm 5 (S' := (117, [some (.ref 1), some (.int l1), some (.int q1)], [.int ((v 1 2) + (1 : Int32)), .ref 1], (223, kc, ks, pd_H g v))) rfl ?_
            refine ev_put pp_Re_readTerm rfl (fun _ => rfl) rfl rfl rfl ?_
            refine ev_gos pp_Re_readTerm 5 (S' := (128, [some (.ref 1), some (.int l1), some (.int q1)], [.int (73 : Int32), .int q1, .int (v 1 6), .ref 1], (223, kc, ks, pd_H g (pd_w v 1 2 ((v 1 2) + (1 : Int32)))))) rfl ?_
            refine ev_gos pp_Re_readTerm 1 (S' := (bif !(decide (q1 = (73 : Int32))) then 135 else 131, [some (.ref 1), some (.int l1), some (.int q1)], [.int (v 1 6), .ref 1], (223, kc, ks, pd_H g (pd_w v 1 2 ((v 1 2) + (1 : Int32)))))) rfl ?_
            rcases pd_cases h with ⟨hb20, h⟩ | ⟨hb20, h⟩
            · rw [hb20]
              refine ev_gos pp_Re_readTerm 2 (S' := (139, [some (.ref 1), some (.int l1), some (.int q1)], [.int ((v 1 6) ||| (256 : Int32)), .ref 1], (223, kc, ks, pd_H g (pd_w v 1 2 ((v 1 2) + (1 : Int32)))))) rfl ?_
              refine ev_put pp_Re_readTerm rfl (fun _ => rfl) rfl rfl rfl ?_
              refine ev_gos pp_Re_readTerm 2 (S' := (145, [some (.ref 1), some (.int l1), some (.int q1)], [.int (110 : Int32), .int q1], (223, kc, ks, pd_H g (pd_w (pd_w v 1 2 ((v 1 2) + (1 : Int32))) 1 6 ((v 1 6) ||| (256 : Int32)))))) rfl ?_
              refine ev_gos pp_Re_readTerm 1 (S' := (bif decide (q1 = (110 : Int32)) then 162 else 148, [some (.ref 1), some (.int l1), some (.int q1)], [], (223, kc, ks, pd_H g (pd_w (pd_w v 1 2 ((v 1 2) + (1 : Int32))) 1 6 ((v 1 6) ||| (256 : Int32)))))) rfl ?_
              rcases pd_cases h with ⟨hb21, h⟩ | ⟨hb21, h⟩
              · rw [hb21]
                refine ev_gos pp_Re_readTerm 4 (S' := (168, [some (.ref 1), some (.int l1), some (.int q1)], [.int (0 : Int32), .int q1, .ref (kerOf (v 1 3))], (223, kc, ks, pd_H g (pd_w (pd_w v 1 2 ((v 1 2) + (1 : Int32))) 1 6 ((v 1 6) ||| (256 : Int32)))))) rfl ?_
                obtain ⟨q22, hq22, h⟩ := pd_bind h
                refine ev_callv pp_Re_readTerm rfl rfl (pd_isa (c_ke (ker_of _))) rfl (s_Ke_addItem (ker_of _) hq22) ?_
                refine ev_gos pp_Re_readTerm 1 (S' := (172, [some (.ref 1), some (.int l1), some (.int q1)], [.int (1 : Int32)], (223, kc, ks, pd_H g q22))) rfl ?_
                cases h
                exact ev_zret pp_Re_readTerm rfl pd_b1
              · rw [hb21]
                refine ev_gos pp_Re_readTerm 4 (S' := (154, [some (.ref 1), some (.int l1), some (.int q1)], [.int l1, .int (93 : Int32), .int (91 : Int32), .ref 1], (223, kc, ks, pd_H g (pd_w (pd_w v 1 2 ((v 1 2) + (1 : Int32))) 1 6 ((v 1 6) ||| (256 : Int32)))))) rfl ?_
                obtain ⟨q23, hq23, h⟩ := pd_bind h
                refine ev_callv pp_Re_readTerm rfl rfl rfl rfl (s_Re_readBracket hE hEz hq23) ?_
                refine ev_gos pp_Re_readTerm 0 (S' := (157, [some (.ref 1), some (.int l1), some (.int q1)], [.int q23.1], (223, kc, ks, pd_H g q23.2))) rfl ?_
                refine ev_gos pp_Re_readTerm 1 (S' := (bif !(decide (q23.1 = 0)) then 162 else 160, [some (.ref 1), some (.int l1), some (.int q1)], [], (223, kc, ks, pd_H g q23.2))) rfl ?_
                rcases pd_cases h with ⟨hb24, h⟩ | ⟨hb24, h⟩
                · rw [hb24]
                  refine ev_gos pp_Re_readTerm 4 (S' := (168, [some (.ref 1), some (.int l1), some (.int q1)], [.int (0 : Int32), .int q1, .ref (kerOf (q23.2 1 3))], (223, kc, ks, pd_H g q23.2))) rfl ?_
                  obtain ⟨q25, hq25, h⟩ := pd_bind h
                  refine ev_callv pp_Re_readTerm rfl rfl (pd_isa (c_ke (ker_of _))) rfl (s_Ke_addItem (ker_of _) hq25) ?_
                  refine ev_gos pp_Re_readTerm 1 (S' := (172, [some (.ref 1), some (.int l1), some (.int q1)], [.int (1 : Int32)], (223, kc, ks, pd_H g q25))) rfl ?_
                  cases h
                  exact ev_zret pp_Re_readTerm rfl pd_b1
                · rw [hb24]
                  refine ev_gos pp_Re_readTerm 1 (S' := (161, [some (.ref 1), some (.int l1), some (.int q1)], [.int (0 : Int32)], (223, kc, ks, pd_H g q23.2))) rfl ?_
                  cases h
                  exact ev_zret pp_Re_readTerm rfl pd_b0
            · rw [hb20]
              refine ev_gos pp_Re_readTerm 3 (S' := (139, [some (.ref 1), some (.int l1), some (.int q1)], [.int ((v 1 6) ||| (0 : Int32)), .ref 1], (223, kc, ks, pd_H g (pd_w v 1 2 ((v 1 2) + (1 : Int32)))))) rfl ?_
              refine ev_put pp_Re_readTerm rfl (fun _ => rfl) rfl rfl rfl ?_
              refine ev_gos pp_Re_readTerm 2 (S' := (145, [some (.ref 1), some (.int l1), some (.int q1)], [.int (110 : Int32), .int q1], (223, kc, ks, pd_H g (pd_w (pd_w v 1 2 ((v 1 2) + (1 : Int32))) 1 6 ((v 1 6) ||| (0 : Int32)))))) rfl ?_
              refine ev_gos pp_Re_readTerm 1 (S' := (bif decide (q1 = (110 : Int32)) then 162 else 148, [some (.ref 1), some (.int l1), some (.int q1)], [], (223, kc, ks, pd_H g (pd_w (pd_w v 1 2 ((v 1 2) + (1 : Int32))) 1 6 ((v 1 6) ||| (0 : Int32)))))) rfl ?_
              rcases pd_cases h with ⟨hb26, h⟩ | ⟨hb26, h⟩
              · rw [hb26]
                refine ev_gos pp_Re_readTerm 4 (S' := (168, [some (.ref 1), some (.int l1), some (.int q1)], [.int (0 : Int32), .int q1, .ref (kerOf (v 1 3))], (223, kc, ks, pd_H g (pd_w (pd_w v 1 2 ((v 1 2) + (1 : Int32))) 1 6 ((v 1 6) ||| (0 : Int32)))))) rfl ?_
                obtain ⟨q27, hq27, h⟩ := pd_bind h
                refine ev_callv pp_Re_readTerm rfl rfl (pd_isa (c_ke (ker_of _))) rfl (s_Ke_addItem (ker_of _) hq27) ?_
                refine ev_gos pp_Re_readTerm 1 (S' := (172, [some (.ref 1), some (.int l1), some (.int q1)], [.int (1 : Int32)], (223, kc, ks, pd_H g q27))) rfl ?_
                cases h
                exact ev_zret pp_Re_readTerm rfl pd_b1
              · rw [hb26]
                refine ev_gos pp_Re_readTerm 4 (S' := (154, [some (.ref 1), some (.int l1), some (.int q1)], [.int l1, .int (93 : Int32), .int (91 : Int32), .ref 1], (223, kc, ks, pd_H g (pd_w (pd_w v 1 2 ((v 1 2) + (1 : Int32))) 1 6 ((v 1 6) ||| (0 : Int32)))))) rfl ?_
                obtain ⟨q28, hq28, h⟩ := pd_bind h
                refine ev_callv pp_Re_readTerm rfl rfl rfl rfl (s_Re_readBracket hE hEz hq28) ?_
                refine ev_gos pp_Re_readTerm 0 (S' := (157, [some (.ref 1), some (.int l1), some (.int q1)], [.int q28.1], (223, kc, ks, pd_H g q28.2))) rfl ?_
                refine ev_gos pp_Re_readTerm 1 (S' := (bif !(decide (q28.1 = 0)) then 162 else 160, [some (.ref 1), some (.int l1), some (.int q1)], [], (223, kc, ks, pd_H g q28.2))) rfl ?_
                rcases pd_cases h with ⟨hb29, h⟩ | ⟨hb29, h⟩
                · rw [hb29]
                  refine ev_gos pp_Re_readTerm 4 (S' := (168, [some (.ref 1), some (.int l1), some (.int q1)], [.int (0 : Int32), .int q1, .ref (kerOf (q28.2 1 3))], (223, kc, ks, pd_H g q28.2))) rfl ?_
                  obtain ⟨q30, hq30, h⟩ := pd_bind h
                  refine ev_callv pp_Re_readTerm rfl rfl (pd_isa (c_ke (ker_of _))) rfl (s_Ke_addItem (ker_of _) hq30) ?_
                  refine ev_gos pp_Re_readTerm 1 (S' := (172, [some (.ref 1), some (.int l1), some (.int q1)], [.int (1 : Int32)], (223, kc, ks, pd_H g q30))) rfl ?_
                  cases h
                  exact ev_zret pp_Re_readTerm rfl pd_b1
                · rw [hb29]
                  refine ev_gos pp_Re_readTerm 1 (S' := (161, [some (.ref 1), some (.int l1), some (.int q1)], [.int (0 : Int32)], (223, kc, ks, pd_H g q28.2))) rfl ?_
                  cases h
                  exact ev_zret pp_Re_readTerm rfl pd_b0
          · rw [hb19]
            refine ev_gos pp_Re_readTerm 2 (S' := (105, [some (.ref 1), some (.int l1), some (.int q1)], [.int (76 : Int32), .int q1], (223, kc, ks, pd_H g v))) rfl ?_
            refine ev_gos pp_Re_readTerm 1 (S' := (bif decide (q1 = (76 : Int32)) then 110 else 108, [some (.ref 1), some (.int l1), some (.int q1)], [], (223, kc, ks, pd_H g v))) rfl ?_
            rcases pd_cases h with ⟨hb31, h⟩ | ⟨hb31, h⟩
            · rw [hb31]
              refine ev_gos pp_Re_readTerm 5 (S' := (117, [some (.ref 1), some (.int l1), some (.int q1)], [.int ((v 1 2) + (1 : Int32)), .ref 1], (223, kc, ks, pd_H g v))) rfl ?_
              refine ev_put pp_Re_readTerm rfl (fun _ => rfl) rfl rfl rfl ?_
              refine ev_gos pp_Re_readTerm 5 (S' := (128, [some (.ref 1), some (.int l1), some (.int q1)], [.int (73 : Int32), .int q1, .int (v 1 6), .ref 1], (223, kc, ks, pd_H g (pd_w v 1 2 ((v 1 2) + (1 : Int32)))))) rfl ?_
              refine ev_gos pp_Re_readTerm 1 (S' := (bif !(decide (q1 = (73 : Int32))) then 135 else 131, [some (.ref 1), some (.int l1), some (.int q1)], [.int (v 1 6), .ref 1], (223, kc, ks, pd_H g (pd_w v 1 2 ((v 1 2) + (1 : Int32)))))) rfl ?_
              rcases pd_cases h with ⟨hb32, h⟩ | ⟨hb32, h⟩
              · rw [hb32]
                refine ev_gos pp_Re_readTerm 2 (S' := (139, [some (.ref 1), some (.int l1), some (.int q1)], [.int ((v 1 6) ||| (256 : Int32)), .ref 1], (223, kc, ks, pd_H g (pd_w v 1 2 ((v 1 2) + (1 : Int32)))))) rfl ?_
                refine ev_put pp_Re_readTerm rfl (fun _ => rfl) rfl rfl rfl ?_
                refine ev_gos pp_Re_readTerm 2 (S' := (145, [some (.ref 1), some (.int l1), some (.int q1)], [.int (110 : Int32), .int q1], (223, kc, ks, pd_H g (pd_w (pd_w v 1 2 ((v 1 2) + (1 : Int32))) 1 6 ((v 1 6) ||| (256 : Int32)))))) rfl ?_
                refine ev_gos pp_Re_readTerm 1 (S' := (bif decide (q1 = (110 : Int32)) then 162 else 148, [some (.ref 1), some (.int l1), some (.int q1)], [], (223, kc, ks, pd_H g (pd_w (pd_w v 1 2 ((v 1 2) + (1 : Int32))) 1 6 ((v 1 6) ||| (256 : Int32)))))) rfl ?_
                rcases pd_cases h with ⟨hb33, h⟩ | ⟨hb33, h⟩
                · rw [hb33]
                  refine ev_gos pp_Re_readTerm 4 (S' := (168, [some (.ref 1), some (.int l1), some (.int q1)], [.int (0 : Int32), .int q1, .ref (kerOf (v 1 3))], (223, kc, ks, pd_H g (pd_w (pd_w v 1 2 ((v 1 2) + (1 : Int32))) 1 6 ((v 1 6) ||| (256 : Int32)))))) rfl ?_
                  obtain ⟨q34, hq34, h⟩ := pd_bind h
                  refine ev_callv pp_Re_readTerm rfl rfl (pd_isa (c_ke (ker_of _))) rfl (s_Ke_addItem (ker_of _) hq34) ?_
                  refine ev_gos pp_Re_readTerm 1 (S' := (172, [some (.ref 1), some (.int l1), some (.int q1)], [.int (1 : Int32)], (223, kc, ks, pd_H g q34))) rfl ?_
                  cases h
                  exact ev_zret pp_Re_readTerm rfl pd_b1
                · rw [hb33]
                  refine ev_gos pp_Re_readTerm 4 (S' := (154, [some (.ref 1), some (.int l1), some (.int q1)], [.int l1, .int (93 : Int32), .int (91 : Int32), .ref 1], (223, kc, ks, pd_H g (pd_w (pd_w v 1 2 ((v 1 2) + (1 : Int32))) 1 6 ((v 1 6) ||| (256 : Int32)))))) rfl ?_
                  obtain ⟨q35, hq35, h⟩ := pd_bind h
                  refine ev_callv pp_Re_readTerm rfl rfl rfl rfl (s_Re_readBracket hE hEz hq35) ?_
                  refine ev_gos pp_Re_readTerm 0 (S' := (157, [some (.ref 1), some (.int l1), some (.int q1)], [.int q35.1], (223, kc, ks, pd_H g q35.2))) rfl ?_
                  refine ev_gos pp_Re_readTerm 1 (S' := (bif !(decide (q35.1 = 0)) then 162 else 160, [some (.ref 1), some (.int l1), some (.int q1)], [], (223, kc, ks, pd_H g q35.2))) rfl ?_
                  rcases pd_cases h with ⟨hb36, h⟩ | ⟨hb36, h⟩
                  · rw [hb36]
                    refine ev_gos pp_Re_readTerm 4 (S' := (168, [some (.ref 1), some (.int l1), some (.int q1)], [.int (0 : Int32), .int q1, .ref (kerOf (q35.2 1 3))], (223, kc, ks, pd_H g q35.2))) rfl ?_
                    obtain ⟨q37, hq37, h⟩ := pd_bind h
                    refine ev_callv pp_Re_readTerm rfl rfl (pd_isa (c_ke (ker_of _))) rfl (s_Ke_addItem (ker_of _) hq37) ?_
                    refine ev_gos pp_Re_readTerm 1 (S' := (172, [some (.ref 1), some (.int l1), some (.int q1)], [.int (1 : Int32)], (223, kc, ks, pd_H g q37))) rfl ?_
                    cases h
                    exact ev_zret pp_Re_readTerm rfl pd_b1
                  · rw [hb36]
                    refine ev_gos pp_Re_readTerm 1 (S' := (161, [some (.ref 1), some (.int l1), some (.int q1)], [.int (0 : Int32)], (223, kc, ks, pd_H g q35.2))) rfl ?_
                    cases h
                    exact ev_zret pp_Re_readTerm rfl pd_b0
              · rw [hb32]
                refine ev_gos pp_Re_readTerm 3 (S' := (139, [some (.ref 1), some (.int l1), some (.int q1)], [.int ((v 1 6) ||| (0 : Int32)), .ref 1], (223, kc, ks, pd_H g (pd_w v 1 2 ((v 1 2) + (1 : Int32)))))) rfl ?_
                refine ev_put pp_Re_readTerm rfl (fun _ => rfl) rfl rfl rfl ?_
                refine ev_gos pp_Re_readTerm 2 (S' := (145, [some (.ref 1), some (.int l1), some (.int q1)], [.int (110 : Int32), .int q1], (223, kc, ks, pd_H g (pd_w (pd_w v 1 2 ((v 1 2) + (1 : Int32))) 1 6 ((v 1 6) ||| (0 : Int32)))))) rfl ?_
                refine ev_gos pp_Re_readTerm 1 (S' := (bif decide (q1 = (110 : Int32)) then 162 else 148, [some (.ref 1), some (.int l1), some (.int q1)], [], (223, kc, ks, pd_H g (pd_w (pd_w v 1 2 ((v 1 2) + (1 : Int32))) 1 6 ((v 1 6) ||| (0 : Int32)))))) rfl ?_
                rcases pd_cases h with ⟨hb38, h⟩ | ⟨hb38, h⟩
                · rw [hb38]
                  refine ev_gos pp_Re_readTerm 4 (S' := (168, [some (.ref 1), some (.int l1), some (.int q1)], [.int (0 : Int32), .int q1, .ref (kerOf (v 1 3))], (223, kc, ks, pd_H g (pd_w (pd_w v 1 2 ((v 1 2) + (1 : Int32))) 1 6 ((v 1 6) ||| (0 : Int32)))))) rfl ?_
                  obtain ⟨q39, hq39, h⟩ := pd_bind h
                  refine ev_callv pp_Re_readTerm rfl rfl (pd_isa (c_ke (ker_of _))) rfl (s_Ke_addItem (ker_of _) hq39) ?_
                  refine ev_gos pp_Re_readTerm 1 (S' := (172, [some (.ref 1), some (.int l1), some (.int q1)], [.int (1 : Int32)], (223, kc, ks, pd_H g q39))) rfl ?_
                  cases h
                  exact ev_zret pp_Re_readTerm rfl pd_b1
                · rw [hb38]
                  refine ev_gos pp_Re_readTerm 4 (S' := (154, [some (.ref 1), some (.int l1), some (.int q1)], [.int l1, .int (93 : Int32), .int (91 : Int32), .ref 1], (223, kc, ks, pd_H g (pd_w (pd_w v 1 2 ((v 1 2) + (1 : Int32))) 1 6 ((v 1 6) ||| (0 : Int32)))))) rfl ?_
                  obtain ⟨q40, hq40, h⟩ := pd_bind h
                  refine ev_callv pp_Re_readTerm rfl rfl rfl rfl (s_Re_readBracket hE hEz hq40) ?_
                  refine ev_gos pp_Re_readTerm 0 (S' := (157, [some (.ref 1), some (.int l1), some (.int q1)], [.int q40.1], (223, kc, ks, pd_H g q40.2))) rfl ?_
                  refine ev_gos pp_Re_readTerm 1 (S' := (bif !(decide (q40.1 = 0)) then 162 else 160, [some (.ref 1), some (.int l1), some (.int q1)], [], (223, kc, ks, pd_H g q40.2))) rfl ?_
                  rcases pd_cases h with ⟨hb41, h⟩ | ⟨hb41, h⟩
                  · rw [hb41]
                    refine ev_gos pp_Re_readTerm 4 (S' := (168, [some (.ref 1), some (.int l1), some (.int q1)], [.int (0 : Int32), .int q1, .ref (kerOf (q40.2 1 3))], (223, kc, ks, pd_H g q40.2))) rfl ?_
                    obtain ⟨q42, hq42, h⟩ := pd_bind h
                    refine ev_callv pp_Re_readTerm rfl rfl (pd_isa (c_ke (ker_of _))) rfl (s_Ke_addItem (ker_of _) hq42) ?_
                    refine ev_gos pp_Re_readTerm 1 (S' := (172, [some (.ref 1), some (.int l1), some (.int q1)], [.int (1 : Int32)], (223, kc, ks, pd_H g q42))) rfl ?_
                    cases h
                    exact ev_zret pp_Re_readTerm rfl pd_b1
                  · rw [hb41]
                    refine ev_gos pp_Re_readTerm 1 (S' := (161, [some (.ref 1), some (.int l1), some (.int q1)], [.int (0 : Int32)], (223, kc, ks, pd_H g q40.2))) rfl ?_
                    cases h
                    exact ev_zret pp_Re_readTerm rfl pd_b0
            · rw [hb31]
              refine ev_gos pp_Re_readTerm 1 (S' := (109, [some (.ref 1), some (.int l1), some (.int q1)], [.int (0 : Int32)], (223, kc, ks, pd_H g v))) rfl ?_
              cases h
              exact ev_zret pp_Re_readTerm rfl pd_b0
      · rw [hb6]
        refine ev_gos pp_Re_readTerm 4 (S' := (86, [some (.ref 1), some (.int l1), some (.int q1)], [.int l1, .int (41 : Int32), .int (40 : Int32), .ref 1], (223, kc, ks, pd_H g v))) rfl ?_
        obtain ⟨q43, hq43, h⟩ := pd_bind h
        refine ev_callv pp_Re_readTerm rfl rfl rfl rfl (s_Re_readBracket hE hEz hq43) ?_
        refine ev_gos pp_Re_readTerm 0 (S' := (89, [some (.ref 1), some (.int l1), some (.int q1)], [.int q43.1], (223, kc, ks, pd_H g q43.2))) rfl ?_
        cases h
        exact ev_zret pp_Re_readTerm rfl (z_Re_readBracket hEz hq43)
    · rw [hb5]
      refine ev_gos pp_Re_readTerm 5 (S' := (41, [some (.ref 1), some (.int l1), some (.int q1)], [.int ((v 1 2) + (1 : Int32)), .ref 1], (223, kc, ks, pd_H g v))) rfl ?_
      refine ev_put pp_Re_readTerm rfl (fun _ => rfl) rfl rfl rfl ?_
      refine ev_gos pp_Re_readTerm 9 (S' := (56, [some (.ref 1), some (.int l1), some (.int q1)], [.int ((v 1 6) ||| ((1 : Int32) <<< ((q1 - (97 : Int32)) &&& 31))), .ref 1], (223, kc, ks, pd_H g (pd_w v 1 2 ((v 1 2) + (1 : Int32)))))) rfl ?_
      refine ev_put pp_Re_readTerm rfl (fun _ => rfl) rfl rfl rfl ?_
      refine ev_gos pp_Re_readTerm 6 (S' := (69, [some (.ref 1), some (.int l1), some (.int q1)], [.int (q1 - (97 : Int32)), .int (97 : Int32), .ref (kerOf (v 1 3))], (223, kc, ks, pd_H g (pd_w (pd_w v 1 2 ((v 1 2) + (1 : Int32))) 1 6 ((v 1 6) ||| ((1 : Int32) <<< ((q1 - (97 : Int32)) &&& 31))))))) rfl ?_
      obtain ⟨q44, hq44, h⟩ := pd_bind h
      refine ev_callv pp_Re_readTerm rfl rfl (pd_isa (c_ke (ker_of _))) rfl (s_Ke_addItem (ker_of _) hq44) ?_
      refine ev_gos pp_Re_readTerm 1 (S' := (73, [some (.ref 1), some (.int l1), some (.int q1)], [.int (1 : Int32)], (223, kc, ks, pd_H g q44))) rfl ?_
      cases h
      exact ev_zret pp_Re_readTerm rfl pd_b1
  · rw [hb3]
    refine ev_gos pp_Re_readTerm 4 (S' := (19, [some (.ref 1), some (.int l1), some (.int q1)], [.ref 1, .int (48 : Int32), .ref (kerOf (v 1 3))], (223, kc, ks, pd_H g v))) rfl ?_
    obtain ⟨q45, hq45, h⟩ := pd_bind h
    refine ev_callv pp_Re_readTerm rfl rfl rfl rfl (s_Re_readNumber hq45) ?_
    refine ev_gos pp_Re_readTerm 0 (S' := (22, [some (.ref 1), some (.int l1), some (.int q1)], [.int q45.1, .int (48 : Int32), .ref (kerOf (v 1 3))], (223, kc, ks, pd_H g q45.2))) rfl ?_
    obtain ⟨q46, hq46, h⟩ := pd_bind h
    refine ev_callv pp_Re_readTerm rfl rfl (pd_isa (c_ke (ker_of _))) rfl (s_Ke_addItem (ker_of _) hq46) ?_
    refine ev_gos pp_Re_readTerm 1 (S' := (26, [some (.ref 1), some (.int l1), some (.int q1)], [.int (1 : Int32)], (223, kc, ks, pd_H g q46))) rfl ?_
    cases h
    exact ev_zret pp_Re_readTerm rfl pd_b1
theorem z_Re_readTerm {w : Nat} {E : Int32 → pd_V → Option (Int32 × pd_V)} (hEz : ∀ {l1 : Int32} {v : pd_V} {q : Int32 × pd_V}, E l1 v = some q → (q.1 == 0 || q.1 == 1) = true) {l1 : Int32} {v : pd_V} {q : (Int32 × pd_V)}  (h : d_Re_readTerm w E l1 v = some q) : (q.1 == 0 || q.1 == 1) = true := by
  unfold d_Re_readTerm at h
  obtain ⟨q1, hq1, h⟩ := pd_bind h
  rcases pd_cases h with ⟨hb3, h⟩ | ⟨hb3, h⟩
  · rcases pd_cases h with ⟨hb5, h⟩ | ⟨hb5, h⟩
    · rcases pd_cases h with ⟨hb6, h⟩ | ⟨hb6, h⟩
      · rcases pd_cases h with ⟨hb7, h⟩ | ⟨hb7, h⟩
        · rcases pd_cases h with ⟨hb8, h⟩ | ⟨hb8, h⟩
          · rcases pd_cases h with ⟨hb9, h⟩ | ⟨hb9, h⟩
            · obtain ⟨q10, hq10, h⟩ := pd_bind h
              cases h
              exact pd_b1
            · obtain ⟨q11, hq11, h⟩ := pd_bind h
              rcases pd_cases h with ⟨hb12, h⟩ | ⟨hb12, h⟩
              · obtain ⟨q13, hq13, h⟩ := pd_bind h
                cases h
                exact pd_b1
              · cases h
                exact pd_b0
          · rcases pd_cases h with ⟨hb14, h⟩ | ⟨hb14, h⟩
            · obtain ⟨q15, hq15, h⟩ := pd_bind h
              cases h
              exact pd_b1
            · obtain ⟨q16, hq16, h⟩ := pd_bind h
              rcases pd_cases h with ⟨hb17, h⟩ | ⟨hb17, h⟩
              · obtain ⟨q18, hq18, h⟩ := pd_bind h
                cases h
                exact pd_b1
              · cases h
                exact pd_b0
        · rcases pd_cases h with ⟨hb19, h⟩ | ⟨hb19, h⟩
          · rcases pd_cases h with ⟨hb20, h⟩ | ⟨hb20, h⟩
            · rcases pd_cases h with ⟨hb21, h⟩ | ⟨hb21, h⟩
              · obtain ⟨q22, hq22, h⟩ := pd_bind h
                cases h
                exact pd_b1
              · obtain ⟨q23, hq23, h⟩ := pd_bind h
                rcases pd_cases h with ⟨hb24, h⟩ | ⟨hb24, h⟩
                · obtain ⟨q25, hq25, h⟩ := pd_bind h
                  cases h
                  exact pd_b1
                · cases h
                  exact pd_b0
            · rcases pd_cases h with ⟨hb26, h⟩ | ⟨hb26, h⟩
              · obtain ⟨q27, hq27, h⟩ := pd_bind h
                cases h
                exact pd_b1
              · obtain ⟨q28, hq28, h⟩ := pd_bind h
                rcases pd_cases h with ⟨hb29, h⟩ | ⟨hb29, h⟩
                · obtain ⟨q30, hq30, h⟩ := pd_bind h
                  cases h
                  exact pd_b1
                · cases h
                  exact pd_b0
          · rcases pd_cases h with ⟨hb31, h⟩ | ⟨hb31, h⟩
            · rcases pd_cases h with ⟨hb32, h⟩ | ⟨hb32, h⟩
              · rcases pd_cases h with ⟨hb33, h⟩ | ⟨hb33, h⟩
                · obtain ⟨q34, hq34, h⟩ := pd_bind h
                  cases h
                  exact pd_b1
                · obtain ⟨q35, hq35, h⟩ := pd_bind h
                  rcases pd_cases h with ⟨hb36, h⟩ | ⟨hb36, h⟩
                  · obtain ⟨q37, hq37, h⟩ := pd_bind h
                    cases h
                    exact pd_b1
                  · cases h
                    exact pd_b0
              · rcases pd_cases h with ⟨hb38, h⟩ | ⟨hb38, h⟩
                · obtain ⟨q39, hq39, h⟩ := pd_bind h
                  cases h
                  exact pd_b1
                · obtain ⟨q40, hq40, h⟩ := pd_bind h
                  rcases pd_cases h with ⟨hb41, h⟩ | ⟨hb41, h⟩
                  · obtain ⟨q42, hq42, h⟩ := pd_bind h
                    cases h
                    exact pd_b1
                  · cases h
                    exact pd_b0
            · cases h
              exact pd_b0
      · obtain ⟨q43, hq43, h⟩ := pd_bind h
        cases h
        exact (z_Re_readBracket hEz hq43)
    · obtain ⟨q44, hq44, h⟩ := pd_bind h
      cases h
      exact pd_b1
  · obtain ⟨q45, hq45, h⟩ := pd_bind h
    obtain ⟨q46, hq46, h⟩ := pd_bind h
    cases h
    exact pd_b1
theorem pp_Re_isOperator {xs : Nat → Int32} {L : Nat} : (pj_P xs L 32).1 = fun S => pm_look tb_Re_isOperator S.1 S := rfl
def d_Re_isOperator (l0 : Int32)  : Int32 :=
  bif decide (l0 = (43 : Int32)) then
    (1 : Int32)
  else
    bif decide (l0 = (45 : Int32)) then
      (1 : Int32)
    else
      bif decide (l0 = (42 : Int32)) then
        (1 : Int32)
      else
        bif decide (l0 = (60 : Int32)) then
          (1 : Int32)
        else
          bif decide (l0 = (61 : Int32)) then
            (1 : Int32)
          else
            bif !(decide (l0 = (38 : Int32))) then
              (0 : Int32)
            else
              (1 : Int32)
theorem s_Re_isOperator {l0 : Int32} {v : pd_V}  : pm_ev (pj_P xs L) d 32 (0, [some (.int l0)], [], (223, kc, ks, pd_H g v)) (.inl (some (.int (d_Re_isOperator l0))), (223, kc, ks, pd_H g v)) := by
  unfold d_Re_isOperator
  refine ev_gos pp_Re_isOperator 2 (S' := (3, [some (.int l0)], [.int (43 : Int32), .int l0], (223, kc, ks, pd_H g v))) rfl ?_
  refine ev_gos pp_Re_isOperator 1 (S' := (bif decide (l0 = (43 : Int32)) then 36 else 6, [some (.int l0)], [], (223, kc, ks, pd_H g v))) rfl ?_
  cases hb1 : (decide (l0 = (43 : Int32)))
  · refine ev_gos pp_Re_isOperator 2 (S' := (9, [some (.int l0)], [.int (45 : Int32), .int l0], (223, kc, ks, pd_H g v))) rfl ?_
    refine ev_gos pp_Re_isOperator 1 (S' := (bif decide (l0 = (45 : Int32)) then 36 else 12, [some (.int l0)], [], (223, kc, ks, pd_H g v))) rfl ?_
    cases hb2 : (decide (l0 = (45 : Int32)))
    · refine ev_gos pp_Re_isOperator 2 (S' := (15, [some (.int l0)], [.int (42 : Int32), .int l0], (223, kc, ks, pd_H g v))) rfl ?_
      refine ev_gos pp_Re_isOperator 1 (S' := (bif decide (l0 = (42 : Int32)) then 36 else 18, [some (.int l0)], [], (223, kc, ks, pd_H g v))) rfl ?_
      cases hb3 : (decide (l0 = (42 : Int32)))
      · refine ev_gos pp_Re_isOperator 2 (S' := (21, [some (.int l0)], [.int (60 : Int32), .int l0], (223, kc, ks, pd_H g v))) rfl ?_
        refine ev_gos pp_Re_isOperator 1 (S' := (bif decide (l0 = (60 : Int32)) then 36 else 24, [some (.int l0)], [], (223, kc, ks, pd_H g v))) rfl ?_
        cases hb4 : (decide (l0 = (60 : Int32)))
        · refine ev_gos pp_Re_isOperator 2 (S' := (27, [some (.int l0)], [.int (61 : Int32), .int l0], (223, kc, ks, pd_H g v))) rfl ?_
          refine ev_gos pp_Re_isOperator 1 (S' := (bif decide (l0 = (61 : Int32)) then 36 else 30, [some (.int l0)], [], (223, kc, ks, pd_H g v))) rfl ?_
          cases hb5 : (decide (l0 = (61 : Int32)))
          · refine ev_gos pp_Re_isOperator 2 (S' := (33, [some (.int l0)], [.int (38 : Int32), .int l0], (223, kc, ks, pd_H g v))) rfl ?_
            refine ev_gos pp_Re_isOperator 1 (S' := (bif !(decide (l0 = (38 : Int32))) then 40 else 36, [some (.int l0)], [], (223, kc, ks, pd_H g v))) rfl ?_
            cases hb6 : (!(decide (l0 = (38 : Int32))))
            · refine ev_gos pp_Re_isOperator 2 (S' := (41, [some (.int l0)], [.int (1 : Int32)], (223, kc, ks, pd_H g v))) rfl ?_
              exact ev_zret pp_Re_isOperator rfl pd_b1
            · refine ev_gos pp_Re_isOperator 1 (S' := (41, [some (.int l0)], [.int (0 : Int32)], (223, kc, ks, pd_H g v))) rfl ?_
              exact ev_zret pp_Re_isOperator rfl pd_b0
          · refine ev_gos pp_Re_isOperator 2 (S' := (41, [some (.int l0)], [.int (1 : Int32)], (223, kc, ks, pd_H g v))) rfl ?_
            exact ev_zret pp_Re_isOperator rfl pd_b1
        · refine ev_gos pp_Re_isOperator 2 (S' := (41, [some (.int l0)], [.int (1 : Int32)], (223, kc, ks, pd_H g v))) rfl ?_
          exact ev_zret pp_Re_isOperator rfl pd_b1
      · refine ev_gos pp_Re_isOperator 2 (S' := (41, [some (.int l0)], [.int (1 : Int32)], (223, kc, ks, pd_H g v))) rfl ?_
        exact ev_zret pp_Re_isOperator rfl pd_b1
    · refine ev_gos pp_Re_isOperator 2 (S' := (41, [some (.int l0)], [.int (1 : Int32)], (223, kc, ks, pd_H g v))) rfl ?_
      exact ev_zret pp_Re_isOperator rfl pd_b1
  · refine ev_gos pp_Re_isOperator 2 (S' := (41, [some (.int l0)], [.int (1 : Int32)], (223, kc, ks, pd_H g v))) rfl ?_
    exact ev_zret pp_Re_isOperator rfl pd_b1
theorem z_Re_isOperator {l0 : Int32}   : (d_Re_isOperator l0 == 0 || d_Re_isOperator l0 == 1) = true := by
  unfold d_Re_isOperator
  cases hb1 : (decide (l0 = (43 : Int32)))
  · cases hb2 : (decide (l0 = (45 : Int32)))
    · cases hb3 : (decide (l0 = (42 : Int32)))
      · cases hb4 : (decide (l0 = (60 : Int32)))
        · cases hb5 : (decide (l0 = (61 : Int32)))
          · cases hb6 : (!(decide (l0 = (38 : Int32))))
            · exact pd_b1
            · exact pd_b0
          · exact pd_b1
        · exact pd_b1
      · exact pd_b1
    · exact pd_b1
  · exact pd_b1
theorem pp_Re_readExpression {xs : Nat → Int32} {L : Nat} : (pj_P xs L 26).1 = fun S => pm_look tb_Re_readExpression S.1 S := rfl
def d_Re_readExpression_12 (w : Nat) (E : Int32 → pd_V → Option (Int32 × pd_V)) (f : Nat) (l1 : Int32) (l2 : Int32) (v : pd_V) : Option (Int32 × pd_V) := match f with
  | 0 => none
  | f + 1 =>
    bif decide ((v 1 1) ≤ l2) then
      some ((1 : Int32), v)
    else
      (d_Re_next v).bind fun q2 =>
      bif !(decide ((d_Re_isOperator q2) = 0)) then
        (d_Re_readTerm w E l1 (pd_w v 1 2 ((v 1 2) + (1 : Int32)))).bind fun q5 =>
        bif !(decide (q5.1 = 0)) then
          (d_Ke_addItem (kerOf (q5.2 1 3)) q2 (0 : Int32) q5.2).bind fun q7 =>
          d_Re_readExpression_12 w E f l1 (l2 + (1 : Int32)) q7
        else
          some ((0 : Int32), q5.2)
      else
        some ((1 : Int32), v)
theorem s_Re_readExpression_12 {w : Nat} {E : Int32 → pd_V → Option (Int32 × pd_V)} (hE : ∀ {l1 : Int32} {v : pd_V} {q : Int32 × pd_V}, E l1 v = some q → pm_ev (pj_P xs L) (d + 3) 26 (0, [some (.ref 1), some (.int l1), none, none], [], (223, kc, ks, pd_H g v)) (.inl (some (.int q.1)), (223, kc, ks, pd_H g q.2))) (hEz : ∀ {l1 : Int32} {v : pd_V} {q : Int32 × pd_V}, E l1 v = some q → (q.1 == 0 || q.1 == 1) = true) : ∀ (f : Nat) (l1 : Int32) (l2 : Int32) (v : pd_V) (y3 : Option Value) (q : (Int32 × pd_V)) , d_Re_readExpression_12 w E f l1 l2 v = some q → pm_ev (pj_P xs L) (d + 6) 26 (12, [some (.ref 1), some (.int l1), some (.int l2), y3], [], (223, kc, ks, pd_H g v)) (.inl (some (.int q.1)), (223, kc, ks, pd_H g q.2)) := by
  intro f
  induction f with
  | zero => intro l1 l2 v y3 q h; exact nomatch (show (none : Option (Int32 × pd_V)) = some q from h)
  | succ f ih =>
    intro l1 l2 v y3 q h
    rw [d_Re_readExpression_12] at h
    refine ev_gos pp_Re_readExpression 3 (S' := (17, [some (.ref 1), some (.int l1), some (.int l2), y3], [.int (v 1 1), .int l2], (223, kc, ks, pd_H g v))) rfl ?_
    refine ev_gos pp_Re_readExpression 1 (S' := (bif decide ((v 1 1) ≤ l2) then 69 else 20, [some (.ref 1), some (.int l1), some (.int l2), y3], [], (223, kc, ks, pd_H g v))) rfl ?_
    rcases pd_cases h with ⟨hb1, h⟩ | ⟨hb1, h⟩
    · rw [hb1]
      refine ev_gos pp_Re_readExpression 1 (S' := (70, [some (.ref 1), some (.int l1), some (.int l2), y3], [.int (1 : Int32)], (223, kc, ks, pd_H g v))) rfl ?_
      cases h
      exact ev_zret pp_Re_readExpression rfl pd_b1
    · rw [hb1]
      refine ev_gos pp_Re_readExpression 1 (S' := (21, [some (.ref 1), some (.int l1), some (.int l2), y3], [.ref 1], (223, kc, ks, pd_H g v))) rfl ?_
      obtain ⟨q2, hq2, h⟩ := pd_bind h
      refine ev_callv pp_Re_readExpression rfl rfl rfl rfl (s_Re_next hq2) ?_
      refine ev_gos pp_Re_readExpression 2 (S' := (26, [some (.ref 1), some (.int l1), some (.int l2), some (.int q2)], [.int q2], (223, kc, ks, pd_H g v))) rfl ?_
      refine ev_call pp_Re_readExpression rfl rfl rfl (s_Re_isOperator) ?_
      refine ev_gos pp_Re_readExpression 0 (S' := (29, [some (.ref 1), some (.int l1), some (.int l2), some (.int q2)], [.int (d_Re_isOperator q2)], (223, kc, ks, pd_H g v))) rfl ?_
      refine ev_gos pp_Re_readExpression 1 (S' := (bif !(decide ((d_Re_isOperator q2) = 0)) then 34 else 32, [some (.ref 1), some (.int l1), some (.int l2), some (.int q2)], [], (223, kc, ks, pd_H g v))) rfl ?_
      rcases pd_cases h with ⟨hb4, h⟩ | ⟨hb4, h⟩
      · rw [hb4]
        refine ev_gos pp_Re_readExpression 5 (S' := (41, [some (.ref 1), some (.int l1), some (.int l2), some (.int q2)], [.int ((v 1 2) + (1 : Int32)), .ref 1], (223, kc, ks, pd_H g v))) rfl ?_
        refine ev_put pp_Re_readExpression rfl (fun _ => rfl) rfl rfl rfl ?_
        refine ev_gos pp_Re_readExpression 2 (S' := (46, [some (.ref 1), some (.int l1), some (.int l2), some (.int q2)], [.int l1, .ref 1], (223, kc, ks, pd_H g (pd_w v 1 2 ((v 1 2) + (1 : Int32)))))) rfl ?_
        obtain ⟨q5, hq5, h⟩ := pd_bind h
        refine ev_callv pp_Re_readExpression rfl rfl rfl rfl (s_Re_readTerm hE hEz hq5) ?_
        refine ev_gos pp_Re_readExpression 0 (S' := (49, [some (.ref 1), some (.int l1), some (.int l2), some (.int q2)], [.int q5.1], (223, kc, ks, pd_H g q5.2))) rfl ?_
        refine ev_gos pp_Re_readExpression 1 (S' := (bif !(decide (q5.1 = 0)) then 54 else 52, [some (.ref 1), some (.int l1), some (.int l2), some (.int q2)], [], (223, kc, ks, pd_H g q5.2))) rfl ?_
        rcases pd_cases h with ⟨hb6, h⟩ | ⟨hb6, h⟩
        · rw [hb6]
          refine ev_gos pp_Re_readExpression 4 (S' := (60, [some (.ref 1), some (.int l1), some (.int l2), some (.int q2)], [.int (0 : Int32), .int q2, .ref (kerOf (q5.2 1 3))], (223, kc, ks, pd_H g q5.2))) rfl ?_
          obtain ⟨q7, hq7, h⟩ := pd_bind h
          refine ev_callv pp_Re_readExpression rfl rfl (pd_isa (c_ke (ker_of _))) rfl (s_Ke_addItem (ker_of _) hq7) ?_
          refine ev_gos pp_Re_readExpression 2 (S' := (12, [some (.ref 1), some (.int l1), some (.int (l2 + (1 : Int32))), some (.int q2)], [], (223, kc, ks, pd_H g q7))) rfl ?_
          exact ih _ _ _ _ _  h
        · rw [hb6]
          refine ev_gos pp_Re_readExpression 1 (S' := (53, [some (.ref 1), some (.int l1), some (.int l2), some (.int q2)], [.int (0 : Int32)], (223, kc, ks, pd_H g q5.2))) rfl ?_
          cases h
          exact ev_zret pp_Re_readExpression rfl pd_b0
      · rw [hb4]
        refine ev_gos pp_Re_readExpression 1 (S' := (33, [some (.ref 1), some (.int l1), some (.int l2), some (.int q2)], [.int (1 : Int32)], (223, kc, ks, pd_H g v))) rfl ?_
        cases h
        exact ev_zret pp_Re_readExpression rfl pd_b1
theorem s_Re_readExpression_12z {w : Nat} {E : Int32 → pd_V → Option (Int32 × pd_V)} (hEz : ∀ {l1 : Int32} {v : pd_V} {q : Int32 × pd_V}, E l1 v = some q → (q.1 == 0 || q.1 == 1) = true) : ∀ (f : Nat) (l1 : Int32) (l2 : Int32) (v : pd_V)  (q : (Int32 × pd_V)) , d_Re_readExpression_12 w E f l1 l2 v = some q → (q.1 == 0 || q.1 == 1) = true := by
  intro f
  induction f with
  | zero => intro l1 l2 v q h; exact nomatch (show (none : Option (Int32 × pd_V)) = some q from h)
  | succ f ih =>
    intro l1 l2 v q h
    rw [d_Re_readExpression_12] at h
    rcases pd_cases h with ⟨hb1, h⟩ | ⟨hb1, h⟩
    · cases h
      exact pd_b1
    · obtain ⟨q2, hq2, h⟩ := pd_bind h
      rcases pd_cases h with ⟨hb4, h⟩ | ⟨hb4, h⟩
      · obtain ⟨q5, hq5, h⟩ := pd_bind h
        rcases pd_cases h with ⟨hb6, h⟩ | ⟨hb6, h⟩
        · obtain ⟨q7, hq7, h⟩ := pd_bind h
          exact ih _ _ _ _  h
        · cases h
          exact pd_b0
      · cases h
        exact pd_b1
def d_Re_readExpression (w : Nat) (E : Int32 → pd_V → Option (Int32 × pd_V)) (l1 : Int32) (v : pd_V) : Option (Int32 × pd_V) :=
  (d_Re_readTerm w E l1 v).bind fun q1 =>
  bif !(decide (q1.1 = 0)) then
    d_Re_readExpression_12 w E w l1 (0 : Int32) q1.2
  else
    some ((0 : Int32), q1.2)
theorem s_Re_readExpression {w : Nat} {E : Int32 → pd_V → Option (Int32 × pd_V)} (hE : ∀ {l1 : Int32} {v : pd_V} {q : Int32 × pd_V}, E l1 v = some q → pm_ev (pj_P xs L) (d + 3) 26 (0, [some (.ref 1), some (.int l1), none, none], [], (223, kc, ks, pd_H g v)) (.inl (some (.int q.1)), (223, kc, ks, pd_H g q.2))) (hEz : ∀ {l1 : Int32} {v : pd_V} {q : Int32 × pd_V}, E l1 v = some q → (q.1 == 0 || q.1 == 1) = true) {l1 : Int32} {v : pd_V} {q : (Int32 × pd_V)}  (h : d_Re_readExpression w E l1 v = some q) : pm_ev (pj_P xs L) (d + 6) 26 (0, [some (.ref 1), some (.int l1), none, none], [], (223, kc, ks, pd_H g v)) (.inl (some (.int q.1)), (223, kc, ks, pd_H g q.2)) := by
  unfold d_Re_readExpression at h
  refine ev_gos pp_Re_readExpression 2 (S' := (2, [some (.ref 1), some (.int l1), none, none], [.int l1, .ref 1], (223, kc, ks, pd_H g v))) rfl ?_
  obtain ⟨q1, hq1, h⟩ := pd_bind h
  refine ev_callv pp_Re_readExpression rfl rfl rfl rfl (s_Re_readTerm hE hEz hq1) ?_
  refine ev_gos pp_Re_readExpression 0 (S' := (5, [some (.ref 1), some (.int l1), none, none], [.int q1.1], (223, kc, ks, pd_H g q1.2))) rfl ?_
  refine ev_gos pp_Re_readExpression 1 (S' := (bif !(decide (q1.1 = 0)) then 10 else 8, [some (.ref 1), some (.int l1), none, none], [], (223, kc, ks, pd_H g q1.2))) rfl ?_
  rcases pd_cases h with ⟨hb2, h⟩ | ⟨hb2, h⟩
  · rw [hb2]
    refine ev_gos pp_Re_readExpression 2 (S' := (12, [some (.ref 1), some (.int l1), some (.int (0 : Int32)), none], [], (223, kc, ks, pd_H g q1.2))) rfl ?_
    exact s_Re_readExpression_12 hE hEz _ _ _ _ _ _  h
  · rw [hb2]
    refine ev_gos pp_Re_readExpression 1 (S' := (9, [some (.ref 1), some (.int l1), none, none], [.int (0 : Int32)], (223, kc, ks, pd_H g q1.2))) rfl ?_
    cases h
    exact ev_zret pp_Re_readExpression rfl pd_b0
theorem z_Re_readExpression {w : Nat} {E : Int32 → pd_V → Option (Int32 × pd_V)} (hEz : ∀ {l1 : Int32} {v : pd_V} {q : Int32 × pd_V}, E l1 v = some q → (q.1 == 0 || q.1 == 1) = true) {l1 : Int32} {v : pd_V} {q : (Int32 × pd_V)}  (h : d_Re_readExpression w E l1 v = some q) : (q.1 == 0 || q.1 == 1) = true := by
  unfold d_Re_readExpression at h
  obtain ⟨q1, hq1, h⟩ := pd_bind h
  rcases pd_cases h with ⟨hb2, h⟩ | ⟨hb2, h⟩
  · exact s_Re_readExpression_12z hEz _ _ _ _ _  h
  · cases h
    exact pd_b0
def d_RE (w : Nat) (n : Nat) : Int32 → pd_V → Option (Int32 × pd_V) := match n with
  | 0 => fun _ _ => none
  | n + 1 => d_Re_readExpression w (d_RE w n)
theorem z_RE {w : Nat} : ∀ (n : Nat) {l1 : Int32} {v : pd_V} {q : Int32 × pd_V}, d_RE w n l1 v = some q → (q.1 == 0 || q.1 == 1) = true := by
  intro n
  induction n with
  | zero => intro l1 v q h; exact nomatch (show (none : Option (Int32 × pd_V)) = some q from h)
  | succ n ih => intro l1 v q h; exact z_Re_readExpression ih h
theorem s_RE {w : Nat} : ∀ (n : Nat) {l1 : Int32} {v : pd_V} {q : Int32 × pd_V}, d_RE w n l1 v = some q → pm_ev (pj_P xs L) (d + 3 * (n + 1)) 26 (0, [some (.ref 1), some (.int l1), none, none], [], (223, kc, ks, pd_H g v)) (.inl (some (.int q.1)), (223, kc, ks, pd_H g q.2)) := by
  intro n
  induction n with
  | zero => intro l1 v q h; exact nomatch (show (none : Option (Int32 × pd_V)) = some q from h)
  | succ n ih => intro l1 v q h; exact s_Re_readExpression (d := d + 3 * n) ih (z_RE n) h
def d_RE5 (w : Nat) (l1 : Int32) (v : pd_V) : Option (Int32 × pd_V) := d_RE w 5 l1 v
theorem z_RE5 {w : Nat} {l1 : Int32} {v : pd_V} {q : Int32 × pd_V} (h : d_RE5 w l1 v = some q) : (q.1 == 0 || q.1 == 1) = true := z_RE 5 h
theorem s_RE5 {w : Nat} {l1 : Int32} {v : pd_V} {q : Int32 × pd_V} (h : d_RE5 w l1 v = some q) : pm_ev (pj_P xs L) (d + 18) 26 (0, [some (.ref 1), some (.int l1), none, none], [], (223, kc, ks, pd_H g v)) (.inl (some (.int q.1)), (223, kc, ks, pd_H g q.2)) := s_RE 5 h
theorem pp_Re_readStoring {xs : Nat → Int32} {L : Nat} : (pj_P xs L 25).1 = fun S => pm_look tb_Re_readStoring S.1 S := rfl
def d_Re_readStoring (w : Nat) (l1 : Nat) (v : pd_V) : Option (Int32 × pd_V) :=
  (d_Re_take (91 : Int32) (pd_w v l1 7 (v (kerOf (v 1 3)) 4))).bind fun q1 =>
  bif decide (q1.1 = 0) then
    some ((0 : Int32), q1.2)
  else
    (d_RE5 w (1 : Int32) q1.2).bind fun q3 =>
    bif decide (q3.1 = 0) then
      some ((0 : Int32), q3.2)
    else
      (d_Re_take (93 : Int32) q3.2).bind fun q5 =>
      bif !(decide (q5.1 = 0)) then
        (d_Re_take (61 : Int32) (pd_w q5.2 l1 8 (q5.2 (kerOf (q5.2 1 3)) 4))).bind fun q7 =>
        bif decide (q7.1 = 0) then
          some ((0 : Int32), q7.2)
        else
          (d_RE5 w (0 : Int32) q7.2).bind fun q9 =>
          bif !(decide (q9.1 = 0)) then
            some ((1 : Int32), (pd_w q9.2 l1 9 (q9.2 (kerOf (q9.2 1 3)) 4)))
          else
            some ((0 : Int32), q9.2)
      else
        some ((0 : Int32), q5.2)
theorem s_Re_readStoring {w : Nat} {l1 : Nat} {v : pd_V} {q : (Int32 × pd_V)} (hl1 : stp l1) (h : d_Re_readStoring w l1 v = some q) : pm_ev (pj_P xs L) (d + 19) 25 (0, [some (.ref 1), some (.ref l1)], [], (223, kc, ks, pd_H g v)) (.inl (some (.int q.1)), (223, kc, ks, pd_H g q.2)) := by
  unfold d_Re_readStoring at h
  refine ev_gos pp_Re_readStoring 3 (S' := (5, [some (.ref 1), some (.ref l1)], [.ref (kerOf (v 1 3)), .ref l1], (223, kc, ks, pd_H g v))) rfl ?_
  refine ev_get pp_Re_readStoring rfl (c_ke (ker_of _)) rfl ?_
  refine ev_gos pp_Re_readStoring 0 (S' := (8, [some (.ref 1), some (.ref l1)], [.int (v (kerOf (v 1 3)) 4), .ref l1], (223, kc, ks, pd_H g v))) rfl ?_
  refine ev_put pp_Re_readStoring rfl (c_st hl1) rfl rfl rfl ?_
  refine ev_gos pp_Re_readStoring 2 (S' := (14, [some (.ref 1), some (.ref l1)], [.int (91 : Int32), .ref 1], (223, kc, ks, pd_H g (pd_w v l1 7 (v (kerOf (v 1 3)) 4))))) rfl ?_
  obtain ⟨q1, hq1, h⟩ := pd_bind h
  refine ev_callv pp_Re_readStoring rfl rfl rfl rfl (s_Re_take hq1) ?_
  refine ev_gos pp_Re_readStoring 0 (S' := (17, [some (.ref 1), some (.ref l1)], [.int q1.1], (223, kc, ks, pd_H g q1.2))) rfl ?_
  refine ev_gos pp_Re_readStoring 1 (S' := (bif decide (q1.1 = 0) then 37 else 20, [some (.ref 1), some (.ref l1)], [], (223, kc, ks, pd_H g q1.2))) rfl ?_
  rcases pd_cases h with ⟨hb2, h⟩ | ⟨hb2, h⟩
  · rw [hb2]
    refine ev_gos pp_Re_readStoring 1 (S' := (38, [some (.ref 1), some (.ref l1)], [.int (0 : Int32)], (223, kc, ks, pd_H g q1.2))) rfl ?_
    cases h
    exact ev_zret pp_Re_readStoring rfl pd_b0
  · rw [hb2]
    refine ev_gos pp_Re_readStoring 2 (S' := (22, [some (.ref 1), some (.ref l1)], [.int (1 : Int32), .ref 1], (223, kc, ks, pd_H g q1.2))) rfl ?_
    obtain ⟨q3, hq3, h⟩ := pd_bind h
    refine ev_callv pp_Re_readStoring rfl rfl rfl rfl (s_RE5 hq3) ?_
    refine ev_gos pp_Re_readStoring 0 (S' := (25, [some (.ref 1), some (.ref l1)], [.int q3.1], (223, kc, ks, pd_H g q3.2))) rfl ?_
    refine ev_gos pp_Re_readStoring 1 (S' := (bif decide (q3.1 = 0) then 37 else 28, [some (.ref 1), some (.ref l1)], [], (223, kc, ks, pd_H g q3.2))) rfl ?_
    rcases pd_cases h with ⟨hb4, h⟩ | ⟨hb4, h⟩
    · rw [hb4]
      refine ev_gos pp_Re_readStoring 1 (S' := (38, [some (.ref 1), some (.ref l1)], [.int (0 : Int32)], (223, kc, ks, pd_H g q3.2))) rfl ?_
      cases h
      exact ev_zret pp_Re_readStoring rfl pd_b0
    · rw [hb4]
      refine ev_gos pp_Re_readStoring 2 (S' := (31, [some (.ref 1), some (.ref l1)], [.int (93 : Int32), .ref 1], (223, kc, ks, pd_H g q3.2))) rfl ?_
      obtain ⟨q5, hq5, h⟩ := pd_bind h
      refine ev_callv pp_Re_readStoring rfl rfl rfl rfl (s_Re_take hq5) ?_
      refine ev_gos pp_Re_readStoring 0 (S' := (34, [some (.ref 1), some (.ref l1)], [.int q5.1], (223, kc, ks, pd_H g q5.2))) rfl ?_
      refine ev_gos pp_Re_readStoring 1 (S' := (bif !(decide (q5.1 = 0)) then 39 else 37, [some (.ref 1), some (.ref l1)], [], (223, kc, ks, pd_H g q5.2))) rfl ?_
      rcases pd_cases h with ⟨hb6, h⟩ | ⟨hb6, h⟩
      · rw [hb6]
        refine ev_gos pp_Re_readStoring 3 (S' := (44, [some (.ref 1), some (.ref l1)], [.ref (kerOf (q5.2 1 3)), .ref l1], (223, kc, ks, pd_H g q5.2))) rfl ?_
        refine ev_get pp_Re_readStoring rfl (c_ke (ker_of _)) rfl ?_
        refine ev_gos pp_Re_readStoring 0 (S' := (47, [some (.ref 1), some (.ref l1)], [.int (q5.2 (kerOf (q5.2 1 3)) 4), .ref l1], (223, kc, ks, pd_H g q5.2))) rfl ?_
        refine ev_put pp_Re_readStoring rfl (c_st hl1) rfl rfl rfl ?_
        refine ev_gos pp_Re_readStoring 2 (S' := (53, [some (.ref 1), some (.ref l1)], [.int (61 : Int32), .ref 1], (223, kc, ks, pd_H g (pd_w q5.2 l1 8 (q5.2 (kerOf (q5.2 1 3)) 4))))) rfl ?_
        obtain ⟨q7, hq7, h⟩ := pd_bind h
        refine ev_callv pp_Re_readStoring rfl rfl rfl rfl (s_Re_take hq7) ?_
        refine ev_gos pp_Re_readStoring 0 (S' := (56, [some (.ref 1), some (.ref l1)], [.int q7.1], (223, kc, ks, pd_H g q7.2))) rfl ?_
        refine ev_gos pp_Re_readStoring 1 (S' := (bif decide (q7.1 = 0) then 67 else 59, [some (.ref 1), some (.ref l1)], [], (223, kc, ks, pd_H g q7.2))) rfl ?_
        rcases pd_cases h with ⟨hb8, h⟩ | ⟨hb8, h⟩
        · rw [hb8]
          refine ev_gos pp_Re_readStoring 1 (S' := (68, [some (.ref 1), some (.ref l1)], [.int (0 : Int32)], (223, kc, ks, pd_H g q7.2))) rfl ?_
          cases h
          exact ev_zret pp_Re_readStoring rfl pd_b0
        · rw [hb8]
          refine ev_gos pp_Re_readStoring 2 (S' := (61, [some (.ref 1), some (.ref l1)], [.int (0 : Int32), .ref 1], (223, kc, ks, pd_H g q7.2))) rfl ?_
          obtain ⟨q9, hq9, h⟩ := pd_bind h
          refine ev_callv pp_Re_readStoring rfl rfl rfl rfl (s_RE5 hq9) ?_
          refine ev_gos pp_Re_readStoring 0 (S' := (64, [some (.ref 1), some (.ref l1)], [.int q9.1], (223, kc, ks, pd_H g q9.2))) rfl ?_
          refine ev_gos pp_Re_readStoring 1 (S' := (bif !(decide (q9.1 = 0)) then 69 else 67, [some (.ref 1), some (.ref l1)], [], (223, kc, ks, pd_H g q9.2))) rfl ?_
          rcases pd_cases h with ⟨hb10, h⟩ | ⟨hb10, h⟩
          · rw [hb10]
            refine ev_gos pp_Re_readStoring 3 (S' := (74, [some (.ref 1), some (.ref l1)], [.ref (kerOf (q9.2 1 3)), .ref l1], (223, kc, ks, pd_H g q9.2))) rfl ?_
            refine ev_get pp_Re_readStoring rfl (c_ke (ker_of _)) rfl ?_
            refine ev_gos pp_Re_readStoring 0 (S' := (77, [some (.ref 1), some (.ref l1)], [.int (q9.2 (kerOf (q9.2 1 3)) 4), .ref l1], (223, kc, ks, pd_H g q9.2))) rfl ?_
            refine ev_put pp_Re_readStoring rfl (c_st hl1) rfl rfl rfl ?_
            refine ev_gos pp_Re_readStoring 1 (S' := (81, [some (.ref 1), some (.ref l1)], [.int (1 : Int32)], (223, kc, ks, pd_H g (pd_w q9.2 l1 9 (q9.2 (kerOf (q9.2 1 3)) 4))))) rfl ?_
            cases h
            exact ev_zret pp_Re_readStoring rfl pd_b1
          · rw [hb10]
            refine ev_gos pp_Re_readStoring 1 (S' := (68, [some (.ref 1), some (.ref l1)], [.int (0 : Int32)], (223, kc, ks, pd_H g q9.2))) rfl ?_
            cases h
            exact ev_zret pp_Re_readStoring rfl pd_b0
      · rw [hb6]
        refine ev_gos pp_Re_readStoring 1 (S' := (38, [some (.ref 1), some (.ref l1)], [.int (0 : Int32)], (223, kc, ks, pd_H g q5.2))) rfl ?_
        cases h
        exact ev_zret pp_Re_readStoring rfl pd_b0
theorem z_Re_readStoring {w : Nat} {l1 : Nat} {v : pd_V} {q : (Int32 × pd_V)} (hl1 : stp l1) (h : d_Re_readStoring w l1 v = some q) : (q.1 == 0 || q.1 == 1) = true := by
  unfold d_Re_readStoring at h
  obtain ⟨q1, hq1, h⟩ := pd_bind h
  rcases pd_cases h with ⟨hb2, h⟩ | ⟨hb2, h⟩
  · cases h
    exact pd_b0
  · obtain ⟨q3, hq3, h⟩ := pd_bind h
    rcases pd_cases h with ⟨hb4, h⟩ | ⟨hb4, h⟩
    · cases h
      exact pd_b0
    · obtain ⟨q5, hq5, h⟩ := pd_bind h
      rcases pd_cases h with ⟨hb6, h⟩ | ⟨hb6, h⟩
      · obtain ⟨q7, hq7, h⟩ := pd_bind h
        rcases pd_cases h with ⟨hb8, h⟩ | ⟨hb8, h⟩
        · cases h
          exact pd_b0
        · obtain ⟨q9, hq9, h⟩ := pd_bind h
          rcases pd_cases h with ⟨hb10, h⟩ | ⟨hb10, h⟩
          · cases h
            exact pd_b1
          · cases h
            exact pd_b0
      · cases h
        exact pd_b0
theorem pp_Re_readWhole {xs : Nat → Int32} {L : Nat} : (pj_P xs L 33).1 = fun S => pm_look tb_Re_readWhole S.1 S := rfl
def d_Re_readWhole (w : Nat) (l1 : Nat) (v : pd_V) : Option (Int32 × pd_V) :=
  (d_RE5 w (0 : Int32) (pd_w (pd_w v 1 6 (0 : Int32)) l1 7 ((pd_w v 1 6 (0 : Int32)) (kerOf (v 1 3)) 4))).bind fun q1 =>
  bif !(decide (q1.1 = 0)) then
    some ((1 : Int32), (pd_w (pd_w (pd_w q1.2 l1 8 (q1.2 (kerOf (q1.2 1 3)) 4)) l1 9 ((pd_w q1.2 l1 8 (q1.2 (kerOf (q1.2 1 3)) 4)) (kerOf ((pd_w q1.2 l1 8 (q1.2 (kerOf (q1.2 1 3)) 4)) 1 3)) 4)) l1 10 ((pd_w (pd_w q1.2 l1 8 (q1.2 (kerOf (q1.2 1 3)) 4)) l1 9 ((pd_w q1.2 l1 8 (q1.2 (kerOf (q1.2 1 3)) 4)) (kerOf ((pd_w q1.2 l1 8 (q1.2 (kerOf (q1.2 1 3)) 4)) 1 3)) 4)) 1 6)))
  else
    some ((0 : Int32), q1.2)
theorem s_Re_readWhole {w : Nat} {l1 : Nat} {v : pd_V} {q : (Int32 × pd_V)} (hl1 : stp l1) (h : d_Re_readWhole w l1 v = some q) : pm_ev (pj_P xs L) (d + 19) 33 (0, [some (.ref 1), some (.ref l1)], [], (223, kc, ks, pd_H g v)) (.inl (some (.int q.1)), (223, kc, ks, pd_H g q.2)) := by
  unfold d_Re_readWhole at h
  refine ev_gos pp_Re_readWhole 2 (S' := (2, [some (.ref 1), some (.ref l1)], [.int (0 : Int32), .ref 1], (223, kc, ks, pd_H g v))) rfl ?_
  refine ev_put pp_Re_readWhole rfl (fun _ => rfl) rfl rfl rfl ?_
  refine ev_gos pp_Re_readWhole 3 (S' := (10, [some (.ref 1), some (.ref l1)], [.ref (kerOf (v 1 3)), .ref l1], (223, kc, ks, pd_H g (pd_w v 1 6 (0 : Int32))))) rfl ?_
  refine ev_get pp_Re_readWhole rfl (c_ke (ker_of _)) rfl ?_
  refine ev_gos pp_Re_readWhole 0 (S' := (13, [some (.ref 1), some (.ref l1)], [.int ((pd_w v 1 6 (0 : Int32)) (kerOf (v 1 3)) 4), .ref l1], (223, kc, ks, pd_H g (pd_w v 1 6 (0 : Int32))))) rfl ?_
  refine ev_put pp_Re_readWhole rfl (c_st hl1) rfl rfl rfl ?_
  refine ev_gos pp_Re_readWhole 2 (S' := (18, [some (.ref 1), some (.ref l1)], [.int (0 : Int32), .ref 1], (223, kc, ks, pd_H g (pd_w (pd_w v 1 6 (0 : Int32)) l1 7 ((pd_w v 1 6 (0 : Int32)) (kerOf (v 1 3)) 4))))) rfl ?_
  obtain ⟨q1, hq1, h⟩ := pd_bind h
  refine ev_callv pp_Re_readWhole rfl rfl rfl rfl (s_RE5 hq1) ?_
  refine ev_gos pp_Re_readWhole 0 (S' := (21, [some (.ref 1), some (.ref l1)], [.int q1.1], (223, kc, ks, pd_H g q1.2))) rfl ?_
  refine ev_gos pp_Re_readWhole 1 (S' := (bif !(decide (q1.1 = 0)) then 26 else 24, [some (.ref 1), some (.ref l1)], [], (223, kc, ks, pd_H g q1.2))) rfl ?_
  rcases pd_cases h with ⟨hb2, h⟩ | ⟨hb2, h⟩
  · rw [hb2]
    refine ev_gos pp_Re_readWhole 3 (S' := (31, [some (.ref 1), some (.ref l1)], [.ref (kerOf (q1.2 1 3)), .ref l1], (223, kc, ks, pd_H g q1.2))) rfl ?_
    refine ev_get pp_Re_readWhole rfl (c_ke (ker_of _)) rfl ?_
    refine ev_gos pp_Re_readWhole 0 (S' := (34, [some (.ref 1), some (.ref l1)], [.int (q1.2 (kerOf (q1.2 1 3)) 4), .ref l1], (223, kc, ks, pd_H g q1.2))) rfl ?_
    refine ev_put pp_Re_readWhole rfl (c_st hl1) rfl rfl rfl ?_
    refine ev_gos pp_Re_readWhole 3 (S' := (42, [some (.ref 1), some (.ref l1)], [.ref (kerOf ((pd_w q1.2 l1 8 (q1.2 (kerOf (q1.2 1 3)) 4)) 1 3)), .ref l1], (223, kc, ks, pd_H g (pd_w q1.2 l1 8 (q1.2 (kerOf (q1.2 1 3)) 4))))) rfl ?_
    refine ev_get pp_Re_readWhole rfl (c_ke (ker_of _)) rfl ?_
    refine ev_gos pp_Re_readWhole 0 (S' := (45, [some (.ref 1), some (.ref l1)], [.int ((pd_w q1.2 l1 8 (q1.2 (kerOf (q1.2 1 3)) 4)) (kerOf ((pd_w q1.2 l1 8 (q1.2 (kerOf (q1.2 1 3)) 4)) 1 3)) 4), .ref l1], (223, kc, ks, pd_H g (pd_w q1.2 l1 8 (q1.2 (kerOf (q1.2 1 3)) 4))))) rfl ?_
    refine ev_put pp_Re_readWhole rfl (c_st hl1) rfl rfl rfl ?_
    refine ev_gos pp_Re_readWhole 3 (S' := (53, [some (.ref 1), some (.ref l1)], [.int ((pd_w (pd_w q1.2 l1 8 (q1.2 (kerOf (q1.2 1 3)) 4)) l1 9 ((pd_w q1.2 l1 8 (q1.2 (kerOf (q1.2 1 3)) 4)) (kerOf ((pd_w q1.2 l1 8 (q1.2 (kerOf (q1.2 1 3)) 4)) 1 3)) 4)) 1 6), .ref l1], (223, kc, ks, pd_H g (pd_w (pd_w q1.2 l1 8 (q1.2 (kerOf (q1.2 1 3)) 4)) l1 9 ((pd_w q1.2 l1 8 (q1.2 (kerOf (q1.2 1 3)) 4)) (kerOf ((pd_w q1.2 l1 8 (q1.2 (kerOf (q1.2 1 3)) 4)) 1 3)) 4))))) rfl ?_
    refine ev_put pp_Re_readWhole rfl (c_st hl1) rfl rfl rfl ?_
    refine ev_gos pp_Re_readWhole 1 (S' := (57, [some (.ref 1), some (.ref l1)], [.int (1 : Int32)], (223, kc, ks, pd_H g (pd_w (pd_w (pd_w q1.2 l1 8 (q1.2 (kerOf (q1.2 1 3)) 4)) l1 9 ((pd_w q1.2 l1 8 (q1.2 (kerOf (q1.2 1 3)) 4)) (kerOf ((pd_w q1.2 l1 8 (q1.2 (kerOf (q1.2 1 3)) 4)) 1 3)) 4)) l1 10 ((pd_w (pd_w q1.2 l1 8 (q1.2 (kerOf (q1.2 1 3)) 4)) l1 9 ((pd_w q1.2 l1 8 (q1.2 (kerOf (q1.2 1 3)) 4)) (kerOf ((pd_w q1.2 l1 8 (q1.2 (kerOf (q1.2 1 3)) 4)) 1 3)) 4)) 1 6))))) rfl ?_
    cases h
    exact ev_zret pp_Re_readWhole rfl pd_b1
  · rw [hb2]
    refine ev_gos pp_Re_readWhole 1 (S' := (25, [some (.ref 1), some (.ref l1)], [.int (0 : Int32)], (223, kc, ks, pd_H g q1.2))) rfl ?_
    cases h
    exact ev_zret pp_Re_readWhole rfl pd_b0
theorem z_Re_readWhole {w : Nat} {l1 : Nat} {v : pd_V} {q : (Int32 × pd_V)} (hl1 : stp l1) (h : d_Re_readWhole w l1 v = some q) : (q.1 == 0 || q.1 == 1) = true := by
  unfold d_Re_readWhole at h
  obtain ⟨q1, hq1, h⟩ := pd_bind h
  rcases pd_cases h with ⟨hb2, h⟩ | ⟨hb2, h⟩
  · cases h
    exact pd_b1
  · cases h
    exact pd_b0
theorem pp_Re_openBlock {xs : Nat → Int32} {L : Nat} : (pj_P xs L 34).1 = fun S => pm_look tb_Re_openBlock S.1 S := rfl
def d_Re_openBlock (l1 : Int32) (v : pd_V) : Option (Int32 × pd_V) :=
  bif decide ((4 : Int32) ≤ (v 1 5)) then
    some ((0 : Int32), v)
  else
    (d_Re_take (123 : Int32) v).bind fun q2 =>
    bif !(decide (q2.1 = 0)) then
      bif pm_in (q2.2 1 5) 4 then
      some ((1 : Int32), (pd_w (pd_w q2.2 87 ((q2.2 1 5).toNatClampNeg) l1) 1 5 ((q2.2 1 5) + (1 : Int32))))
      else none
    else
      some ((0 : Int32), q2.2)
theorem s_Re_openBlock {l1 : Int32} {v : pd_V} {q : (Int32 × pd_V)}  (h : d_Re_openBlock l1 v = some q) : pm_ev (pj_P xs L) (d + 1) 34 (0, [some (.ref 1), some (.int l1)], [], (223, kc, ks, pd_H g v)) (.inl (some (.int q.1)), (223, kc, ks, pd_H g q.2)) := by
  unfold d_Re_openBlock at h
  refine ev_gos pp_Re_openBlock 3 (S' := (5, [some (.ref 1), some (.int l1)], [.int (4 : Int32), .int (v 1 5)], (223, kc, ks, pd_H g v))) rfl ?_
  refine ev_gos pp_Re_openBlock 1 (S' := (bif decide ((4 : Int32) ≤ (v 1 5)) then 17 else 8, [some (.ref 1), some (.int l1)], [], (223, kc, ks, pd_H g v))) rfl ?_
  rcases pd_cases h with ⟨hb1, h⟩ | ⟨hb1, h⟩
  · rw [hb1]
    refine ev_gos pp_Re_openBlock 1 (S' := (18, [some (.ref 1), some (.int l1)], [.int (0 : Int32)], (223, kc, ks, pd_H g v))) rfl ?_
    cases h
    exact ev_zret pp_Re_openBlock rfl pd_b0
  · rw [hb1]
    refine ev_gos pp_Re_openBlock 2 (S' := (11, [some (.ref 1), some (.int l1)], [.int (123 : Int32), .ref 1], (223, kc, ks, pd_H g v))) rfl ?_
    obtain ⟨q2, hq2, h⟩ := pd_bind h
    refine ev_callv pp_Re_openBlock rfl rfl rfl rfl (s_Re_take hq2) ?_
    refine ev_gos pp_Re_openBlock 0 (S' := (14, [some (.ref 1), some (.int l1)], [.int q2.1], (223, kc, ks, pd_H g q2.2))) rfl ?_
    refine ev_gos pp_Re_openBlock 1 (S' := (bif !(decide (q2.1 = 0)) then 19 else 17, [some (.ref 1), some (.int l1)], [], (223, kc, ks, pd_H g q2.2))) rfl ?_
    rcases pd_cases h with ⟨hb3, h⟩ | ⟨hb3, h⟩
    · rw [hb3]
      refine ev_gos pp_Re_openBlock 5 (S' := (28, [some (.ref 1), some (.int l1)], [.int l1, .int (q2.2 1 5), .ref 87], (223, kc, ks, pd_H g q2.2))) rfl ?_
      obtain ⟨hc4, h⟩ := pd_chk h
      refine ev_iast pp_Re_openBlock rfl (fun _ => rfl) hc4 ?_
      refine ev_gos pp_Re_openBlock 5 (S' := (36, [some (.ref 1), some (.int l1)], [.int ((q2.2 1 5) + (1 : Int32)), .ref 1], (223, kc, ks, pd_H g (pd_w q2.2 87 ((q2.2 1 5).toNatClampNeg) l1)))) rfl ?_
      refine ev_put pp_Re_openBlock rfl (fun _ => rfl) rfl rfl rfl ?_
      refine ev_gos pp_Re_openBlock 1 (S' := (40, [some (.ref 1), some (.int l1)], [.int (1 : Int32)], (223, kc, ks, pd_H g (pd_w (pd_w q2.2 87 ((q2.2 1 5).toNatClampNeg) l1) 1 5 ((q2.2 1 5) + (1 : Int32)))))) rfl ?_
      cases h
      exact ev_zret pp_Re_openBlock rfl pd_b1
    · rw [hb3]
      refine ev_gos pp_Re_openBlock 1 (S' := (18, [some (.ref 1), some (.int l1)], [.int (0 : Int32)], (223, kc, ks, pd_H g q2.2))) rfl ?_
      cases h
      exact ev_zret pp_Re_openBlock rfl pd_b0
theorem z_Re_openBlock {l1 : Int32} {v : pd_V} {q : (Int32 × pd_V)}  (h : d_Re_openBlock l1 v = some q) : (q.1 == 0 || q.1 == 1) = true := by
  unfold d_Re_openBlock at h
  rcases pd_cases h with ⟨hb1, h⟩ | ⟨hb1, h⟩
  · cases h
    exact pd_b0
  · obtain ⟨q2, hq2, h⟩ := pd_bind h
    rcases pd_cases h with ⟨hb3, h⟩ | ⟨hb3, h⟩
    · obtain ⟨hc4, h⟩ := pd_chk h
      cases h
      exact pd_b1
    · cases h
      exact pd_b0
theorem pp_Re_readStatement {xs : Nat → Int32} {L : Nat} : (pj_P xs L 20).1 = fun S => pm_look tb_Re_readStatement S.1 S := rfl
def d_Re_readStatement (w : Nat)  (v : pd_V) : Option (Int32 × pd_V) :=
  (d_Re_next v).bind fun q1 =>
  bif !(decide ((d_Re_kindFor q1) = (-1 : Int32))) then
    (d_Ke_addStep (kerOf (v 1 3)) (d_Re_kindFor q1) (v 1 2) (v 1 5) v).bind fun q4 =>
    (d_Re_readHead q4.1 q4.2).bind fun q5 =>
    bif !(decide (q5.1 = 0)) then
      bif decide ((d_Re_kindFor q1) = (2 : Int32)) then
        (d_Re_readStoring w q4.1 q5.2).bind fun q8 =>
        bif decide (q8.1 = 0) then
          some ((0 : Int32), q8.2)
        else
          (d_Re_take (59 : Int32) q8.2).bind fun q10 =>
          bif decide (q10.1 = 0) then
            some ((0 : Int32), q10.2)
          else
            some ((1 : Int32), q10.2)
      else
        bif decide ((d_Re_kindFor q1) = (3 : Int32)) then
          (d_Re_readWhole w q4.1 q5.2).bind fun q13 =>
          bif decide (q13.1 = 0) then
            some ((0 : Int32), q13.2)
          else
            (d_Re_take (59 : Int32) q13.2).bind fun q15 =>
            bif decide (q15.1 = 0) then
              some ((0 : Int32), q15.2)
            else
              some ((1 : Int32), q15.2)
        else
          bif decide ((d_Re_kindFor q1) = (4 : Int32)) then
            (d_Re_take (59 : Int32) q5.2).bind fun q18 =>
            some (q18.1, q18.2)
          else
            bif decide ((d_Re_kindFor q1) = (5 : Int32)) then
              (d_Re_readWhole w q4.1 q5.2).bind fun q20 =>
              bif decide (q20.1 = 0) then
                some ((0 : Int32), q20.2)
              else
                (d_Re_openBlock (v (kerOf (v 1 3)) 3) q20.2).bind fun q22 =>
                bif decide (q22.1 = 0) then
                  some ((0 : Int32), q22.2)
                else
                  some ((1 : Int32), q22.2)
            else
              bif decide ((d_Re_kindFor q1) = (6 : Int32)) then
                (d_Re_readWhole w q4.1 q5.2).bind fun q25 =>
                bif decide (q25.1 = 0) then
                  some ((0 : Int32), q25.2)
                else
                  (d_Re_openBlock (v (kerOf (v 1 3)) 3) q25.2).bind fun q27 =>
                  bif decide (q27.1 = 0) then
                    some ((0 : Int32), q27.2)
                  else
                    some ((1 : Int32), q27.2)
              else
                (d_Re_readWhole w q4.1 q5.2).bind fun q29 =>
                bif decide (q29.1 = 0) then
                  some ((0 : Int32), q29.2)
                else
                  (d_Re_take (59 : Int32) q29.2).bind fun q31 =>
                  bif decide (q31.1 = 0) then
                    some ((0 : Int32), q31.2)
                  else
                    some ((1 : Int32), q31.2)
    else
      some ((0 : Int32), q5.2)
  else
    some ((0 : Int32), v)
theorem s_Re_readStatement {w : Nat}  {v : pd_V} {q : (Int32 × pd_V)}  (h : d_Re_readStatement w v = some q) : pm_ev (pj_P xs L) (d + 20) 20 (0, [some (.ref 1), none, none, none], [], (223, kc, ks, pd_H g v)) (.inl (some (.int q.1)), (223, kc, ks, pd_H g q.2)) := by
  unfold d_Re_readStatement at h
  refine ev_gos pp_Re_readStatement 1 (S' := (1, [some (.ref 1), none, none, none], [.ref 1], (223, kc, ks, pd_H g v))) rfl ?_
  obtain ⟨q1, hq1, h⟩ := pd_bind h
  refine ev_callv pp_Re_readStatement rfl rfl rfl rfl (s_Re_next hq1) ?_
  refine ev_gos pp_Re_readStatement 0 (S' := (4, [some (.ref 1), none, none, none], [.int q1], (223, kc, ks, pd_H g v))) rfl ?_
  refine ev_call pp_Re_readStatement rfl rfl rfl (s_Re_kindFor) ?_
  refine ev_gos pp_Re_readStatement 3 (S' := (10, [some (.ref 1), some (.int (d_Re_kindFor q1)), none, none], [.int (-1 : Int32), .int (d_Re_kindFor q1)], (223, kc, ks, pd_H g v))) rfl ?_
  refine ev_gos pp_Re_readStatement 1 (S' := (bif !(decide ((d_Re_kindFor q1) = (-1 : Int32))) then 15 else 13, [some (.ref 1), some (.int (d_Re_kindFor q1)), none, none], [], (223, kc, ks, pd_H g v))) rfl ?_
  rcases pd_cases h with ⟨hb3, h⟩ | ⟨hb3, h⟩
  · rw [hb3]
    refine ev_gos pp_Re_readStatement 2 (S' := (19, [some (.ref 1), some (.int (d_Re_kindFor q1)), none, none], [.ref (kerOf (v 1 3))], (223, kc, ks, pd_H g v))) rfl ?_
    refine ev_get pp_Re_readStatement rfl (c_ke (ker_of _)) rfl ?_
    refine ev_gos pp_Re_readStatement 8 (S' := (36, [some (.ref 1), some (.int (d_Re_kindFor q1)), some (.int (v (kerOf (v 1 3)) 3)), none], [.int (v 1 5), .int (v 1 2), .int (d_Re_kindFor q1), .ref (kerOf (v 1 3))], (223, kc, ks, pd_H g v))) rfl ?_
    obtain ⟨q4, hq4, h⟩ := pd_bind h
    refine ev_callv pp_Re_readStatement rfl rfl (pd_isa (c_ke (ker_of _))) rfl (s_Ke_addStep (ker_of _) hq4) ?_
    refine ev_gos pp_Re_readStatement 3 (S' := (42, [some (.ref 1), some (.int (d_Re_kindFor q1)), some (.int (v (kerOf (v 1 3)) 3)), some (.ref q4.1)], [.ref q4.1, .ref 1], (223, kc, ks, pd_H g q4.2))) rfl ?_
    obtain ⟨q5, hq5, h⟩ := pd_bind h
    refine ev_callv pp_Re_readStatement rfl rfl rfl rfl (s_Re_readHead (r_Ke_addStep (ker_of _) hq4) hq5) ?_
    refine ev_gos pp_Re_readStatement 0 (S' := (45, [some (.ref 1), some (.int (d_Re_kindFor q1)), some (.int (v (kerOf (v 1 3)) 3)), some (.ref q4.1)], [.int q5.1], (223, kc, ks, pd_H g q5.2))) rfl ?_
    refine ev_gos pp_Re_readStatement 1 (S' := (bif !(decide (q5.1 = 0)) then 50 else 48, [some (.ref 1), some (.int (d_Re_kindFor q1)), some (.int (v (kerOf (v 1 3)) 3)), some (.ref q4.1)], [], (223, kc, ks, pd_H g q5.2))) rfl ?_
    rcases pd_cases h with ⟨hb6, h⟩ | ⟨hb6, h⟩
    · rw [hb6]
      refine ev_gos pp_Re_readStatement 1 (S' := (51, [some (.ref 1), some (.int (d_Re_kindFor q1)), some (.int (v (kerOf (v 1 3)) 3)), some (.ref q4.1)], [.int (d_Re_kindFor q1)], (223, kc, ks, pd_H g q5.2))) rfl ?_
      refine ev_gos pp_Re_readStatement 1 (S' := (bif decide ((d_Re_kindFor q1) = (2 : Int32)) then 91 else bif decide ((d_Re_kindFor q1) = (3 : Int32)) then 136 else bif decide ((d_Re_kindFor q1) = (4 : Int32)) then 84 else bif decide ((d_Re_kindFor q1) = (5 : Int32)) then 114 else bif decide ((d_Re_kindFor q1) = (6 : Int32)) then 114 else 136, [some (.ref 1), some (.int (d_Re_kindFor q1)), some (.int (v (kerOf (v 1 3)) 3)), some (.ref q4.1)], [], (223, kc, ks, pd_H g q5.2))) rfl ?_
      rcases pd_cases h with ⟨hb7, h⟩ | ⟨hb7, h⟩
      · rw [hb7]
        refine ev_gos pp_Re_readStatement 2 (S' := (93, [some (.ref 1), some (.int (d_Re_kindFor q1)), some (.int (v (kerOf (v 1 3)) 3)), some (.ref q4.1)], [.ref q4.1, .ref 1], (223, kc, ks, pd_H g q5.2))) rfl ?_
        obtain ⟨q8, hq8, h⟩ := pd_bind h
        refine ev_callv pp_Re_readStatement rfl rfl rfl rfl (s_Re_readStoring (r_Ke_addStep (ker_of _) hq4) hq8) ?_
        refine ev_gos pp_Re_readStatement 0 (S' := (96, [some (.ref 1), some (.int (d_Re_kindFor q1)), some (.int (v (kerOf (v 1 3)) 3)), some (.ref q4.1)], [.int q8.1], (223, kc, ks, pd_H g q8.2))) rfl ?_
        refine ev_gos pp_Re_readStatement 1 (S' := (bif decide (q8.1 = 0) then 112 else 99, [some (.ref 1), some (.int (d_Re_kindFor q1)), some (.int (v (kerOf (v 1 3)) 3)), some (.ref q4.1)], [], (223, kc, ks, pd_H g q8.2))) rfl ?_
        rcases pd_cases h with ⟨hb9, h⟩ | ⟨hb9, h⟩
        · rw [hb9]
          refine ev_gos pp_Re_readStatement 1 (S' := (113, [some (.ref 1), some (.int (d_Re_kindFor q1)), some (.int (v (kerOf (v 1 3)) 3)), some (.ref q4.1)], [.int (0 : Int32)], (223, kc, ks, pd_H g q8.2))) rfl ?_
          cases h
          exact ev_zret pp_Re_readStatement rfl pd_b0
        · rw [hb9]
          refine ev_gos pp_Re_readStatement 2 (S' := (102, [some (.ref 1), some (.int (d_Re_kindFor q1)), some (.int (v (kerOf (v 1 3)) 3)), some (.ref q4.1)], [.int (59 : Int32), .ref 1], (223, kc, ks, pd_H g q8.2))) rfl ?_
          obtain ⟨q10, hq10, h⟩ := pd_bind h
          refine ev_callv pp_Re_readStatement rfl rfl rfl rfl (s_Re_take hq10) ?_
          refine ev_gos pp_Re_readStatement 0 (S' := (105, [some (.ref 1), some (.int (d_Re_kindFor q1)), some (.int (v (kerOf (v 1 3)) 3)), some (.ref q4.1)], [.int q10.1], (223, kc, ks, pd_H g q10.2))) rfl ?_
          refine ev_gos pp_Re_readStatement 1 (S' := (bif decide (q10.1 = 0) then 112 else 108, [some (.ref 1), some (.int (d_Re_kindFor q1)), some (.int (v (kerOf (v 1 3)) 3)), some (.ref q4.1)], [], (223, kc, ks, pd_H g q10.2))) rfl ?_
          rcases pd_cases h with ⟨hb11, h⟩ | ⟨hb11, h⟩
          · rw [hb11]
            refine ev_gos pp_Re_readStatement 1 (S' := (113, [some (.ref 1), some (.int (d_Re_kindFor q1)), some (.int (v (kerOf (v 1 3)) 3)), some (.ref q4.1)], [.int (0 : Int32)], (223, kc, ks, pd_H g q10.2))) rfl ?_
            cases h
            exact ev_zret pp_Re_readStatement rfl pd_b0
          · rw [hb11]
            refine ev_gos pp_Re_readStatement 2 (S' := (113, [some (.ref 1), some (.int (d_Re_kindFor q1)), some (.int (v (kerOf (v 1 3)) 3)), some (.ref q4.1)], [.int (1 : Int32)], (223, kc, ks, pd_H g q10.2))) rfl ?_
            cases h
            exact ev_zret pp_Re_readStatement rfl pd_b1
      · rw [hb7]
        rcases pd_cases h with ⟨hb12, h⟩ | ⟨hb12, h⟩
        · rw [hb12]
          refine ev_gos pp_Re_readStatement 2 (S' := (138, [some (.ref 1), some (.int (d_Re_kindFor q1)), some (.int (v (kerOf (v 1 3)) 3)), some (.ref q4.1)], [.ref q4.1, .ref 1], (223, kc, ks, pd_H g q5.2))) rfl ?_
          obtain ⟨q13, hq13, h⟩ := pd_bind h
          refine ev_callv pp_Re_readStatement rfl rfl rfl rfl (s_Re_readWhole (r_Ke_addStep (ker_of _) hq4) hq13) ?_
          refine ev_gos pp_Re_readStatement 0 (S' := (141, [some (.ref 1), some (.int (d_Re_kindFor q1)), some (.int (v (kerOf (v 1 3)) 3)), some (.ref q4.1)], [.int q13.1], (223, kc, ks, pd_H g q13.2))) rfl ?_
          refine ev_gos pp_Re_readStatement 1 (S' := (bif decide (q13.1 = 0) then 157 else 144, [some (.ref 1), some (.int (d_Re_kindFor q1)), some (.int (v (kerOf (v 1 3)) 3)), some (.ref q4.1)], [], (223, kc, ks, pd_H g q13.2))) rfl ?_
          rcases pd_cases h with ⟨hb14, h⟩ | ⟨hb14, h⟩
          · rw [hb14]
            refine ev_gos pp_Re_readStatement 1 (S' := (158, [some (.ref 1), some (.int (d_Re_kindFor q1)), some (.int (v (kerOf (v 1 3)) 3)), some (.ref q4.1)], [.int (0 : Int32)], (223, kc, ks, pd_H g q13.2))) rfl ?_
            cases h
            exact ev_zret pp_Re_readStatement rfl pd_b0
          · rw [hb14]
            refine ev_gos pp_Re_readStatement 2 (S' := (147, [some (.ref 1), some (.int (d_Re_kindFor q1)), some (.int (v (kerOf (v 1 3)) 3)), some (.ref q4.1)], [.int (59 : Int32), .ref 1], (223, kc, ks, pd_H g q13.2))) rfl ?_
            obtain ⟨q15, hq15, h⟩ := pd_bind h
            refine ev_callv pp_Re_readStatement rfl rfl rfl rfl (s_Re_take hq15) ?_
            refine ev_gos pp_Re_readStatement 0 (S' := (150, [some (.ref 1), some (.int (d_Re_kindFor q1)), some (.int (v (kerOf (v 1 3)) 3)), some (.ref q4.1)], [.int q15.1], (223, kc, ks, pd_H g q15.2))) rfl ?_
            refine ev_gos pp_Re_readStatement 1 (S' := (bif decide (q15.1 = 0) then 157 else 153, [some (.ref 1), some (.int (d_Re_kindFor q1)), some (.int (v (kerOf (v 1 3)) 3)), some (.ref q4.1)], [], (223, kc, ks, pd_H g q15.2))) rfl ?_
            rcases pd_cases h with ⟨hb16, h⟩ | ⟨hb16, h⟩
            · rw [hb16]
              refine ev_gos pp_Re_readStatement 1 (S' := (158, [some (.ref 1), some (.int (d_Re_kindFor q1)), some (.int (v (kerOf (v 1 3)) 3)), some (.ref q4.1)], [.int (0 : Int32)], (223, kc, ks, pd_H g q15.2))) rfl ?_
              cases h
              exact ev_zret pp_Re_readStatement rfl pd_b0
            · rw [hb16]
              refine ev_gos pp_Re_readStatement 2 (S' := (158, [some (.ref 1), some (.int (d_Re_kindFor q1)), some (.int (v (kerOf (v 1 3)) 3)), some (.ref q4.1)], [.int (1 : Int32)], (223, kc, ks, pd_H g q15.2))) rfl ?_
              cases h
              exact ev_zret pp_Re_readStatement rfl pd_b1
        · rw [hb12]
          rcases pd_cases h with ⟨hb17, h⟩ | ⟨hb17, h⟩
          · rw [hb17]
            refine ev_gos pp_Re_readStatement 2 (S' := (87, [some (.ref 1), some (.int (d_Re_kindFor q1)), some (.int (v (kerOf (v 1 3)) 3)), some (.ref q4.1)], [.int (59 : Int32), .ref 1], (223, kc, ks, pd_H g q5.2))) rfl ?_
            obtain ⟨q18, hq18, h⟩ := pd_bind h
            refine ev_callv pp_Re_readStatement rfl rfl rfl rfl (s_Re_take hq18) ?_
            refine ev_gos pp_Re_readStatement 0 (S' := (90, [some (.ref 1), some (.int (d_Re_kindFor q1)), some (.int (v (kerOf (v 1 3)) 3)), some (.ref q4.1)], [.int q18.1], (223, kc, ks, pd_H g q18.2))) rfl ?_
            cases h
            exact ev_zret pp_Re_readStatement rfl (z_Re_take  hq18)
          · rw [hb17]
            rcases pd_cases h with ⟨hb19, h⟩ | ⟨hb19, h⟩
            · rw [hb19]
              refine ev_gos pp_Re_readStatement 2 (S' := (116, [some (.ref 1), some (.int (d_Re_kindFor q1)), some (.int (v (kerOf (v 1 3)) 3)), some (.ref q4.1)], [.ref q4.1, .ref 1], (223, kc, ks, pd_H g q5.2))) rfl ?_
              obtain ⟨q20, hq20, h⟩ := pd_bind h
              refine ev_callv pp_Re_readStatement rfl rfl rfl rfl (s_Re_readWhole (r_Ke_addStep (ker_of _) hq4) hq20) ?_
              refine ev_gos pp_Re_readStatement 0 (S' := (119, [some (.ref 1), some (.int (d_Re_kindFor q1)), some (.int (v (kerOf (v 1 3)) 3)), some (.ref q4.1)], [.int q20.1], (223, kc, ks, pd_H g q20.2))) rfl ?_
              refine ev_gos pp_Re_readStatement 1 (S' := (bif decide (q20.1 = 0) then 134 else 122, [some (.ref 1), some (.int (d_Re_kindFor q1)), some (.int (v (kerOf (v 1 3)) 3)), some (.ref q4.1)], [], (223, kc, ks, pd_H g q20.2))) rfl ?_
              rcases pd_cases h with ⟨hb21, h⟩ | ⟨hb21, h⟩
              · rw [hb21]
                refine ev_gos pp_Re_readStatement 1 (S' := (135, [some (.ref 1), some (.int (d_Re_kindFor q1)), some (.int (v (kerOf (v 1 3)) 3)), some (.ref q4.1)], [.int (0 : Int32)], (223, kc, ks, pd_H g q20.2))) rfl ?_
                cases h
                exact ev_zret pp_Re_readStatement rfl pd_b0
              · rw [hb21]
                refine ev_gos pp_Re_readStatement 2 (S' := (124, [some (.ref 1), some (.int (d_Re_kindFor q1)), some (.int (v (kerOf (v 1 3)) 3)), some (.ref q4.1)], [.int (v (kerOf (v 1 3)) 3), .ref 1], (223, kc, ks, pd_H g q20.2))) rfl ?_
                obtain ⟨q22, hq22, h⟩ := pd_bind h
                refine ev_callv pp_Re_readStatement rfl rfl rfl rfl (s_Re_openBlock hq22) ?_
                refine ev_gos pp_Re_readStatement 0 (S' := (127, [some (.ref 1), some (.int (d_Re_kindFor q1)), some (.int (v (kerOf (v 1 3)) 3)), some (.ref q4.1)], [.int q22.1], (223, kc, ks, pd_H g q22.2))) rfl ?_
                refine ev_gos pp_Re_readStatement 1 (S' := (bif decide (q22.1 = 0) then 134 else 130, [some (.ref 1), some (.int (d_Re_kindFor q1)), some (.int (v (kerOf (v 1 3)) 3)), some (.ref q4.1)], [], (223, kc, ks, pd_H g q22.2))) rfl ?_
                rcases pd_cases h with ⟨hb23, h⟩ | ⟨hb23, h⟩
                · rw [hb23]
                  refine ev_gos pp_Re_readStatement 1 (S' := (135, [some (.ref 1), some (.int (d_Re_kindFor q1)), some (.int (v (kerOf (v 1 3)) 3)), some (.ref q4.1)], [.int (0 : Int32)], (223, kc, ks, pd_H g q22.2))) rfl ?_
                  cases h
                  exact ev_zret pp_Re_readStatement rfl pd_b0
                · rw [hb23]
                  refine ev_gos pp_Re_readStatement 2 (S' := (135, [some (.ref 1), some (.int (d_Re_kindFor q1)), some (.int (v (kerOf (v 1 3)) 3)), some (.ref q4.1)], [.int (1 : Int32)], (223, kc, ks, pd_H g q22.2))) rfl ?_
                  cases h
                  exact ev_zret pp_Re_readStatement rfl pd_b1
            · rw [hb19]
              rcases pd_cases h with ⟨hb24, h⟩ | ⟨hb24, h⟩
              · rw [hb24]
                refine ev_gos pp_Re_readStatement 2 (S' := (116, [some (.ref 1), some (.int (d_Re_kindFor q1)), some (.int (v (kerOf (v 1 3)) 3)), some (.ref q4.1)], [.ref q4.1, .ref 1], (223, kc, ks, pd_H g q5.2))) rfl ?_
                obtain ⟨q25, hq25, h⟩ := pd_bind h
                refine ev_callv pp_Re_readStatement rfl rfl rfl rfl (s_Re_readWhole (r_Ke_addStep (ker_of _) hq4) hq25) ?_
                refine ev_gos pp_Re_readStatement 0 (S' := (119, [some (.ref 1), some (.int (d_Re_kindFor q1)), some (.int (v (kerOf (v 1 3)) 3)), some (.ref q4.1)], [.int q25.1], (223, kc, ks, pd_H g q25.2))) rfl ?_
                refine ev_gos pp_Re_readStatement 1 (S' := (bif decide (q25.1 = 0) then 134 else 122, [some (.ref 1), some (.int (d_Re_kindFor q1)), some (.int (v (kerOf (v 1 3)) 3)), some (.ref q4.1)], [], (223, kc, ks, pd_H g q25.2))) rfl ?_
                rcases pd_cases h with ⟨hb26, h⟩ | ⟨hb26, h⟩
                · rw [hb26]
                  refine ev_gos pp_Re_readStatement 1 (S' := (135, [some (.ref 1), some (.int (d_Re_kindFor q1)), some (.int (v (kerOf (v 1 3)) 3)), some (.ref q4.1)], [.int (0 : Int32)], (223, kc, ks, pd_H g q25.2))) rfl ?_
                  cases h
                  exact ev_zret pp_Re_readStatement rfl pd_b0
                · rw [hb26]
                  refine ev_gos pp_Re_readStatement 2 (S' := (124, [some (.ref 1), some (.int (d_Re_kindFor q1)), some (.int (v (kerOf (v 1 3)) 3)), some (.ref q4.1)], [.int (v (kerOf (v 1 3)) 3), .ref 1], (223, kc, ks, pd_H g q25.2))) rfl ?_
                  obtain ⟨q27, hq27, h⟩ := pd_bind h
                  refine ev_callv pp_Re_readStatement rfl rfl rfl rfl (s_Re_openBlock hq27) ?_
                  refine ev_gos pp_Re_readStatement 0 (S' := (127, [some (.ref 1), some (.int (d_Re_kindFor q1)), some (.int (v (kerOf (v 1 3)) 3)), some (.ref q4.1)], [.int q27.1], (223, kc, ks, pd_H g q27.2))) rfl ?_
                  refine ev_gos pp_Re_readStatement 1 (S' := (bif decide (q27.1 = 0) then 134 else 130, [some (.ref 1), some (.int (d_Re_kindFor q1)), some (.int (v (kerOf (v 1 3)) 3)), some (.ref q4.1)], [], (223, kc, ks, pd_H g q27.2))) rfl ?_
                  rcases pd_cases h with ⟨hb28, h⟩ | ⟨hb28, h⟩
                  · rw [hb28]
                    refine ev_gos pp_Re_readStatement 1 (S' := (135, [some (.ref 1), some (.int (d_Re_kindFor q1)), some (.int (v (kerOf (v 1 3)) 3)), some (.ref q4.1)], [.int (0 : Int32)], (223, kc, ks, pd_H g q27.2))) rfl ?_
                    cases h
                    exact ev_zret pp_Re_readStatement rfl pd_b0
                  · rw [hb28]
                    refine ev_gos pp_Re_readStatement 2 (S' := (135, [some (.ref 1), some (.int (d_Re_kindFor q1)), some (.int (v (kerOf (v 1 3)) 3)), some (.ref q4.1)], [.int (1 : Int32)], (223, kc, ks, pd_H g q27.2))) rfl ?_
                    cases h
                    exact ev_zret pp_Re_readStatement rfl pd_b1
              · rw [hb24]
                refine ev_gos pp_Re_readStatement 2 (S' := (138, [some (.ref 1), some (.int (d_Re_kindFor q1)), some (.int (v (kerOf (v 1 3)) 3)), some (.ref q4.1)], [.ref q4.1, .ref 1], (223, kc, ks, pd_H g q5.2))) rfl ?_
                obtain ⟨q29, hq29, h⟩ := pd_bind h
                refine ev_callv pp_Re_readStatement rfl rfl rfl rfl (s_Re_readWhole (r_Ke_addStep (ker_of _) hq4) hq29) ?_
                refine ev_gos pp_Re_readStatement 0 (S' := (141, [some (.ref 1), some (.int (d_Re_kindFor q1)), some (.int (v (kerOf (v 1 3)) 3)), some (.ref q4.1)], [.int q29.1], (223, kc, ks, pd_H g q29.2))) rfl ?_
                refine ev_gos pp_Re_readStatement 1 (S' := (bif decide (q29.1 = 0) then 157 else 144, [some (.ref 1), some (.int (d_Re_kindFor q1)), some (.int (v (kerOf (v 1 3)) 3)), some (.ref q4.1)], [], (223, kc, ks, pd_H g q29.2))) rfl ?_
                rcases pd_cases h with ⟨hb30, h⟩ | ⟨hb30, h⟩
                · rw [hb30]
                  refine ev_gos pp_Re_readStatement 1 (S' := (158, [some (.ref 1), some (.int (d_Re_kindFor q1)), some (.int (v (kerOf (v 1 3)) 3)), some (.ref q4.1)], [.int (0 : Int32)], (223, kc, ks, pd_H g q29.2))) rfl ?_
                  cases h
                  exact ev_zret pp_Re_readStatement rfl pd_b0
                · rw [hb30]
                  refine ev_gos pp_Re_readStatement 2 (S' := (147, [some (.ref 1), some (.int (d_Re_kindFor q1)), some (.int (v (kerOf (v 1 3)) 3)), some (.ref q4.1)], [.int (59 : Int32), .ref 1], (223, kc, ks, pd_H g q29.2))) rfl ?_
                  obtain ⟨q31, hq31, h⟩ := pd_bind h
                  refine ev_callv pp_Re_readStatement rfl rfl rfl rfl (s_Re_take hq31) ?_
                  refine ev_gos pp_Re_readStatement 0 (S' := (150, [some (.ref 1), some (.int (d_Re_kindFor q1)), some (.int (v (kerOf (v 1 3)) 3)), some (.ref q4.1)], [.int q31.1], (223, kc, ks, pd_H g q31.2))) rfl ?_
                  refine ev_gos pp_Re_readStatement 1 (S' := (bif decide (q31.1 = 0) then 157 else 153, [some (.ref 1), some (.int (d_Re_kindFor q1)), some (.int (v (kerOf (v 1 3)) 3)), some (.ref q4.1)], [], (223, kc, ks, pd_H g q31.2))) rfl ?_
                  rcases pd_cases h with ⟨hb32, h⟩ | ⟨hb32, h⟩
                  · rw [hb32]
                    refine ev_gos pp_Re_readStatement 1 (S' := (158, [some (.ref 1), some (.int (d_Re_kindFor q1)), some (.int (v (kerOf (v 1 3)) 3)), some (.ref q4.1)], [.int (0 : Int32)], (223, kc, ks, pd_H g q31.2))) rfl ?_
                    cases h
                    exact ev_zret pp_Re_readStatement rfl pd_b0
                  · rw [hb32]
                    refine ev_gos pp_Re_readStatement 2 (S' := (158, [some (.ref 1), some (.int (d_Re_kindFor q1)), some (.int (v (kerOf (v 1 3)) 3)), some (.ref q4.1)], [.int (1 : Int32)], (223, kc, ks, pd_H g q31.2))) rfl ?_
                    cases h
                    exact ev_zret pp_Re_readStatement rfl pd_b1
    · rw [hb6]
      refine ev_gos pp_Re_readStatement 1 (S' := (49, [some (.ref 1), some (.int (d_Re_kindFor q1)), some (.int (v (kerOf (v 1 3)) 3)), some (.ref q4.1)], [.int (0 : Int32)], (223, kc, ks, pd_H g q5.2))) rfl ?_
      cases h
      exact ev_zret pp_Re_readStatement rfl pd_b0
  · rw [hb3]
    refine ev_gos pp_Re_readStatement 1 (S' := (14, [some (.ref 1), some (.int (d_Re_kindFor q1)), none, none], [.int (0 : Int32)], (223, kc, ks, pd_H g v))) rfl ?_
    cases h
    exact ev_zret pp_Re_readStatement rfl pd_b0
theorem z_Re_readStatement {w : Nat}  {v : pd_V} {q : (Int32 × pd_V)}  (h : d_Re_readStatement w v = some q) : (q.1 == 0 || q.1 == 1) = true := by
  unfold d_Re_readStatement at h
  obtain ⟨q1, hq1, h⟩ := pd_bind h
  rcases pd_cases h with ⟨hb3, h⟩ | ⟨hb3, h⟩
  · obtain ⟨q4, hq4, h⟩ := pd_bind h
    obtain ⟨q5, hq5, h⟩ := pd_bind h
    rcases pd_cases h with ⟨hb6, h⟩ | ⟨hb6, h⟩
    · rcases pd_cases h with ⟨hb7, h⟩ | ⟨hb7, h⟩
      · obtain ⟨q8, hq8, h⟩ := pd_bind h
        rcases pd_cases h with ⟨hb9, h⟩ | ⟨hb9, h⟩
        · cases h
          exact pd_b0
        · obtain ⟨q10, hq10, h⟩ := pd_bind h
          rcases pd_cases h with ⟨hb11, h⟩ | ⟨hb11, h⟩
          · cases h
            exact pd_b0
          · cases h
            exact pd_b1
      · rcases pd_cases h with ⟨hb12, h⟩ | ⟨hb12, h⟩
        · obtain ⟨q13, hq13, h⟩ := pd_bind h
          rcases pd_cases h with ⟨hb14, h⟩ | ⟨hb14, h⟩
          · cases h
            exact pd_b0
          · obtain ⟨q15, hq15, h⟩ := pd_bind h
            rcases pd_cases h with ⟨hb16, h⟩ | ⟨hb16, h⟩
            · cases h
              exact pd_b0
            · cases h
              exact pd_b1
        · rcases pd_cases h with ⟨hb17, h⟩ | ⟨hb17, h⟩
          · obtain ⟨q18, hq18, h⟩ := pd_bind h
            cases h
            exact (z_Re_take  hq18)
          · rcases pd_cases h with ⟨hb19, h⟩ | ⟨hb19, h⟩
            · obtain ⟨q20, hq20, h⟩ := pd_bind h
              rcases pd_cases h with ⟨hb21, h⟩ | ⟨hb21, h⟩
              · cases h
                exact pd_b0
              · obtain ⟨q22, hq22, h⟩ := pd_bind h
                rcases pd_cases h with ⟨hb23, h⟩ | ⟨hb23, h⟩
                · cases h
                  exact pd_b0
                · cases h
                  exact pd_b1
            · rcases pd_cases h with ⟨hb24, h⟩ | ⟨hb24, h⟩
              · obtain ⟨q25, hq25, h⟩ := pd_bind h
                rcases pd_cases h with ⟨hb26, h⟩ | ⟨hb26, h⟩
                · cases h
                  exact pd_b0
                · obtain ⟨q27, hq27, h⟩ := pd_bind h
                  rcases pd_cases h with ⟨hb28, h⟩ | ⟨hb28, h⟩
                  · cases h
                    exact pd_b0
                  · cases h
                    exact pd_b1
              · obtain ⟨q29, hq29, h⟩ := pd_bind h
                rcases pd_cases h with ⟨hb30, h⟩ | ⟨hb30, h⟩
                · cases h
                  exact pd_b0
                · obtain ⟨q31, hq31, h⟩ := pd_bind h
                  rcases pd_cases h with ⟨hb32, h⟩ | ⟨hb32, h⟩
                  · cases h
                    exact pd_b0
                  · cases h
                    exact pd_b1
    · cases h
      exact pd_b0
  · cases h
    exact pd_b0
theorem pp_Re_read {xs : Nat → Int32} {L : Nat} : (pj_P xs L 11).1 = fun S => pm_look tb_Re_read S.1 S := rfl
def d_Re_read_19 (w : Nat) (f : Nat) (l1 : Int32) (v : pd_V) : Option (Int32 × pd_V) := match f with
  | 0 => none
  | f + 1 =>
    bif decide ((v 1 1) < l1) then
      some ((0 : Int32), v)
    else
      bif decide ((v 1 2) < (v 1 1)) then
        bif decide ((v 1 5) ≤ 0) then
          (d_Re_readStatement w v).bind fun q4 =>
          bif !(decide (q4.1 = 0)) then
            d_Re_read_19 w f (l1 + (1 : Int32)) q4.2
          else
            some ((0 : Int32), q4.2)
        else
          (d_Re_next v).bind fun q6 =>
          bif !(decide (q6 = (125 : Int32))) then
            (d_Re_readStatement w v).bind fun q8 =>
            bif !(decide (q8.1 = 0)) then
              d_Re_read_19 w f (l1 + (1 : Int32)) q8.2
            else
              some ((0 : Int32), q8.2)
          else
            (d_Re_closeBlock v).bind fun q10 =>
            d_Re_read_19 w f (l1 + (1 : Int32)) q10
      else
        bif !(decide ((v 1 5) = 0)) then
          some ((0 : Int32), v)
        else
          some ((1 : Int32), v)
theorem s_Re_read_19 {w : Nat} : ∀ (f : Nat) (l1 : Int32) (v : pd_V)  (q : (Int32 × pd_V)) , d_Re_read_19 w f l1 v = some q → pm_ev (pj_P xs L) (d + 21) 11 (19, [some (.ref 1), some (.int l1)], [], (223, kc, ks, pd_H g v)) (.inl (some (.int q.1)), (223, kc, ks, pd_H g q.2)) := by
  intro f
  induction f with
  | zero => intro l1 v q h; exact nomatch (show (none : Option (Int32 × pd_V)) = some q from h)
  | succ f ih =>
    intro l1 v q h
    rw [d_Re_read_19] at h
    refine ev_gos pp_Re_read 3 (S' := (24, [some (.ref 1), some (.int l1)], [.int (v 1 1), .int l1], (223, kc, ks, pd_H g v))) rfl ?_
    refine ev_gos pp_Re_read 1 (S' := (bif decide ((v 1 1) < l1) then 89 else 27, [some (.ref 1), some (.int l1)], [], (223, kc, ks, pd_H g v))) rfl ?_
    rcases pd_cases h with ⟨hb1, h⟩ | ⟨hb1, h⟩
    · rw [hb1]
      refine ev_gos pp_Re_read 1 (S' := (90, [some (.ref 1), some (.int l1)], [.int (0 : Int32)], (223, kc, ks, pd_H g v))) rfl ?_
      cases h
      exact ev_zret pp_Re_read rfl pd_b0
    · rw [hb1]
      refine ev_gos pp_Re_read 4 (S' := (35, [some (.ref 1), some (.int l1)], [.int (v 1 1), .int (v 1 2)], (223, kc, ks, pd_H g v))) rfl ?_
      refine ev_gos pp_Re_read 1 (S' := (bif decide ((v 1 2) < (v 1 1)) then 51 else 38, [some (.ref 1), some (.int l1)], [], (223, kc, ks, pd_H g v))) rfl ?_
      rcases pd_cases h with ⟨hb2, h⟩ | ⟨hb2, h⟩
      · rw [hb2]
        refine ev_gos pp_Re_read 2 (S' := (55, [some (.ref 1), some (.int l1)], [.int (v 1 5)], (223, kc, ks, pd_H g v))) rfl ?_
        refine ev_gos pp_Re_read 1 (S' := (bif decide ((v 1 5) ≤ 0) then 74 else 58, [some (.ref 1), some (.int l1)], [], (223, kc, ks, pd_H g v))) rfl ?_
        rcases pd_cases h with ⟨hb3, h⟩ | ⟨hb3, h⟩
        · rw [hb3]
          refine ev_gos pp_Re_read 1 (S' := (75, [some (.ref 1), some (.int l1)], [.ref 1], (223, kc, ks, pd_H g v))) rfl ?_
          obtain ⟨q4, hq4, h⟩ := pd_bind h
          refine ev_callv pp_Re_read rfl rfl rfl rfl (s_Re_readStatement hq4) ?_
          refine ev_gos pp_Re_read 0 (S' := (78, [some (.ref 1), some (.int l1)], [.int q4.1], (223, kc, ks, pd_H g q4.2))) rfl ?_
          refine ev_gos pp_Re_read 1 (S' := (bif !(decide (q4.1 = 0)) then 83 else 81, [some (.ref 1), some (.int l1)], [], (223, kc, ks, pd_H g q4.2))) rfl ?_
          rcases pd_cases h with ⟨hb5, h⟩ | ⟨hb5, h⟩
          · rw [hb5]
            refine ev_gos pp_Re_read 2 (S' := (19, [some (.ref 1), some (.int (l1 + (1 : Int32)))], [], (223, kc, ks, pd_H g q4.2))) rfl ?_
            exact ih _ _ _  h
          · rw [hb5]
            refine ev_gos pp_Re_read 1 (S' := (82, [some (.ref 1), some (.int l1)], [.int (0 : Int32)], (223, kc, ks, pd_H g q4.2))) rfl ?_
            cases h
            exact ev_zret pp_Re_read rfl pd_b0
        · rw [hb3]
          refine ev_gos pp_Re_read 1 (S' := (59, [some (.ref 1), some (.int l1)], [.ref 1], (223, kc, ks, pd_H g v))) rfl ?_
          obtain ⟨q6, hq6, h⟩ := pd_bind h
          refine ev_callv pp_Re_read rfl rfl rfl rfl (s_Re_next hq6) ?_
          refine ev_gos pp_Re_read 1 (S' := (64, [some (.ref 1), some (.int l1)], [.int (125 : Int32), .int q6], (223, kc, ks, pd_H g v))) rfl ?_
          refine ev_gos pp_Re_read 1 (S' := (bif !(decide (q6 = (125 : Int32))) then 74 else 67, [some (.ref 1), some (.int l1)], [], (223, kc, ks, pd_H g v))) rfl ?_
          rcases pd_cases h with ⟨hb7, h⟩ | ⟨hb7, h⟩
          · rw [hb7]
            refine ev_gos pp_Re_read 1 (S' := (75, [some (.ref 1), some (.int l1)], [.ref 1], (223, kc, ks, pd_H g v))) rfl ?_
            obtain ⟨q8, hq8, h⟩ := pd_bind h
            refine ev_callv pp_Re_read rfl rfl rfl rfl (s_Re_readStatement hq8) ?_
            refine ev_gos pp_Re_read 0 (S' := (78, [some (.ref 1), some (.int l1)], [.int q8.1], (223, kc, ks, pd_H g q8.2))) rfl ?_
            refine ev_gos pp_Re_read 1 (S' := (bif !(decide (q8.1 = 0)) then 83 else 81, [some (.ref 1), some (.int l1)], [], (223, kc, ks, pd_H g q8.2))) rfl ?_
            rcases pd_cases h with ⟨hb9, h⟩ | ⟨hb9, h⟩
            · rw [hb9]
              refine ev_gos pp_Re_read 2 (S' := (19, [some (.ref 1), some (.int (l1 + (1 : Int32)))], [], (223, kc, ks, pd_H g q8.2))) rfl ?_
              exact ih _ _ _  h
            · rw [hb9]
              refine ev_gos pp_Re_read 1 (S' := (82, [some (.ref 1), some (.int l1)], [.int (0 : Int32)], (223, kc, ks, pd_H g q8.2))) rfl ?_
              cases h
              exact ev_zret pp_Re_read rfl pd_b0
          · rw [hb7]
            refine ev_gos pp_Re_read 1 (S' := (68, [some (.ref 1), some (.int l1)], [.ref 1], (223, kc, ks, pd_H g v))) rfl ?_
            obtain ⟨q10, hq10, h⟩ := pd_bind h
            refine ev_callv pp_Re_read rfl rfl rfl rfl (s_Re_closeBlock hq10) ?_
            refine ev_gos pp_Re_read 3 (S' := (19, [some (.ref 1), some (.int (l1 + (1 : Int32)))], [], (223, kc, ks, pd_H g q10))) rfl ?_
            exact ih _ _ _  h
      · rw [hb2]
        refine ev_gos pp_Re_read 2 (S' := (42, [some (.ref 1), some (.int l1)], [.int (v 1 5)], (223, kc, ks, pd_H g v))) rfl ?_
        refine ev_gos pp_Re_read 1 (S' := (bif !(decide ((v 1 5) = 0)) then 49 else 45, [some (.ref 1), some (.int l1)], [], (223, kc, ks, pd_H g v))) rfl ?_
        rcases pd_cases h with ⟨hb11, h⟩ | ⟨hb11, h⟩
        · rw [hb11]
          refine ev_gos pp_Re_read 1 (S' := (50, [some (.ref 1), some (.int l1)], [.int (0 : Int32)], (223, kc, ks, pd_H g v))) rfl ?_
          cases h
          exact ev_zret pp_Re_read rfl pd_b0
        · rw [hb11]
          refine ev_gos pp_Re_read 2 (S' := (50, [some (.ref 1), some (.int l1)], [.int (1 : Int32)], (223, kc, ks, pd_H g v))) rfl ?_
          cases h
          exact ev_zret pp_Re_read rfl pd_b1
theorem s_Re_read_19z {w : Nat} : ∀ (f : Nat) (l1 : Int32) (v : pd_V)  (q : (Int32 × pd_V)) , d_Re_read_19 w f l1 v = some q → (q.1 == 0 || q.1 == 1) = true := by
  intro f
  induction f with
  | zero => intro l1 v q h; exact nomatch (show (none : Option (Int32 × pd_V)) = some q from h)
  | succ f ih =>
    intro l1 v q h
    rw [d_Re_read_19] at h
    rcases pd_cases h with ⟨hb1, h⟩ | ⟨hb1, h⟩
    · cases h
      exact pd_b0
    · rcases pd_cases h with ⟨hb2, h⟩ | ⟨hb2, h⟩
      · rcases pd_cases h with ⟨hb3, h⟩ | ⟨hb3, h⟩
        · obtain ⟨q4, hq4, h⟩ := pd_bind h
          rcases pd_cases h with ⟨hb5, h⟩ | ⟨hb5, h⟩
          · exact ih _ _ _  h
          · cases h
            exact pd_b0
        · obtain ⟨q6, hq6, h⟩ := pd_bind h
          rcases pd_cases h with ⟨hb7, h⟩ | ⟨hb7, h⟩
          · obtain ⟨q8, hq8, h⟩ := pd_bind h
            rcases pd_cases h with ⟨hb9, h⟩ | ⟨hb9, h⟩
            · exact ih _ _ _  h
            · cases h
              exact pd_b0
          · obtain ⟨q10, hq10, h⟩ := pd_bind h
            exact ih _ _ _  h
      · rcases pd_cases h with ⟨hb11, h⟩ | ⟨hb11, h⟩
        · cases h
          exact pd_b0
        · cases h
          exact pd_b1
def d_Re_read (w : Nat)  (v : pd_V) : Option (Int32 × pd_V) :=
  (d_Ke_empty (kerOf (v 1 3)) (pd_w (pd_w v 1 2 (0 : Int32)) 1 5 (0 : Int32))).bind fun q1 =>
  d_Re_read_19 w w (0 : Int32) q1
theorem s_Re_read {w : Nat}  {v : pd_V} {q : (Int32 × pd_V)}  (h : d_Re_read w v = some q) : pm_ev (pj_P xs L) (d + 21) 11 (0, [some (.ref 1), none], [], (223, kc, ks, pd_H g v)) (.inl (some (.int q.1)), (223, kc, ks, pd_H g q.2)) := by
  unfold d_Re_read at h
  refine ev_gos pp_Re_read 2 (S' := (2, [some (.ref 1), none], [.int (0 : Int32), .ref 1], (223, kc, ks, pd_H g v))) rfl ?_
  refine ev_put pp_Re_read rfl (fun _ => rfl) rfl rfl rfl ?_
  refine ev_gos pp_Re_read 2 (S' := (7, [some (.ref 1), none], [.int (0 : Int32), .ref 1], (223, kc, ks, pd_H g (pd_w v 1 2 (0 : Int32))))) rfl ?_
  refine ev_put pp_Re_read rfl (fun _ => rfl) rfl rfl rfl ?_
  refine ev_gos pp_Re_read 2 (S' := (14, [some (.ref 1), none], [.ref (kerOf (v 1 3))], (223, kc, ks, pd_H g (pd_w (pd_w v 1 2 (0 : Int32)) 1 5 (0 : Int32))))) rfl ?_
  obtain ⟨q1, hq1, h⟩ := pd_bind h
  refine ev_callv pp_Re_read rfl rfl (pd_isa (c_ke (ker_of _))) rfl (s_Ke_empty (ker_of _) hq1) ?_
  refine ev_gos pp_Re_read 2 (S' := (19, [some (.ref 1), some (.int (0 : Int32))], [], (223, kc, ks, pd_H g q1))) rfl ?_
  exact s_Re_read_19 _ _ _ _  h
theorem z_Re_read {w : Nat}  {v : pd_V} {q : (Int32 × pd_V)}  (h : d_Re_read w v = some q) : (q.1 == 0 || q.1 == 1) = true := by
  unfold d_Re_read at h
  obtain ⟨q1, hq1, h⟩ := pd_bind h
  exact s_Re_read_19z _ _ _ _  h
end FN
