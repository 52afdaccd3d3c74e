section FN
variable {xs : Nat → Int32} {L : Nat} {g : Nat → Int64} {d kc ks : Nat}
theorem pp_De_crewOf {xs : Nat → Int32} {L : Nat} : (pj_P xs L 91).1 = fun S => pm_look tb_De_crewOf S.1 S := rfl
def d_De_crewOf (l1 : Int32) (l2 : Int32) (v : pd_V) : Option (Nat ⊕ Nat) :=
  bif decide (l2 < 0) then
    some (Sum.inr 0)
  else
    bif decide (l2 < (8 : Int32)) then
      bif decide (l1 = 0) then
        bif !(decide ((v 173 1) = 0)) then
          bif decide (l1 = 0) then
            some (Sum.inl 174)
          else
            some (Sum.inl 187)
        else
          some (Sum.inr 1)
      else
        bif !(decide ((v 186 1) = 0)) then
          bif decide (l1 = 0) then
            some (Sum.inl 174)
          else
            some (Sum.inl 187)
        else
          some (Sum.inr 1)
    else
      some (Sum.inr 0)
theorem s_De_crewOf {l1 : Int32} {l2 : Int32} {v : pd_V} {q : (Nat ⊕ Nat)}  (h : d_De_crewOf l1 l2 v = some q) : pm_ev (pj_P xs L) d 91 (0, [some (.ref 0), some (.int l1), some (.int l2)], [], (223, kc, ks, pd_H g v)) (pd_or q kc ks g v) := by
  unfold d_De_crewOf at h
  refine ev_gos pp_De_crewOf 1 (S' := (1, [some (.ref 0), some (.int l1), some (.int l2)], [.int l2], (223, kc, ks, pd_H g v))) rfl ?_
  refine ev_gos pp_De_crewOf 1 (S' := (bif decide (l2 < 0) then 10 else 4, [some (.ref 0), some (.int l1), some (.int l2)], [], (223, kc, ks, pd_H g v))) rfl ?_
  rcases pd_cases h with ⟨hb1, h⟩ | ⟨hb1, h⟩
  · rw [hb1]
    refine ev_gos pp_De_crewOf 0 (S' := (10, [some (.ref 0), some (.int l1), some (.int l2)], [], (223, kc, ks, pd_H g v))) rfl ?_
    cases h
    exact ev_fin pp_De_crewOf rfl
  · rw [hb1]
    refine ev_gos pp_De_crewOf 2 (S' := (7, [some (.ref 0), some (.int l1), some (.int l2)], [.int (8 : Int32), .int l2], (223, kc, ks, pd_H g v))) rfl ?_
    refine ev_gos pp_De_crewOf 1 (S' := (bif decide (l2 < (8 : Int32)) then 20 else 10, [some (.ref 0), some (.int l1), some (.int l2)], [], (223, kc, ks, pd_H g v))) rfl ?_
    rcases pd_cases h with ⟨hb2, h⟩ | ⟨hb2, h⟩
    · rw [hb2]
      refine ev_gos pp_De_crewOf 1 (S' := (21, [some (.ref 0), some (.int l1), some (.int l2)], [.int l1], (223, kc, ks, pd_H g v))) rfl ?_
      refine ev_gos pp_De_crewOf 1 (S' := (bif decide (l1 = 0) then 37 else 24, [some (.ref 0), some (.int l1), some (.int l2)], [], (223, kc, ks, pd_H g v))) rfl ?_
      rcases pd_cases h with ⟨hb3, h⟩ | ⟨hb3, h⟩
      · rw [hb3]
        refine ev_gos pp_De_crewOf 3 (S' := (44, [some (.ref 0), some (.int l1), some (.int l2)], [.int (v 173 1)], (223, kc, ks, pd_H g v))) rfl ?_
        refine ev_gos pp_De_crewOf 1 (S' := (bif !(decide ((v 173 1) = 0)) then 57 else 47, [some (.ref 0), some (.int l1), some (.int l2)], [], (223, kc, ks, pd_H g v))) rfl ?_
        rcases pd_cases h with ⟨hb4, h⟩ | ⟨hb4, h⟩
        · rw [hb4]
          refine ev_gos pp_De_crewOf 1 (S' := (58, [some (.ref 0), some (.int l1), some (.int l2)], [.int l1], (223, kc, ks, pd_H g v))) rfl ?_
          refine ev_gos pp_De_crewOf 1 (S' := (bif decide (l1 = 0) then 71 else 61, [some (.ref 0), some (.int l1), some (.int l2)], [], (223, kc, ks, pd_H g v))) rfl ?_
          rcases pd_cases h with ⟨hb5, h⟩ | ⟨hb5, h⟩
          · rw [hb5]
            refine ev_gos pp_De_crewOf 3 (S' := (78, [some (.ref 0), some (.int l1), some (.int l2)], [.ref 174], (223, kc, ks, pd_H g v))) rfl ?_
            cases h
            exact ev_fin pp_De_crewOf rfl
          · rw [hb5]
            refine ev_gos pp_De_crewOf 4 (S' := (78, [some (.ref 0), some (.int l1), some (.int l2)], [.ref 187], (223, kc, ks, pd_H g v))) rfl ?_
            cases h
            exact ev_fin pp_De_crewOf rfl
        · rw [hb4]
          refine ev_gos pp_De_crewOf 0 (S' := (47, [some (.ref 0), some (.int l1), some (.int l2)], [], (223, kc, ks, pd_H g v))) rfl ?_
          cases h
          exact ev_fin pp_De_crewOf rfl
      · rw [hb3]
        refine ev_gos pp_De_crewOf 3 (S' := (31, [some (.ref 0), some (.int l1), some (.int l2)], [.int (v 186 1)], (223, kc, ks, pd_H g v))) rfl ?_
        refine ev_gos pp_De_crewOf 1 (S' := (bif !(decide ((v 186 1) = 0)) then 57 else 34, [some (.ref 0), some (.int l1), some (.int l2)], [], (223, kc, ks, pd_H g v))) rfl ?_
        rcases pd_cases h with ⟨hb6, h⟩ | ⟨hb6, h⟩
        · rw [hb6]
          refine ev_gos pp_De_crewOf 1 (S' := (58, [some (.ref 0), some (.int l1), some (.int l2)], [.int l1], (223, kc, ks, pd_H g v))) rfl ?_
          refine ev_gos pp_De_crewOf 1 (S' := (bif decide (l1 = 0) then 71 else 61, [some (.ref 0), some (.int l1), some (.int l2)], [], (223, kc, ks, pd_H g v))) rfl ?_
          rcases pd_cases h with ⟨hb7, h⟩ | ⟨hb7, h⟩
          · rw [hb7]
            refine ev_gos pp_De_crewOf 3 (S' := (78, [some (.ref 0), some (.int l1), some (.int l2)], [.ref 174], (223, kc, ks, pd_H g v))) rfl ?_
            cases h
            exact ev_fin pp_De_crewOf rfl
          · rw [hb7]
            refine ev_gos pp_De_crewOf 4 (S' := (78, [some (.ref 0), some (.int l1), some (.int l2)], [.ref 187], (223, kc, ks, pd_H g v))) rfl ?_
            cases h
            exact ev_fin pp_De_crewOf rfl
        · rw [hb6]
          refine ev_gos pp_De_crewOf 1 (S' := (47, [some (.ref 0), some (.int l1), some (.int l2)], [], (223, kc, ks, pd_H g v))) rfl ?_
          cases h
          exact ev_fin pp_De_crewOf rfl
    · rw [hb2]
      refine ev_gos pp_De_crewOf 0 (S' := (10, [some (.ref 0), some (.int l1), some (.int l2)], [], (223, kc, ks, pd_H g v))) rfl ?_
      cases h
      exact ev_fin pp_De_crewOf rfl
theorem r_De_crewOf {l1 : Int32} {l2 : Int32} {v : pd_V} {q : (Nat ⊕ Nat)} {r : Nat}  (h : d_De_crewOf l1 l2 v = some q) (hr : q = .inl r) : crw r := by
  unfold d_De_crewOf at h
  rcases pd_cases h with ⟨hb1, h⟩ | ⟨hb1, h⟩
  · cases h
    exact nomatch hr
  · rcases pd_cases h with ⟨hb2, h⟩ | ⟨hb2, h⟩
    · rcases pd_cases h with ⟨hb3, h⟩ | ⟨hb3, h⟩
      · rcases pd_cases h with ⟨hb4, h⟩ | ⟨hb4, h⟩
        · rcases pd_cases h with ⟨hb5, h⟩ | ⟨hb5, h⟩
          · cases h
            cases hr
            exact crw_174
          · cases h
            cases hr
            exact crw_187
        · cases h
          exact nomatch hr
      · rcases pd_cases h with ⟨hb6, h⟩ | ⟨hb6, h⟩
        · rcases pd_cases h with ⟨hb7, h⟩ | ⟨hb7, h⟩
          · cases h
            cases hr
            exact crw_174
          · cases h
            cases hr
            exact crw_187
        · cases h
          exact nomatch hr
    · cases h
      exact nomatch hr
theorem pp_Cr_countOf {xs : Nat → Int32} {L : Nat} : (pj_P xs L 92).1 = fun S => pm_look tb_Cr_countOf S.1 S := rfl
def d_Cr_countOf (l0 : Nat) (l1 : Int32) (v : pd_V) : Option Int32 :=
  bif pm_in (l1 &&& (7 : Int32)) 8 then
  some (v (l0 + 5) ((l1 &&& (7 : Int32)).toNatClampNeg))
  else none
theorem s_Cr_countOf {l0 : Nat} {l1 : Int32} {v : pd_V} {q : Int32} (hl0 : crw l0) (h : d_Cr_countOf l0 l1 v = some q) : pm_ev (pj_P xs L) d 92 (0, [some (.ref l0), some (.int l1)], [], (223, kc, ks, pd_H g v)) (.inl (some (.int q)), (223, kc, ks, pd_H g v)) := by
  unfold d_Cr_countOf at h
  refine ev_gos pp_Cr_countOf 1 (S' := (1, [some (.ref l0), some (.int l1)], [.ref l0], (223, kc, ks, pd_H g v))) rfl ?_
  refine ev_get pp_Cr_countOf rfl (c_cr hl0) rfl ?_
  refine ev_gos pp_Cr_countOf 3 (S' := (8, [some (.ref l0), some (.int l1)], [.int (l1 &&& (7 : Int32)), .ref (l0 + 5)], (223, kc, ks, pd_H g v))) rfl ?_
  obtain ⟨hc1, h⟩ := pd_chk h
  refine ev_iald pp_Cr_countOf rfl (c_cr5 hl0) hc1 ?_
  refine ev_gos pp_Cr_countOf 0 (S' := (9, [some (.ref l0), some (.int l1)], [.int (v (l0 + 5) ((l1 &&& (7 : Int32)).toNatClampNeg))], (223, kc, ks, pd_H g v))) rfl ?_
  cases h
  exact ev_fin pp_Cr_countOf rfl
theorem pp_Cr_trapOf {xs : Nat → Int32} {L : Nat} : (pj_P xs L 93).1 = fun S => pm_look tb_Cr_trapOf S.1 S := rfl
def d_Cr_trapOf (l0 : Nat) (l1 : Int32) (v : pd_V) : Option Int32 :=
  bif pm_in (l1 &&& (7 : Int32)) 8 then
  some (v (l0 + 6) ((l1 &&& (7 : Int32)).toNatClampNeg))
  else none
theorem s_Cr_trapOf {l0 : Nat} {l1 : Int32} {v : pd_V} {q : Int32} (hl0 : crw l0) (h : d_Cr_trapOf l0 l1 v = some q) : pm_ev (pj_P xs L) d 93 (0, [some (.ref l0), some (.int l1)], [], (223, kc, ks, pd_H g v)) (.inl (some (.int q)), (223, kc, ks, pd_H g v)) := by
  unfold d_Cr_trapOf at h
  refine ev_gos pp_Cr_trapOf 1 (S' := (1, [some (.ref l0), some (.int l1)], [.ref l0], (223, kc, ks, pd_H g v))) rfl ?_
  refine ev_get pp_Cr_trapOf rfl (c_cr hl0) rfl ?_
  refine ev_gos pp_Cr_trapOf 3 (S' := (8, [some (.ref l0), some (.int l1)], [.int (l1 &&& (7 : Int32)), .ref (l0 + 6)], (223, kc, ks, pd_H g v))) rfl ?_
  obtain ⟨hc1, h⟩ := pd_chk h
  refine ev_iald pp_Cr_trapOf rfl (c_cr6 hl0) hc1 ?_
  refine ev_gos pp_Cr_trapOf 0 (S' := (9, [some (.ref l0), some (.int l1)], [.int (v (l0 + 6) ((l1 &&& (7 : Int32)).toNatClampNeg))], (223, kc, ks, pd_H g v))) rfl ?_
  cases h
  exact ev_fin pp_Cr_trapOf rfl
theorem pp_De_lane {xs : Nat → Int32} {L : Nat} : (pj_P xs L 90).1 = fun S => pm_look tb_De_lane S.1 S := rfl
def d_De_lane (l1 : Int32) (l2 : Int32) (l3 : Int32) (v : pd_V) : Option (Int32 ⊕ Nat) :=
  bif decide (l3 < 0) then
    some (Sum.inr 0)
  else
    bif decide (l3 ≤ (2 : Int32)) then
      (d_De_crewOf l1 l2 v).bind fun q3 => Sum.elim (fun rq3 =>
      bif !(decide (l3 = 0)) then
        bif !(decide (l3 = (1 : Int32))) then
          bif !(decide (l1 = 0)) then
            bif !(decide ((1 : Int32) = 0)) then
              some (Sum.inl (1 : Int32))
            else
              bif decide ((d_De_isIn (v rq3 10) l2) = 0) then
                some (Sum.inl (0 : Int32))
              else
                some (Sum.inl (1 : Int32))
          else
            bif decide ((v 173 2) = 0) then
              bif !(decide ((0 : Int32) = 0)) then
                some (Sum.inl (1 : Int32))
              else
                bif decide ((d_De_isIn (v rq3 10) l2) = 0) then
                  some (Sum.inl (0 : Int32))
                else
                  some (Sum.inl (1 : Int32))
            else
              bif !(decide ((1 : Int32) = 0)) then
                some (Sum.inl (1 : Int32))
              else
                bif decide ((d_De_isIn (v rq3 10) l2) = 0) then
                  some (Sum.inl (0 : Int32))
                else
                  some (Sum.inl (1 : Int32))
        else
          (d_Cr_trapOf rq3 l2 v).bind fun q17 =>
          some (Sum.inl q17)
      else
        (d_Cr_countOf rq3 l2 v).bind fun q18 =>
        some (Sum.inl q18)) (fun xq3 => some (Sum.inr xq3)) q3
    else
      some (Sum.inr 0)
theorem s_De_lane {l1 : Int32} {l2 : Int32} {l3 : Int32} {v : pd_V} {q : (Int32 ⊕ Nat)}  (h : d_De_lane l1 l2 l3 v = some q) : pm_ev (pj_P xs L) (d + 1) 90 (0, [some (.ref 0), some (.int l1), some (.int l2), some (.int l3), none, none], [], (223, kc, ks, pd_H g v)) (pd_oi q kc ks g v) := by
  unfold d_De_lane at h
  refine ev_gos pp_De_lane 1 (S' := (1, [some (.ref 0), some (.int l1), some (.int l2), some (.int l3), none, none], [.int l3], (223, kc, ks, pd_H g v))) rfl ?_
  refine ev_gos pp_De_lane 1 (S' := (bif decide (l3 < 0) then 9 else 4, [some (.ref 0), some (.int l1), some (.int l2), some (.int l3), none, none], [], (223, kc, ks, pd_H g v))) rfl ?_
  rcases pd_cases h with ⟨hb1, h⟩ | ⟨hb1, h⟩
  · rw [hb1]
    refine ev_gos pp_De_lane 0 (S' := (9, [some (.ref 0), some (.int l1), some (.int l2), some (.int l3), none, none], [], (223, kc, ks, pd_H g v))) rfl ?_
    cases h
    exact ev_fin pp_De_lane rfl
  · rw [hb1]
    refine ev_gos pp_De_lane 2 (S' := (6, [some (.ref 0), some (.int l1), some (.int l2), some (.int l3), none, none], [.int (2 : Int32), .int l3], (223, kc, ks, pd_H g v))) rfl ?_
    refine ev_gos pp_De_lane 1 (S' := (bif decide (l3 ≤ (2 : Int32)) then 19 else 9, [some (.ref 0), some (.int l1), some (.int l2), some (.int l3), none, none], [], (223, kc, ks, pd_H g v))) rfl ?_
    rcases pd_cases h with ⟨hb2, h⟩ | ⟨hb2, h⟩
    · rw [hb2]
      refine ev_gos pp_De_lane 3 (S' := (22, [some (.ref 0), some (.int l1), some (.int l2), some (.int l3), none, none], [.int l2, .int l1, .ref 0], (223, kc, ks, pd_H g v))) rfl ?_
      obtain ⟨q3, hq3, h⟩ := pd_bind h
      have evq3 := s_De_crewOf (xs := xs) (L := L) (g := g) (d := d + 0) (kc := kc) (ks := ks) hq3
      rcases pd_elim h with ⟨rq3, eq3, h⟩ | ⟨xq3, eq3, h⟩
      · rw [eq3] at evq3
        refine ev_callv pp_De_lane rfl rfl rfl rfl evq3 ?_
        refine ev_gos pp_De_lane 2 (S' := (28, [some (.ref 0), some (.int l1), some (.int l2), some (.int l3), some (.ref rq3), none], [.int l3], (223, kc, ks, pd_H g v))) rfl ?_
        refine ev_gos pp_De_lane 1 (S' := (bif !(decide (l3 = 0)) then 38 else 31, [some (.ref 0), some (.int l1), some (.int l2), some (.int l3), some (.ref rq3), none], [], (223, kc, ks, pd_H g v))) rfl ?_
        rcases pd_cases h with ⟨hb4, h⟩ | ⟨hb4, h⟩
        · rw [hb4]
          refine ev_gos pp_De_lane 2 (S' := (40, [some (.ref 0), some (.int l1), some (.int l2), some (.int l3), some (.ref rq3), none], [.int (1 : Int32), .int l3], (223, kc, ks, pd_H g v))) rfl ?_
          refine ev_gos pp_De_lane 1 (S' := (bif !(decide (l3 = (1 : Int32))) then 50 else 43, [some (.ref 0), some (.int l1), some (.int l2), some (.int l3), some (.ref rq3), none], [], (223, kc, ks, pd_H g v))) rfl ?_
          rcases pd_cases h with ⟨hb5, h⟩ | ⟨hb5, h⟩
          · rw [hb5]
            refine ev_gos pp_De_lane 1 (S' := (51, [some (.ref 0), some (.int l1), some (.int l2), some (.int l3), some (.ref rq3), none], [.int l1], (223, kc, ks, pd_H g v))) rfl ?_
            refine ev_gos pp_De_lane 1 (S' := (bif !(decide (l1 = 0)) then 64 else 54, [some (.ref 0), some (.int l1), some (.int l2), some (.int l3), some (.ref rq3), none], [], (223, kc, ks, pd_H g v))) rfl ?_
            rcases pd_cases h with ⟨hb6, h⟩ | ⟨hb6, h⟩
            · rw [hb6]
              refine ev_gos pp_De_lane 4 (S' := (73, [some (.ref 0), some (.int l1), some (.int l2), some (.int l3), some (.ref rq3), some (.int (1 : Int32))], [.int (1 : Int32)], (223, kc, ks, pd_H g v))) rfl ?_
              refine ev_gos pp_De_lane 1 (S' := (bif !(decide ((1 : Int32) = 0)) then 88 else 76, [some (.ref 0), some (.int l1), some (.int l2), some (.int l3), some (.ref rq3), some (.int (1 : Int32))], [], (223, kc, ks, pd_H g v))) rfl ?_
              rcases pd_cases h with ⟨hb7, h⟩ | ⟨hb7, h⟩
              · rw [hb7]
                refine ev_gos pp_De_lane 2 (S' := (93, [some (.ref 0), some (.int l1), some (.int l2), some (.int l3), some (.ref rq3), some (.int (1 : Int32))], [.int (1 : Int32)], (223, kc, ks, pd_H g v))) rfl ?_
                cases h
                exact ev_fin pp_De_lane rfl
              · rw [hb7]
                refine ev_gos pp_De_lane 1 (S' := (78, [some (.ref 0), some (.int l1), some (.int l2), some (.int l3), some (.ref rq3), some (.int (1 : Int32))], [.ref rq3], (223, kc, ks, pd_H g v))) rfl ?_
                refine ev_get pp_De_lane rfl (c_cr (r_De_crewOf hq3 eq3)) rfl ?_
                refine ev_gos pp_De_lane 1 (S' := (82, [some (.ref 0), some (.int l1), some (.int l2), some (.int l3), some (.ref rq3), some (.int (1 : Int32))], [.int l2, .int (v rq3 10)], (223, kc, ks, pd_H g v))) rfl ?_
                refine ev_call pp_De_lane rfl rfl rfl (s_De_isIn) ?_
                refine ev_gos pp_De_lane 0 (S' := (85, [some (.ref 0), some (.int l1), some (.int l2), some (.int l3), some (.ref rq3), some (.int (1 : Int32))], [.int (d_De_isIn (v rq3 10) l2)], (223, kc, ks, pd_H g v))) rfl ?_
                refine ev_gos pp_De_lane 1 (S' := (bif decide ((d_De_isIn (v rq3 10) l2) = 0) then 92 else 88, [some (.ref 0), some (.int l1), some (.int l2), some (.int l3), some (.ref rq3), some (.int (1 : Int32))], [], (223, kc, ks, pd_H g v))) rfl ?_
                rcases pd_cases h with ⟨hb9, h⟩ | ⟨hb9, h⟩
                · rw [hb9]
                  refine ev_gos pp_De_lane 1 (S' := (93, [some (.ref 0), some (.int l1), some (.int l2), some (.int l3), some (.ref rq3), some (.int (1 : Int32))], [.int (0 : Int32)], (223, kc, ks, pd_H g v))) rfl ?_
                  cases h
                  exact ev_fin pp_De_lane rfl
                · rw [hb9]
                  refine ev_gos pp_De_lane 2 (S' := (93, [some (.ref 0), some (.int l1), some (.int l2), some (.int l3), some (.ref rq3), some (.int (1 : Int32))], [.int (1 : Int32)], (223, kc, ks, pd_H g v))) rfl ?_
                  cases h
                  exact ev_fin pp_De_lane rfl
            · rw [hb6]
              refine ev_gos pp_De_lane 3 (S' := (61, [some (.ref 0), some (.int l1), some (.int l2), some (.int l3), some (.ref rq3), none], [.int (v 173 2)], (223, kc, ks, pd_H g v))) rfl ?_
              refine ev_gos pp_De_lane 1 (S' := (bif decide ((v 173 2) = 0) then 68 else 64, [some (.ref 0), some (.int l1), some (.int l2), some (.int l3), some (.ref rq3), none], [], (223, kc, ks, pd_H g v))) rfl ?_
              rcases pd_cases h with ⟨hb10, h⟩ | ⟨hb10, h⟩
              · rw [hb10]
                refine ev_gos pp_De_lane 3 (S' := (73, [some (.ref 0), some (.int l1), some (.int l2), some (.int l3), some (.ref rq3), some (.int (0 : Int32))], [.int (0 : Int32)], (223, kc, ks, pd_H g v))) rfl ?_
                refine ev_gos pp_De_lane 1 (S' := (bif !(decide ((0 : Int32) = 0)) then 88 else 76, [some (.ref 0), some (.int l1), some (.int l2), some (.int l3), some (.ref rq3), some (.int (0 : Int32))], [], (223, kc, ks, pd_H g v))) rfl ?_
                rcases pd_cases h with ⟨hb11, h⟩ | ⟨hb11, h⟩
                · rw [hb11]
                  refine ev_gos pp_De_lane 2 (S' := (93, [some (.ref 0), some (.int l1), some (.int l2), some (.int l3), some (.ref rq3), some (.int (0 : Int32))], [.int (1 : Int32)], (223, kc, ks, pd_H g v))) rfl ?_
                  cases h
                  exact ev_fin pp_De_lane rfl
                · rw [hb11]
                  refine ev_gos pp_De_lane 1 (S' := (78, [some (.ref 0), some (.int l1), some (.int l2), some (.int l3), some (.ref rq3), some (.int (0 : Int32))], [.ref rq3], (223, kc, ks, pd_H g v))) rfl ?_
                  refine ev_get pp_De_lane rfl (c_cr (r_De_crewOf hq3 eq3)) rfl ?_
                  refine ev_gos pp_De_lane 1 (S' := (82, [some (.ref 0), some (.int l1), some (.int l2), some (.int l3), some (.ref rq3), some (.int (0 : Int32))], [.int l2, .int (v rq3 10)], (223, kc, ks, pd_H g v))) rfl ?_
                  refine ev_call pp_De_lane rfl rfl rfl (s_De_isIn) ?_
                  refine ev_gos pp_De_lane 0 (S' := (85, [some (.ref 0), some (.int l1), some (.int l2), some (.int l3), some (.ref rq3), some (.int (0 : Int32))], [.int (d_De_isIn (v rq3 10) l2)], (223, kc, ks, pd_H g v))) rfl ?_
                  refine ev_gos pp_De_lane 1 (S' := (bif decide ((d_De_isIn (v rq3 10) l2) = 0) then 92 else 88, [some (.ref 0), some (.int l1), some (.int l2), some (.int l3), some (.ref rq3), some (.int (0 : Int32))], [], (223, kc, ks, pd_H g v))) rfl ?_
                  rcases pd_cases h with ⟨hb13, h⟩ | ⟨hb13, h⟩
                  · rw [hb13]
                    refine ev_gos pp_De_lane 1 (S' := (93, [some (.ref 0), some (.int l1), some (.int l2), some (.int l3), some (.ref rq3), some (.int (0 : Int32))], [.int (0 : Int32)], (223, kc, ks, pd_H g v))) rfl ?_
                    cases h
                    exact ev_fin pp_De_lane rfl
                  · rw [hb13]
                    refine ev_gos pp_De_lane 2 (S' := (93, [some (.ref 0), some (.int l1), some (.int l2), some (.int l3), some (.ref rq3), some (.int (0 : Int32))], [.int (1 : Int32)], (223, kc, ks, pd_H g v))) rfl ?_
                    cases h
                    exact ev_fin pp_De_lane rfl
              · rw [hb10]
                refine ev_gos pp_De_lane 4 (S' := (73, [some (.ref 0), some (.int l1), some (.int l2), some (.int l3), some (.ref rq3), some (.int (1 : Int32))], [.int (1 : Int32)], (223, kc, ks, pd_H g v))) rfl ?_
                refine ev_gos pp_De_lane 1 (S' := (bif !(decide ((1 : Int32) = 0)) then 88 else 76, [some (.ref 0), some (.int l1), some (.int l2), some (.int l3), some (.ref rq3), some (.int (1 : Int32))], [], (223, kc, ks, pd_H g v))) rfl ?_
                rcases pd_cases h with ⟨hb14, h⟩ | ⟨hb14, h⟩
                · rw [hb14]
                  refine ev_gos pp_De_lane 2 (S' := (93, [some (.ref 0), some (.int l1), some (.int l2), some (.int l3), some (.ref rq3), some (.int (1 : Int32))], [.int (1 : Int32)], (223, kc, ks, pd_H g v))) rfl ?_
                  cases h
                  exact ev_fin pp_De_lane rfl
                · rw [hb14]
                  refine ev_gos pp_De_lane 1 (S' := (78, [some (.ref 0), some (.int l1), some (.int l2), some (.int l3), some (.ref rq3), some (.int (1 : Int32))], [.ref rq3], (223, kc, ks, pd_H g v))) rfl ?_
                  refine ev_get pp_De_lane rfl (c_cr (r_De_crewOf hq3 eq3)) rfl ?_
                  refine ev_gos pp_De_lane 1 (S' := (82, [some (.ref 0), some (.int l1), some (.int l2), some (.int l3), some (.ref rq3), some (.int (1 : Int32))], [.int l2, .int (v rq3 10)], (223, kc, ks, pd_H g v))) rfl ?_
                  refine ev_call pp_De_lane rfl rfl rfl (s_De_isIn) ?_
                  refine ev_gos pp_De_lane 0 (S' := (85, [some (.ref 0), some (.int l1), some (.int l2), some (.int l3), some (.ref rq3), some (.int (1 : Int32))], [.int (d_De_isIn (v rq3 10) l2)], (223, kc, ks, pd_H g v))) rfl ?_
                  refine ev_gos pp_De_lane 1 (S' := (bif decide ((d_De_isIn (v rq3 10) l2) = 0) then 92 else 88, [some (.ref 0), some (.int l1), some (.int l2), some (.int l3), some (.ref rq3), some (.int (1 : Int32))], [], (223, kc, ks, pd_H g v))) rfl ?_
                  rcases pd_cases h with ⟨hb16, h⟩ | ⟨hb16, h⟩
                  · rw [hb16]
                    refine ev_gos pp_De_lane 1 (S' := (93, [some (.ref 0), some (.int l1), some (.int l2), some (.int l3), some (.ref rq3), some (.int (1 : Int32))], [.int (0 : Int32)], (223, kc, ks, pd_H g v))) rfl ?_
                    cases h
                    exact ev_fin pp_De_lane rfl
                  · rw [hb16]
                    refine ev_gos pp_De_lane 2 (S' := (93, [some (.ref 0), some (.int l1), some (.int l2), some (.int l3), some (.ref rq3), some (.int (1 : Int32))], [.int (1 : Int32)], (223, kc, ks, pd_H g v))) rfl ?_
                    cases h
                    exact ev_fin pp_De_lane rfl
          · rw [hb5]
            refine ev_gos pp_De_lane 2 (S' := (46, [some (.ref 0), some (.int l1), some (.int l2), some (.int l3), some (.ref rq3), none], [.int l2, .ref rq3], (223, kc, ks, pd_H g v))) rfl ?_
            obtain ⟨q17, hq17, h⟩ := pd_bind h
            refine ev_callv pp_De_lane rfl rfl (pd_isa (c_cr (r_De_crewOf hq3 eq3))) rfl (s_Cr_trapOf (r_De_crewOf hq3 eq3) hq17) ?_
            refine ev_gos pp_De_lane 0 (S' := (49, [some (.ref 0), some (.int l1), some (.int l2), some (.int l3), some (.ref rq3), none], [.int q17], (223, kc, ks, pd_H g v))) rfl ?_
            cases h
            exact ev_fin pp_De_lane rfl
        · rw [hb4]
          refine ev_gos pp_De_lane 2 (S' := (34, [some (.ref 0), some (.int l1), some (.int l2), some (.int l3), some (.ref rq3), none], [.int l2, .ref rq3], (223, kc, ks, pd_H g v))) rfl ?_
          obtain ⟨q18, hq18, h⟩ := pd_bind h
          refine ev_callv pp_De_lane rfl rfl (pd_isa (c_cr (r_De_crewOf hq3 eq3))) rfl (s_Cr_countOf (r_De_crewOf hq3 eq3) hq18) ?_
          refine ev_gos pp_De_lane 0 (S' := (37, [some (.ref 0), some (.int l1), some (.int l2), some (.int l3), some (.ref rq3), none], [.int q18], (223, kc, ks, pd_H g v))) rfl ?_
          cases h
          exact ev_fin pp_De_lane rfl
      · cases h
        rw [eq3] at evq3
        exact ev_callvX pp_De_lane rfl rfl rfl rfl evq3 rfl
    · rw [hb2]
      refine ev_gos pp_De_lane 0 (S' := (9, [some (.ref 0), some (.int l1), some (.int l2), some (.int l3), none, none], [], (223, kc, ks, pd_H g v))) rfl ?_
      cases h
      exact ev_fin pp_De_lane rfl
theorem pp_Cr_keptOf {xs : Nat → Int32} {L : Nat} : (pj_P xs L 95).1 = fun S => pm_look tb_Cr_keptOf S.1 S := rfl
def d_Cr_keptOf (l0 : Nat) (l1 : Int32) (l2 : Int32) (v : pd_V) : Option Int32 :=
  bif decide (l2 < 0) then
    some (0 : Int32)
  else
    bif decide ((20 : Int32) ≤ l2) then
      some (0 : Int32)
    else
      bif pm_in (((l1 &&& (7 : Int32)) * (20 : Int32)) + l2) 160 then
      some (v (l0 + 4) ((((l1 &&& (7 : Int32)) * (20 : Int32)) + l2).toNatClampNeg))
      else none
theorem s_Cr_keptOf {l0 : Nat} {l1 : Int32} {l2 : Int32} {v : pd_V} {q : Int32} (hl0 : crw l0) (h : d_Cr_keptOf l0 l1 l2 v = some q) : pm_ev (pj_P xs L) d 95 (0, [some (.ref l0), some (.int l1), some (.int l2)], [], (223, kc, ks, pd_H g v)) (.inl (some (.int q)), (223, kc, ks, pd_H g v)) := by
  unfold d_Cr_keptOf at h
  refine ev_gos pp_Cr_keptOf 1 (S' := (1, [some (.ref l0), some (.int l1), some (.int l2)], [.int l2], (223, kc, ks, pd_H g v))) rfl ?_
  refine ev_gos pp_Cr_keptOf 1 (S' := (bif decide (l2 < 0) then 27 else 4, [some (.ref l0), some (.int l1), some (.int l2)], [], (223, kc, ks, pd_H g v))) rfl ?_
  rcases pd_cases h with ⟨hb1, h⟩ | ⟨hb1, h⟩
  · rw [hb1]
    refine ev_gos pp_Cr_keptOf 1 (S' := (28, [some (.ref l0), some (.int l1), some (.int l2)], [.int (0 : Int32)], (223, kc, ks, pd_H g v))) rfl ?_
    cases h
    exact ev_fin pp_Cr_keptOf rfl
  · rw [hb1]
    refine ev_gos pp_Cr_keptOf 2 (S' := (7, [some (.ref l0), some (.int l1), some (.int l2)], [.int (20 : Int32), .int l2], (223, kc, ks, pd_H g v))) rfl ?_
    refine ev_gos pp_Cr_keptOf 1 (S' := (bif decide ((20 : Int32) ≤ l2) then 27 else 10, [some (.ref l0), some (.int l1), some (.int l2)], [], (223, kc, ks, pd_H g v))) rfl ?_
    rcases pd_cases h with ⟨hb2, h⟩ | ⟨hb2, h⟩
    · rw [hb2]
      refine ev_gos pp_Cr_keptOf 1 (S' := (28, [some (.ref l0), some (.int l1), some (.int l2)], [.int (0 : Int32)], (223, kc, ks, pd_H g v))) rfl ?_
      cases h
      exact ev_fin pp_Cr_keptOf rfl
    · rw [hb2]
      refine ev_gos pp_Cr_keptOf 1 (S' := (11, [some (.ref l0), some (.int l1), some (.int l2)], [.ref l0], (223, kc, ks, pd_H g v))) rfl ?_
      refine ev_get pp_Cr_keptOf rfl (c_cr hl0) rfl ?_
      refine ev_gos pp_Cr_keptOf 7 (S' := (23, [some (.ref l0), some (.int l1), some (.int l2)], [.int (((l1 &&& (7 : Int32)) * (20 : Int32)) + l2), .ref (l0 + 4)], (223, kc, ks, pd_H g v))) rfl ?_
      obtain ⟨hc3, h⟩ := pd_chk h
      refine ev_iald pp_Cr_keptOf rfl (c_cr4 hl0) hc3 ?_
      refine ev_gos pp_Cr_keptOf 1 (S' := (28, [some (.ref l0), some (.int l1), some (.int l2)], [.int (v (l0 + 4) ((((l1 &&& (7 : Int32)) * (20 : Int32)) + l2).toNatClampNeg))], (223, kc, ks, pd_H g v))) rfl ?_
      cases h
      exact ev_fin pp_Cr_keptOf rfl
theorem pp_De_out {xs : Nat → Int32} {L : Nat} : (pj_P xs L 94).1 = fun S => pm_look tb_De_out S.1 S := rfl
def d_De_out (l1 : Int32) (l2 : Int32) (l3 : Int32) (v : pd_V) : Option (Int32 ⊕ Nat) :=
  (d_De_crewOf l1 l2 v).bind fun q1 => Sum.elim (fun rq1 =>
  bif decide (l3 < 0) then
    some (Sum.inr 2)
  else
    bif decide ((20 : Int32) ≤ l3) then
      some (Sum.inr 2)
    else
      (d_Cr_countOf rq1 l2 v).bind fun q4 =>
      bif decide (l3 < q4) then
        (d_Cr_keptOf rq1 l2 l3 v).bind fun q6 =>
        some (Sum.inl q6)
      else
        some (Sum.inr 2)) (fun xq1 => some (Sum.inr xq1)) q1
theorem s_De_out {l1 : Int32} {l2 : Int32} {l3 : Int32} {v : pd_V} {q : (Int32 ⊕ Nat)}  (h : d_De_out l1 l2 l3 v = some q) : pm_ev (pj_P xs L) (d + 1) 94 (0, [some (.ref 0), some (.int l1), some (.int l2), some (.int l3), none], [], (223, kc, ks, pd_H g v)) (pd_oi q kc ks g v) := by
  unfold d_De_out at h
  refine ev_gos pp_De_out 3 (S' := (3, [some (.ref 0), some (.int l1), some (.int l2), some (.int l3), none], [.int l2, .int l1, .ref 0], (223, kc, ks, pd_H g v))) rfl ?_
  obtain ⟨q1, hq1, h⟩ := pd_bind h
  have evq1 := s_De_crewOf (xs := xs) (L := L) (g := g) (d := d + 0) (kc := kc) (ks := ks) hq1
  rcases pd_elim h with ⟨rq1, eq1, h⟩ | ⟨xq1, eq1, h⟩
  · rw [eq1] at evq1
    refine ev_callv pp_De_out rfl rfl rfl rfl evq1 ?_
    refine ev_gos pp_De_out 2 (S' := (9, [some (.ref 0), some (.int l1), some (.int l2), some (.int l3), some (.ref rq1)], [.int l3], (223, kc, ks, pd_H g v))) rfl ?_
    refine ev_gos pp_De_out 1 (S' := (bif decide (l3 < 0) then 28 else 12, [some (.ref 0), some (.int l1), some (.int l2), some (.int l3), some (.ref rq1)], [], (223, kc, ks, pd_H g v))) rfl ?_
    rcases pd_cases h with ⟨hb2, h⟩ | ⟨hb2, h⟩
    · rw [hb2]
      refine ev_gos pp_De_out 0 (S' := (28, [some (.ref 0), some (.int l1), some (.int l2), some (.int l3), some (.ref rq1)], [], (223, kc, ks, pd_H g v))) rfl ?_
      cases h
      exact ev_fin pp_De_out rfl
    · rw [hb2]
      refine ev_gos pp_De_out 2 (S' := (15, [some (.ref 0), some (.int l1), some (.int l2), some (.int l3), some (.ref rq1)], [.int (20 : Int32), .int l3], (223, kc, ks, pd_H g v))) rfl ?_
      refine ev_gos pp_De_out 1 (S' := (bif decide ((20 : Int32) ≤ l3) then 28 else 18, [some (.ref 0), some (.int l1), some (.int l2), some (.int l3), some (.ref rq1)], [], (223, kc, ks, pd_H g v))) rfl ?_
      rcases pd_cases h with ⟨hb3, h⟩ | ⟨hb3, h⟩
      · rw [hb3]
        refine ev_gos pp_De_out 0 (S' := (28, [some (.ref 0), some (.int l1), some (.int l2), some (.int l3), some (.ref rq1)], [], (223, kc, ks, pd_H g v))) rfl ?_
        cases h
        exact ev_fin pp_De_out rfl
      · rw [hb3]
        refine ev_gos pp_De_out 3 (S' := (22, [some (.ref 0), some (.int l1), some (.int l2), some (.int l3), some (.ref rq1)], [.int l2, .ref rq1, .int l3], (223, kc, ks, pd_H g v))) rfl ?_
        obtain ⟨q4, hq4, h⟩ := pd_bind h
        refine ev_callv pp_De_out rfl rfl (pd_isa (c_cr (r_De_crewOf hq1 eq1))) rfl (s_Cr_countOf (r_De_crewOf hq1 eq1) hq4) ?_
        refine ev_gos pp_De_out 0 (S' := (25, [some (.ref 0), some (.int l1), some (.int l2), some (.int l3), some (.ref rq1)], [.int q4, .int l3], (223, kc, ks, pd_H g v))) rfl ?_
        refine ev_gos pp_De_out 1 (S' := (bif decide (l3 < q4) then 38 else 28, [some (.ref 0), some (.int l1), some (.int l2), some (.int l3), some (.ref rq1)], [], (223, kc, ks, pd_H g v))) rfl ?_
        rcases pd_cases h with ⟨hb5, h⟩ | ⟨hb5, h⟩
        · rw [hb5]
          refine ev_gos pp_De_out 3 (S' := (42, [some (.ref 0), some (.int l1), some (.int l2), some (.int l3), some (.ref rq1)], [.int l3, .int l2, .ref rq1], (223, kc, ks, pd_H g v))) rfl ?_
          obtain ⟨q6, hq6, h⟩ := pd_bind h
          refine ev_callv pp_De_out rfl rfl (pd_isa (c_cr (r_De_crewOf hq1 eq1))) rfl (s_Cr_keptOf (r_De_crewOf hq1 eq1) hq6) ?_
          refine ev_gos pp_De_out 0 (S' := (45, [some (.ref 0), some (.int l1), some (.int l2), some (.int l3), some (.ref rq1)], [.int q6], (223, kc, ks, pd_H g v))) rfl ?_
          cases h
          exact ev_fin pp_De_out rfl
        · rw [hb5]
          refine ev_gos pp_De_out 0 (S' := (28, [some (.ref 0), some (.int l1), some (.int l2), some (.int l3), some (.ref rq1)], [], (223, kc, ks, pd_H g v))) rfl ?_
          cases h
          exact ev_fin pp_De_out rfl
  · cases h
    rw [eq1] at evq1
    exact ev_callvX pp_De_out rfl rfl rfl rfl evq1 rfl
theorem pp_Cr_cellOf {xs : Nat → Int32} {L : Nat} : (pj_P xs L 97).1 = fun S => pm_look tb_Cr_cellOf S.1 S := rfl
def d_Cr_cellOf (l0 : Nat) (l1 : Int32) (l2 : Int32) (v : pd_V) : Option Int32 :=
  bif pm_in (d_De_slot l1 l2) 64 then
  some (v (l0 + 3) ((d_De_slot l1 l2).toNatClampNeg))
  else none
theorem s_Cr_cellOf {l0 : Nat} {l1 : Int32} {l2 : Int32} {v : pd_V} {q : Int32} (hl0 : crw l0) (h : d_Cr_cellOf l0 l1 l2 v = some q) : pm_ev (pj_P xs L) (d + 1) 97 (0, [some (.ref l0), some (.int l1), some (.int l2)], [], (223, kc, ks, pd_H g v)) (.inl (some (.int q)), (223, kc, ks, pd_H g v)) := by
  unfold d_Cr_cellOf at h
  refine ev_gos pp_Cr_cellOf 1 (S' := (1, [some (.ref l0), some (.int l1), some (.int l2)], [.ref l0], (223, kc, ks, pd_H g v))) rfl ?_
  refine ev_get pp_Cr_cellOf rfl (c_cr hl0) rfl ?_
  refine ev_gos pp_Cr_cellOf 2 (S' := (6, [some (.ref l0), some (.int l1), some (.int l2)], [.int l2, .int l1, .ref (l0 + 3)], (223, kc, ks, pd_H g v))) rfl ?_
  refine ev_call pp_Cr_cellOf rfl rfl rfl (s_De_slot) ?_
  refine ev_gos pp_Cr_cellOf 0 (S' := (9, [some (.ref l0), some (.int l1), some (.int l2)], [.int (d_De_slot l1 l2), .ref (l0 + 3)], (223, kc, ks, pd_H g v))) rfl ?_
  obtain ⟨hc2, h⟩ := pd_chk h
  refine ev_iald pp_Cr_cellOf rfl (c_cr3 hl0) hc2 ?_
  refine ev_gos pp_Cr_cellOf 0 (S' := (10, [some (.ref l0), some (.int l1), some (.int l2)], [.int (v (l0 + 3) ((d_De_slot l1 l2).toNatClampNeg))], (223, kc, ks, pd_H g v))) rfl ?_
  cases h
  exact ev_fin pp_Cr_cellOf rfl
theorem pp_De_cell {xs : Nat → Int32} {L : Nat} : (pj_P xs L 96).1 = fun S => pm_look tb_De_cell S.1 S := rfl
def d_De_cell (l1 : Int32) (l2 : Int32) (l3 : Int32) (v : pd_V) : Option (Int32 ⊕ Nat) :=
  bif decide (l3 < 0) then
    some (Sum.inr 0)
  else
    bif decide (l3 < (16 : Int32)) then
      (d_De_crewOf l1 l2 v).bind fun q3 => Sum.elim (fun rq3 =>
      bif decide ((8 : Int32) ≤ l3) then
        (d_Cr_variableOf rq3 l2 (l3 - (8 : Int32)) v).bind fun q5 =>
        some (Sum.inl q5)
      else
        (d_Cr_cellOf rq3 l2 l3 v).bind fun q6 =>
        some (Sum.inl q6)) (fun xq3 => some (Sum.inr xq3)) q3
    else
      some (Sum.inr 0)
theorem s_De_cell {l1 : Int32} {l2 : Int32} {l3 : Int32} {v : pd_V} {q : (Int32 ⊕ Nat)}  (h : d_De_cell l1 l2 l3 v = some q) : pm_ev (pj_P xs L) (d + 2) 96 (0, [some (.ref 0), some (.int l1), some (.int l2), some (.int l3), none], [], (223, kc, ks, pd_H g v)) (pd_oi q kc ks g v) := by
  unfold d_De_cell at h
  refine ev_gos pp_De_cell 1 (S' := (1, [some (.ref 0), some (.int l1), some (.int l2), some (.int l3), none], [.int l3], (223, kc, ks, pd_H g v))) rfl ?_
  refine ev_gos pp_De_cell 1 (S' := (bif decide (l3 < 0) then 10 else 4, [some (.ref 0), some (.int l1), some (.int l2), some (.int l3), none], [], (223, kc, ks, pd_H g v))) rfl ?_
  rcases pd_cases h with ⟨hb1, h⟩ | ⟨hb1, h⟩
  · rw [hb1]
    refine ev_gos pp_De_cell 0 (S' := (10, [some (.ref 0), some (.int l1), some (.int l2), some (.int l3), none], [], (223, kc, ks, pd_H g v))) rfl ?_
    cases h
    exact ev_fin pp_De_cell rfl
  · rw [hb1]
    refine ev_gos pp_De_cell 2 (S' := (7, [some (.ref 0), some (.int l1), some (.int l2), some (.int l3), none], [.int (16 : Int32), .int l3], (223, kc, ks, pd_H g v))) rfl ?_
    refine ev_gos pp_De_cell 1 (S' := (bif decide (l3 < (16 : Int32)) then 20 else 10, [some (.ref 0), some (.int l1), some (.int l2), some (.int l3), none], [], (223, kc, ks, pd_H g v))) rfl ?_
    rcases pd_cases h with ⟨hb2, h⟩ | ⟨hb2, h⟩
    · rw [hb2]
      refine ev_gos pp_De_cell 3 (S' := (23, [some (.ref 0), some (.int l1), some (.int l2), some (.int l3), none], [.int l2, .int l1, .ref 0], (223, kc, ks, pd_H g v))) rfl ?_
      obtain ⟨q3, hq3, h⟩ := pd_bind h
      have evq3 := s_De_crewOf (xs := xs) (L := L) (g := g) (d := d + 1) (kc := kc) (ks := ks) hq3
      rcases pd_elim h with ⟨rq3, eq3, h⟩ | ⟨xq3, eq3, h⟩
      · rw [eq3] at evq3
        refine ev_callv pp_De_cell rfl rfl rfl rfl evq3 ?_
        refine ev_gos pp_De_cell 3 (S' := (31, [some (.ref 0), some (.int l1), some (.int l2), some (.int l3), some (.ref rq3)], [.int (8 : Int32), .int l3], (223, kc, ks, pd_H g v))) rfl ?_
        refine ev_gos pp_De_cell 1 (S' := (bif decide ((8 : Int32) ≤ l3) then 44 else 34, [some (.ref 0), some (.int l1), some (.int l2), some (.int l3), some (.ref rq3)], [], (223, kc, ks, pd_H g v))) rfl ?_
        rcases pd_cases h with ⟨hb4, h⟩ | ⟨hb4, h⟩
        · rw [hb4]
          refine ev_gos pp_De_cell 5 (S' := (51, [some (.ref 0), some (.int l1), some (.int l2), some (.int l3), some (.ref rq3)], [.int (l3 - (8 : Int32)), .int l2, .ref rq3], (223, kc, ks, pd_H g v))) rfl ?_
          obtain ⟨q5, hq5, h⟩ := pd_bind h
          refine ev_callv pp_De_cell rfl rfl (pd_isa (c_cr (r_De_crewOf hq3 eq3))) rfl (s_Cr_variableOf (r_De_crewOf hq3 eq3) hq5) ?_
          refine ev_gos pp_De_cell 0 (S' := (54, [some (.ref 0), some (.int l1), some (.int l2), some (.int l3), some (.ref rq3)], [.int q5], (223, kc, ks, pd_H g v))) rfl ?_
          cases h
          exact ev_fin pp_De_cell rfl
        · rw [hb4]
          refine ev_gos pp_De_cell 3 (S' := (38, [some (.ref 0), some (.int l1), some (.int l2), some (.int l3), some (.ref rq3)], [.int l3, .int l2, .ref rq3], (223, kc, ks, pd_H g v))) rfl ?_
          obtain ⟨q6, hq6, h⟩ := pd_bind h
          refine ev_callv pp_De_cell rfl rfl (pd_isa (c_cr (r_De_crewOf hq3 eq3))) rfl (s_Cr_cellOf (r_De_crewOf hq3 eq3) hq6) ?_
          refine ev_gos pp_De_cell 1 (S' := (54, [some (.ref 0), some (.int l1), some (.int l2), some (.int l3), some (.ref rq3)], [.int q6], (223, kc, ks, pd_H g v))) rfl ?_
          cases h
          exact ev_fin pp_De_cell rfl
      · cases h
        rw [eq3] at evq3
        exact ev_callvX pp_De_cell rfl rfl rfl rfl evq3 rfl
    · rw [hb2]
      refine ev_gos pp_De_cell 0 (S' := (10, [some (.ref 0), some (.int l1), some (.int l2), some (.int l3), none], [], (223, kc, ks, pd_H g v))) rfl ?_
      cases h
      exact ev_fin pp_De_cell rfl
theorem pp_Mo_thrown {xs : Nat → Int32} {L : Nat} : (pj_P xs L 99).1 = fun S => pm_look tb_Mo_thrown S.1 S := rfl
def d_Mo_thrown  (v : pd_V) : Int32 :=
  (v 198 0)
theorem s_Mo_thrown  {v : pd_V}  : pm_ev (pj_P xs L) d 99 (0, [some (.ref 198)], [], (223, kc, ks, pd_H g v)) (.inl (some (.int (d_Mo_thrown v))), (223, kc, ks, pd_H g v)) := by
  unfold d_Mo_thrown
  refine ev_gos pp_Mo_thrown 2 (S' := (4, [some (.ref 198)], [.int (v 198 0)], (223, kc, ks, pd_H g v))) rfl ?_
  exact ev_fin pp_Mo_thrown rfl
theorem pp_Mo_beyond {xs : Nat → Int32} {L : Nat} : (pj_P xs L 101).1 = fun S => pm_look tb_Mo_beyond S.1 S := rfl
def d_Mo_beyond (l0 : Int32) (l1 : Int32) (l2 : Int32)  : Int32 :=
  bif decide (l0 < l1) then
    (1 : Int32)
  else
    bif decide (l0 ≤ l2) then
      (0 : Int32)
    else
      (1 : Int32)
theorem s_Mo_beyond {l0 : Int32} {l1 : Int32} {l2 : Int32} {v : pd_V}  : pm_ev (pj_P xs L) d 101 (0, [some (.int l0), some (.int l1), some (.int l2)], [], (223, kc, ks, pd_H g v)) (.inl (some (.int (d_Mo_beyond l0 l1 l2))), (223, kc, ks, pd_H g v)) := by
  unfold d_Mo_beyond
  refine ev_gos pp_Mo_beyond 2 (S' := (2, [some (.int l0), some (.int l1), some (.int l2)], [.int l1, .int l0], (223, kc, ks, pd_H g v))) rfl ?_
  refine ev_gos pp_Mo_beyond 1 (S' := (bif decide (l0 < l1) then 10 else 5, [some (.int l0), some (.int l1), some (.int l2)], [], (223, kc, ks, pd_H g v))) rfl ?_
  cases hb1 : (decide (l0 < l1))
  · refine ev_gos pp_Mo_beyond 2 (S' := (7, [some (.int l0), some (.int l1), some (.int l2)], [.int l2, .int l0], (223, kc, ks, pd_H g v))) rfl ?_
    refine ev_gos pp_Mo_beyond 1 (S' := (bif decide (l0 ≤ l2) then 14 else 10, [some (.int l0), some (.int l1), some (.int l2)], [], (223, kc, ks, pd_H g v))) rfl ?_
    cases hb2 : (decide (l0 ≤ l2))
    · refine ev_gos pp_Mo_beyond 2 (S' := (15, [some (.int l0), some (.int l1), some (.int l2)], [.int (1 : Int32)], (223, kc, ks, pd_H g v))) rfl ?_
      exact ev_zret pp_Mo_beyond rfl pd_b1
    · refine ev_gos pp_Mo_beyond 1 (S' := (15, [some (.int l0), some (.int l1), some (.int l2)], [.int (0 : Int32)], (223, kc, ks, pd_H g v))) rfl ?_
      exact ev_zret pp_Mo_beyond rfl pd_b0
  · refine ev_gos pp_Mo_beyond 2 (S' := (15, [some (.int l0), some (.int l1), some (.int l2)], [.int (1 : Int32)], (223, kc, ks, pd_H g v))) rfl ?_
    exact ev_zret pp_Mo_beyond rfl pd_b1
theorem z_Mo_beyond {l0 : Int32} {l1 : Int32} {l2 : Int32}   : (d_Mo_beyond l0 l1 l2 == 0 || d_Mo_beyond l0 l1 l2 == 1) = true := by
  unfold d_Mo_beyond
  cases hb1 : (decide (l0 < l1))
  · cases hb2 : (decide (l0 ≤ l2))
    · exact pd_b1
    · exact pd_b0
  · exact pd_b1
theorem pp_Mo_throwing {xs : Nat → Int32} {L : Nat} : (pj_P xs L 102).1 = fun S => pm_look tb_Mo_throwing S.1 S := rfl
def d_Mo_throwing (l1 : Int32) (l2 : Int32) (l3 : Int32) (v : pd_V) : Option (Int32 × pd_V) :=
  bif decide (l1 = 0) then
    bif decide (l2 = 0) then
      bif decide (l3 = 0) then
        bif decide ((0 : Int32) ≤ 0) then
          some ((0 : Int32), (pd_w v 198 0 (0 : Int32)))
        else
          some ((1 : Int32), (pd_w v 198 0 (0 : Int32)))
      else
        bif decide ((3 : Int32) ≤ 0) then
          some ((0 : Int32), (pd_w v 198 0 (3 : Int32)))
        else
          some ((1 : Int32), (pd_w v 198 0 (3 : Int32)))
    else
      bif decide ((2 : Int32) ≤ 0) then
        some ((0 : Int32), (pd_w v 198 0 (2 : Int32)))
      else
        some ((1 : Int32), (pd_w v 198 0 (2 : Int32)))
  else
    bif decide ((1 : Int32) ≤ 0) then
      some ((0 : Int32), (pd_w v 198 0 (1 : Int32)))
    else
      some ((1 : Int32), (pd_w v 198 0 (1 : Int32)))
theorem s_Mo_throwing {l1 : Int32} {l2 : Int32} {l3 : Int32} {v : pd_V} {q : (Int32 × pd_V)}  (h : d_Mo_throwing l1 l2 l3 v = some q) : pm_ev (pj_P xs L) d 102 (0, [some (.ref 198), some (.int l1), some (.int l2), some (.int l3)], [], (223, kc, ks, pd_H g v)) (.inl (some (.int q.1)), (223, kc, ks, pd_H g q.2)) := by
  unfold d_Mo_throwing at h
  refine ev_gos pp_Mo_throwing 2 (S' := (2, [some (.ref 198), some (.int l1), some (.int l2), some (.int l3)], [.int l1, .ref 198], (223, kc, ks, pd_H g v))) rfl ?_
  refine ev_gos pp_Mo_throwing 1 (S' := (bif decide (l1 = 0) then 9 else 5, [some (.ref 198), some (.int l1), some (.int l2), some (.int l3)], [.ref 198], (223, kc, ks, pd_H g v))) rfl ?_
  rcases pd_cases h with ⟨hb1, h⟩ | ⟨hb1, h⟩
  · rw [hb1]
    refine ev_gos pp_Mo_throwing 1 (S' := (10, [some (.ref 198), some (.int l1), some (.int l2), some (.int l3)], [.int l2, .ref 198], (223, kc, ks, pd_H g v))) rfl ?_
    refine ev_gos pp_Mo_throwing 1 (S' := (bif decide (l2 = 0) then 17 else 13, [some (.ref 198), some (.int l1), some (.int l2), some (.int l3)], [.ref 198], (223, kc, ks, pd_H g v))) rfl ?_
    rcases pd_cases h with ⟨hb2, h⟩ | ⟨hb2, h⟩
    · rw [hb2]
      refine ev_gos pp_Mo_throwing 1 (S' := (18, [some (.ref 198), some (.int l1), some (.int l2), some (.int l3)], [.int l3, .ref 198], (223, kc, ks, pd_H g v))) rfl ?_
      refine ev_gos pp_Mo_throwing 1 (S' := (bif decide (l3 = 0) then 25 else 21, [some (.ref 198), some (.int l1), some (.int l2), some (.int l3)], [.ref 198], (223, kc, ks, pd_H g v))) rfl ?_
      rcases pd_cases h with ⟨hb3, h⟩ | ⟨hb3, h⟩
      · rw [hb3]
        refine ev_gos pp_Mo_throwing 1 (S' := (26, [some (.ref 198), some (.int l1), some (.int l2), some (.int l3)], [.int (0 : Int32), .ref 198], (223, kc, ks, pd_H g v))) rfl ?_
        refine ev_put pp_Mo_throwing rfl (fun _ => rfl) rfl rfl rfl ?_
        refine ev_gos pp_Mo_throwing 2 (S' := (33, [some (.ref 198), some (.int l1), some (.int l2), some (.int l3)], [.int (0 : Int32)], (223, kc, ks, pd_H g (pd_w v 198 0 (0 : Int32))))) rfl ?_
        refine ev_gos pp_Mo_throwing 1 (S' := (bif decide ((0 : Int32) ≤ 0) then 40 else 36, [some (.ref 198), some (.int l1), some (.int l2), some (.int l3)], [], (223, kc, ks, pd_H g (pd_w v 198 0 (0 : Int32))))) rfl ?_
        rcases pd_cases h with ⟨hb4, h⟩ | ⟨hb4, h⟩
        · rw [hb4]
          refine ev_gos pp_Mo_throwing 1 (S' := (41, [some (.ref 198), some (.int l1), some (.int l2), some (.int l3)], [.int (0 : Int32)], (223, kc, ks, pd_H g (pd_w v 198 0 (0 : Int32))))) rfl ?_
          cases h
          exact ev_zret pp_Mo_throwing rfl pd_b0
        · rw [hb4]
          refine ev_gos pp_Mo_throwing 2 (S' := (41, [some (.ref 198), some (.int l1), some (.int l2), some (.int l3)], [.int (1 : Int32)], (223, kc, ks, pd_H g (pd_w v 198 0 (0 : Int32))))) rfl ?_
          cases h
          exact ev_zret pp_Mo_throwing rfl pd_b1
      · rw [hb3]
        refine ev_gos pp_Mo_throwing 2 (S' := (26, [some (.ref 198), some (.int l1), some (.int l2), some (.int l3)], [.int (3 : Int32), .ref 198], (223, kc, ks, pd_H g v))) rfl ?_
        refine ev_put pp_Mo_throwing rfl (fun _ => rfl) rfl rfl rfl ?_
        refine ev_gos pp_Mo_throwing 2 (S' := (33, [some (.ref 198), some (.int l1), some (.int l2), some (.int l3)], [.int (3 : Int32)], (223, kc, ks, pd_H g (pd_w v 198 0 (3 : Int32))))) rfl ?_
        refine ev_gos pp_Mo_throwing 1 (S' := (bif decide ((3 : Int32) ≤ 0) then 40 else 36, [some (.ref 198), some (.int l1), some (.int l2), some (.int l3)], [], (223, kc, ks, pd_H g (pd_w v 198 0 (3 : Int32))))) rfl ?_
        rcases pd_cases h with ⟨hb5, h⟩ | ⟨hb5, h⟩
        · rw [hb5]
          refine ev_gos pp_Mo_throwing 1 (S' := (41, [some (.ref 198), some (.int l1), some (.int l2), some (.int l3)], [.int (0 : Int32)], (223, kc, ks, pd_H g (pd_w v 198 0 (3 : Int32))))) rfl ?_
          cases h
          exact ev_zret pp_Mo_throwing rfl pd_b0
        · rw [hb5]
          refine ev_gos pp_Mo_throwing 2 (S' := (41, [some (.ref 198), some (.int l1), some (.int l2), some (.int l3)], [.int (1 : Int32)], (223, kc, ks, pd_H g (pd_w v 198 0 (3 : Int32))))) rfl ?_
          cases h
          exact ev_zret pp_Mo_throwing rfl pd_b1
    · rw [hb2]
      refine ev_gos pp_Mo_throwing 2 (S' := (26, [some (.ref 198), some (.int l1), some (.int l2), some (.int l3)], [.int (2 : Int32), .ref 198], (223, kc, ks, pd_H g v))) rfl ?_
      refine ev_put pp_Mo_throwing rfl (fun _ => rfl) rfl rfl rfl ?_
      refine ev_gos pp_Mo_throwing 2 (S' := (33, [some (.ref 198), some (.int l1), some (.int l2), some (.int l3)], [.int (2 : Int32)], (223, kc, ks, pd_H g (pd_w v 198 0 (2 : Int32))))) rfl ?_
      refine ev_gos pp_Mo_throwing 1 (S' := (bif decide ((2 : Int32) ≤ 0) then 40 else 36, [some (.ref 198), some (.int l1), some (.int l2), some (.int l3)], [], (223, kc, ks, pd_H g (pd_w v 198 0 (2 : Int32))))) rfl ?_
      rcases pd_cases h with ⟨hb6, h⟩ | ⟨hb6, h⟩
      · rw [hb6]
        refine ev_gos pp_Mo_throwing 1 (S' := (41, [some (.ref 198), some (.int l1), some (.int l2), some (.int l3)], [.int (0 : Int32)], (223, kc, ks, pd_H g (pd_w v 198 0 (2 : Int32))))) rfl ?_
        cases h
        exact ev_zret pp_Mo_throwing rfl pd_b0
      · rw [hb6]
        refine ev_gos pp_Mo_throwing 2 (S' := (41, [some (.ref 198), some (.int l1), some (.int l2), some (.int l3)], [.int (1 : Int32)], (223, kc, ks, pd_H g (pd_w v 198 0 (2 : Int32))))) rfl ?_
        cases h
        exact ev_zret pp_Mo_throwing rfl pd_b1
  · rw [hb1]
    refine ev_gos pp_Mo_throwing 2 (S' := (26, [some (.ref 198), some (.int l1), some (.int l2), some (.int l3)], [.int (1 : Int32), .ref 198], (223, kc, ks, pd_H g v))) rfl ?_
    refine ev_put pp_Mo_throwing rfl (fun _ => rfl) rfl rfl rfl ?_
    refine ev_gos pp_Mo_throwing 2 (S' := (33, [some (.ref 198), some (.int l1), some (.int l2), some (.int l3)], [.int (1 : Int32)], (223, kc, ks, pd_H g (pd_w v 198 0 (1 : Int32))))) rfl ?_
    refine ev_gos pp_Mo_throwing 1 (S' := (bif decide ((1 : Int32) ≤ 0) then 40 else 36, [some (.ref 198), some (.int l1), some (.int l2), some (.int l3)], [], (223, kc, ks, pd_H g (pd_w v 198 0 (1 : Int32))))) rfl ?_
    rcases pd_cases h with ⟨hb7, h⟩ | ⟨hb7, h⟩
    · rw [hb7]
      refine ev_gos pp_Mo_throwing 1 (S' := (41, [some (.ref 198), some (.int l1), some (.int l2), some (.int l3)], [.int (0 : Int32)], (223, kc, ks, pd_H g (pd_w v 198 0 (1 : Int32))))) rfl ?_
      cases h
      exact ev_zret pp_Mo_throwing rfl pd_b0
    · rw [hb7]
      refine ev_gos pp_Mo_throwing 2 (S' := (41, [some (.ref 198), some (.int l1), some (.int l2), some (.int l3)], [.int (1 : Int32)], (223, kc, ks, pd_H g (pd_w v 198 0 (1 : Int32))))) rfl ?_
      cases h
      exact ev_zret pp_Mo_throwing rfl pd_b1
theorem z_Mo_throwing {l1 : Int32} {l2 : Int32} {l3 : Int32} {v : pd_V} {q : (Int32 × pd_V)}  (h : d_Mo_throwing l1 l2 l3 v = some q) : (q.1 == 0 || q.1 == 1) = true := by
  unfold d_Mo_throwing at h
  rcases pd_cases h with ⟨hb1, h⟩ | ⟨hb1, h⟩
  · rcases pd_cases h with ⟨hb2, h⟩ | ⟨hb2, h⟩
    · rcases pd_cases h with ⟨hb3, h⟩ | ⟨hb3, h⟩
      · rcases pd_cases h with ⟨hb4, h⟩ | ⟨hb4, h⟩
        · cases h
          exact pd_b0
        · cases h
          exact pd_b1
      · rcases pd_cases h with ⟨hb5, h⟩ | ⟨hb5, h⟩
        · cases h
          exact pd_b0
        · cases h
          exact pd_b1
    · rcases pd_cases h with ⟨hb6, h⟩ | ⟨hb6, h⟩
      · cases h
        exact pd_b0
      · cases h
        exact pd_b1
  · rcases pd_cases h with ⟨hb7, h⟩ | ⟨hb7, h⟩
    · cases h
      exact pd_b0
    · cases h
      exact pd_b1
theorem pp_Mo_type {xs : Nat → Int32} {L : Nat} : (pj_P xs L 100).1 = fun S => pm_look tb_Mo_type S.1 S := rfl
def d_Mo_type_89 (w : Nat) (f : Nat) (l1 : Int64) (l5 : Int32) (v : pd_V) : Option (Int32 × pd_V) := match f with
  | 0 => none
  | f + 1 =>
    bif decide (l5 < 0) then
      some ((v 198 2), v)
    else
      bif pm_in (v 198 2) 160 then
      d_Mo_type_89 w f l1 (l5 + (-1 : Int32)) (pd_w (pd_w v 199 ((v 198 2).toNatClampNeg) (((l1 >>> (((8 : Int32) * l5).toInt64 &&& 63)) &&& (255 : Int64)).toInt32)) 198 2 ((v 198 2) + (1 : Int32)))
      else none
theorem s_Mo_type_89 {w : Nat} : ∀ (f : Nat) (l1 : Int64) (l5 : Int32) (v : pd_V) (y3 : Int32) (y4 : Int32) (q : (Int32 × pd_V)) , d_Mo_type_89 w f l1 l5 v = some q → pm_ev (pj_P xs L) (d + 1) 100 (89, [some (.ref 198), some (.long l1), none, some (.int y3), some (.int y4), some (.int l5)], [], (223, kc, ks, pd_H g v)) (.inl (some (.int q.1)), (223, kc, ks, pd_H g q.2)) := by
  intro f
  induction f with
  | zero => intro l1 l5 v y3 y4 q h; exact nomatch (show (none : Option (Int32 × pd_V)) = some q from h)
  | succ f ih =>
    intro l1 l5 v y3 y4 q h
    rw [d_Mo_type_89] at h
    refine ev_gos pp_Mo_type 1 (S' := (91, [some (.ref 198), some (.long l1), none, some (.int y3), some (.int y4), some (.int l5)], [.int l5], (223, kc, ks, pd_H g v))) rfl ?_
    refine ev_gos pp_Mo_type 1 (S' := (bif decide (l5 < 0) then 131 else 94, [some (.ref 198), some (.long l1), none, some (.int y3), some (.int y4), some (.int l5)], [], (223, kc, ks, pd_H g v))) rfl ?_
    rcases pd_cases h with ⟨hb1, h⟩ | ⟨hb1, h⟩
    · rw [hb1]
      refine ev_gos pp_Mo_type 2 (S' := (135, [some (.ref 198), some (.long l1), none, some (.int y3), some (.int y4), some (.int l5)], [.int (v 198 2)], (223, kc, ks, pd_H g v))) rfl ?_
      cases h
      exact ev_fin pp_Mo_type rfl
    · rw [hb1]
      refine ev_gos pp_Mo_type 12 (S' := (114, [some (.ref 198), some (.long l1), none, some (.int y3), some (.int y4), some (.int l5)], [.int (((l1 >>> (((8 : Int32) * l5).toInt64 &&& 63)) &&& (255 : Int64)).toInt32), .int (v 198 2), .ref 199], (223, kc, ks, pd_H g v))) rfl ?_
      obtain ⟨hc2, h⟩ := pd_chk h
      refine ev_iast pp_Mo_type rfl (fun _ => rfl) hc2 ?_
      refine ev_gos pp_Mo_type 5 (S' := (122, [some (.ref 198), some (.long l1), none, some (.int y3), some (.int y4), some (.int l5)], [.int ((v 198 2) + (1 : Int32)), .ref 198], (223, kc, ks, pd_H g (pd_w v 199 ((v 198 2).toNatClampNeg) (((l1 >>> (((8 : Int32) * l5).toInt64 &&& 63)) &&& (255 : Int64)).toInt32))))) rfl ?_
      refine ev_put pp_Mo_type rfl (fun _ => rfl) rfl rfl rfl ?_
      refine ev_gos pp_Mo_type 2 (S' := (89, [some (.ref 198), some (.long l1), none, some (.int y3), some (.int y4), some (.int (l5 + (-1 : Int32)))], [], (223, kc, ks, pd_H g (pd_w (pd_w v 199 ((v 198 2).toNatClampNeg) (((l1 >>> (((8 : Int32) * l5).toInt64 &&& 63)) &&& (255 : Int64)).toInt32)) 198 2 ((v 198 2) + (1 : Int32)))))) rfl ?_
      exact ih _ _ _ _ _ _  h
def d_Mo_type_12 (w : Nat) (f : Nat) (l1 : Int64) (l3 : Int32) (l4 : Int32) (l5 : Int32) (v : pd_V) : Option (Int32 × pd_V) := match f with
  | 0 => none
  | f + 1 =>
    bif decide (l3 ≤ l5) then
      bif !(decide (l4 = 0)) then
        (d_Mo_throwing l4 (0 : Int32) (0 : Int32) v).bind fun q3 =>
        bif decide (q3.1 = 0) then
          d_Mo_type_89 w w l1 (l3 - (1 : Int32)) q3.2
        else
          some ((0 : Int32), q3.2)
      else
        bif decide (((v 198 2) + l3) ≤ (160 : Int32)) then
          (d_Mo_throwing l4 (0 : Int32) (0 : Int32) v).bind fun q6 =>
          bif decide (q6.1 = 0) then
            d_Mo_type_89 w w l1 (l3 - (1 : Int32)) q6.2
          else
            some ((0 : Int32), q6.2)
        else
          (d_Mo_throwing l4 (1 : Int32) (0 : Int32) v).bind fun q8 =>
          bif decide (q8.1 = 0) then
            d_Mo_type_89 w w l1 (l3 - (1 : Int32)) q8.2
          else
            some ((0 : Int32), q8.2)
    else
      bif !(decide (l4 = 0)) then
        bif !(decide (l4 = 0)) then
          (d_Mo_throwing l4 (0 : Int32) (0 : Int32) v).bind fun q12 =>
          bif decide (q12.1 = 0) then
            d_Mo_type_89 w w l1 (l3 - (1 : Int32)) q12.2
          else
            some ((0 : Int32), q12.2)
        else
          bif decide (((v 198 2) + l3) ≤ (160 : Int32)) then
            (d_Mo_throwing l4 (0 : Int32) (0 : Int32) v).bind fun q15 =>
            bif decide (q15.1 = 0) then
              d_Mo_type_89 w w l1 (l3 - (1 : Int32)) q15.2
            else
              some ((0 : Int32), q15.2)
          else
            (d_Mo_throwing l4 (1 : Int32) (0 : Int32) v).bind fun q17 =>
            bif decide (q17.1 = 0) then
              d_Mo_type_89 w w l1 (l3 - (1 : Int32)) q17.2
            else
              some ((0 : Int32), q17.2)
      else
        d_Mo_type_12 w f l1 l3 (d_Mo_beyond (((l1 >>> (((8 : Int32) * l5).toInt64 &&& 63)) &&& (255 : Int64)).toInt32) (33 : Int32) (126 : Int32)) (l5 + (1 : Int32)) v
theorem s_Mo_type_12 {w : Nat} : ∀ (f : Nat) (l1 : Int64) (l3 : Int32) (l4 : Int32) (l5 : Int32) (v : pd_V)  (q : (Int32 × pd_V)) , d_Mo_type_12 w f l1 l3 l4 l5 v = some q → pm_ev (pj_P xs L) (d + 1) 100 (12, [some (.ref 198), some (.long l1), none, some (.int l3), some (.int l4), some (.int l5)], [], (223, kc, ks, pd_H g v)) (.inl (some (.int q.1)), (223, kc, ks, pd_H g q.2)) := by
  intro f
  induction f with
  | zero => intro l1 l3 l4 l5 v q h; exact nomatch (show (none : Option (Int32 × pd_V)) = some q from h)
  | succ f ih =>
    intro l1 l3 l4 l5 v q h
    rw [d_Mo_type_12] at h
    refine ev_gos pp_Mo_type 2 (S' := (15, [some (.ref 198), some (.long l1), none, some (.int l3), some (.int l4), some (.int l5)], [.int l3, .int l5], (223, kc, ks, pd_H g v))) rfl ?_
    refine ev_gos pp_Mo_type 1 (S' := (bif decide (l3 ≤ l5) then 50 else 18, [some (.ref 198), some (.long l1), none, some (.int l3), some (.int l4), some (.int l5)], [], (223, kc, ks, pd_H g v))) rfl ?_
    rcases pd_cases h with ⟨hb1, h⟩ | ⟨hb1, h⟩
    · rw [hb1]
      refine ev_gos pp_Mo_type 3 (S' := (55, [some (.ref 198), some (.long l1), none, some (.int l3), some (.int l4), some (.int l5)], [.int l4, .int l4, .ref 198], (223, kc, ks, pd_H g v))) rfl ?_
      refine ev_gos pp_Mo_type 1 (S' := (bif !(decide (l4 = 0)) then 74 else 58, [some (.ref 198), some (.long l1), none, some (.int l3), some (.int l4), some (.int l5)], [.int l4, .ref 198], (223, kc, ks, pd_H g v))) rfl ?_
      rcases pd_cases h with ⟨hb2, h⟩ | ⟨hb2, h⟩
      · rw [hb2]
        refine ev_gos pp_Mo_type 2 (S' := (76, [some (.ref 198), some (.long l1), none, some (.int l3), some (.int l4), some (.int l5)], [.int (0 : Int32), .int (0 : Int32), .int l4, .ref 198], (223, kc, ks, pd_H g v))) rfl ?_
        obtain ⟨q3, hq3, h⟩ := pd_bind h
        refine ev_callv pp_Mo_type rfl rfl rfl rfl (s_Mo_throwing hq3) ?_
        refine ev_gos pp_Mo_type 0 (S' := (79, [some (.ref 198), some (.long l1), none, some (.int l3), some (.int l4), some (.int l5)], [.int q3.1], (223, kc, ks, pd_H g q3.2))) rfl ?_
        refine ev_gos pp_Mo_type 1 (S' := (bif decide (q3.1 = 0) then 84 else 82, [some (.ref 198), some (.long l1), none, some (.int l3), some (.int l4), some (.int l5)], [], (223, kc, ks, pd_H g q3.2))) rfl ?_
        rcases pd_cases h with ⟨hb4, h⟩ | ⟨hb4, h⟩
        · rw [hb4]
          refine ev_gos pp_Mo_type 4 (S' := (89, [some (.ref 198), some (.long l1), none, some (.int l3), some (.int l4), some (.int (l3 - (1 : Int32)))], [], (223, kc, ks, pd_H g q3.2))) rfl ?_
          exact s_Mo_type_89 _ _ _ _ _ _ _  h
        · rw [hb4]
          refine ev_gos pp_Mo_type 1 (S' := (83, [some (.ref 198), some (.long l1), none, some (.int l3), some (.int l4), some (.int l5)], [.int (0 : Int32)], (223, kc, ks, pd_H g q3.2))) rfl ?_
          cases h
          exact ev_fin pp_Mo_type rfl
      · rw [hb2]
        refine ev_gos pp_Mo_type 5 (S' := (67, [some (.ref 198), some (.long l1), none, some (.int l3), some (.int l4), some (.int l5)], [.int (160 : Int32), .int ((v 198 2) + l3), .int l4, .ref 198], (223, kc, ks, pd_H g v))) rfl ?_
        refine ev_gos pp_Mo_type 1 (S' := (bif decide (((v 198 2) + l3) ≤ (160 : Int32)) then 74 else 70, [some (.ref 198), some (.long l1), none, some (.int l3), some (.int l4), some (.int l5)], [.int l4, .ref 198], (223, kc, ks, pd_H g v))) rfl ?_
        rcases pd_cases h with ⟨hb5, h⟩ | ⟨hb5, h⟩
        · rw [hb5]
          refine ev_gos pp_Mo_type 2 (S' := (76, [some (.ref 198), some (.long l1), none, some (.int l3), some (.int l4), some (.int l5)], [.int (0 : Int32), .int (0 : Int32), .int l4, .ref 198], (223, kc, ks, pd_H g v))) rfl ?_
          obtain ⟨q6, hq6, h⟩ := pd_bind h
          refine ev_callv pp_Mo_type rfl rfl rfl rfl (s_Mo_throwing hq6) ?_
          refine ev_gos pp_Mo_type 0 (S' := (79, [some (.ref 198), some (.long l1), none, some (.int l3), some (.int l4), some (.int l5)], [.int q6.1], (223, kc, ks, pd_H g q6.2))) rfl ?_
          refine ev_gos pp_Mo_type 1 (S' := (bif decide (q6.1 = 0) then 84 else 82, [some (.ref 198), some (.long l1), none, some (.int l3), some (.int l4), some (.int l5)], [], (223, kc, ks, pd_H g q6.2))) rfl ?_
          rcases pd_cases h with ⟨hb7, h⟩ | ⟨hb7, h⟩
          · rw [hb7]
            refine ev_gos pp_Mo_type 4 (S' := (89, [some (.ref 198), some (.long l1), none, some (.int l3), some (.int l4), some (.int (l3 - (1 : Int32)))], [], (223, kc, ks, pd_H g q6.2))) rfl ?_
            exact s_Mo_type_89 _ _ _ _ _ _ _  h
          · rw [hb7]
            refine ev_gos pp_Mo_type 1 (S' := (83, [some (.ref 198), some (.long l1), none, some (.int l3), some (.int l4), some (.int l5)], [.int (0 : Int32)], (223, kc, ks, pd_H g q6.2))) rfl ?_
            cases h
            exact ev_fin pp_Mo_type rfl
        · rw [hb5]
          refine ev_gos pp_Mo_type 3 (S' := (76, [some (.ref 198), some (.long l1), none, some (.int l3), some (.int l4), some (.int l5)], [.int (0 : Int32), .int (1 : Int32), .int l4, .ref 198], (223, kc, ks, pd_H g v))) rfl ?_
          obtain ⟨q8, hq8, h⟩ := pd_bind h
          refine ev_callv pp_Mo_type rfl rfl rfl rfl (s_Mo_throwing hq8) ?_
          refine ev_gos pp_Mo_type 0 (S' := (79, [some (.ref 198), some (.long l1), none, some (.int l3), some (.int l4), some (.int l5)], [.int q8.1], (223, kc, ks, pd_H g q8.2))) rfl ?_
          refine ev_gos pp_Mo_type 1 (S' := (bif decide (q8.1 = 0) then 84 else 82, [some (.ref 198), some (.long l1), none, some (.int l3), some (.int l4), some (.int l5)], [], (223, kc, ks, pd_H g q8.2))) rfl ?_
          rcases pd_cases h with ⟨hb9, h⟩ | ⟨hb9, h⟩
          · rw [hb9]
            refine ev_gos pp_Mo_type 4 (S' := (89, [some (.ref 198), some (.long l1), none, some (.int l3), some (.int l4), some (.int (l3 - (1 : Int32)))], [], (223, kc, ks, pd_H g q8.2))) rfl ?_
            exact s_Mo_type_89 _ _ _ _ _ _ _  h
          · rw [hb9]
            refine ev_gos pp_Mo_type 1 (S' := (83, [some (.ref 198), some (.long l1), none, some (.int l3), some (.int l4), some (.int l5)], [.int (0 : Int32)], (223, kc, ks, pd_H g q8.2))) rfl ?_
            cases h
            exact ev_fin pp_Mo_type rfl
    · rw [hb1]
      refine ev_gos pp_Mo_type 1 (S' := (20, [some (.ref 198), some (.long l1), none, some (.int l3), some (.int l4), some (.int l5)], [.int l4], (223, kc, ks, pd_H g v))) rfl ?_
      refine ev_gos pp_Mo_type 1 (S' := (bif !(decide (l4 = 0)) then 50 else 23, [some (.ref 198), some (.long l1), none, some (.int l3), some (.int l4), some (.int l5)], [], (223, kc, ks, pd_H g v))) rfl ?_
      rcases pd_cases h with ⟨hb10, h⟩ | ⟨hb10, h⟩
      · rw [hb10]
        refine ev_gos pp_Mo_type 3 (S' := (55, [some (.ref 198), some (.long l1), none, some (.int l3), some (.int l4), some (.int l5)], [.int l4, .int l4, .ref 198], (223, kc, ks, pd_H g v))) rfl ?_
        refine ev_gos pp_Mo_type 1 (S' := (bif !(decide (l4 = 0)) then 74 else 58, [some (.ref 198), some (.long l1), none, some (.int l3), some (.int l4), some (.int l5)], [.int l4, .ref 198], (223, kc, ks, pd_H g v))) rfl ?_
        rcases pd_cases h with ⟨hb11, h⟩ | ⟨hb11, h⟩
        · rw [hb11]
          refine ev_gos pp_Mo_type 2 (S' := (76, [some (.ref 198), some (.long l1), none, some (.int l3), some (.int l4), some (.int l5)], [.int (0 : Int32), .int (0 : Int32), .int l4, .ref 198], (223, kc, ks, pd_H g v))) rfl ?_
          obtain ⟨q12, hq12, h⟩ := pd_bind h
          refine ev_callv pp_Mo_type rfl rfl rfl rfl (s_Mo_throwing hq12) ?_
          refine ev_gos pp_Mo_type 0 (S' := (79, [some (.ref 198), some (.long l1), none, some (.int l3), some (.int l4), some (.int l5)], [.int q12.1], (223, kc, ks, pd_H g q12.2))) rfl ?_
          refine ev_gos pp_Mo_type 1 (S' := (bif decide (q12.1 = 0) then 84 else 82, [some (.ref 198), some (.long l1), none, some (.int l3), some (.int l4), some (.int l5)], [], (223, kc, ks, pd_H g q12.2))) rfl ?_
          rcases pd_cases h with ⟨hb13, h⟩ | ⟨hb13, h⟩
          · rw [hb13]
            refine ev_gos pp_Mo_type 4 (S' := (89, [some (.ref 198), some (.long l1), none, some (.int l3), some (.int l4), some (.int (l3 - (1 : Int32)))], [], (223, kc, ks, pd_H g q12.2))) rfl ?_
            exact s_Mo_type_89 _ _ _ _ _ _ _  h
          · rw [hb13]
            refine ev_gos pp_Mo_type 1 (S' := (83, [some (.ref 198), some (.long l1), none, some (.int l3), some (.int l4), some (.int l5)], [.int (0 : Int32)], (223, kc, ks, pd_H g q12.2))) rfl ?_
            cases h
            exact ev_fin pp_Mo_type rfl
        · rw [hb11]
          refine ev_gos pp_Mo_type 5 (S' := (67, [some (.ref 198), some (.long l1), none, some (.int l3), some (.int l4), some (.int l5)], [.int (160 : Int32), .int ((v 198 2) + l3), .int l4, .ref 198], (223, kc, ks, pd_H g v))) rfl ?_
          refine ev_gos pp_Mo_type 1 (S' := (bif decide (((v 198 2) + l3) ≤ (160 : Int32)) then 74 else 70, [some (.ref 198), some (.long l1), none, some (.int l3), some (.int l4), some (.int l5)], [.int l4, .ref 198], (223, kc, ks, pd_H g v))) rfl ?_
          rcases pd_cases h with ⟨hb14, h⟩ | ⟨hb14, h⟩
          · rw [hb14]
            refine ev_gos pp_Mo_type 2 (S' := (76, [some (.ref 198), some (.long l1), none, some (.int l3), some (.int l4), some (.int l5)], [.int (0 : Int32), .int (0 : Int32), .int l4, .ref 198], (223, kc, ks, pd_H g v))) rfl ?_
            obtain ⟨q15, hq15, h⟩ := pd_bind h
            refine ev_callv pp_Mo_type rfl rfl rfl rfl (s_Mo_throwing hq15) ?_
            refine ev_gos pp_Mo_type 0 (S' := (79, [some (.ref 198), some (.long l1), none, some (.int l3), some (.int l4), some (.int l5)], [.int q15.1], (223, kc, ks, pd_H g q15.2))) rfl ?_
            refine ev_gos pp_Mo_type 1 (S' := (bif decide (q15.1 = 0) then 84 else 82, [some (.ref 198), some (.long l1), none, some (.int l3), some (.int l4), some (.int l5)], [], (223, kc, ks, pd_H g q15.2))) rfl ?_
            rcases pd_cases h with ⟨hb16, h⟩ | ⟨hb16, h⟩
            · rw [hb16]
              refine ev_gos pp_Mo_type 4 (S' := (89, [some (.ref 198), some (.long l1), none, some (.int l3), some (.int l4), some (.int (l3 - (1 : Int32)))], [], (223, kc, ks, pd_H g q15.2))) rfl ?_
              exact s_Mo_type_89 _ _ _ _ _ _ _  h
            · rw [hb16]
              refine ev_gos pp_Mo_type 1 (S' := (83, [some (.ref 198), some (.long l1), none, some (.int l3), some (.int l4), some (.int l5)], [.int (0 : Int32)], (223, kc, ks, pd_H g q15.2))) rfl ?_
              cases h
              exact ev_fin pp_Mo_type rfl
          · rw [hb14]
            refine ev_gos pp_Mo_type 3 (S' := (76, [some (.ref 198), some (.long l1), none, some (.int l3), some (.int l4), some (.int l5)], [.int (0 : Int32), .int (1 : Int32), .int l4, .ref 198], (223, kc, ks, pd_H g v))) rfl ?_
            obtain ⟨q17, hq17, h⟩ := pd_bind h
            refine ev_callv pp_Mo_type rfl rfl rfl rfl (s_Mo_throwing hq17) ?_
            refine ev_gos pp_Mo_type 0 (S' := (79, [some (.ref 198), some (.long l1), none, some (.int l3), some (.int l4), some (.int l5)], [.int q17.1], (223, kc, ks, pd_H g q17.2))) rfl ?_
            refine ev_gos pp_Mo_type 1 (S' := (bif decide (q17.1 = 0) then 84 else 82, [some (.ref 198), some (.long l1), none, some (.int l3), some (.int l4), some (.int l5)], [], (223, kc, ks, pd_H g q17.2))) rfl ?_
            rcases pd_cases h with ⟨hb18, h⟩ | ⟨hb18, h⟩
            · rw [hb18]
              refine ev_gos pp_Mo_type 4 (S' := (89, [some (.ref 198), some (.long l1), none, some (.int l3), some (.int l4), some (.int (l3 - (1 : Int32)))], [], (223, kc, ks, pd_H g q17.2))) rfl ?_
              exact s_Mo_type_89 _ _ _ _ _ _ _  h
            · rw [hb18]
              refine ev_gos pp_Mo_type 1 (S' := (83, [some (.ref 198), some (.long l1), none, some (.int l3), some (.int l4), some (.int l5)], [.int (0 : Int32)], (223, kc, ks, pd_H g q17.2))) rfl ?_
              cases h
              exact ev_fin pp_Mo_type rfl
      · rw [hb10]
        refine ev_gos pp_Mo_type 10 (S' := (39, [some (.ref 198), some (.long l1), none, some (.int l3), some (.int l4), some (.int l5)], [.int (126 : Int32), .int (33 : Int32), .int (((l1 >>> (((8 : Int32) * l5).toInt64 &&& 63)) &&& (255 : Int64)).toInt32)], (223, kc, ks, pd_H g v))) rfl ?_
        refine ev_call pp_Mo_type rfl rfl rfl (s_Mo_beyond) ?_
        refine ev_gos pp_Mo_type 3 (S' := (12, [some (.ref 198), some (.long l1), none, some (.int l3), some (.int (d_Mo_beyond (((l1 >>> (((8 : Int32) * l5).toInt64 &&& 63)) &&& (255 : Int64)).toInt32) (33 : Int32) (126 : Int32))), some (.int (l5 + (1 : Int32)))], [], (223, kc, ks, pd_H g v))) rfl ?_
        exact ih _ _ _ _ _ _  h
def d_Mo_type (w : Nat) (l1 : Int64) (l3 : Int32) (v : pd_V) : Option (Int32 × pd_V) :=
  d_Mo_type_12 w w l1 l3 (d_Mo_beyond l3 (1 : Int32) (8 : Int32)) (0 : Int32) v
theorem s_Mo_type {w : Nat} {l1 : Int64} {l3 : Int32} {v : pd_V} {q : (Int32 × pd_V)}  (h : d_Mo_type w l1 l3 v = some q) : pm_ev (pj_P xs L) (d + 1) 100 (0, [some (.ref 198), some (.long l1), none, some (.int l3), none, none], [], (223, kc, ks, pd_H g v)) (.inl (some (.int q.1)), (223, kc, ks, pd_H g q.2)) := by
  unfold d_Mo_type at h
  refine ev_gos pp_Mo_type 3 (S' := (4, [some (.ref 198), some (.long l1), none, some (.int l3), none, none], [.int (8 : Int32), .int (1 : Int32), .int l3], (223, kc, ks, pd_H g v))) rfl ?_
  refine ev_call pp_Mo_type rfl rfl rfl (s_Mo_beyond) ?_
  refine ev_gos pp_Mo_type 3 (S' := (12, [some (.ref 198), some (.long l1), none, some (.int l3), some (.int (d_Mo_beyond l3 (1 : Int32) (8 : Int32))), some (.int (0 : Int32))], [], (223, kc, ks, pd_H g v))) rfl ?_
  exact s_Mo_type_12 _ _ _ _ _ _ _  h
theorem pp_Mo_clear {xs : Nat → Int32} {L : Nat} : (pj_P xs L 103).1 = fun S => pm_look tb_Mo_clear S.1 S := rfl
def d_Mo_clear  (v : pd_V) : Option pd_V :=
  some (pd_w (pd_w v 198 0 (0 : Int32)) 198 2 (0 : Int32))
theorem s_Mo_clear  {v : pd_V} {q : pd_V}  (h : d_Mo_clear v = some q) : pm_ev (pj_P xs L) d 103 (0, [some (.ref 198)], [], (223, kc, ks, pd_H g v)) (.inl none, (223, kc, ks, pd_H g q)) := by
  unfold d_Mo_clear at h
  refine ev_gos pp_Mo_clear 2 (S' := (2, [some (.ref 198)], [.int (0 : Int32), .ref 198], (223, kc, ks, pd_H g v))) rfl ?_
  refine ev_put pp_Mo_clear rfl (fun _ => rfl) rfl rfl rfl ?_
  refine ev_gos pp_Mo_clear 2 (S' := (7, [some (.ref 198)], [.int (0 : Int32), .ref 198], (223, kc, ks, pd_H g (pd_w v 198 0 (0 : Int32))))) rfl ?_
  refine ev_put pp_Mo_clear rfl (fun _ => rfl) rfl rfl rfl ?_
  refine ev_gos pp_Mo_clear 0 (S' := (10, [some (.ref 198)], [], (223, kc, ks, pd_H g (pd_w (pd_w v 198 0 (0 : Int32)) 198 2 (0 : Int32))))) rfl ?_
  cases h
  exact ev_fin pp_Mo_clear rfl
theorem pp_Mo_see {xs : Nat → Int32} {L : Nat} : (pj_P xs L 106).1 = fun S => pm_look tb_Mo_see S.1 S := rfl
def d_Mo_see  (v : pd_V) : Option Int32 :=
  bif decide ((v 198 2) ≤ (v 198 6)) then
    some (0 : Int32)
  else
    bif pm_in (v 198 6) 160 then
    some (v 199 ((v 198 6).toNatClampNeg))
    else none
theorem s_Mo_see  {v : pd_V} {q : Int32}  (h : d_Mo_see v = some q) : pm_ev (pj_P xs L) d 106 (0, [some (.ref 198)], [], (223, kc, ks, pd_H g v)) (.inl (some (.int q)), (223, kc, ks, pd_H g v)) := by
  unfold d_Mo_see at h
  refine ev_gos pp_Mo_see 4 (S' := (8, [some (.ref 198)], [.int (v 198 2), .int (v 198 6)], (223, kc, ks, pd_H g v))) rfl ?_
  refine ev_gos pp_Mo_see 1 (S' := (bif decide ((v 198 2) ≤ (v 198 6)) then 23 else 11, [some (.ref 198)], [], (223, kc, ks, pd_H g v))) rfl ?_
  rcases pd_cases h with ⟨hb1, h⟩ | ⟨hb1, h⟩
  · rw [hb1]
    refine ev_gos pp_Mo_see 1 (S' := (24, [some (.ref 198)], [.int (0 : Int32)], (223, kc, ks, pd_H g v))) rfl ?_
    cases h
    exact ev_fin pp_Mo_see rfl
  · rw [hb1]
    refine ev_gos pp_Mo_see 4 (S' := (19, [some (.ref 198)], [.int (v 198 6), .ref 199], (223, kc, ks, pd_H g v))) rfl ?_
    obtain ⟨hc2, h⟩ := pd_chk h
    refine ev_iald pp_Mo_see rfl (fun _ => rfl) hc2 ?_
    refine ev_gos pp_Mo_see 1 (S' := (24, [some (.ref 198)], [.int (v 199 ((v 198 6).toNatClampNeg))], (223, kc, ks, pd_H g v))) rfl ?_
    cases h
    exact ev_fin pp_Mo_see rfl
theorem pp_Mo_takes {xs : Nat → Int32} {L : Nat} : (pj_P xs L 107).1 = fun S => pm_look tb_Mo_takes S.1 S := rfl
def d_Mo_takes (l1 : Int32) (v : pd_V) : Option (Int32 × pd_V) :=
  (d_Mo_see v).bind fun q1 =>
  bif decide (q1 = l1) then
    some ((1 : Int32), (pd_w v 198 6 ((v 198 6) + (1 : Int32))))
  else
    some ((0 : Int32), v)
theorem s_Mo_takes {l1 : Int32} {v : pd_V} {q : (Int32 × pd_V)}  (h : d_Mo_takes l1 v = some q) : pm_ev (pj_P xs L) (d + 1) 107 (0, [some (.ref 198), some (.int l1)], [], (223, kc, ks, pd_H g v)) (.inl (some (.int q.1)), (223, kc, ks, pd_H g q.2)) := by
  unfold d_Mo_takes at h
  refine ev_gos pp_Mo_takes 1 (S' := (1, [some (.ref 198), some (.int l1)], [.ref 198], (223, kc, ks, pd_H g v))) rfl ?_
  obtain ⟨q1, hq1, h⟩ := pd_bind h
  refine ev_callv pp_Mo_takes rfl rfl rfl rfl (s_Mo_see hq1) ?_
  refine ev_gos pp_Mo_takes 1 (S' := (5, [some (.ref 198), some (.int l1)], [.int l1, .int q1], (223, kc, ks, pd_H g v))) rfl ?_
  refine ev_gos pp_Mo_takes 1 (S' := (bif decide (q1 = l1) then 10 else 8, [some (.ref 198), some (.int l1)], [], (223, kc, ks, pd_H g v))) rfl ?_
  rcases pd_cases h with ⟨hb2, h⟩ | ⟨hb2, h⟩
  · rw [hb2]
    refine ev_gos pp_Mo_takes 5 (S' := (17, [some (.ref 198), some (.int l1)], [.int ((v 198 6) + (1 : Int32)), .ref 198], (223, kc, ks, pd_H g v))) rfl ?_
    refine ev_put pp_Mo_takes rfl (fun _ => rfl) rfl rfl rfl ?_
    refine ev_gos pp_Mo_takes 1 (S' := (21, [some (.ref 198), some (.int l1)], [.int (1 : Int32)], (223, kc, ks, pd_H g (pd_w v 198 6 ((v 198 6) + (1 : Int32)))))) rfl ?_
    cases h
    exact ev_zret pp_Mo_takes rfl pd_b1
  · rw [hb2]
    refine ev_gos pp_Mo_takes 1 (S' := (9, [some (.ref 198), some (.int l1)], [.int (0 : Int32)], (223, kc, ks, pd_H g v))) rfl ?_
    cases h
    exact ev_zret pp_Mo_takes rfl pd_b0
theorem z_Mo_takes {l1 : Int32} {v : pd_V} {q : (Int32 × pd_V)}  (h : d_Mo_takes l1 v = some q) : (q.1 == 0 || q.1 == 1) = true := by
  unfold d_Mo_takes at h
  obtain ⟨q1, hq1, h⟩ := pd_bind h
  rcases pd_cases h with ⟨hb2, h⟩ | ⟨hb2, h⟩
  · cases h
    exact pd_b1
  · cases h
    exact pd_b0
theorem pp_Mo_takesVariable {xs : Nat → Int32} {L : Nat} : (pj_P xs L 110).1 = fun S => pm_look tb_Mo_takesVariable S.1 S := rfl
def d_Mo_takesVariable  (v : pd_V) : Option (Int32 × pd_V) :=
  (d_Mo_see v).bind fun q1 =>
  bif decide ((d_Mo_beyond q1 (97 : Int32) (104 : Int32)) = 0) then
    some ((1 : Int32), (pd_w v 198 6 ((v 198 6) + (1 : Int32))))
  else
    some ((0 : Int32), v)
theorem s_Mo_takesVariable  {v : pd_V} {q : (Int32 × pd_V)}  (h : d_Mo_takesVariable v = some q) : pm_ev (pj_P xs L) (d + 1) 110 (0, [some (.ref 198)], [], (223, kc, ks, pd_H g v)) (.inl (some (.int q.1)), (223, kc, ks, pd_H g q.2)) := by
  unfold d_Mo_takesVariable at h
  refine ev_gos pp_Mo_takesVariable 1 (S' := (1, [some (.ref 198)], [.ref 198], (223, kc, ks, pd_H g v))) rfl ?_
  obtain ⟨q1, hq1, h⟩ := pd_bind h
  refine ev_callv pp_Mo_takesVariable rfl rfl rfl rfl (s_Mo_see hq1) ?_
  refine ev_gos pp_Mo_takesVariable 2 (S' := (8, [some (.ref 198)], [.int (104 : Int32), .int (97 : Int32), .int q1], (223, kc, ks, pd_H g v))) rfl ?_
  refine ev_call pp_Mo_takesVariable rfl rfl rfl (s_Mo_beyond) ?_
  refine ev_gos pp_Mo_takesVariable 0 (S' := (11, [some (.ref 198)], [.int (d_Mo_beyond q1 (97 : Int32) (104 : Int32))], (223, kc, ks, pd_H g v))) rfl ?_
  refine ev_gos pp_Mo_takesVariable 1 (S' := (bif decide ((d_Mo_beyond q1 (97 : Int32) (104 : Int32)) = 0) then 16 else 14, [some (.ref 198)], [], (223, kc, ks, pd_H g v))) rfl ?_
  rcases pd_cases h with ⟨hb3, h⟩ | ⟨hb3, h⟩
  · rw [hb3]
    refine ev_gos pp_Mo_takesVariable 5 (S' := (23, [some (.ref 198)], [.int ((v 198 6) + (1 : Int32)), .ref 198], (223, kc, ks, pd_H g v))) rfl ?_
    refine ev_put pp_Mo_takesVariable rfl (fun _ => rfl) rfl rfl rfl ?_
    refine ev_gos pp_Mo_takesVariable 1 (S' := (27, [some (.ref 198)], [.int (1 : Int32)], (223, kc, ks, pd_H g (pd_w v 198 6 ((v 198 6) + (1 : Int32)))))) rfl ?_
    cases h
    exact ev_zret pp_Mo_takesVariable rfl pd_b1
  · rw [hb3]
    refine ev_gos pp_Mo_takesVariable 1 (S' := (15, [some (.ref 198)], [.int (0 : Int32)], (223, kc, ks, pd_H g v))) rfl ?_
    cases h
    exact ev_zret pp_Mo_takesVariable rfl pd_b0
theorem z_Mo_takesVariable  {v : pd_V} {q : (Int32 × pd_V)}  (h : d_Mo_takesVariable v = some q) : (q.1 == 0 || q.1 == 1) = true := by
  unfold d_Mo_takesVariable at h
  obtain ⟨q1, hq1, h⟩ := pd_bind h
  rcases pd_cases h with ⟨hb3, h⟩ | ⟨hb3, h⟩
  · cases h
    exact pd_b1
  · cases h
    exact pd_b0
theorem pp_Mo_isPlain {xs : Nat → Int32} {L : Nat} : (pj_P xs L 109).1 = fun S => pm_look tb_Mo_isPlain S.1 S := rfl
def d_Mo_isPlain_16 (w : Nat) (f : Nat) (l1 : Int32) (v : pd_V) : Option (Int32 × pd_V) := match f with
  | 0 => none
  | f + 1 =>
    bif decide ((3 : Int32) ≤ l1) then
      some ((1 : Int32), v)
    else
      (d_Mo_see v).bind fun q2 =>
      bif !(decide ((d_Mo_beyond q2 (48 : Int32) (57 : Int32)) = 0)) then
        some ((1 : Int32), v)
      else
        d_Mo_isPlain_16 w f (l1 + (1 : Int32)) (pd_w v 198 6 ((v 198 6) + (1 : Int32)))
theorem s_Mo_isPlain_16 {w : Nat} : ∀ (f : Nat) (l1 : Int32) (v : pd_V)  (q : (Int32 × pd_V)) , d_Mo_isPlain_16 w f l1 v = some q → pm_ev (pj_P xs L) (d + 2) 109 (16, [some (.ref 198), some (.int l1)], [], (223, kc, ks, pd_H g v)) (.inl (some (.int q.1)), (223, kc, ks, pd_H g q.2)) := by
  intro f
  induction f with
  | zero => intro l1 v q h; exact nomatch (show (none : Option (Int32 × pd_V)) = some q from h)
  | succ f ih =>
    intro l1 v q h
    rw [d_Mo_isPlain_16] at h
    refine ev_gos pp_Mo_isPlain 2 (S' := (18, [some (.ref 198), some (.int l1)], [.int (3 : Int32), .int l1], (223, kc, ks, pd_H g v))) rfl ?_
    refine ev_gos pp_Mo_isPlain 1 (S' := (bif decide ((3 : Int32) ≤ l1) then 51 else 21, [some (.ref 198), some (.int l1)], [], (223, kc, ks, pd_H g v))) rfl ?_
    rcases pd_cases h with ⟨hb1, h⟩ | ⟨hb1, h⟩
    · rw [hb1]
      refine ev_gos pp_Mo_isPlain 1 (S' := (52, [some (.ref 198), some (.int l1)], [.int (1 : Int32)], (223, kc, ks, pd_H g v))) rfl ?_
      cases h
      exact ev_zret pp_Mo_isPlain rfl pd_b1
    · rw [hb1]
      refine ev_gos pp_Mo_isPlain 1 (S' := (22, [some (.ref 198), some (.int l1)], [.ref 198], (223, kc, ks, pd_H g v))) rfl ?_
      obtain ⟨q2, hq2, h⟩ := pd_bind h
      refine ev_callv pp_Mo_isPlain rfl rfl rfl rfl (s_Mo_see hq2) ?_
      refine ev_gos pp_Mo_isPlain 2 (S' := (29, [some (.ref 198), some (.int l1)], [.int (57 : Int32), .int (48 : Int32), .int q2], (223, kc, ks, pd_H g v))) rfl ?_
      refine ev_call pp_Mo_isPlain rfl rfl rfl (s_Mo_beyond) ?_
      refine ev_gos pp_Mo_isPlain 0 (S' := (32, [some (.ref 198), some (.int l1)], [.int (d_Mo_beyond q2 (48 : Int32) (57 : Int32))], (223, kc, ks, pd_H g v))) rfl ?_
      refine ev_gos pp_Mo_isPlain 1 (S' := (bif !(decide ((d_Mo_beyond q2 (48 : Int32) (57 : Int32)) = 0)) then 51 else 35, [some (.ref 198), some (.int l1)], [], (223, kc, ks, pd_H g v))) rfl ?_
      rcases pd_cases h with ⟨hb4, h⟩ | ⟨hb4, h⟩
      · rw [hb4]
        refine ev_gos pp_Mo_isPlain 1 (S' := (52, [some (.ref 198), some (.int l1)], [.int (1 : Int32)], (223, kc, ks, pd_H g v))) rfl ?_
        cases h
        exact ev_zret pp_Mo_isPlain rfl pd_b1
      · rw [hb4]
        refine ev_gos pp_Mo_isPlain 5 (S' := (42, [some (.ref 198), some (.int l1)], [.int ((v 198 6) + (1 : Int32)), .ref 198], (223, kc, ks, pd_H g v))) rfl ?_
        refine ev_put pp_Mo_isPlain rfl (fun _ => rfl) rfl rfl rfl ?_
        refine ev_gos pp_Mo_isPlain 2 (S' := (16, [some (.ref 198), some (.int (l1 + (1 : Int32)))], [], (223, kc, ks, pd_H g (pd_w v 198 6 ((v 198 6) + (1 : Int32)))))) rfl ?_
        exact ih _ _ _  h
theorem s_Mo_isPlain_16z {w : Nat} : ∀ (f : Nat) (l1 : Int32) (v : pd_V)  (q : (Int32 × pd_V)) , d_Mo_isPlain_16 w f l1 v = some q → (q.1 == 0 || q.1 == 1) = true := by
  intro f
  induction f with
  | zero => intro l1 v q h; exact nomatch (show (none : Option (Int32 × pd_V)) = some q from h)
  | succ f ih =>
    intro l1 v q h
    rw [d_Mo_isPlain_16] at h
    rcases pd_cases h with ⟨hb1, h⟩ | ⟨hb1, h⟩
    · cases h
      exact pd_b1
    · obtain ⟨q2, hq2, h⟩ := pd_bind h
      rcases pd_cases h with ⟨hb4, h⟩ | ⟨hb4, h⟩
      · cases h
        exact pd_b1
      · exact ih _ _ _  h
def d_Mo_isPlain (w : Nat)  (v : pd_V) : Option (Int32 × pd_V) :=
  (d_Mo_see v).bind fun q1 =>
  bif !(decide ((d_Mo_beyond q1 (48 : Int32) (57 : Int32)) = 0)) then
    (d_Mo_takes (110 : Int32) v).bind fun q4 =>
    bif !(decide (q4.1 = 0)) then
      some ((1 : Int32), q4.2)
    else
      (d_Mo_takesVariable q4.2).bind fun q6 =>
      bif decide (q6.1 = 0) then
        some ((0 : Int32), q6.2)
      else
        some ((1 : Int32), q6.2)
  else
    d_Mo_isPlain_16 w w (0 : Int32) v
theorem s_Mo_isPlain {w : Nat}  {v : pd_V} {q : (Int32 × pd_V)}  (h : d_Mo_isPlain w v = some q) : pm_ev (pj_P xs L) (d + 2) 109 (0, [some (.ref 198), none], [], (223, kc, ks, pd_H g v)) (.inl (some (.int q.1)), (223, kc, ks, pd_H g q.2)) := by
  unfold d_Mo_isPlain at h
  refine ev_gos pp_Mo_isPlain 1 (S' := (1, [some (.ref 198), none], [.ref 198], (223, kc, ks, pd_H g v))) rfl ?_
  obtain ⟨q1, hq1, h⟩ := pd_bind h
  refine ev_callv pp_Mo_isPlain rfl rfl rfl rfl (s_Mo_see hq1) ?_
  refine ev_gos pp_Mo_isPlain 2 (S' := (8, [some (.ref 198), none], [.int (57 : Int32), .int (48 : Int32), .int q1], (223, kc, ks, pd_H g v))) rfl ?_
  refine ev_call pp_Mo_isPlain rfl rfl rfl (s_Mo_beyond) ?_
  refine ev_gos pp_Mo_isPlain 0 (S' := (11, [some (.ref 198), none], [.int (d_Mo_beyond q1 (48 : Int32) (57 : Int32))], (223, kc, ks, pd_H g v))) rfl ?_
  refine ev_gos pp_Mo_isPlain 1 (S' := (bif !(decide ((d_Mo_beyond q1 (48 : Int32) (57 : Int32)) = 0)) then 53 else 14, [some (.ref 198), none], [], (223, kc, ks, pd_H g v))) rfl ?_
  rcases pd_cases h with ⟨hb3, h⟩ | ⟨hb3, h⟩
  · rw [hb3]
    refine ev_gos pp_Mo_isPlain 2 (S' := (56, [some (.ref 198), none], [.int (110 : Int32), .ref 198], (223, kc, ks, pd_H g v))) rfl ?_
    obtain ⟨q4, hq4, h⟩ := pd_bind h
    refine ev_callv pp_Mo_isPlain rfl rfl rfl rfl (s_Mo_takes hq4) ?_
    refine ev_gos pp_Mo_isPlain 0 (S' := (59, [some (.ref 198), none], [.int q4.1], (223, kc, ks, pd_H g q4.2))) rfl ?_
    refine ev_gos pp_Mo_isPlain 1 (S' := (bif !(decide (q4.1 = 0)) then 69 else 62, [some (.ref 198), none], [], (223, kc, ks, pd_H g q4.2))) rfl ?_
    rcases pd_cases h with ⟨hb5, h⟩ | ⟨hb5, h⟩
    · rw [hb5]
      refine ev_gos pp_Mo_isPlain 2 (S' := (74, [some (.ref 198), none], [.int (1 : Int32)], (223, kc, ks, pd_H g q4.2))) rfl ?_
      cases h
      exact ev_zret pp_Mo_isPlain rfl pd_b1
    · rw [hb5]
      refine ev_gos pp_Mo_isPlain 1 (S' := (63, [some (.ref 198), none], [.ref 198], (223, kc, ks, pd_H g q4.2))) rfl ?_
      obtain ⟨q6, hq6, h⟩ := pd_bind h
      refine ev_callv pp_Mo_isPlain rfl rfl rfl rfl (s_Mo_takesVariable hq6) ?_
      refine ev_gos pp_Mo_isPlain 0 (S' := (66, [some (.ref 198), none], [.int q6.1], (223, kc, ks, pd_H g q6.2))) rfl ?_
      refine ev_gos pp_Mo_isPlain 1 (S' := (bif decide (q6.1 = 0) then 73 else 69, [some (.ref 198), none], [], (223, kc, ks, pd_H g q6.2))) rfl ?_
      rcases pd_cases h with ⟨hb7, h⟩ | ⟨hb7, h⟩
      · rw [hb7]
        refine ev_gos pp_Mo_isPlain 1 (S' := (74, [some (.ref 198), none], [.int (0 : Int32)], (223, kc, ks, pd_H g q6.2))) rfl ?_
        cases h
        exact ev_zret pp_Mo_isPlain rfl pd_b0
      · rw [hb7]
        refine ev_gos pp_Mo_isPlain 2 (S' := (74, [some (.ref 198), none], [.int (1 : Int32)], (223, kc, ks, pd_H g q6.2))) rfl ?_
        cases h
        exact ev_zret pp_Mo_isPlain rfl pd_b1
  · rw [hb3]
    refine ev_gos pp_Mo_isPlain 2 (S' := (16, [some (.ref 198), some (.int (0 : Int32))], [], (223, kc, ks, pd_H g v))) rfl ?_
    exact s_Mo_isPlain_16 _ _ _ _  h
theorem z_Mo_isPlain {w : Nat}  {v : pd_V} {q : (Int32 × pd_V)}  (h : d_Mo_isPlain w v = some q) : (q.1 == 0 || q.1 == 1) = true := by
  unfold d_Mo_isPlain at h
  obtain ⟨q1, hq1, h⟩ := pd_bind h
  rcases pd_cases h with ⟨hb3, h⟩ | ⟨hb3, h⟩
  · obtain ⟨q4, hq4, h⟩ := pd_bind h
    rcases pd_cases h with ⟨hb5, h⟩ | ⟨hb5, h⟩
    · cases h
      exact pd_b1
    · obtain ⟨q6, hq6, h⟩ := pd_bind h
      rcases pd_cases h with ⟨hb7, h⟩ | ⟨hb7, h⟩
      · cases h
        exact pd_b0
      · cases h
        exact pd_b1
  · exact s_Mo_isPlain_16z _ _ _ _  h
theorem pp_Mo_opens {xs : Nat → Int32} {L : Nat} : (pj_P xs L 111).1 = fun S => pm_look tb_Mo_opens S.1 S := rfl
def d_Mo_opens_66  (v : pd_V) : Option (Int32 × pd_V) :=
  some ((0 : Int32), v)
theorem s_Mo_opens_66 : ∀  (v : pd_V) (y1 : Int32) (y2 : Int32) (q : (Int32 × pd_V)) , d_Mo_opens_66 v = some q → pm_ev (pj_P xs L) (d + 2) 111 (66, [some (.ref 198), some (.int y1), some (.int y2)], [], (223, kc, ks, pd_H g v)) (.inl (some (.int q.1)), (223, kc, ks, pd_H g q.2)) := by
  intro v y1 y2 q h
  unfold d_Mo_opens_66 at h
  refine ev_gos pp_Mo_opens 1 (S' := (67, [some (.ref 198), some (.int y1), some (.int y2)], [.int (0 : Int32)], (223, kc, ks, pd_H g v))) rfl ?_
  cases h
  exact ev_zret pp_Mo_opens rfl pd_b0
theorem s_Mo_opens_66z : ∀  (v : pd_V)  (q : (Int32 × pd_V)) , d_Mo_opens_66 v = some q → (q.1 == 0 || q.1 == 1) = true := by
  intro v q h
  unfold d_Mo_opens_66 at h
  cases h
  exact pd_b0
def d_Mo_opens_41 (l1 : Int32) (l2 : Int32) (v : pd_V) : Option (Int32 × pd_V) :=
  bif decide (l1 = (4 : Int32)) then
    d_Mo_opens_66 v
  else
    bif !(decide (l2 = (40 : Int32))) then
      (d_Mo_takes (91 : Int32) v).bind fun q3 =>
      bif !(decide (q3.1 = 0)) then
        bif !(decide (l2 = (40 : Int32))) then
          bif pm_in l1 6 then
          some ((1 : Int32), (pd_w q3.2 219 l1.toNatClampNeg (93 : Int32)))
          else none
        else
          bif pm_in l1 6 then
          some ((1 : Int32), (pd_w q3.2 219 l1.toNatClampNeg (41 : Int32)))
          else none
      else
        d_Mo_opens_66 q3.2
    else
      (d_Mo_takes (40 : Int32) v).bind fun q8 =>
      bif !(decide (q8.1 = 0)) then
        bif !(decide (l2 = (40 : Int32))) then
          bif pm_in l1 6 then
          some ((1 : Int32), (pd_w q8.2 219 l1.toNatClampNeg (93 : Int32)))
          else none
        else
          bif pm_in l1 6 then
          some ((1 : Int32), (pd_w q8.2 219 l1.toNatClampNeg (41 : Int32)))
          else none
      else
        d_Mo_opens_66 q8.2
theorem s_Mo_opens_41 : ∀ (l1 : Int32) (l2 : Int32) (v : pd_V)  (q : (Int32 × pd_V)) , d_Mo_opens_41 l1 l2 v = some q → pm_ev (pj_P xs L) (d + 2) 111 (41, [some (.ref 198), some (.int l1), some (.int l2)], [], (223, kc, ks, pd_H g v)) (.inl (some (.int q.1)), (223, kc, ks, pd_H g q.2)) := by
  intro l1 l2 v q h
  unfold d_Mo_opens_41 at h
  refine ev_gos pp_Mo_opens 2 (S' := (43, [some (.ref 198), some (.int l1), some (.int l2)], [.int (4 : Int32), .int l1], (223, kc, ks, pd_H g v))) rfl ?_
  refine ev_gos pp_Mo_opens 1 (S' := (bif decide (l1 = (4 : Int32)) then 66 else 46, [some (.ref 198), some (.int l1), some (.int l2)], [], (223, kc, ks, pd_H g v))) rfl ?_
  rcases pd_cases h with ⟨hb1, h⟩ | ⟨hb1, h⟩
  · rw [hb1]
    refine ev_gos pp_Mo_opens 0 (S' := (66, [some (.ref 198), some (.int l1), some (.int l2)], [], (223, kc, ks, pd_H g v))) rfl ?_
    exact s_Mo_opens_66 _ _ _ _  h
  · rw [hb1]
    refine ev_gos pp_Mo_opens 3 (S' := (50, [some (.ref 198), some (.int l1), some (.int l2)], [.int (40 : Int32), .int l2, .ref 198], (223, kc, ks, pd_H g v))) rfl ?_
    refine ev_gos pp_Mo_opens 1 (S' := (bif !(decide (l2 = (40 : Int32))) then 58 else 53, [some (.ref 198), some (.int l1), some (.int l2)], [.ref 198], (223, kc, ks, pd_H g v))) rfl ?_
    rcases pd_cases h with ⟨hb2, h⟩ | ⟨hb2, h⟩
    · rw [hb2]
      refine ev_gos pp_Mo_opens 1 (S' := (60, [some (.ref 198), some (.int l1), some (.int l2)], [.int (91 : Int32), .ref 198], (223, kc, ks, pd_H g v))) rfl ?_
      obtain ⟨q3, hq3, h⟩ := pd_bind h
      refine ev_callv pp_Mo_opens rfl rfl rfl rfl (s_Mo_takes hq3) ?_
      refine ev_gos pp_Mo_opens 0 (S' := (63, [some (.ref 198), some (.int l1), some (.int l2)], [.int q3.1], (223, kc, ks, pd_H g q3.2))) rfl ?_
      refine ev_gos pp_Mo_opens 1 (S' := (bif !(decide (q3.1 = 0)) then 68 else 66, [some (.ref 198), some (.int l1), some (.int l2)], [], (223, kc, ks, pd_H g q3.2))) rfl ?_
      rcases pd_cases h with ⟨hb4, h⟩ | ⟨hb4, h⟩
      · rw [hb4]
        refine ev_gos pp_Mo_opens 5 (S' := (76, [some (.ref 198), some (.int l1), some (.int l2)], [.int (40 : Int32), .int l2, .int l1, .ref 219], (223, kc, ks, pd_H g q3.2))) rfl ?_
        refine ev_gos pp_Mo_opens 1 (S' := (bif !(decide (l2 = (40 : Int32))) then 84 else 79, [some (.ref 198), some (.int l1), some (.int l2)], [.int l1, .ref 219], (223, kc, ks, pd_H g q3.2))) rfl ?_
        rcases pd_cases h with ⟨hb5, h⟩ | ⟨hb5, h⟩
        · rw [hb5]
          refine ev_gos pp_Mo_opens 1 (S' := (86, [some (.ref 198), some (.int l1), some (.int l2)], [.int (93 : Int32), .int l1, .ref 219], (223, kc, ks, pd_H g q3.2))) rfl ?_
          obtain ⟨hc6, h⟩ := pd_chk h
          refine ev_iast pp_Mo_opens rfl (fun _ => rfl) hc6 ?_
          refine ev_gos pp_Mo_opens 1 (S' := (88, [some (.ref 198), some (.int l1), some (.int l2)], [.int (1 : Int32)], (223, kc, ks, pd_H g (pd_w q3.2 219 l1.toNatClampNeg (93 : Int32))))) rfl ?_
          cases h
          exact ev_zret pp_Mo_opens rfl pd_b1
        · rw [hb5]
          refine ev_gos pp_Mo_opens 2 (S' := (86, [some (.ref 198), some (.int l1), some (.int l2)], [.int (41 : Int32), .int l1, .ref 219], (223, kc, ks, pd_H g q3.2))) rfl ?_
          obtain ⟨hc7, h⟩ := pd_chk h
          refine ev_iast pp_Mo_opens rfl (fun _ => rfl) hc7 ?_
          refine ev_gos pp_Mo_opens 1 (S' := (88, [some (.ref 198), some (.int l1), some (.int l2)], [.int (1 : Int32)], (223, kc, ks, pd_H g (pd_w q3.2 219 l1.toNatClampNeg (41 : Int32))))) rfl ?_
          cases h
          exact ev_zret pp_Mo_opens rfl pd_b1
      · rw [hb4]
        refine ev_gos pp_Mo_opens 0 (S' := (66, [some (.ref 198), some (.int l1), some (.int l2)], [], (223, kc, ks, pd_H g q3.2))) rfl ?_
        exact s_Mo_opens_66 _ _ _ _  h
    · rw [hb2]
      refine ev_gos pp_Mo_opens 2 (S' := (60, [some (.ref 198), some (.int l1), some (.int l2)], [.int (40 : Int32), .ref 198], (223, kc, ks, pd_H g v))) rfl ?_
      obtain ⟨q8, hq8, h⟩ := pd_bind h
      refine ev_callv pp_Mo_opens rfl rfl rfl rfl (s_Mo_takes hq8) ?_
      refine ev_gos pp_Mo_opens 0 (S' := (63, [some (.ref 198), some (.int l1), some (.int l2)], [.int q8.1], (223, kc, ks, pd_H g q8.2))) rfl ?_
      refine ev_gos pp_Mo_opens 1 (S' := (bif !(decide (q8.1 = 0)) then 68 else 66, [some (.ref 198), some (.int l1), some (.int l2)], [], (223, kc, ks, pd_H g q8.2))) rfl ?_
      rcases pd_cases h with ⟨hb9, h⟩ | ⟨hb9, h⟩
      · rw [hb9]
        refine ev_gos pp_Mo_opens 5 (S' := (76, [some (.ref 198), some (.int l1), some (.int l2)], [.int (40 : Int32), .int l2, .int l1, .ref 219], (223, kc, ks, pd_H g q8.2))) rfl ?_
        refine ev_gos pp_Mo_opens 1 (S' := (bif !(decide (l2 = (40 : Int32))) then 84 else 79, [some (.ref 198), some (.int l1), some (.int l2)], [.int l1, .ref 219], (223, kc, ks, pd_H g q8.2))) rfl ?_
        rcases pd_cases h with ⟨hb10, h⟩ | ⟨hb10, h⟩
        · rw [hb10]
          refine ev_gos pp_Mo_opens 1 (S' := (86, [some (.ref 198), some (.int l1), some (.int l2)], [.int (93 : Int32), .int l1, .ref 219], (223, kc, ks, pd_H g q8.2))) rfl ?_
          obtain ⟨hc11, h⟩ := pd_chk h
          refine ev_iast pp_Mo_opens rfl (fun _ => rfl) hc11 ?_
          refine ev_gos pp_Mo_opens 1 (S' := (88, [some (.ref 198), some (.int l1), some (.int l2)], [.int (1 : Int32)], (223, kc, ks, pd_H g (pd_w q8.2 219 l1.toNatClampNeg (93 : Int32))))) rfl ?_
          cases h
          exact ev_zret pp_Mo_opens rfl pd_b1
        · rw [hb10]
          refine ev_gos pp_Mo_opens 2 (S' := (86, [some (.ref 198), some (.int l1), some (.int l2)], [.int (41 : Int32), .int l1, .ref 219], (223, kc, ks, pd_H g q8.2))) rfl ?_
          obtain ⟨hc12, h⟩ := pd_chk h
          refine ev_iast pp_Mo_opens rfl (fun _ => rfl) hc12 ?_
          refine ev_gos pp_Mo_opens 1 (S' := (88, [some (.ref 198), some (.int l1), some (.int l2)], [.int (1 : Int32)], (223, kc, ks, pd_H g (pd_w q8.2 219 l1.toNatClampNeg (41 : Int32))))) rfl ?_
          cases h
          exact ev_zret pp_Mo_opens rfl pd_b1
      · rw [hb9]
        refine ev_gos pp_Mo_opens 0 (S' := (66, [some (.ref 198), some (.int l1), some (.int l2)], [], (223, kc, ks, pd_H g q8.2))) rfl ?_
        exact s_Mo_opens_66 _ _ _ _  h
theorem s_Mo_opens_41z : ∀ (l1 : Int32) (l2 : Int32) (v : pd_V)  (q : (Int32 × pd_V)) , d_Mo_opens_41 l1 l2 v = some q → (q.1 == 0 || q.1 == 1) = true := by
  intro l1 l2 v q h
  unfold d_Mo_opens_41 at h
  rcases pd_cases h with ⟨hb1, h⟩ | ⟨hb1, h⟩
  · exact s_Mo_opens_66z _ _  h
  · rcases pd_cases h with ⟨hb2, h⟩ | ⟨hb2, h⟩
    · obtain ⟨q3, hq3, h⟩ := pd_bind h
      rcases pd_cases h with ⟨hb4, h⟩ | ⟨hb4, h⟩
      · rcases pd_cases h with ⟨hb5, h⟩ | ⟨hb5, h⟩
        · obtain ⟨hc6, h⟩ := pd_chk h
          cases h
          exact pd_b1
        · obtain ⟨hc7, h⟩ := pd_chk h
          cases h
          exact pd_b1
      · exact s_Mo_opens_66z _ _  h
    · obtain ⟨q8, hq8, h⟩ := pd_bind h
      rcases pd_cases h with ⟨hb9, h⟩ | ⟨hb9, h⟩
      · rcases pd_cases h with ⟨hb10, h⟩ | ⟨hb10, h⟩
        · obtain ⟨hc11, h⟩ := pd_chk h
          cases h
          exact pd_b1
        · obtain ⟨hc12, h⟩ := pd_chk h
          cases h
          exact pd_b1
      · exact s_Mo_opens_66z _ _  h
def d_Mo_opens_25 (l1 : Int32) (l2 : Int32) (v : pd_V) : Option (Int32 × pd_V) :=
  bif decide (l2 = (40 : Int32)) then
    d_Mo_opens_41 l1 l2 v
  else
    d_Mo_opens_41 l1 l2 (pd_w v 198 6 ((v 198 6) + (1 : Int32)))
theorem s_Mo_opens_25 : ∀ (l1 : Int32) (l2 : Int32) (v : pd_V)  (q : (Int32 × pd_V)) , d_Mo_opens_25 l1 l2 v = some q → pm_ev (pj_P xs L) (d + 2) 111 (25, [some (.ref 198), some (.int l1), some (.int l2)], [], (223, kc, ks, pd_H g v)) (.inl (some (.int q.1)), (223, kc, ks, pd_H g q.2)) := by
  intro l1 l2 v q h
  unfold d_Mo_opens_25 at h
  refine ev_gos pp_Mo_opens 2 (S' := (28, [some (.ref 198), some (.int l1), some (.int l2)], [.int (40 : Int32), .int l2], (223, kc, ks, pd_H g v))) rfl ?_
  refine ev_gos pp_Mo_opens 1 (S' := (bif decide (l2 = (40 : Int32)) then 41 else 31, [some (.ref 198), some (.int l1), some (.int l2)], [], (223, kc, ks, pd_H g v))) rfl ?_
  rcases pd_cases h with ⟨hb1, h⟩ | ⟨hb1, h⟩
  · rw [hb1]
    refine ev_gos pp_Mo_opens 0 (S' := (41, [some (.ref 198), some (.int l1), some (.int l2)], [], (223, kc, ks, pd_H g v))) rfl ?_
    exact s_Mo_opens_41 _ _ _ _  h
  · rw [hb1]
    refine ev_gos pp_Mo_opens 5 (S' := (38, [some (.ref 198), some (.int l1), some (.int l2)], [.int ((v 198 6) + (1 : Int32)), .ref 198], (223, kc, ks, pd_H g v))) rfl ?_
    refine ev_put pp_Mo_opens rfl (fun _ => rfl) rfl rfl rfl ?_
    refine ev_gos pp_Mo_opens 0 (S' := (41, [some (.ref 198), some (.int l1), some (.int l2)], [], (223, kc, ks, pd_H g (pd_w v 198 6 ((v 198 6) + (1 : Int32)))))) rfl ?_
    exact s_Mo_opens_41 _ _ _ _  h
theorem s_Mo_opens_25z : ∀ (l1 : Int32) (l2 : Int32) (v : pd_V)  (q : (Int32 × pd_V)) , d_Mo_opens_25 l1 l2 v = some q → (q.1 == 0 || q.1 == 1) = true := by
  intro l1 l2 v q h
  unfold d_Mo_opens_25 at h
  rcases pd_cases h with ⟨hb1, h⟩ | ⟨hb1, h⟩
  · exact s_Mo_opens_41z _ _ _ _  h
  · exact s_Mo_opens_41z _ _ _ _  h
def d_Mo_opens (l1 : Int32) (v : pd_V) : Option (Int32 × pd_V) :=
  (d_Mo_see v).bind fun q1 =>
  bif decide (q1 = (73 : Int32)) then
    d_Mo_opens_25 l1 q1 v
  else
    bif decide (q1 = (76 : Int32)) then
      d_Mo_opens_25 l1 q1 v
    else
      bif decide (q1 = (40 : Int32)) then
        d_Mo_opens_25 l1 q1 v
      else
        some ((0 : Int32), v)
theorem s_Mo_opens {l1 : Int32} {v : pd_V} {q : (Int32 × pd_V)}  (h : d_Mo_opens l1 v = some q) : pm_ev (pj_P xs L) (d + 2) 111 (0, [some (.ref 198), some (.int l1), none], [], (223, kc, ks, pd_H g v)) (.inl (some (.int q.1)), (223, kc, ks, pd_H g q.2)) := by
  unfold d_Mo_opens at h
  refine ev_gos pp_Mo_opens 1 (S' := (1, [some (.ref 198), some (.int l1), none], [.ref 198], (223, kc, ks, pd_H g v))) rfl ?_
  obtain ⟨q1, hq1, h⟩ := pd_bind h
  refine ev_callv pp_Mo_opens rfl rfl rfl rfl (s_Mo_see hq1) ?_
  refine ev_gos pp_Mo_opens 3 (S' := (8, [some (.ref 198), some (.int l1), some (.int q1)], [.int (73 : Int32), .int q1], (223, kc, ks, pd_H g v))) rfl ?_
  refine ev_gos pp_Mo_opens 1 (S' := (bif decide (q1 = (73 : Int32)) then 25 else 11, [some (.ref 198), some (.int l1), some (.int q1)], [], (223, kc, ks, pd_H g v))) rfl ?_
  rcases pd_cases h with ⟨hb2, h⟩ | ⟨hb2, h⟩
  · rw [hb2]
    refine ev_gos pp_Mo_opens 0 (S' := (25, [some (.ref 198), some (.int l1), some (.int q1)], [], (223, kc, ks, pd_H g v))) rfl ?_
    exact s_Mo_opens_25 _ _ _ _  h
  · rw [hb2]
    refine ev_gos pp_Mo_opens 2 (S' := (14, [some (.ref 198), some (.int l1), some (.int q1)], [.int (76 : Int32), .int q1], (223, kc, ks, pd_H g v))) rfl ?_
    refine ev_gos pp_Mo_opens 1 (S' := (bif decide (q1 = (76 : Int32)) then 25 else 17, [some (.ref 198), some (.int l1), some (.int q1)], [], (223, kc, ks, pd_H g v))) rfl ?_
    rcases pd_cases h with ⟨hb3, h⟩ | ⟨hb3, h⟩
    · rw [hb3]
      refine ev_gos pp_Mo_opens 0 (S' := (25, [some (.ref 198), some (.int l1), some (.int q1)], [], (223, kc, ks, pd_H g v))) rfl ?_
      exact s_Mo_opens_25 _ _ _ _  h
    · rw [hb3]
      refine ev_gos pp_Mo_opens 2 (S' := (20, [some (.ref 198), some (.int l1), some (.int q1)], [.int (40 : Int32), .int q1], (223, kc, ks, pd_H g v))) rfl ?_
      refine ev_gos pp_Mo_opens 1 (S' := (bif decide (q1 = (40 : Int32)) then 25 else 23, [some (.ref 198), some (.int l1), some (.int q1)], [], (223, kc, ks, pd_H g v))) rfl ?_
      rcases pd_cases h with ⟨hb4, h⟩ | ⟨hb4, h⟩
      · rw [hb4]
        refine ev_gos pp_Mo_opens 0 (S' := (25, [some (.ref 198), some (.int l1), some (.int q1)], [], (223, kc, ks, pd_H g v))) rfl ?_
        exact s_Mo_opens_25 _ _ _ _  h
      · rw [hb4]
        refine ev_gos pp_Mo_opens 1 (S' := (24, [some (.ref 198), some (.int l1), some (.int q1)], [.int (0 : Int32)], (223, kc, ks, pd_H g v))) rfl ?_
        cases h
        exact ev_zret pp_Mo_opens rfl pd_b0
theorem z_Mo_opens {l1 : Int32} {v : pd_V} {q : (Int32 × pd_V)}  (h : d_Mo_opens l1 v = some q) : (q.1 == 0 || q.1 == 1) = true := by
  unfold d_Mo_opens at h
  obtain ⟨q1, hq1, h⟩ := pd_bind h
  rcases pd_cases h with ⟨hb2, h⟩ | ⟨hb2, h⟩
  · exact s_Mo_opens_25z _ _ _ _  h
  · rcases pd_cases h with ⟨hb3, h⟩ | ⟨hb3, h⟩
    · exact s_Mo_opens_25z _ _ _ _  h
    · rcases pd_cases h with ⟨hb4, h⟩ | ⟨hb4, h⟩
      · exact s_Mo_opens_25z _ _ _ _  h
      · cases h
        exact pd_b0
theorem pp_Mo_isSign {xs : Nat → Int32} {L : Nat} : (pj_P xs L 112).1 = fun S => pm_look tb_Mo_isSign S.1 S := rfl
def d_Mo_isSign (l0 : Int32)  : Int32 :=
  bif decide (l0 = (43 : Int32)) then
    (1 : Int32)
  else
    bif decide (l0 = (45 : Int32)) then
      (1 : Int32)
    else
      bif decide (l0 = (42 : Int32)) then
        (1 : Int32)
      else
        bif decide (l0 = (60 : Int32)) then
          (1 : Int32)
        else
          bif decide (l0 = (61 : Int32)) then
            (1 : Int32)
          else
            bif !(decide (l0 = (38 : Int32))) then
              (0 : Int32)
            else
              (1 : Int32)
theorem s_Mo_isSign {l0 : Int32} {v : pd_V}  : pm_ev (pj_P xs L) d 112 (0, [some (.int l0)], [], (223, kc, ks, pd_H g v)) (.inl (some (.int (d_Mo_isSign l0))), (223, kc, ks, pd_H g v)) := by
  unfold d_Mo_isSign
  refine ev_gos pp_Mo_isSign 2 (S' := (3, [some (.int l0)], [.int (43 : Int32), .int l0], (223, kc, ks, pd_H g v))) rfl ?_
  refine ev_gos pp_Mo_isSign 1 (S' := (bif decide (l0 = (43 : Int32)) then 36 else 6, [some (.int l0)], [], (223, kc, ks, pd_H g v))) rfl ?_
  cases hb1 : (decide (l0 = (43 : Int32)))
  · refine ev_gos pp_Mo_isSign 2 (S' := (9, [some (.int l0)], [.int (45 : Int32), .int l0], (223, kc, ks, pd_H g v))) rfl ?_
    refine ev_gos pp_Mo_isSign 1 (S' := (bif decide (l0 = (45 : Int32)) then 36 else 12, [some (.int l0)], [], (223, kc, ks, pd_H g v))) rfl ?_
    cases hb2 : (decide (l0 = (45 : Int32)))
    · refine ev_gos pp_Mo_isSign 2 (S' := (15, [some (.int l0)], [.int (42 : Int32), .int l0], (223, kc, ks, pd_H g v))) rfl ?_
      refine ev_gos pp_Mo_isSign 1 (S' := (bif decide (l0 = (42 : Int32)) then 36 else 18, [some (.int l0)], [], (223, kc, ks, pd_H g v))) rfl ?_
      cases hb3 : (decide (l0 = (42 : Int32)))
      · refine ev_gos pp_Mo_isSign 2 (S' := (21, [some (.int l0)], [.int (60 : Int32), .int l0], (223, kc, ks, pd_H g v))) rfl ?_
        refine ev_gos pp_Mo_isSign 1 (S' := (bif decide (l0 = (60 : Int32)) then 36 else 24, [some (.int l0)], [], (223, kc, ks, pd_H g v))) rfl ?_
        cases hb4 : (decide (l0 = (60 : Int32)))
        · refine ev_gos pp_Mo_isSign 2 (S' := (27, [some (.int l0)], [.int (61 : Int32), .int l0], (223, kc, ks, pd_H g v))) rfl ?_
          refine ev_gos pp_Mo_isSign 1 (S' := (bif decide (l0 = (61 : Int32)) then 36 else 30, [some (.int l0)], [], (223, kc, ks, pd_H g v))) rfl ?_
          cases hb5 : (decide (l0 = (61 : Int32)))
          · refine ev_gos pp_Mo_isSign 2 (S' := (33, [some (.int l0)], [.int (38 : Int32), .int l0], (223, kc, ks, pd_H g v))) rfl ?_
            refine ev_gos pp_Mo_isSign 1 (S' := (bif !(decide (l0 = (38 : Int32))) then 40 else 36, [some (.int l0)], [], (223, kc, ks, pd_H g v))) rfl ?_
            cases hb6 : (!(decide (l0 = (38 : Int32))))
            · refine ev_gos pp_Mo_isSign 2 (S' := (41, [some (.int l0)], [.int (1 : Int32)], (223, kc, ks, pd_H g v))) rfl ?_
              exact ev_zret pp_Mo_isSign rfl pd_b1
            · refine ev_gos pp_Mo_isSign 1 (S' := (41, [some (.int l0)], [.int (0 : Int32)], (223, kc, ks, pd_H g v))) rfl ?_
              exact ev_zret pp_Mo_isSign rfl pd_b0
          · refine ev_gos pp_Mo_isSign 2 (S' := (41, [some (.int l0)], [.int (1 : Int32)], (223, kc, ks, pd_H g v))) rfl ?_
            exact ev_zret pp_Mo_isSign rfl pd_b1
        · refine ev_gos pp_Mo_isSign 2 (S' := (41, [some (.int l0)], [.int (1 : Int32)], (223, kc, ks, pd_H g v))) rfl ?_
          exact ev_zret pp_Mo_isSign rfl pd_b1
      · refine ev_gos pp_Mo_isSign 2 (S' := (41, [some (.int l0)], [.int (1 : Int32)], (223, kc, ks, pd_H g v))) rfl ?_
        exact ev_zret pp_Mo_isSign rfl pd_b1
    · refine ev_gos pp_Mo_isSign 2 (S' := (41, [some (.int l0)], [.int (1 : Int32)], (223, kc, ks, pd_H g v))) rfl ?_
      exact ev_zret pp_Mo_isSign rfl pd_b1
  · refine ev_gos pp_Mo_isSign 2 (S' := (41, [some (.int l0)], [.int (1 : Int32)], (223, kc, ks, pd_H g v))) rfl ?_
    exact ev_zret pp_Mo_isSign rfl pd_b1
theorem z_Mo_isSign {l0 : Int32}   : (d_Mo_isSign l0 == 0 || d_Mo_isSign l0 == 1) = true := by
  unfold d_Mo_isSign
  cases hb1 : (decide (l0 = (43 : Int32)))
  · cases hb2 : (decide (l0 = (45 : Int32)))
    · cases hb3 : (decide (l0 = (42 : Int32)))
      · cases hb4 : (decide (l0 = (60 : Int32)))
        · cases hb5 : (decide (l0 = (61 : Int32)))
          · cases hb6 : (!(decide (l0 = (38 : Int32))))
            · exact pd_b1
            · exact pd_b0
          · exact pd_b1
        · exact pd_b1
      · exact pd_b1
    · exact pd_b1
  · exact pd_b1
end FN
