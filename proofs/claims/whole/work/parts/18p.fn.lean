section FN
variable {xs : Nat → Int32} {L : Nat} {g : Nat → Int64} {d kc ks : Nat}
theorem pp_Mo_out {xs : Nat → Int32} {L : Nat} : (pj_P xs L 153).1 = fun S => pm_look tb_Mo_out S.1 S := rfl
def d_Mo_out_26 (l1 : Int32) (l2 : Int32) (l3 : Int32) (l4 : Int32) (v : pd_V) : Option (Int32 × pd_V) :=
  bif decide (l1 = 0) then
    bif !(decide (l4 = 0)) then
      (d_Mo_throwing l4 (0 : Int32) (0 : Int32) v).bind fun q3 =>
      bif decide (q3.1 = 0) then
        bif pm_in (((20 : Int32) * l2) + l3) 320 then
        some ((q3.2 206 ((((20 : Int32) * l2) + l3).toNatClampNeg)), q3.2)
        else none
      else
        some ((0 : Int32), q3.2)
    else
      bif !(decide ((0 : Int32) = 0)) then
        (d_Mo_throwing l4 (0 : Int32) (0 : Int32) v).bind fun q7 =>
        bif decide (q7.1 = 0) then
          bif pm_in (((20 : Int32) * l2) + l3) 320 then
          some ((q7.2 206 ((((20 : Int32) * l2) + l3).toNatClampNeg)), q7.2)
          else none
        else
          some ((0 : Int32), q7.2)
      else
        bif decide (l3 < 0) then
          (d_Mo_throwing l4 (0 : Int32) (1 : Int32) v).bind fun q11 =>
          bif decide (q11.1 = 0) then
            bif pm_in (((20 : Int32) * l2) + l3) 320 then
            some ((q11.2 206 ((((20 : Int32) * l2) + l3).toNatClampNeg)), q11.2)
            else none
          else
            some ((0 : Int32), q11.2)
        else
          bif decide ((20 : Int32) ≤ l3) then
            (d_Mo_throwing l4 (0 : Int32) (1 : Int32) v).bind fun q15 =>
            bif decide (q15.1 = 0) then
              bif pm_in (((20 : Int32) * l2) + l3) 320 then
              some ((q15.2 206 ((((20 : Int32) * l2) + l3).toNatClampNeg)), q15.2)
              else none
            else
              some ((0 : Int32), q15.2)
          else
            bif pm_in l2 16 then
            bif decide (l3 < (v 207 l2.toNatClampNeg)) then
              (d_Mo_throwing l4 (0 : Int32) (0 : Int32) v).bind fun q20 =>
              bif decide (q20.1 = 0) then
                bif pm_in (((20 : Int32) * l2) + l3) 320 then
                some ((q20.2 206 ((((20 : Int32) * l2) + l3).toNatClampNeg)), q20.2)
                else none
              else
                some ((0 : Int32), q20.2)
            else
              (d_Mo_throwing l4 (0 : Int32) (1 : Int32) v).bind fun q23 =>
              bif decide (q23.1 = 0) then
                bif pm_in (((20 : Int32) * l2) + l3) 320 then
                some ((q23.2 206 ((((20 : Int32) * l2) + l3).toNatClampNeg)), q23.2)
                else none
              else
                some ((0 : Int32), q23.2)
            else none
  else
    bif !(decide (l4 = 0)) then
      (d_Mo_throwing l4 (0 : Int32) (0 : Int32) v).bind fun q27 =>
      bif decide (q27.1 = 0) then
        bif pm_in (((20 : Int32) * ((8 : Int32) + l2)) + l3) 320 then
        some ((q27.2 206 ((((20 : Int32) * ((8 : Int32) + l2)) + l3).toNatClampNeg)), q27.2)
        else none
      else
        some ((0 : Int32), q27.2)
    else
      bif !(decide ((0 : Int32) = 0)) then
        (d_Mo_throwing l4 (0 : Int32) (0 : Int32) v).bind fun q31 =>
        bif decide (q31.1 = 0) then
          bif pm_in (((20 : Int32) * ((8 : Int32) + l2)) + l3) 320 then
          some ((q31.2 206 ((((20 : Int32) * ((8 : Int32) + l2)) + l3).toNatClampNeg)), q31.2)
          else none
        else
          some ((0 : Int32), q31.2)
      else
        bif decide (l3 < 0) then
          (d_Mo_throwing l4 (0 : Int32) (1 : Int32) v).bind fun q35 =>
          bif decide (q35.1 = 0) then
            bif pm_in (((20 : Int32) * ((8 : Int32) + l2)) + l3) 320 then
            some ((q35.2 206 ((((20 : Int32) * ((8 : Int32) + l2)) + l3).toNatClampNeg)), q35.2)
            else none
          else
            some ((0 : Int32), q35.2)
        else
          bif decide ((20 : Int32) ≤ l3) then
            (d_Mo_throwing l4 (0 : Int32) (1 : Int32) v).bind fun q39 =>
            bif decide (q39.1 = 0) then
              bif pm_in (((20 : Int32) * ((8 : Int32) + l2)) + l3) 320 then
              some ((q39.2 206 ((((20 : Int32) * ((8 : Int32) + l2)) + l3).toNatClampNeg)), q39.2)
              else none
            else
              some ((0 : Int32), q39.2)
          else
            bif pm_in ((8 : Int32) + l2) 16 then
            bif decide (l3 < (v 207 (((8 : Int32) + l2).toNatClampNeg))) then
              (d_Mo_throwing l4 (0 : Int32) (0 : Int32) v).bind fun q44 =>
              bif decide (q44.1 = 0) then
                bif pm_in (((20 : Int32) * ((8 : Int32) + l2)) + l3) 320 then
                some ((q44.2 206 ((((20 : Int32) * ((8 : Int32) + l2)) + l3).toNatClampNeg)), q44.2)
                else none
              else
                some ((0 : Int32), q44.2)
            else
              (d_Mo_throwing l4 (0 : Int32) (1 : Int32) v).bind fun q47 =>
              bif decide (q47.1 = 0) then
                bif pm_in (((20 : Int32) * ((8 : Int32) + l2)) + l3) 320 then
                some ((q47.2 206 ((((20 : Int32) * ((8 : Int32) + l2)) + l3).toNatClampNeg)), q47.2)
                else none
              else
                some ((0 : Int32), q47.2)
            else none
theorem s_Mo_out_26 : ∀ (l1 : Int32) (l2 : Int32) (l3 : Int32) (l4 : Int32) (v : pd_V) (y5 : Option Value) (y6 : Option Value) (q : (Int32 × pd_V)) , d_Mo_out_26 l1 l2 l3 l4 v = some q → pm_ev (pj_P xs L) (d + 1) 153 (26, [some (.ref 198), some (.int l1), some (.int l2), some (.int l3), some (.int l4), y5, y6], [], (223, kc, ks, pd_H g v)) (.inl (some (.int q.1)), (223, kc, ks, pd_H g q.2)) := by
  intro l1 l2 l3 l4 v y5 y6 q h
  unfold d_Mo_out_26 at h
  refine ev_gos pp_Mo_out 3 (S' := (30, [some (.ref 198), some (.int l1), some (.int l2), some (.int l3), some (.int l4), some (.int (0 : Int32)), y6], [.int l1], (223, kc, ks, pd_H g v))) rfl ?_
  refine ev_gos pp_Mo_out 1 (S' := (bif decide (l1 = 0) then 40 else 33, [some (.ref 198), some (.int l1), some (.int l2), some (.int l3), some (.int l4), some (.int (0 : Int32)), y6], [], (223, kc, ks, pd_H g v))) rfl ?_
  rcases pd_cases h with ⟨hb1, h⟩ | ⟨hb1, h⟩
  · rw [hb1]
    refine ev_gos pp_Mo_out 6 (S' := (50, [some (.ref 198), some (.int l1), some (.int l2), some (.int l3), some (.int l4), some (.int (0 : Int32)), some (.int l2)], [.int l4, .int (0 : Int32), .int l4, .ref 198], (223, kc, ks, pd_H g v))) rfl ?_
    refine ev_gos pp_Mo_out 1 (S' := (bif !(decide (l4 = 0)) then 83 else 53, [some (.ref 198), some (.int l1), some (.int l2), some (.int l3), some (.int l4), some (.int (0 : Int32)), some (.int l2)], [.int (0 : Int32), .int l4, .ref 198], (223, kc, ks, pd_H g v))) rfl ?_
    rcases pd_cases h with ⟨hb2, h⟩ | ⟨hb2, h⟩
    · rw [hb2]
      refine ev_gos pp_Mo_out 1 (S' := (84, [some (.ref 198), some (.int l1), some (.int l2), some (.int l3), some (.int l4), some (.int (0 : Int32)), some (.int l2)], [.int (0 : Int32), .int (0 : Int32), .int l4, .ref 198], (223, kc, ks, pd_H g v))) rfl ?_
      obtain ⟨q3, hq3, h⟩ := pd_bind h
      refine ev_callv pp_Mo_out rfl rfl rfl rfl (s_Mo_throwing hq3) ?_
      refine ev_gos pp_Mo_out 0 (S' := (87, [some (.ref 198), some (.int l1), some (.int l2), some (.int l3), some (.int l4), some (.int (0 : Int32)), some (.int l2)], [.int q3.1], (223, kc, ks, pd_H g q3.2))) rfl ?_
      refine ev_gos pp_Mo_out 1 (S' := (bif decide (q3.1 = 0) then 92 else 90, [some (.ref 198), some (.int l1), some (.int l2), some (.int l3), some (.int l4), some (.int (0 : Int32)), some (.int l2)], [], (223, kc, ks, pd_H g q3.2))) rfl ?_
      rcases pd_cases h with ⟨hb4, h⟩ | ⟨hb4, h⟩
      · rw [hb4]
        refine ev_gos pp_Mo_out 7 (S' := (103, [some (.ref 198), some (.int l1), some (.int l2), some (.int l3), some (.int l4), some (.int (0 : Int32)), some (.int l2)], [.int (((20 : Int32) * l2) + l3), .ref 206], (223, kc, ks, pd_H g q3.2))) rfl ?_
        obtain ⟨hc5, h⟩ := pd_chk h
        refine ev_iald pp_Mo_out rfl (fun _ => rfl) hc5 ?_
        refine ev_gos pp_Mo_out 0 (S' := (104, [some (.ref 198), some (.int l1), some (.int l2), some (.int l3), some (.int l4), some (.int (0 : Int32)), some (.int l2)], [.int (q3.2 206 ((((20 : Int32) * l2) + l3).toNatClampNeg))], (223, kc, ks, pd_H g q3.2))) rfl ?_
        cases h
        exact ev_fin pp_Mo_out rfl
      · rw [hb4]
        refine ev_gos pp_Mo_out 1 (S' := (91, [some (.ref 198), some (.int l1), some (.int l2), some (.int l3), some (.int l4), some (.int (0 : Int32)), some (.int l2)], [.int (0 : Int32)], (223, kc, ks, pd_H g q3.2))) rfl ?_
        cases h
        exact ev_fin pp_Mo_out rfl
    · rw [hb2]
      refine ev_gos pp_Mo_out 1 (S' := (55, [some (.ref 198), some (.int l1), some (.int l2), some (.int l3), some (.int l4), some (.int (0 : Int32)), some (.int l2)], [.int (0 : Int32), .int (0 : Int32), .int l4, .ref 198], (223, kc, ks, pd_H g v))) rfl ?_
      refine ev_gos pp_Mo_out 1 (S' := (bif !(decide ((0 : Int32) = 0)) then 83 else 58, [some (.ref 198), some (.int l1), some (.int l2), some (.int l3), some (.int l4), some (.int (0 : Int32)), some (.int l2)], [.int (0 : Int32), .int l4, .ref 198], (223, kc, ks, pd_H g v))) rfl ?_
      rcases pd_cases h with ⟨hb6, h⟩ | ⟨hb6, h⟩
      · rw [hb6]
        refine ev_gos pp_Mo_out 1 (S' := (84, [some (.ref 198), some (.int l1), some (.int l2), some (.int l3), some (.int l4), some (.int (0 : Int32)), some (.int l2)], [.int (0 : Int32), .int (0 : Int32), .int l4, .ref 198], (223, kc, ks, pd_H g v))) rfl ?_
        obtain ⟨q7, hq7, h⟩ := pd_bind h
        refine ev_callv pp_Mo_out rfl rfl rfl rfl (s_Mo_throwing hq7) ?_
        refine ev_gos pp_Mo_out 0 (S' := (87, [some (.ref 198), some (.int l1), some (.int l2), some (.int l3), some (.int l4), some (.int (0 : Int32)), some (.int l2)], [.int q7.1], (223, kc, ks, pd_H g q7.2))) rfl ?_
        refine ev_gos pp_Mo_out 1 (S' := (bif decide (q7.1 = 0) then 92 else 90, [some (.ref 198), some (.int l1), some (.int l2), some (.int l3), some (.int l4), some (.int (0 : Int32)), some (.int l2)], [], (223, kc, ks, pd_H g q7.2))) rfl ?_
        rcases pd_cases h with ⟨hb8, h⟩ | ⟨hb8, h⟩
        · rw [hb8]
          refine ev_gos pp_Mo_out 7 (S' := (103, [some (.ref 198), some (.int l1), some (.int l2), some (.int l3), some (.int l4), some (.int (0 : Int32)), some (.int l2)], [.int (((20 : Int32) * l2) + l3), .ref 206], (223, kc, ks, pd_H g q7.2))) rfl ?_
          obtain ⟨hc9, h⟩ := pd_chk h
          refine ev_iald pp_Mo_out rfl (fun _ => rfl) hc9 ?_
          refine ev_gos pp_Mo_out 0 (S' := (104, [some (.ref 198), some (.int l1), some (.int l2), some (.int l3), some (.int l4), some (.int (0 : Int32)), some (.int l2)], [.int (q7.2 206 ((((20 : Int32) * l2) + l3).toNatClampNeg))], (223, kc, ks, pd_H g q7.2))) rfl ?_
          cases h
          exact ev_fin pp_Mo_out rfl
        · rw [hb8]
          refine ev_gos pp_Mo_out 1 (S' := (91, [some (.ref 198), some (.int l1), some (.int l2), some (.int l3), some (.int l4), some (.int (0 : Int32)), some (.int l2)], [.int (0 : Int32)], (223, kc, ks, pd_H g q7.2))) rfl ?_
          cases h
          exact ev_fin pp_Mo_out rfl
      · rw [hb6]
        refine ev_gos pp_Mo_out 1 (S' := (59, [some (.ref 198), some (.int l1), some (.int l2), some (.int l3), some (.int l4), some (.int (0 : Int32)), some (.int l2)], [.int l3, .int (0 : Int32), .int l4, .ref 198], (223, kc, ks, pd_H g v))) rfl ?_
        refine ev_gos pp_Mo_out 1 (S' := (bif decide (l3 < 0) then 79 else 62, [some (.ref 198), some (.int l1), some (.int l2), some (.int l3), some (.int l4), some (.int (0 : Int32)), some (.int l2)], [.int (0 : Int32), .int l4, .ref 198], (223, kc, ks, pd_H g v))) rfl ?_
        rcases pd_cases h with ⟨hb10, h⟩ | ⟨hb10, h⟩
        · rw [hb10]
          refine ev_gos pp_Mo_out 2 (S' := (84, [some (.ref 198), some (.int l1), some (.int l2), some (.int l3), some (.int l4), some (.int (0 : Int32)), some (.int l2)], [.int (1 : Int32), .int (0 : Int32), .int l4, .ref 198], (223, kc, ks, pd_H g v))) rfl ?_
          obtain ⟨q11, hq11, h⟩ := pd_bind h
          refine ev_callv pp_Mo_out rfl rfl rfl rfl (s_Mo_throwing hq11) ?_
          refine ev_gos pp_Mo_out 0 (S' := (87, [some (.ref 198), some (.int l1), some (.int l2), some (.int l3), some (.int l4), some (.int (0 : Int32)), some (.int l2)], [.int q11.1], (223, kc, ks, pd_H g q11.2))) rfl ?_
          refine ev_gos pp_Mo_out 1 (S' := (bif decide (q11.1 = 0) then 92 else 90, [some (.ref 198), some (.int l1), some (.int l2), some (.int l3), some (.int l4), some (.int (0 : Int32)), some (.int l2)], [], (223, kc, ks, pd_H g q11.2))) rfl ?_
          rcases pd_cases h with ⟨hb12, h⟩ | ⟨hb12, h⟩
          · rw [hb12]
            refine ev_gos pp_Mo_out 7 (S' := (103, [some (.ref 198), some (.int l1), some (.int l2), some (.int l3), some (.int l4), some (.int (0 : Int32)), some (.int l2)], [.int (((20 : Int32) * l2) + l3), .ref 206], (223, kc, ks, pd_H g q11.2))) rfl ?_
            obtain ⟨hc13, h⟩ := pd_chk h
            refine ev_iald pp_Mo_out rfl (fun _ => rfl) hc13 ?_
            refine ev_gos pp_Mo_out 0 (S' := (104, [some (.ref 198), some (.int l1), some (.int l2), some (.int l3), some (.int l4), some (.int (0 : Int32)), some (.int l2)], [.int (q11.2 206 ((((20 : Int32) * l2) + l3).toNatClampNeg))], (223, kc, ks, pd_H g q11.2))) rfl ?_
            cases h
            exact ev_fin pp_Mo_out rfl
          · rw [hb12]
            refine ev_gos pp_Mo_out 1 (S' := (91, [some (.ref 198), some (.int l1), some (.int l2), some (.int l3), some (.int l4), some (.int (0 : Int32)), some (.int l2)], [.int (0 : Int32)], (223, kc, ks, pd_H g q11.2))) rfl ?_
            cases h
            exact ev_fin pp_Mo_out rfl
        · rw [hb10]
          refine ev_gos pp_Mo_out 2 (S' := (65, [some (.ref 198), some (.int l1), some (.int l2), some (.int l3), some (.int l4), some (.int (0 : Int32)), some (.int l2)], [.int (20 : Int32), .int l3, .int (0 : Int32), .int l4, .ref 198], (223, kc, ks, pd_H g v))) rfl ?_
          refine ev_gos pp_Mo_out 1 (S' := (bif decide ((20 : Int32) ≤ l3) then 79 else 68, [some (.ref 198), some (.int l1), some (.int l2), some (.int l3), some (.int l4), some (.int (0 : Int32)), some (.int l2)], [.int (0 : Int32), .int l4, .ref 198], (223, kc, ks, pd_H g v))) rfl ?_
          rcases pd_cases h with ⟨hb14, h⟩ | ⟨hb14, h⟩
          · rw [hb14]
            refine ev_gos pp_Mo_out 2 (S' := (84, [some (.ref 198), some (.int l1), some (.int l2), some (.int l3), some (.int l4), some (.int (0 : Int32)), some (.int l2)], [.int (1 : Int32), .int (0 : Int32), .int l4, .ref 198], (223, kc, ks, pd_H g v))) rfl ?_
            obtain ⟨q15, hq15, h⟩ := pd_bind h
            refine ev_callv pp_Mo_out rfl rfl rfl rfl (s_Mo_throwing hq15) ?_
            refine ev_gos pp_Mo_out 0 (S' := (87, [some (.ref 198), some (.int l1), some (.int l2), some (.int l3), some (.int l4), some (.int (0 : Int32)), some (.int l2)], [.int q15.1], (223, kc, ks, pd_H g q15.2))) rfl ?_
            refine ev_gos pp_Mo_out 1 (S' := (bif decide (q15.1 = 0) then 92 else 90, [some (.ref 198), some (.int l1), some (.int l2), some (.int l3), some (.int l4), some (.int (0 : Int32)), some (.int l2)], [], (223, kc, ks, pd_H g q15.2))) rfl ?_
            rcases pd_cases h with ⟨hb16, h⟩ | ⟨hb16, h⟩
            · rw [hb16]
              refine ev_gos pp_Mo_out 7 (S' := (103, [some (.ref 198), some (.int l1), some (.int l2), some (.int l3), some (.int l4), some (.int (0 : Int32)), some (.int l2)], [.int (((20 : Int32) * l2) + l3), .ref 206], (223, kc, ks, pd_H g q15.2))) rfl ?_
              obtain ⟨hc17, h⟩ := pd_chk h
              refine ev_iald pp_Mo_out rfl (fun _ => rfl) hc17 ?_
              refine ev_gos pp_Mo_out 0 (S' := (104, [some (.ref 198), some (.int l1), some (.int l2), some (.int l3), some (.int l4), some (.int (0 : Int32)), some (.int l2)], [.int (q15.2 206 ((((20 : Int32) * l2) + l3).toNatClampNeg))], (223, kc, ks, pd_H g q15.2))) rfl ?_
              cases h
              exact ev_fin pp_Mo_out rfl
            · rw [hb16]
              refine ev_gos pp_Mo_out 1 (S' := (91, [some (.ref 198), some (.int l1), some (.int l2), some (.int l3), some (.int l4), some (.int (0 : Int32)), some (.int l2)], [.int (0 : Int32)], (223, kc, ks, pd_H g q15.2))) rfl ?_
              cases h
              exact ev_fin pp_Mo_out rfl
          · rw [hb14]
            refine ev_gos pp_Mo_out 4 (S' := (75, [some (.ref 198), some (.int l1), some (.int l2), some (.int l3), some (.int l4), some (.int (0 : Int32)), some (.int l2)], [.int l2, .ref 207, .int l3, .int (0 : Int32), .int l4, .ref 198], (223, kc, ks, pd_H g v))) rfl ?_
            obtain ⟨hc18, h⟩ := pd_chk h
            refine ev_iald pp_Mo_out rfl (fun _ => rfl) hc18 ?_
            refine ev_gos pp_Mo_out 0 (S' := (76, [some (.ref 198), some (.int l1), some (.int l2), some (.int l3), some (.int l4), some (.int (0 : Int32)), some (.int l2)], [.int (v 207 l2.toNatClampNeg), .int l3, .int (0 : Int32), .int l4, .ref 198], (223, kc, ks, pd_H g v))) rfl ?_
            refine ev_gos pp_Mo_out 1 (S' := (bif decide (l3 < (v 207 l2.toNatClampNeg)) then 83 else 79, [some (.ref 198), some (.int l1), some (.int l2), some (.int l3), some (.int l4), some (.int (0 : Int32)), some (.int l2)], [.int (0 : Int32), .int l4, .ref 198], (223, kc, ks, pd_H g v))) rfl ?_
            rcases pd_cases h with ⟨hb19, h⟩ | ⟨hb19, h⟩
            · rw [hb19]
              refine ev_gos pp_Mo_out 1 (S' := (84, [some (.ref 198), some (.int l1), some (.int l2), some (.int l3), some (.int l4), some (.int (0 : Int32)), some (.int l2)], [.int (0 : Int32), .int (0 : Int32), .int l4, .ref 198], (223, kc, ks, pd_H g v))) rfl ?_
              obtain ⟨q20, hq20, h⟩ := pd_bind h
              refine ev_callv pp_Mo_out rfl rfl rfl rfl (s_Mo_throwing hq20) ?_
              refine ev_gos pp_Mo_out 0 (S' := (87, [some (.ref 198), some (.int l1), some (.int l2), some (.int l3), some (.int l4), some (.int (0 : Int32)), some (.int l2)], [.int q20.1], (223, kc, ks, pd_H g q20.2))) rfl ?_
              refine ev_gos pp_Mo_out 1 (S' := (bif decide (q20.1 = 0) then 92 else 90, [some (.ref 198), some (.int l1), some (.int l2), some (.int l3), some (.int l4), some (.int (0 : Int32)), some (.int l2)], [], (223, kc, ks, pd_H g q20.2))) rfl ?_
              rcases pd_cases h with ⟨hb21, h⟩ | ⟨hb21, h⟩
              · rw [hb21]
                refine ev_gos pp_Mo_out 7 (S' := (103, [some (.ref 198), some (.int l1), some (.int l2), some (.int l3), some (.int l4), some (.int (0 : Int32)), some (.int l2)], [.int (((20 : Int32) * l2) + l3), .ref 206], (223, kc, ks, pd_H g q20.2))) rfl ?_
                obtain ⟨hc22, h⟩ := pd_chk h
                refine ev_iald pp_Mo_out rfl (fun _ => rfl) hc22 ?_
                refine ev_gos pp_Mo_out 0 (S' := (104, [some (.ref 198), some (.int l1), some (.int l2), some (.int l3), some (.int l4), some (.int (0 : Int32)), some (.int l2)], [.int (q20.2 206 ((((20 : Int32) * l2) + l3).toNatClampNeg))], (223, kc, ks, pd_H g q20.2))) rfl ?_
                cases h
                exact ev_fin pp_Mo_out rfl
              · rw [hb21]
                refine ev_gos pp_Mo_out 1 (S' := (91, [some (.ref 198), some (.int l1), some (.int l2), some (.int l3), some (.int l4), some (.int (0 : Int32)), some (.int l2)], [.int (0 : Int32)], (223, kc, ks, pd_H g q20.2))) rfl ?_
                cases h
                exact ev_fin pp_Mo_out rfl
            · rw [hb19]
              refine ev_gos pp_Mo_out 2 (S' := (84, [some (.ref 198), some (.int l1), some (.int l2), some (.int l3), some (.int l4), some (.int (0 : Int32)), some (.int l2)], [.int (1 : Int32), .int (0 : Int32), .int l4, .ref 198], (223, kc, ks, pd_H g v))) rfl ?_
              obtain ⟨q23, hq23, h⟩ := pd_bind h
              refine ev_callv pp_Mo_out rfl rfl rfl rfl (s_Mo_throwing hq23) ?_
              refine ev_gos pp_Mo_out 0 (S' := (87, [some (.ref 198), some (.int l1), some (.int l2), some (.int l3), some (.int l4), some (.int (0 : Int32)), some (.int l2)], [.int q23.1], (223, kc, ks, pd_H g q23.2))) rfl ?_
              refine ev_gos pp_Mo_out 1 (S' := (bif decide (q23.1 = 0) then 92 else 90, [some (.ref 198), some (.int l1), some (.int l2), some (.int l3), some (.int l4), some (.int (0 : Int32)), some (.int l2)], [], (223, kc, ks, pd_H g q23.2))) rfl ?_
              rcases pd_cases h with ⟨hb24, h⟩ | ⟨hb24, h⟩
              · rw [hb24]
                refine ev_gos pp_Mo_out 7 (S' := (103, [some (.ref 198), some (.int l1), some (.int l2), some (.int l3), some (.int l4), some (.int (0 : Int32)), some (.int l2)], [.int (((20 : Int32) * l2) + l3), .ref 206], (223, kc, ks, pd_H g q23.2))) rfl ?_
                obtain ⟨hc25, h⟩ := pd_chk h
                refine ev_iald pp_Mo_out rfl (fun _ => rfl) hc25 ?_
                refine ev_gos pp_Mo_out 0 (S' := (104, [some (.ref 198), some (.int l1), some (.int l2), some (.int l3), some (.int l4), some (.int (0 : Int32)), some (.int l2)], [.int (q23.2 206 ((((20 : Int32) * l2) + l3).toNatClampNeg))], (223, kc, ks, pd_H g q23.2))) rfl ?_
                cases h
                exact ev_fin pp_Mo_out rfl
              · rw [hb24]
                refine ev_gos pp_Mo_out 1 (S' := (91, [some (.ref 198), some (.int l1), some (.int l2), some (.int l3), some (.int l4), some (.int (0 : Int32)), some (.int l2)], [.int (0 : Int32)], (223, kc, ks, pd_H g q23.2))) rfl ?_
                cases h
                exact ev_fin pp_Mo_out rfl
  · rw [hb1]
    refine ev_gos pp_Mo_out 9 (S' := (50, [some (.ref 198), some (.int l1), some (.int l2), some (.int l3), some (.int l4), some (.int (0 : Int32)), some (.int ((8 : Int32) + l2))], [.int l4, .int (0 : Int32), .int l4, .ref 198], (223, kc, ks, pd_H g v))) rfl ?_
    refine ev_gos pp_Mo_out 1 (S' := (bif !(decide (l4 = 0)) then 83 else 53, [some (.ref 198), some (.int l1), some (.int l2), some (.int l3), some (.int l4), some (.int (0 : Int32)), some (.int ((8 : Int32) + l2))], [.int (0 : Int32), .int l4, .ref 198], (223, kc, ks, pd_H g v))) rfl ?_
    rcases pd_cases h with ⟨hb26, h⟩ | ⟨hb26, h⟩
    · rw [hb26]
      refine ev_gos pp_Mo_out 1 (S' := (84, [some (.ref 198), some (.int l1), some (.int l2), some (.int l3), some (.int l4), some (.int (0 : Int32)), some (.int ((8 : Int32) + l2))], [.int (0 : Int32), .int (0 : Int32), .int l4, .ref 198], (223, kc, ks, pd_H g v))) rfl ?_
      obtain ⟨q27, hq27, h⟩ := pd_bind h
      refine ev_callv pp_Mo_out rfl rfl rfl rfl (s_Mo_throwing hq27) ?_
      refine ev_gos pp_Mo_out 0 (S' := (87, [some (.ref 198), some (.int l1), some (.int l2), some (.int l3), some (.int l4), some (.int (0 : Int32)), some (.int ((8 : Int32) + l2))], [.int q27.1], (223, kc, ks, pd_H g q27.2))) rfl ?_
      refine ev_gos pp_Mo_out 1 (S' := (bif decide (q27.1 = 0) then 92 else 90, [some (.ref 198), some (.int l1), some (.int l2), some (.int l3), some (.int l4), some (.int (0 : Int32)), some (.int ((8 : Int32) + l2))], [], (223, kc, ks, pd_H g q27.2))) rfl ?_
      rcases pd_cases h with ⟨hb28, h⟩ | ⟨hb28, h⟩
      · rw [hb28]
        refine ev_gos pp_Mo_out 7 (S' := (103, [some (.ref 198), some (.int l1), some (.int l2), some (.int l3), some (.int l4), some (.int (0 : Int32)), some (.int ((8 : Int32) + l2))], [.int (((20 : Int32) * ((8 : Int32) + l2)) + l3), .ref 206], (223, kc, ks, pd_H g q27.2))) rfl ?_
        obtain ⟨hc29, h⟩ := pd_chk h
        refine ev_iald pp_Mo_out rfl (fun _ => rfl) hc29 ?_
        refine ev_gos pp_Mo_out 0 (S' := (104, [some (.ref 198), some (.int l1), some (.int l2), some (.int l3), some (.int l4), some (.int (0 : Int32)), some (.int ((8 : Int32) + l2))], [.int (q27.2 206 ((((20 : Int32) * ((8 : Int32) + l2)) + l3).toNatClampNeg))], (223, kc, ks, pd_H g q27.2))) rfl ?_
        cases h
        exact ev_fin pp_Mo_out rfl
      · rw [hb28]
        refine ev_gos pp_Mo_out 1 (S' := (91, [some (.ref 198), some (.int l1), some (.int l2), some (.int l3), some (.int l4), some (.int (0 : Int32)), some (.int ((8 : Int32) + l2))], [.int (0 : Int32)], (223, kc, ks, pd_H g q27.2))) rfl ?_
        cases h
        exact ev_fin pp_Mo_out rfl
    · rw [hb26]
      refine ev_gos pp_Mo_out 1 (S' := (55, [some (.ref 198), some (.int l1), some (.int l2), some (.int l3), some (.int l4), some (.int (0 : Int32)), some (.int ((8 : Int32) + l2))], [.int (0 : Int32), .int (0 : Int32), .int l4, .ref 198], (223, kc, ks, pd_H g v))) rfl ?_
      refine ev_gos pp_Mo_out 1 (S' := (bif !(decide ((0 : Int32) = 0)) then 83 else 58, [some (.ref 198), some (.int l1), some (.int l2), some (.int l3), some (.int l4), some (.int (0 : Int32)), some (.int ((8 : Int32) + l2))], [.int (0 : Int32), .int l4, .ref 198], (223, kc, ks, pd_H g v))) rfl ?_
      rcases pd_cases h with ⟨hb30, h⟩ | ⟨hb30, h⟩
      · rw [hb30]
        refine ev_gos pp_Mo_out 1 (S' := (84, [some (.ref 198), some (.int l1), some (.int l2), some (.int l3), some (.int l4), some (.int (0 : Int32)), some (.int ((8 : Int32) + l2))], [.int (0 : Int32), .int (0 : Int32), .int l4, .ref 198], (223, kc, ks, pd_H g v))) rfl ?_
        obtain ⟨q31, hq31, h⟩ := pd_bind h
        refine ev_callv pp_Mo_out rfl rfl rfl rfl (s_Mo_throwing hq31) ?_
        refine ev_gos pp_Mo_out 0 (S' := (87, [some (.ref 198), some (.int l1), some (.int l2), some (.int l3), some (.int l4), some (.int (0 : Int32)), some (.int ((8 : Int32) + l2))], [.int q31.1], (223, kc, ks, pd_H g q31.2))) rfl ?_
        refine ev_gos pp_Mo_out 1 (S' := (bif decide (q31.1 = 0) then 92 else 90, [some (.ref 198), some (.int l1), some (.int l2), some (.int l3), some (.int l4), some (.int (0 : Int32)), some (.int ((8 : Int32) + l2))], [], (223, kc, ks, pd_H g q31.2))) rfl ?_
        rcases pd_cases h with ⟨hb32, h⟩ | ⟨hb32, h⟩
        · rw [hb32]
          refine ev_gos pp_Mo_out 7 (S' := (103, [some (.ref 198), some (.int l1), some (.int l2), some (.int l3), some (.int l4), some (.int (0 : Int32)), some (.int ((8 : Int32) + l2))], [.int (((20 : Int32) * ((8 : Int32) + l2)) + l3), .ref 206], (223, kc, ks, pd_H g q31.2))) rfl ?_
          obtain ⟨hc33, h⟩ := pd_chk h
          refine ev_iald pp_Mo_out rfl (fun _ => rfl) hc33 ?_
          refine ev_gos pp_Mo_out 0 (S' := (104, [some (.ref 198), some (.int l1), some (.int l2), some (.int l3), some (.int l4), some (.int (0 : Int32)), some (.int ((8 : Int32) + l2))], [.int (q31.2 206 ((((20 : Int32) * ((8 : Int32) + l2)) + l3).toNatClampNeg))], (223, kc, ks, pd_H g q31.2))) rfl ?_
          cases h
          exact ev_fin pp_Mo_out rfl
        · rw [hb32]
          refine ev_gos pp_Mo_out 1 (S' := (91, [some (.ref 198), some (.int l1), some (.int l2), some (.int l3), some (.int l4), some (.int (0 : Int32)), some (.int ((8 : Int32) + l2))], [.int (0 : Int32)], (223, kc, ks, pd_H g q31.2))) rfl ?_
          cases h
          exact ev_fin pp_Mo_out rfl
      · rw [hb30]
        refine ev_gos pp_Mo_out 1 (S' := (59, [some (.ref 198), some (.int l1), some (.int l2), some (.int l3), some (.int l4), some (.int (0 : Int32)), some (.int ((8 : Int32) + l2))], [.int l3, .int (0 : Int32), .int l4, .ref 198], (223, kc, ks, pd_H g v))) rfl ?_
        refine ev_gos pp_Mo_out 1 (S' := (bif decide (l3 < 0) then 79 else 62, [some (.ref 198), some (.int l1), some (.int l2), some (.int l3), some (.int l4), some (.int (0 : Int32)), some (.int ((8 : Int32) + l2))], [.int (0 : Int32), .int l4, .ref 198], (223, kc, ks, pd_H g v))) rfl ?_
        rcases pd_cases h with ⟨hb34, h⟩ | ⟨hb34, h⟩
        · rw [hb34]
          refine ev_gos pp_Mo_out 2 (S' := (84, [some (.ref 198), some (.int l1), some (.int l2), some (.int l3), some (.int l4), some (.int (0 : Int32)), some (.int ((8 : Int32) + l2))], [.int (1 : Int32), .int (0 : Int32), .int l4, .ref 198], (223, kc, ks, pd_H g v))) rfl ?_
          obtain ⟨q35, hq35, h⟩ := pd_bind h
          refine ev_callv pp_Mo_out rfl rfl rfl rfl (s_Mo_throwing hq35) ?_
          refine ev_gos pp_Mo_out 0 (S' := (87, [some (.ref 198), some (.int l1), some (.int l2), some (.int l3), some (.int l4), some (.int (0 : Int32)), some (.int ((8 : Int32) + l2))], [.int q35.1], (223, kc, ks, pd_H g q35.2))) rfl ?_
          refine ev_gos pp_Mo_out 1 (S' := (bif decide (q35.1 = 0) then 92 else 90, [some (.ref 198), some (.int l1), some (.int l2), some (.int l3), some (.int l4), some (.int (0 : Int32)), some (.int ((8 : Int32) + l2))], [], (223, kc, ks, pd_H g q35.2))) rfl ?_
          rcases pd_cases h with ⟨hb36, h⟩ | ⟨hb36, h⟩
          · rw [hb36]
            refine ev_gos pp_Mo_out 7 (S' := (103, [some (.ref 198), some (.int l1), some (.int l2), some (.int l3), some (.int l4), some (.int (0 : Int32)), some (.int ((8 : Int32) + l2))], [.int (((20 : Int32) * ((8 : Int32) + l2)) + l3), .ref 206], (223, kc, ks, pd_H g q35.2))) rfl ?_
            obtain ⟨hc37, h⟩ := pd_chk h
            refine ev_iald pp_Mo_out rfl (fun _ => rfl) hc37 ?_
            refine ev_gos pp_Mo_out 0 (S' := (104, [some (.ref 198), some (.int l1), some (.int l2), some (.int l3), some (.int l4), some (.int (0 : Int32)), some (.int ((8 : Int32) + l2))], [.int (q35.2 206 ((((20 : Int32) * ((8 : Int32) + l2)) + l3).toNatClampNeg))], (223, kc, ks, pd_H g q35.2))) rfl ?_
            cases h
            exact ev_fin pp_Mo_out rfl
          · rw [hb36]
            refine ev_gos pp_Mo_out 1 (S' := (91, [some (.ref 198), some (.int l1), some (.int l2), some (.int l3), some (.int l4), some (.int (0 : Int32)), some (.int ((8 : Int32) + l2))], [.int (0 : Int32)], (223, kc, ks, pd_H g q35.2))) rfl ?_
            cases h
            exact ev_fin pp_Mo_out rfl
        · rw [hb34]
          refine ev_gos pp_Mo_out 2 (S' := (65, [some (.ref 198), some (.int l1), some (.int l2), some (.int l3), some (.int l4), some (.int (0 : Int32)), some (.int ((8 : Int32) + l2))], [.int (20 : Int32), .int l3, .int (0 : Int32), .int l4, .ref 198], (223, kc, ks, pd_H g v))) rfl ?_
          refine ev_gos pp_Mo_out 1 (S' := (bif decide ((20 : Int32) ≤ l3) then 79 else 68, [some (.ref 198), some (.int l1), some (.int l2), some (.int l3), some (.int l4), some (.int (0 : Int32)), some (.int ((8 : Int32) + l2))], [.int (0 : Int32), .int l4, .ref 198], (223, kc, ks, pd_H g v))) rfl ?_
          rcases pd_cases h with ⟨hb38, h⟩ | ⟨hb38, h⟩
          · rw [hb38]
            refine ev_gos pp_Mo_out 2 (S' := (84, [some (.ref 198), some (.int l1), some (.int l2), some (.int l3), some (.int l4), some (.int (0 : Int32)), some (.int ((8 : Int32) + l2))], [.int (1 : Int32), .int (0 : Int32), .int l4, .ref 198], (223, kc, ks, pd_H g v))) rfl ?_
            obtain ⟨q39, hq39, h⟩ := pd_bind h
            refine ev_callv pp_Mo_out rfl rfl rfl rfl (s_Mo_throwing hq39) ?_
            refine ev_gos pp_Mo_out 0 (S' := (87, [some (.ref 198), some (.int l1), some (.int l2), some (.int l3), some (.int l4), some (.int (0 : Int32)), some (.int ((8 : Int32) + l2))], [.int q39.1], (223, kc, ks, pd_H g q39.2))) rfl ?_
            refine ev_gos pp_Mo_out 1 (S' := (bif decide (q39.1 = 0) then 92 else 90, [some (.ref 198), some (.int l1), some (.int l2), some (.int l3), some (.int l4), some (.int (0 : Int32)), some (.int ((8 : Int32) + l2))], [], (223, kc, ks, pd_H g q39.2))) rfl ?_
            rcases pd_cases h with ⟨hb40, h⟩ | ⟨hb40, h⟩
            · rw [hb40]
              refine ev_gos pp_Mo_out 7 (S' := (103, [some (.ref 198), some (.int l1), some (.int l2), some (.int l3), some (.int l4), some (.int (0 : Int32)), some (.int ((8 : Int32) + l2))], [.int (((20 : Int32) * ((8 : Int32) + l2)) + l3), .ref 206], (223, kc, ks, pd_H g q39.2))) rfl ?_
              obtain ⟨hc41, h⟩ := pd_chk h
              refine ev_iald pp_Mo_out rfl (fun _ => rfl) hc41 ?_
              refine ev_gos pp_Mo_out 0 (S' := (104, [some (.ref 198), some (.int l1), some (.int l2), some (.int l3), some (.int l4), some (.int (0 : Int32)), some (.int ((8 : Int32) + l2))], [.int (q39.2 206 ((((20 : Int32) * ((8 : Int32) + l2)) + l3).toNatClampNeg))], (223, kc, ks, pd_H g q39.2))) rfl ?_
              cases h
              exact ev_fin pp_Mo_out rfl
            · rw [hb40]
              refine ev_gos pp_Mo_out 1 (S' := (91, [some (.ref 198), some (.int l1), some (.int l2), some (.int l3), some (.int l4), some (.int (0 : Int32)), some (.int ((8 : Int32) + l2))], [.int (0 : Int32)], (223, kc, ks, pd_H g q39.2))) rfl ?_
              cases h
              exact ev_fin pp_Mo_out rfl
          · rw [hb38]
            refine ev_gos pp_Mo_out 4 (S' := (75, [some (.ref 198), some (.int l1), some (.int l2), some (.int l3), some (.int l4), some (.int (0 : Int32)), some (.int ((8 : Int32) + l2))], [.int ((8 : Int32) + l2), .ref 207, .int l3, .int (0 : Int32), .int l4, .ref 198], (223, kc, ks, pd_H g v))) rfl ?_
            obtain ⟨hc42, h⟩ := pd_chk h
            refine ev_iald pp_Mo_out rfl (fun _ => rfl) hc42 ?_
            refine ev_gos pp_Mo_out 0 (S' := (76, [some (.ref 198), some (.int l1), some (.int l2), some (.int l3), some (.int l4), some (.int (0 : Int32)), some (.int ((8 : Int32) + l2))], [.int (v 207 (((8 : Int32) + l2).toNatClampNeg)), .int l3, .int (0 : Int32), .int l4, .ref 198], (223, kc, ks, pd_H g v))) rfl ?_
            refine ev_gos pp_Mo_out 1 (S' := (bif decide (l3 < (v 207 (((8 : Int32) + l2).toNatClampNeg))) then 83 else 79, [some (.ref 198), some (.int l1), some (.int l2), some (.int l3), some (.int l4), some (.int (0 : Int32)), some (.int ((8 : Int32) + l2))], [.int (0 : Int32), .int l4, .ref 198], (223, kc, ks, pd_H g v))) rfl ?_
            rcases pd_cases h with ⟨hb43, h⟩ | ⟨hb43, h⟩
            · rw [hb43]
              refine ev_gos pp_Mo_out 1 (S' := (84, [some (.ref 198), some (.int l1), some (.int l2), some (.int l3), some (.int l4), some (.int (0 : Int32)), some (.int ((8 : Int32) + l2))], [.int (0 : Int32), .int (0 : Int32), .int l4, .ref 198], (223, kc, ks, pd_H g v))) rfl ?_
              obtain ⟨q44, hq44, h⟩ := pd_bind h
              refine ev_callv pp_Mo_out rfl rfl rfl rfl (s_Mo_throwing hq44) ?_
              refine ev_gos pp_Mo_out 0 (S' := (87, [some (.ref 198), some (.int l1), some (.int l2), some (.int l3), some (.int l4), some (.int (0 : Int32)), some (.int ((8 : Int32) + l2))], [.int q44.1], (223, kc, ks, pd_H g q44.2))) rfl ?_
              refine ev_gos pp_Mo_out 1 (S' := (bif decide (q44.1 = 0) then 92 else 90, [some (.ref 198), some (.int l1), some (.int l2), some (.int l3), some (.int l4), some (.int (0 : Int32)), some (.int ((8 : Int32) + l2))], [], (223, kc, ks, pd_H g q44.2))) rfl ?_
              rcases pd_cases h with ⟨hb45, h⟩ | ⟨hb45, h⟩
              · rw [hb45]
                refine ev_gos pp_Mo_out 7 (S' := (103, [some (.ref 198), some (.int l1), some (.int l2), some (.int l3), some (.int l4), some (.int (0 : Int32)), some (.int ((8 : Int32) + l2))], [.int (((20 : Int32) * ((8 : Int32) + l2)) + l3), .ref 206], (223, kc, ks, pd_H g q44.2))) rfl ?_
                obtain ⟨hc46, h⟩ := pd_chk h
                refine ev_iald pp_Mo_out rfl (fun _ => rfl) hc46 ?_
                refine ev_gos pp_Mo_out 0 (S' := (104, [some (.ref 198), some (.int l1), some (.int l2), some (.int l3), some (.int l4), some (.int (0 : Int32)), some (.int ((8 : Int32) + l2))], [.int (q44.2 206 ((((20 : Int32) * ((8 : Int32) + l2)) + l3).toNatClampNeg))], (223, kc, ks, pd_H g q44.2))) rfl ?_
                cases h
                exact ev_fin pp_Mo_out rfl
              · rw [hb45]
                refine ev_gos pp_Mo_out 1 (S' := (91, [some (.ref 198), some (.int l1), some (.int l2), some (.int l3), some (.int l4), some (.int (0 : Int32)), some (.int ((8 : Int32) + l2))], [.int (0 : Int32)], (223, kc, ks, pd_H g q44.2))) rfl ?_
                cases h
                exact ev_fin pp_Mo_out rfl
            · rw [hb43]
              refine ev_gos pp_Mo_out 2 (S' := (84, [some (.ref 198), some (.int l1), some (.int l2), some (.int l3), some (.int l4), some (.int (0 : Int32)), some (.int ((8 : Int32) + l2))], [.int (1 : Int32), .int (0 : Int32), .int l4, .ref 198], (223, kc, ks, pd_H g v))) rfl ?_
              obtain ⟨q47, hq47, h⟩ := pd_bind h
              refine ev_callv pp_Mo_out rfl rfl rfl rfl (s_Mo_throwing hq47) ?_
              refine ev_gos pp_Mo_out 0 (S' := (87, [some (.ref 198), some (.int l1), some (.int l2), some (.int l3), some (.int l4), some (.int (0 : Int32)), some (.int ((8 : Int32) + l2))], [.int q47.1], (223, kc, ks, pd_H g q47.2))) rfl ?_
              refine ev_gos pp_Mo_out 1 (S' := (bif decide (q47.1 = 0) then 92 else 90, [some (.ref 198), some (.int l1), some (.int l2), some (.int l3), some (.int l4), some (.int (0 : Int32)), some (.int ((8 : Int32) + l2))], [], (223, kc, ks, pd_H g q47.2))) rfl ?_
              rcases pd_cases h with ⟨hb48, h⟩ | ⟨hb48, h⟩
              · rw [hb48]
                refine ev_gos pp_Mo_out 7 (S' := (103, [some (.ref 198), some (.int l1), some (.int l2), some (.int l3), some (.int l4), some (.int (0 : Int32)), some (.int ((8 : Int32) + l2))], [.int (((20 : Int32) * ((8 : Int32) + l2)) + l3), .ref 206], (223, kc, ks, pd_H g q47.2))) rfl ?_
                obtain ⟨hc49, h⟩ := pd_chk h
                refine ev_iald pp_Mo_out rfl (fun _ => rfl) hc49 ?_
                refine ev_gos pp_Mo_out 0 (S' := (104, [some (.ref 198), some (.int l1), some (.int l2), some (.int l3), some (.int l4), some (.int (0 : Int32)), some (.int ((8 : Int32) + l2))], [.int (q47.2 206 ((((20 : Int32) * ((8 : Int32) + l2)) + l3).toNatClampNeg))], (223, kc, ks, pd_H g q47.2))) rfl ?_
                cases h
                exact ev_fin pp_Mo_out rfl
              · rw [hb48]
                refine ev_gos pp_Mo_out 1 (S' := (91, [some (.ref 198), some (.int l1), some (.int l2), some (.int l3), some (.int l4), some (.int (0 : Int32)), some (.int ((8 : Int32) + l2))], [.int (0 : Int32)], (223, kc, ks, pd_H g q47.2))) rfl ?_
                cases h
                exact ev_fin pp_Mo_out rfl
def d_Mo_out (l1 : Int32) (l2 : Int32) (l3 : Int32) (v : pd_V) : Option (Int32 × pd_V) :=
  bif !(decide ((d_Mo_beyond l2 (0 : Int32) (7 : Int32)) = 0)) then
    d_Mo_out_26 l1 l2 l3 (d_Mo_beyond l2 (0 : Int32) (7 : Int32)) v
  else
    bif decide ((d_Mo_isNot l1 v) = 0) then
      d_Mo_out_26 l1 l2 l3 (d_Mo_beyond l2 (0 : Int32) (7 : Int32)) v
    else
      bif decide (l1 = 0) then
        bif !(decide ((d_Mo_beyond l2 (0 : Int32) (7 : Int32)) = 0)) then
          (d_Mo_throwing (d_Mo_beyond l2 (0 : Int32) (7 : Int32)) (1 : Int32) (0 : Int32) v).bind fun q7 =>
          bif decide (q7.1 = 0) then
            bif pm_in (((20 : Int32) * l2) + l3) 320 then
            some ((q7.2 206 ((((20 : Int32) * l2) + l3).toNatClampNeg)), q7.2)
            else none
          else
            some ((0 : Int32), q7.2)
        else
          bif !(decide ((1 : Int32) = 0)) then
            (d_Mo_throwing (d_Mo_beyond l2 (0 : Int32) (7 : Int32)) (1 : Int32) (0 : Int32) v).bind fun q11 =>
            bif decide (q11.1 = 0) then
              bif pm_in (((20 : Int32) * l2) + l3) 320 then
              some ((q11.2 206 ((((20 : Int32) * l2) + l3).toNatClampNeg)), q11.2)
              else none
            else
              some ((0 : Int32), q11.2)
          else
            bif decide (l3 < 0) then
              (d_Mo_throwing (d_Mo_beyond l2 (0 : Int32) (7 : Int32)) (1 : Int32) (1 : Int32) v).bind fun q15 =>
              bif decide (q15.1 = 0) then
                bif pm_in (((20 : Int32) * l2) + l3) 320 then
                some ((q15.2 206 ((((20 : Int32) * l2) + l3).toNatClampNeg)), q15.2)
                else none
              else
                some ((0 : Int32), q15.2)
            else
              bif decide ((20 : Int32) ≤ l3) then
                (d_Mo_throwing (d_Mo_beyond l2 (0 : Int32) (7 : Int32)) (1 : Int32) (1 : Int32) v).bind fun q19 =>
                bif decide (q19.1 = 0) then
                  bif pm_in (((20 : Int32) * l2) + l3) 320 then
                  some ((q19.2 206 ((((20 : Int32) * l2) + l3).toNatClampNeg)), q19.2)
                  else none
                else
                  some ((0 : Int32), q19.2)
              else
                bif pm_in l2 16 then
                bif decide (l3 < (v 207 l2.toNatClampNeg)) then
                  (d_Mo_throwing (d_Mo_beyond l2 (0 : Int32) (7 : Int32)) (1 : Int32) (0 : Int32) v).bind fun q24 =>
                  bif decide (q24.1 = 0) then
                    bif pm_in (((20 : Int32) * l2) + l3) 320 then
                    some ((q24.2 206 ((((20 : Int32) * l2) + l3).toNatClampNeg)), q24.2)
                    else none
                  else
                    some ((0 : Int32), q24.2)
                else
                  (d_Mo_throwing (d_Mo_beyond l2 (0 : Int32) (7 : Int32)) (1 : Int32) (1 : Int32) v).bind fun q27 =>
                  bif decide (q27.1 = 0) then
                    bif pm_in (((20 : Int32) * l2) + l3) 320 then
                    some ((q27.2 206 ((((20 : Int32) * l2) + l3).toNatClampNeg)), q27.2)
                    else none
                  else
                    some ((0 : Int32), q27.2)
                else none
      else
        bif !(decide ((d_Mo_beyond l2 (0 : Int32) (7 : Int32)) = 0)) then
          (d_Mo_throwing (d_Mo_beyond l2 (0 : Int32) (7 : Int32)) (1 : Int32) (0 : Int32) v).bind fun q31 =>
          bif decide (q31.1 = 0) then
            bif pm_in (((20 : Int32) * ((8 : Int32) + l2)) + l3) 320 then
            some ((q31.2 206 ((((20 : Int32) * ((8 : Int32) + l2)) + l3).toNatClampNeg)), q31.2)
            else none
          else
            some ((0 : Int32), q31.2)
        else
          bif !(decide ((1 : Int32) = 0)) then
            (d_Mo_throwing (d_Mo_beyond l2 (0 : Int32) (7 : Int32)) (1 : Int32) (0 : Int32) v).bind fun q35 =>
            bif decide (q35.1 = 0) then
              bif pm_in (((20 : Int32) * ((8 : Int32) + l2)) + l3) 320 then
              some ((q35.2 206 ((((20 : Int32) * ((8 : Int32) + l2)) + l3).toNatClampNeg)), q35.2)
              else none
            else
              some ((0 : Int32), q35.2)
          else
            bif decide (l3 < 0) then
              (d_Mo_throwing (d_Mo_beyond l2 (0 : Int32) (7 : Int32)) (1 : Int32) (1 : Int32) v).bind fun q39 =>
              bif decide (q39.1 = 0) then
                bif pm_in (((20 : Int32) * ((8 : Int32) + l2)) + l3) 320 then
                some ((q39.2 206 ((((20 : Int32) * ((8 : Int32) + l2)) + l3).toNatClampNeg)), q39.2)
                else none
              else
                some ((0 : Int32), q39.2)
            else
              bif decide ((20 : Int32) ≤ l3) then
                (d_Mo_throwing (d_Mo_beyond l2 (0 : Int32) (7 : Int32)) (1 : Int32) (1 : Int32) v).bind fun q43 =>
                bif decide (q43.1 = 0) then
                  bif pm_in (((20 : Int32) * ((8 : Int32) + l2)) + l3) 320 then
                  some ((q43.2 206 ((((20 : Int32) * ((8 : Int32) + l2)) + l3).toNatClampNeg)), q43.2)
                  else none
                else
                  some ((0 : Int32), q43.2)
              else
                bif pm_in ((8 : Int32) + l2) 16 then
                bif decide (l3 < (v 207 (((8 : Int32) + l2).toNatClampNeg))) then
                  (d_Mo_throwing (d_Mo_beyond l2 (0 : Int32) (7 : Int32)) (1 : Int32) (0 : Int32) v).bind fun q48 =>
                  bif decide (q48.1 = 0) then
                    bif pm_in (((20 : Int32) * ((8 : Int32) + l2)) + l3) 320 then
                    some ((q48.2 206 ((((20 : Int32) * ((8 : Int32) + l2)) + l3).toNatClampNeg)), q48.2)
                    else none
                  else
                    some ((0 : Int32), q48.2)
                else
                  (d_Mo_throwing (d_Mo_beyond l2 (0 : Int32) (7 : Int32)) (1 : Int32) (1 : Int32) v).bind fun q51 =>
                  bif decide (q51.1 = 0) then
                    bif pm_in (((20 : Int32) * ((8 : Int32) + l2)) + l3) 320 then
                    some ((q51.2 206 ((((20 : Int32) * ((8 : Int32) + l2)) + l3).toNatClampNeg)), q51.2)
                    else none
                  else
                    some ((0 : Int32), q51.2)
                else none
theorem s_Mo_out {l1 : Int32} {l2 : Int32} {l3 : Int32} {v : pd_V} {q : (Int32 × pd_V)}  (h : d_Mo_out l1 l2 l3 v = some q) : pm_ev (pj_P xs L) (d + 1) 153 (0, [some (.ref 198), some (.int l1), some (.int l2), some (.int l3), none, none, none], [], (223, kc, ks, pd_H g v)) (.inl (some (.int q.1)), (223, kc, ks, pd_H g q.2)) := by
  unfold d_Mo_out at h
  refine ev_gos pp_Mo_out 3 (S' := (4, [some (.ref 198), some (.int l1), some (.int l2), some (.int l3), none, none, none], [.int (7 : Int32), .int (0 : Int32), .int l2], (223, kc, ks, pd_H g v))) rfl ?_
  refine ev_call pp_Mo_out rfl rfl rfl (s_Mo_beyond) ?_
  refine ev_gos pp_Mo_out 2 (S' := (11, [some (.ref 198), some (.int l1), some (.int l2), some (.int l3), some (.int (d_Mo_beyond l2 (0 : Int32) (7 : Int32))), none, none], [.int (d_Mo_beyond l2 (0 : Int32) (7 : Int32))], (223, kc, ks, pd_H g v))) rfl ?_
  refine ev_gos pp_Mo_out 1 (S' := (bif !(decide ((d_Mo_beyond l2 (0 : Int32) (7 : Int32)) = 0)) then 26 else 14, [some (.ref 198), some (.int l1), some (.int l2), some (.int l3), some (.int (d_Mo_beyond l2 (0 : Int32) (7 : Int32))), none, none], [], (223, kc, ks, pd_H g v))) rfl ?_
  rcases pd_cases h with ⟨hb2, h⟩ | ⟨hb2, h⟩
  · rw [hb2]
    refine ev_gos pp_Mo_out 0 (S' := (26, [some (.ref 198), some (.int l1), some (.int l2), some (.int l3), some (.int (d_Mo_beyond l2 (0 : Int32) (7 : Int32))), none, none], [], (223, kc, ks, pd_H g v))) rfl ?_
    exact s_Mo_out_26 _ _ _ _ _ _ _ _  h
  · rw [hb2]
    refine ev_gos pp_Mo_out 2 (S' := (16, [some (.ref 198), some (.int l1), some (.int l2), some (.int l3), some (.int (d_Mo_beyond l2 (0 : Int32) (7 : Int32))), none, none], [.int l1, .ref 198], (223, kc, ks, pd_H g v))) rfl ?_
    refine ev_callv pp_Mo_out rfl rfl rfl rfl (s_Mo_isNot) ?_
    refine ev_gos pp_Mo_out 0 (S' := (19, [some (.ref 198), some (.int l1), some (.int l2), some (.int l3), some (.int (d_Mo_beyond l2 (0 : Int32) (7 : Int32))), none, none], [.int (d_Mo_isNot l1 v)], (223, kc, ks, pd_H g v))) rfl ?_
    refine ev_gos pp_Mo_out 1 (S' := (bif decide ((d_Mo_isNot l1 v) = 0) then 26 else 22, [some (.ref 198), some (.int l1), some (.int l2), some (.int l3), some (.int (d_Mo_beyond l2 (0 : Int32) (7 : Int32))), none, none], [], (223, kc, ks, pd_H g v))) rfl ?_
    rcases pd_cases h with ⟨hb4, h⟩ | ⟨hb4, h⟩
    · rw [hb4]
      refine ev_gos pp_Mo_out 0 (S' := (26, [some (.ref 198), some (.int l1), some (.int l2), some (.int l3), some (.int (d_Mo_beyond l2 (0 : Int32) (7 : Int32))), none, none], [], (223, kc, ks, pd_H g v))) rfl ?_
      exact s_Mo_out_26 _ _ _ _ _ _ _ _  h
    · rw [hb4]
      refine ev_gos pp_Mo_out 4 (S' := (30, [some (.ref 198), some (.int l1), some (.int l2), some (.int l3), some (.int (d_Mo_beyond l2 (0 : Int32) (7 : Int32))), some (.int (1 : Int32)), none], [.int l1], (223, kc, ks, pd_H g v))) rfl ?_
      refine ev_gos pp_Mo_out 1 (S' := (bif decide (l1 = 0) then 40 else 33, [some (.ref 198), some (.int l1), some (.int l2), some (.int l3), some (.int (d_Mo_beyond l2 (0 : Int32) (7 : Int32))), some (.int (1 : Int32)), none], [], (223, kc, ks, pd_H g v))) rfl ?_
      rcases pd_cases h with ⟨hb5, h⟩ | ⟨hb5, h⟩
      · rw [hb5]
        refine ev_gos pp_Mo_out 6 (S' := (50, [some (.ref 198), some (.int l1), some (.int l2), some (.int l3), some (.int (d_Mo_beyond l2 (0 : Int32) (7 : Int32))), some (.int (1 : Int32)), some (.int l2)], [.int (d_Mo_beyond l2 (0 : Int32) (7 : Int32)), .int (1 : Int32), .int (d_Mo_beyond l2 (0 : Int32) (7 : Int32)), .ref 198], (223, kc, ks, pd_H g v))) rfl ?_
        refine ev_gos pp_Mo_out 1 (S' := (bif !(decide ((d_Mo_beyond l2 (0 : Int32) (7 : Int32)) = 0)) then 83 else 53, [some (.ref 198), some (.int l1), some (.int l2), some (.int l3), some (.int (d_Mo_beyond l2 (0 : Int32) (7 : Int32))), some (.int (1 : Int32)), some (.int l2)], [.int (1 : Int32), .int (d_Mo_beyond l2 (0 : Int32) (7 : Int32)), .ref 198], (223, kc, ks, pd_H g v))) rfl ?_
        rcases pd_cases h with ⟨hb6, h⟩ | ⟨hb6, h⟩
        · rw [hb6]
          refine ev_gos pp_Mo_out 1 (S' := (84, [some (.ref 198), some (.int l1), some (.int l2), some (.int l3), some (.int (d_Mo_beyond l2 (0 : Int32) (7 : Int32))), some (.int (1 : Int32)), some (.int l2)], [.int (0 : Int32), .int (1 : Int32), .int (d_Mo_beyond l2 (0 : Int32) (7 : Int32)), .ref 198], (223, kc, ks, pd_H g v))) rfl ?_
          obtain ⟨q7, hq7, h⟩ := pd_bind h
          refine ev_callv pp_Mo_out rfl rfl rfl rfl (s_Mo_throwing hq7) ?_
          refine ev_gos pp_Mo_out 0 (S' := (87, [some (.ref 198), some (.int l1), some (.int l2), some (.int l3), some (.int (d_Mo_beyond l2 (0 : Int32) (7 : Int32))), some (.int (1 : Int32)), some (.int l2)], [.int q7.1], (223, kc, ks, pd_H g q7.2))) rfl ?_
          refine ev_gos pp_Mo_out 1 (S' := (bif decide (q7.1 = 0) then 92 else 90, [some (.ref 198), some (.int l1), some (.int l2), some (.int l3), some (.int (d_Mo_beyond l2 (0 : Int32) (7 : Int32))), some (.int (1 : Int32)), some (.int l2)], [], (223, kc, ks, pd_H g q7.2))) rfl ?_
          rcases pd_cases h with ⟨hb8, h⟩ | ⟨hb8, h⟩
          · rw [hb8]
            refine ev_gos pp_Mo_out 7 (S' := (103, [some (.ref 198), some (.int l1), some (.int l2), some (.int l3), some (.int (d_Mo_beyond l2 (0 : Int32) (7 : Int32))), some (.int (1 : Int32)), some (.int l2)], [.int (((20 : Int32) * l2) + l3), .ref 206], (223, kc, ks, pd_H g q7.2))) rfl ?_
            obtain ⟨hc9, h⟩ := pd_chk h
            refine ev_iald pp_Mo_out rfl (fun _ => rfl) hc9 ?_
            refine ev_gos pp_Mo_out 0 (S' := (104, [some (.ref 198), some (.int l1), some (.int l2), some (.int l3), some (.int (d_Mo_beyond l2 (0 : Int32) (7 : Int32))), some (.int (1 : Int32)), some (.int l2)], [.int (q7.2 206 ((((20 : Int32) * l2) + l3).toNatClampNeg))], (223, kc, ks, pd_H g q7.2))) rfl ?_
            cases h
            exact ev_fin pp_Mo_out rfl
          · rw [hb8]
            refine ev_gos pp_Mo_out 1 (S' := (91, [some (.ref 198), some (.int l1), some (.int l2), some (.int l3), some (.int (d_Mo_beyond l2 (0 : Int32) (7 : Int32))), some (.int (1 : Int32)), some (.int l2)], [.int (0 : Int32)], (223, kc, ks, pd_H g q7.2))) rfl ?_
            cases h
            exact ev_fin pp_Mo_out rfl
        · rw [hb6]
          refine ev_gos pp_Mo_out 1 (S' := (55, [some (.ref 198), some (.int l1), some (.int l2), some (.int l3), some (.int (d_Mo_beyond l2 (0 : Int32) (7 : Int32))), some (.int (1 : Int32)), some (.int l2)], [.int (1 : Int32), .int (1 : Int32), .int (d_Mo_beyond l2 (0 : Int32) (7 : Int32)), .ref 198], (223, kc, ks, pd_H g v))) rfl ?_
          refine ev_gos pp_Mo_out 1 (S' := (bif !(decide ((1 : Int32) = 0)) then 83 else 58, [some (.ref 198), some (.int l1), some (.int l2), some (.int l3), some (.int (d_Mo_beyond l2 (0 : Int32) (7 : Int32))), some (.int (1 : Int32)), some (.int l2)], [.int (1 : Int32), .int (d_Mo_beyond l2 (0 : Int32) (7 : Int32)), .ref 198], (223, kc, ks, pd_H g v))) rfl ?_
          rcases pd_cases h with ⟨hb10, h⟩ | ⟨hb10, h⟩
          · rw [hb10]
            refine ev_gos pp_Mo_out 1 (S' := (84, [some (.ref 198), some (.int l1), some (.int l2), some (.int l3), some (.int (d_Mo_beyond l2 (0 : Int32) (7 : Int32))), some (.int (1 : Int32)), some (.int l2)], [.int (0 : Int32), .int (1 : Int32), .int (d_Mo_beyond l2 (0 : Int32) (7 : Int32)), .ref 198], (223, kc, ks, pd_H g v))) rfl ?_
            obtain ⟨q11, hq11, h⟩ := pd_bind h
            refine ev_callv pp_Mo_out rfl rfl rfl rfl (s_Mo_throwing hq11) ?_
            refine ev_gos pp_Mo_out 0 (S' := (87, [some (.ref 198), some (.int l1), some (.int l2), some (.int l3), some (.int (d_Mo_beyond l2 (0 : Int32) (7 : Int32))), some (.int (1 : Int32)), some (.int l2)], [.int q11.1], (223, kc, ks, pd_H g q11.2))) rfl ?_
            refine ev_gos pp_Mo_out 1 (S' := (bif decide (q11.1 = 0) then 92 else 90, [some (.ref 198), some (.int l1), some (.int l2), some (.int l3), some (.int (d_Mo_beyond l2 (0 : Int32) (7 : Int32))), some (.int (1 : Int32)), some (.int l2)], [], (223, kc, ks, pd_H g q11.2))) rfl ?_
            rcases pd_cases h with ⟨hb12, h⟩ | ⟨hb12, h⟩
            · rw [hb12]
              refine ev_gos pp_Mo_out 7 (S' := (103, [some (.ref 198), some (.int l1), some (.int l2), some (.int l3), some (.int (d_Mo_beyond l2 (0 : Int32) (7 : Int32))), some (.int (1 : Int32)), some (.int l2)], [.int (((20 : Int32) * l2) + l3), .ref 206], (223, kc, ks, pd_H g q11.2))) rfl ?_
              obtain ⟨hc13, h⟩ := pd_chk h
              refine ev_iald pp_Mo_out rfl (fun _ => rfl) hc13 ?_
              refine ev_gos pp_Mo_out 0 (S' := (104, [some (.ref 198), some (.int l1), some (.int l2), some (.int l3), some (.int (d_Mo_beyond l2 (0 : Int32) (7 : Int32))), some (.int (1 : Int32)), some (.int l2)], [.int (q11.2 206 ((((20 : Int32) * l2) + l3).toNatClampNeg))], (223, kc, ks, pd_H g q11.2))) rfl ?_
              cases h
              exact ev_fin pp_Mo_out rfl
            · rw [hb12]
              refine ev_gos pp_Mo_out 1 (S' := (91, [some (.ref 198), some (.int l1), some (.int l2), some (.int l3), some (.int (d_Mo_beyond l2 (0 : Int32) (7 : Int32))), some (.int (1 : Int32)), some (.int l2)], [.int (0 : Int32)], (223, kc, ks, pd_H g q11.2))) rfl ?_
              cases h
              exact ev_fin pp_Mo_out rfl
          · rw [hb10]
            refine ev_gos pp_Mo_out 1 (S' := (59, [some (.ref 198), some (.int l1), some (.int l2), some (.int l3), some (.int (d_Mo_beyond l2 (0 : Int32) (7 : Int32))), some (.int (1 : Int32)), some (.int l2)], [.int l3, .int (1 : Int32), .int (d_Mo_beyond l2 (0 : Int32) (7 : Int32)), .ref 198], (223, kc, ks, pd_H g v))) rfl ?_
            refine ev_gos pp_Mo_out 1 (S' := (bif decide (l3 < 0) then 79 else 62, [some (.ref 198), some (.int l1), some (.int l2), some (.int l3), some (.int (d_Mo_beyond l2 (0 : Int32) (7 : Int32))), some (.int (1 : Int32)), some (.int l2)], [.int (1 : Int32), .int (d_Mo_beyond l2 (0 : Int32) (7 : Int32)), .ref 198], (223, kc, ks, pd_H g v))) rfl ?_
            rcases pd_cases h with ⟨hb14, h⟩ | ⟨hb14, h⟩
            · rw [hb14]
              refine ev_gos pp_Mo_out 2 (S' := (84, [some (.ref 198), some (.int l1), some (.int l2), some (.int l3), some (.int (d_Mo_beyond l2 (0 : Int32) (7 : Int32))), some (.int (1 : Int32)), some (.int l2)], [.int (1 : Int32), .int (1 : Int32), .int (d_Mo_beyond l2 (0 : Int32) (7 : Int32)), .ref 198], (223, kc, ks, pd_H g v))) rfl ?_
              obtain ⟨q15, hq15, h⟩ := pd_bind h
              refine ev_callv pp_Mo_out rfl rfl rfl rfl (s_Mo_throwing hq15) ?_
              refine ev_gos pp_Mo_out 0 (S' := (87, [some (.ref 198), some (.int l1), some (.int l2), some (.int l3), some (.int (d_Mo_beyond l2 (0 : Int32) (7 : Int32))), some (.int (1 : Int32)), some (.int l2)], [.int q15.1], (223, kc, ks, pd_H g q15.2))) rfl ?_
              refine ev_gos pp_Mo_out 1 (S' := (bif decide (q15.1 = 0) then 92 else 90, [some (.ref 198), some (.int l1), some (.int l2), some (.int l3), some (.int (d_Mo_beyond l2 (0 : Int32) (7 : Int32))), some (.int (1 : Int32)), some (.int l2)], [], (223, kc, ks, pd_H g q15.2))) rfl ?_
              rcases pd_cases h with ⟨hb16, h⟩ | ⟨hb16, h⟩
              · rw [hb16]
                refine ev_gos pp_Mo_out 7 (S' := (103, [some (.ref 198), some (.int l1), some (.int l2), some (.int l3), some (.int (d_Mo_beyond l2 (0 : Int32) (7 : Int32))), some (.int (1 : Int32)), some (.int l2)], [.int (((20 : Int32) * l2) + l3), .ref 206], (223, kc, ks, pd_H g q15.2))) rfl ?_
                obtain ⟨hc17, h⟩ := pd_chk h
                refine ev_iald pp_Mo_out rfl (fun _ => rfl) hc17 ?_
                refine ev_gos pp_Mo_out 0 (S' := (104, [some (.ref 198), some (.int l1), some (.int l2), some (.int l3), some (.int (d_Mo_beyond l2 (0 : Int32) (7 : Int32))), some (.int (1 : Int32)), some (.int l2)], [.int (q15.2 206 ((((20 : Int32) * l2) + l3).toNatClampNeg))], (223, kc, ks, pd_H g q15.2))) rfl ?_
                cases h
                exact ev_fin pp_Mo_out rfl
              · rw [hb16]
                refine ev_gos pp_Mo_out 1 (S' := (91, [some (.ref 198), some (.int l1), some (.int l2), some (.int l3), some (.int (d_Mo_beyond l2 (0 : Int32) (7 : Int32))), some (.int (1 : Int32)), some (.int l2)], [.int (0 : Int32)], (223, kc, ks, pd_H g q15.2))) rfl ?_
                cases h
                exact ev_fin pp_Mo_out rfl
            · rw [hb14]
              refine ev_gos pp_Mo_out 2 (S' := (65, [some (.ref 198), some (.int l1), some (.int l2), some (.int l3), some (.int (d_Mo_beyond l2 (0 : Int32) (7 : Int32))), some (.int (1 : Int32)), some (.int l2)], [.int (20 : Int32), .int l3, .int (1 : Int32), .int (d_Mo_beyond l2 (0 : Int32) (7 : Int32)), .ref 198], (223, kc, ks, pd_H g v))) rfl ?_
              refine ev_gos pp_Mo_out 1 (S' := (bif decide ((20 : Int32) ≤ l3) then 79 else 68, [some (.ref 198), some (.int l1), some (.int l2), some (.int l3), some (.int (d_Mo_beyond l2 (0 : Int32) (7 : Int32))), some (.int (1 : Int32)), some (.int l2)], [.int (1 : Int32), .int (d_Mo_beyond l2 (0 : Int32) (7 : Int32)), .ref 198], (223, kc, ks, pd_H g v))) rfl ?_
              rcases pd_cases h with ⟨hb18, h⟩ | ⟨hb18, h⟩
              · rw [hb18]
                refine ev_gos pp_Mo_out 2 (S' := (84, [some (.ref 198), some (.int l1), some (.int l2), some (.int l3), some (.int (d_Mo_beyond l2 (0 : Int32) (7 : Int32))), some (.int (1 : Int32)), some (.int l2)], [.int (1 : Int32), .int (1 : Int32), .int (d_Mo_beyond l2 (0 : Int32) (7 : Int32)), .ref 198], (223, kc, ks, pd_H g v))) rfl ?_
                obtain ⟨q19, hq19, h⟩ := pd_bind h
                refine ev_callv pp_Mo_out rfl rfl rfl rfl (s_Mo_throwing hq19) ?_
                refine ev_gos pp_Mo_out 0 (S' := (87, [some (.ref 198), some (.int l1), some (.int l2), some (.int l3), some (.int (d_Mo_beyond l2 (0 : Int32) (7 : Int32))), some (.int (1 : Int32)), some (.int l2)], [.int q19.1], (223, kc, ks, pd_H g q19.2))) rfl ?_
                refine ev_gos pp_Mo_out 1 (S' := (bif decide (q19.1 = 0) then 92 else 90, [some (.ref 198), some (.int l1), some (.int l2), some (.int l3), some (.int (d_Mo_beyond l2 (0 : Int32) (7 : Int32))), some (.int (1 : Int32)), some (.int l2)], [], (223, kc, ks, pd_H g q19.2))) rfl ?_
                rcases pd_cases h with ⟨hb20, h⟩ | ⟨hb20, h⟩
                · rw [hb20]
                  refine ev_gos pp_Mo_out 7 (S' := (103, [some (.ref 198), some (.int l1), some (.int l2), some (.int l3), some (.int (d_Mo_beyond l2 (0 : Int32) (7 : Int32))), some (.int (1 : Int32)), some (.int l2)], [.int (((20 : Int32) * l2) + l3), .ref 206], (223, kc, ks, pd_H g q19.2))) rfl ?_
                  obtain ⟨hc21, h⟩ := pd_chk h
                  refine ev_iald pp_Mo_out rfl (fun _ => rfl) hc21 ?_
                  refine ev_gos pp_Mo_out 0 (S' := (104, [some (.ref 198), some (.int l1), some (.int l2), some (.int l3), some (.int (d_Mo_beyond l2 (0 : Int32) (7 : Int32))), some (.int (1 : Int32)), some (.int l2)], [.int (q19.2 206 ((((20 : Int32) * l2) + l3).toNatClampNeg))], (223, kc, ks, pd_H g q19.2))) rfl ?_
                  cases h
                  exact ev_fin pp_Mo_out rfl
                · rw [hb20]
                  refine ev_gos pp_Mo_out 1 (S' := (91, [some (.ref 198), some (.int l1), some (.int l2), some (.int l3), some (.int (d_Mo_beyond l2 (0 : Int32) (7 : Int32))), some (.int (1 : Int32)), some (.int l2)], [.int (0 : Int32)], (223, kc, ks, pd_H g q19.2))) rfl ?_
                  cases h
                  exact ev_fin pp_Mo_out rfl
              · rw [hb18]
                refine ev_gos pp_Mo_out 4 (S' := (75, [some (.ref 198), some (.int l1), some (.int l2), some (.int l3), some (.int (d_Mo_beyond l2 (0 : Int32) (7 : Int32))), some (.int (1 : Int32)), some (.int l2)], [.int l2, .ref 207, .int l3, .int (1 : Int32), .int (d_Mo_beyond l2 (0 : Int32) (7 : Int32)), .ref 198], (223, kc, ks, pd_H g v))) rfl ?_
                obtain ⟨hc22, h⟩ := pd_chk h
                refine ev_iald pp_Mo_out rfl (fun _ => rfl) hc22 ?_
                refine ev_gos pp_Mo_out 0 (S' := (76, [some (.ref 198), some (.int l1), some (.int l2), some (.int l3), some (.int (d_Mo_beyond l2 (0 : Int32) (7 : Int32))), some (.int (1 : Int32)), some (.int l2)], [.int (v 207 l2.toNatClampNeg), .int l3, .int (1 : Int32), .int (d_Mo_beyond l2 (0 : Int32) (7 : Int32)), .ref 198], (223, kc, ks, pd_H g v))) rfl ?_
                refine ev_gos pp_Mo_out 1 (S' := (bif decide (l3 < (v 207 l2.toNatClampNeg)) then 83 else 79, [some (.ref 198), some (.int l1), some (.int l2), some (.int l3), some (.int (d_Mo_beyond l2 (0 : Int32) (7 : Int32))), some (.int (1 : Int32)), some (.int l2)], [.int (1 : Int32), .int (d_Mo_beyond l2 (0 : Int32) (7 : Int32)), .ref 198], (223, kc, ks, pd_H g v))) rfl ?_
                rcases pd_cases h with ⟨hb23, h⟩ | ⟨hb23, h⟩
                · rw [hb23]
                  refine ev_gos pp_Mo_out 1 (S' := (84, [some (.ref 198), some (.int l1), some (.int l2), some (.int l3), some (.int (d_Mo_beyond l2 (0 : Int32) (7 : Int32))), some (.int (1 : Int32)), some (.int l2)], [.int (0 : Int32), .int (1 : Int32), .int (d_Mo_beyond l2 (0 : Int32) (7 : Int32)), .ref 198], (223, kc, ks, pd_H g v))) rfl ?_
                  obtain ⟨q24, hq24, h⟩ := pd_bind h
                  refine ev_callv pp_Mo_out rfl rfl rfl rfl (s_Mo_throwing hq24) ?_
                  refine ev_gos pp_Mo_out 0 (S' := (87, [some (.ref 198), some (.int l1), some (.int l2), some (.int l3), some (.int (d_Mo_beyond l2 (0 : Int32) (7 : Int32))), some (.int (1 : Int32)), some (.int l2)], [.int q24.1], (223, kc, ks, pd_H g q24.2))) rfl ?_
                  refine ev_gos pp_Mo_out 1 (S' := (bif decide (q24.1 = 0) then 92 else 90, [some (.ref 198), some (.int l1), some (.int l2), some (.int l3), some (.int (d_Mo_beyond l2 (0 : Int32) (7 : Int32))), some (.int (1 : Int32)), some (.int l2)], [], (223, kc, ks, pd_H g q24.2))) rfl ?_
                  rcases pd_cases h with ⟨hb25, h⟩ | ⟨hb25, h⟩
                  · rw [hb25]
                    refine ev_gos pp_Mo_out 7 (S' := (103, [some (.ref 198), some (.int l1), some (.int l2), some (.int l3), some (.int (d_Mo_beyond l2 (0 : Int32) (7 : Int32))), some (.int (1 : Int32)), some (.int l2)], [.int (((20 : Int32) * l2) + l3), .ref 206], (223, kc, ks, pd_H g q24.2))) rfl ?_
                    obtain ⟨hc26, h⟩ := pd_chk h
                    refine ev_iald pp_Mo_out rfl (fun _ => rfl) hc26 ?_
                    refine ev_gos pp_Mo_out 0 (S' := (104, [some (.ref 198), some (.int l1), some (.int l2), some (.int l3), some (.int (d_Mo_beyond l2 (0 : Int32) (7 : Int32))), some (.int (1 : Int32)), some (.int l2)], [.int (q24.2 206 ((((20 : Int32) * l2) + l3).toNatClampNeg))], (223, kc, ks, pd_H g q24.2))) rfl ?_
                    cases h
                    exact ev_fin pp_Mo_out rfl
                  · rw [hb25]
                    refine ev_gos pp_Mo_out 1 (S' := (91, [some (.ref 198), some (.int l1), some (.int l2), some (.int l3), some (.int (d_Mo_beyond l2 (0 : Int32) (7 : Int32))), some (.int (1 : Int32)), some (.int l2)], [.int (0 : Int32)], (223, kc, ks, pd_H g q24.2))) rfl ?_
                    cases h
                    exact ev_fin pp_Mo_out rfl
                · rw [hb23]
                  refine ev_gos pp_Mo_out 2 (S' := (84, [some (.ref 198), some (.int l1), some (.int l2), some (.int l3), some (.int (d_Mo_beyond l2 (0 : Int32) (7 : Int32))), some (.int (1 : Int32)), some (.int l2)], [.int (1 : Int32), .int (1 : Int32), .int (d_Mo_beyond l2 (0 : Int32) (7 : Int32)), .ref 198], (223, kc, ks, pd_H g v))) rfl ?_
                  obtain ⟨q27, hq27, h⟩ := pd_bind h
                  refine ev_callv pp_Mo_out rfl rfl rfl rfl (s_Mo_throwing hq27) ?_
                  refine ev_gos pp_Mo_out 0 (S' := (87, [some (.ref 198), some (.int l1), some (.int l2), some (.int l3), some (.int (d_Mo_beyond l2 (0 : Int32) (7 : Int32))), some (.int (1 : Int32)), some (.int l2)], [.int q27.1], (223, kc, ks, pd_H g q27.2))) rfl ?_
                  refine ev_gos pp_Mo_out 1 (S' := (bif decide (q27.1 = 0) then 92 else 90, [some (.ref 198), some (.int l1), some (.int l2), some (.int l3), some (.int (d_Mo_beyond l2 (0 : Int32) (7 : Int32))), some (.int (1 : Int32)), some (.int l2)], [], (223, kc, ks, pd_H g q27.2))) rfl ?_
                  rcases pd_cases h with ⟨hb28, h⟩ | ⟨hb28, h⟩
                  · rw [hb28]
                    refine ev_gos pp_Mo_out 7 (S' := (103, [some (.ref 198), some (.int l1), some (.int l2), some (.int l3), some (.int (d_Mo_beyond l2 (0 : Int32) (7 : Int32))), some (.int (1 : Int32)), some (.int l2)], [.int (((20 : Int32) * l2) + l3), .ref 206], (223, kc, ks, pd_H g q27.2))) rfl ?_
                    obtain ⟨hc29, h⟩ := pd_chk h
                    refine ev_iald pp_Mo_out rfl (fun _ => rfl) hc29 ?_
                    refine ev_gos pp_Mo_out 0 (S' := (104, [some (.ref 198), some (.int l1), some (.int l2), some (.int l3), some (.int (d_Mo_beyond l2 (0 : Int32) (7 : Int32))), some (.int (1 : Int32)), some (.int l2)], [.int (q27.2 206 ((((20 : Int32) * l2) + l3).toNatClampNeg))], (223, kc, ks, pd_H g q27.2))) rfl ?_
                    cases h
                    exact ev_fin pp_Mo_out rfl
                  · rw [hb28]
                    refine ev_gos pp_Mo_out 1 (S' := (91, [some (.ref 198), some (.int l1), some (.int l2), some (.int l3), some (.int (d_Mo_beyond l2 (0 : Int32) (7 : Int32))), some (.int (1 : Int32)), some (.int l2)], [.int (0 : Int32)], (223, kc, ks, pd_H g q27.2))) rfl ?_
                    cases h
                    exact ev_fin pp_Mo_out rfl
      · rw [hb5]
        refine ev_gos pp_Mo_out 9 (S' := (50, [some (.ref 198), some (.int l1), some (.int l2), some (.int l3), some (.int (d_Mo_beyond l2 (0 : Int32) (7 : Int32))), some (.int (1 : Int32)), some (.int ((8 : Int32) + l2))], [.int (d_Mo_beyond l2 (0 : Int32) (7 : Int32)), .int (1 : Int32), .int (d_Mo_beyond l2 (0 : Int32) (7 : Int32)), .ref 198], (223, kc, ks, pd_H g v))) rfl ?_
        refine ev_gos pp_Mo_out 1 (S' := (bif !(decide ((d_Mo_beyond l2 (0 : Int32) (7 : Int32)) = 0)) then 83 else 53, [some (.ref 198), some (.int l1), some (.int l2), some (.int l3), some (.int (d_Mo_beyond l2 (0 : Int32) (7 : Int32))), some (.int (1 : Int32)), some (.int ((8 : Int32) + l2))], [.int (1 : Int32), .int (d_Mo_beyond l2 (0 : Int32) (7 : Int32)), .ref 198], (223, kc, ks, pd_H g v))) rfl ?_
        rcases pd_cases h with ⟨hb30, h⟩ | ⟨hb30, h⟩
        · rw [hb30]
          refine ev_gos pp_Mo_out 1 (S' := (84, [some (.ref 198), some (.int l1), some (.int l2), some (.int l3), some (.int (d_Mo_beyond l2 (0 : Int32) (7 : Int32))), some (.int (1 : Int32)), some (.int ((8 : Int32) + l2))], [.int (0 : Int32), .int (1 : Int32), .int (d_Mo_beyond l2 (0 : Int32) (7 : Int32)), .ref 198], (223, kc, ks, pd_H g v))) rfl ?_
          obtain ⟨q31, hq31, h⟩ := pd_bind h
          refine ev_callv pp_Mo_out rfl rfl rfl rfl (s_Mo_throwing hq31) ?_
          refine ev_gos pp_Mo_out 0 (S' := (87, [some (.ref 198), some (.int l1), some (.int l2), some (.int l3), some (.int (d_Mo_beyond l2 (0 : Int32) (7 : Int32))), some (.int (1 : Int32)), some (.int ((8 : Int32) + l2))], [.int q31.1], (223, kc, ks, pd_H g q31.2))) rfl ?_
          refine ev_gos pp_Mo_out 1 (S' := (bif decide (q31.1 = 0) then 92 else 90, [some (.ref 198), some (.int l1), some (.int l2), some (.int l3), some (.int (d_Mo_beyond l2 (0 : Int32) (7 : Int32))), some (.int (1 : Int32)), some (.int ((8 : Int32) + l2))], [], (223, kc, ks, pd_H g q31.2))) rfl ?_
          rcases pd_cases h with ⟨hb32, h⟩ | ⟨hb32, h⟩
          · rw [hb32]
            refine ev_gos pp_Mo_out 7 (S' := (103, [some (.ref 198), some (.int l1), some (.int l2), some (.int l3), some (.int (d_Mo_beyond l2 (0 : Int32) (7 : Int32))), some (.int (1 : Int32)), some (.int ((8 : Int32) + l2))], [.int (((20 : Int32) * ((8 : Int32) + l2)) + l3), .ref 206], (223, kc, ks, pd_H g q31.2))) rfl ?_
            obtain ⟨hc33, h⟩ := pd_chk h
            refine ev_iald pp_Mo_out rfl (fun _ => rfl) hc33 ?_
            refine ev_gos pp_Mo_out 0 (S' := (104, [some (.ref 198), some (.int l1), some (.int l2), some (.int l3), some (.int (d_Mo_beyond l2 (0 : Int32) (7 : Int32))), some (.int (1 : Int32)), some (.int ((8 : Int32) + l2))], [.int (q31.2 206 ((((20 : Int32) * ((8 : Int32) + l2)) + l3).toNatClampNeg))], (223, kc, ks, pd_H g q31.2))) rfl ?_
            cases h
            exact ev_fin pp_Mo_out rfl
          · rw [hb32]
            refine ev_gos pp_Mo_out 1 (S' := (91, [some (.ref 198), some (.int l1), some (.int l2), some (.int l3), some (.int (d_Mo_beyond l2 (0 : Int32) (7 : Int32))), some (.int (1 : Int32)), some (.int ((8 : Int32) + l2))], [.int (0 : Int32)], (223, kc, ks, pd_H g q31.2))) rfl ?_
            cases h
            exact ev_fin pp_Mo_out rfl
        · rw [hb30]
          refine ev_gos pp_Mo_out 1 (S' := (55, [some (.ref 198), some (.int l1), some (.int l2), some (.int l3), some (.int (d_Mo_beyond l2 (0 : Int32) (7 : Int32))), some (.int (1 : Int32)), some (.int ((8 : Int32) + l2))], [.int (1 : Int32), .int (1 : Int32), .int (d_Mo_beyond l2 (0 : Int32) (7 : Int32)), .ref 198], (223, kc, ks, pd_H g v))) rfl ?_
          refine ev_gos pp_Mo_out 1 (S' := (bif !(decide ((1 : Int32) = 0)) then 83 else 58, [some (.ref 198), some (.int l1), some (.int l2), some (.int l3), some (.int (d_Mo_beyond l2 (0 : Int32) (7 : Int32))), some (.int (1 : Int32)), some (.int ((8 : Int32) + l2))], [.int (1 : Int32), .int (d_Mo_beyond l2 (0 : Int32) (7 : Int32)), .ref 198], (223, kc, ks, pd_H g v))) rfl ?_
          rcases pd_cases h with ⟨hb34, h⟩ | ⟨hb34, h⟩
          · rw [hb34]
            refine ev_gos pp_Mo_out 1 (S' := (84, [some (.ref 198), some (.int l1), some (.int l2), some (.int l3), some (.int (d_Mo_beyond l2 (0 : Int32) (7 : Int32))), some (.int (1 : Int32)), some (.int ((8 : Int32) + l2))], [.int (0 : Int32), .int (1 : Int32), .int (d_Mo_beyond l2 (0 : Int32) (7 : Int32)), .ref 198], (223, kc, ks, pd_H g v))) rfl ?_
            obtain ⟨q35, hq35, h⟩ := pd_bind h
            refine ev_callv pp_Mo_out rfl rfl rfl rfl (s_Mo_throwing hq35) ?_
            refine ev_gos pp_Mo_out 0 (S' := (87, [some (.ref 198), some (.int l1), some (.int l2), some (.int l3), some (.int (d_Mo_beyond l2 (0 : Int32) (7 : Int32))), some (.int (1 : Int32)), some (.int ((8 : Int32) + l2))], [.int q35.1], (223, kc, ks, pd_H g q35.2))) rfl ?_
            refine ev_gos pp_Mo_out 1 (S' := (bif decide (q35.1 = 0) then 92 else 90, [some (.ref 198), some (.int l1), some (.int l2), some (.int l3), some (.int (d_Mo_beyond l2 (0 : Int32) (7 : Int32))), some (.int (1 : Int32)), some (.int ((8 : Int32) + l2))], [], (223, kc, ks, pd_H g q35.2))) rfl ?_
            rcases pd_cases h with ⟨hb36, h⟩ | ⟨hb36, h⟩
            · rw [hb36]
              refine ev_gos pp_Mo_out 7 (S' := (103, [some (.ref 198), some (.int l1), some (.int l2), some (.int l3), some (.int (d_Mo_beyond l2 (0 : Int32) (7 : Int32))), some (.int (1 : Int32)), some (.int ((8 : Int32) + l2))], [.int (((20 : Int32) * ((8 : Int32) + l2)) + l3), .ref 206], (223, kc, ks, pd_H g q35.2))) rfl ?_
              obtain ⟨hc37, h⟩ := pd_chk h
              refine ev_iald pp_Mo_out rfl (fun _ => rfl) hc37 ?_
              refine ev_gos pp_Mo_out 0 (S' := (104, [some (.ref 198), some (.int l1), some (.int l2), some (.int l3), some (.int (d_Mo_beyond l2 (0 : Int32) (7 : Int32))), some (.int (1 : Int32)), some (.int ((8 : Int32) + l2))], [.int (q35.2 206 ((((20 : Int32) * ((8 : Int32) + l2)) + l3).toNatClampNeg))], (223, kc, ks, pd_H g q35.2))) rfl ?_
              cases h
              exact ev_fin pp_Mo_out rfl
            · rw [hb36]
              refine ev_gos pp_Mo_out 1 (S' := (91, [some (.ref 198), some (.int l1), some (.int l2), some (.int l3), some (.int (d_Mo_beyond l2 (0 : Int32) (7 : Int32))), some (.int (1 : Int32)), some (.int ((8 : Int32) + l2))], [.int (0 : Int32)], (223, kc, ks, pd_H g q35.2))) rfl ?_
              cases h
              exact ev_fin pp_Mo_out rfl
          · rw [hb34]
            refine ev_gos pp_Mo_out 1 (S' := (59, [some (.ref 198), some (.int l1), some (.int l2), some (.int l3), some (.int (d_Mo_beyond l2 (0 : Int32) (7 : Int32))), some (.int (1 : Int32)), some (.int ((8 : Int32) + l2))], [.int l3, .int (1 : Int32), .int (d_Mo_beyond l2 (0 : Int32) (7 : Int32)), .ref 198], (223, kc, ks, pd_H g v))) rfl ?_
            refine ev_gos pp_Mo_out 1 (S' := (bif decide (l3 < 0) then 79 else 62, [some (.ref 198), some (.int l1), some (.int l2), some (.int l3), some (.int (d_Mo_beyond l2 (0 : Int32) (7 : Int32))), some (.int (1 : Int32)), some (.int ((8 : Int32) + l2))], [.int (1 : Int32), .int (d_Mo_beyond l2 (0 : Int32) (7 : Int32)), .ref 198], (223, kc, ks, pd_H g v))) rfl ?_
            rcases pd_cases h with ⟨hb38, h⟩ | ⟨hb38, h⟩
            · rw [hb38]
              refine ev_gos pp_Mo_out 2 (S' := (84, [some (.ref 198), some (.int l1), some (.int l2), some (.int l3), some (.int (d_Mo_beyond l2 (0 : Int32) (7 : Int32))), some (.int (1 : Int32)), some (.int ((8 : Int32) + l2))], [.int (1 : Int32), .int (1 : Int32), .int (d_Mo_beyond l2 (0 : Int32) (7 : Int32)), .ref 198], (223, kc, ks, pd_H g v))) rfl ?_
              obtain ⟨q39, hq39, h⟩ := pd_bind h
              refine ev_callv pp_Mo_out rfl rfl rfl rfl (s_Mo_throwing hq39) ?_
              refine ev_gos pp_Mo_out 0 (S' := (87, [some (.ref 198), some (.int l1), some (.int l2), some (.int l3), some (.int (d_Mo_beyond l2 (0 : Int32) (7 : Int32))), some (.int (1 : Int32)), some (.int ((8 : Int32) + l2))], [.int q39.1], (223, kc, ks, pd_H g q39.2))) rfl ?_
              refine ev_gos pp_Mo_out 1 (S' := (bif decide (q39.1 = 0) then 92 else 90, [some (.ref 198), some (.int l1), some (.int l2), some (.int l3), some (.int (d_Mo_beyond l2 (0 : Int32) (7 : Int32))), some (.int (1 : Int32)), some (.int ((8 : Int32) + l2))], [], (223, kc, ks, pd_H g q39.2))) rfl ?_
              rcases pd_cases h with ⟨hb40, h⟩ | ⟨hb40, h⟩
              · rw [hb40]
                refine ev_gos pp_Mo_out 7 (S' := (103, [some (.ref 198), some (.int l1), some (.int l2), some (.int l3), some (.int (d_Mo_beyond l2 (0 : Int32) (7 : Int32))), some (.int (1 : Int32)), some (.int ((8 : Int32) + l2))], [.int (((20 : Int32) * ((8 : Int32) + l2)) + l3), .ref 206], (223, kc, ks, pd_H g q39.2))) rfl ?_
                obtain ⟨hc41, h⟩ := pd_chk h
                refine ev_iald pp_Mo_out rfl (fun _ => rfl) hc41 ?_
                refine ev_gos pp_Mo_out 0 (S' := (104, [some (.ref 198), some (.int l1), some (.int l2), some (.int l3), some (.int (d_Mo_beyond l2 (0 : Int32) (7 : Int32))), some (.int (1 : Int32)), some (.int ((8 : Int32) + l2))], [.int (q39.2 206 ((((20 : Int32) * ((8 : Int32) + l2)) + l3).toNatClampNeg))], (223, kc, ks, pd_H g q39.2))) rfl ?_
                cases h
                exact ev_fin pp_Mo_out rfl
              · rw [hb40]
                refine ev_gos pp_Mo_out 1 (S' := (91, [some (.ref 198), some (.int l1), some (.int l2), some (.int l3), some (.int (d_Mo_beyond l2 (0 : Int32) (7 : Int32))), some (.int (1 : Int32)), some (.int ((8 : Int32) + l2))], [.int (0 : Int32)], (223, kc, ks, pd_H g q39.2))) rfl ?_
                cases h
                exact ev_fin pp_Mo_out rfl
            · rw [hb38]
              refine ev_gos pp_Mo_out 2 (S' := (65, [some (.ref 198), some (.int l1), some (.int l2), some (.int l3), some (.int (d_Mo_beyond l2 (0 : Int32) (7 : Int32))), some (.int (1 : Int32)), some (.int ((8 : Int32) + l2))], [.int (20 : Int32), .int l3, .int (1 : Int32), .int (d_Mo_beyond l2 (0 : Int32) (7 : Int32)), .ref 198], (223, kc, ks, pd_H g v))) rfl ?_
              refine ev_gos pp_Mo_out 1 (S' := (bif decide ((20 : Int32) ≤ l3) then 79 else 68, [some (.ref 198), some (.int l1), some (.int l2), some (.int l3), some (.int (d_Mo_beyond l2 (0 : Int32) (7 : Int32))), some (.int (1 : Int32)), some (.int ((8 : Int32) + l2))], [.int (1 : Int32), .int (d_Mo_beyond l2 (0 : Int32) (7 : Int32)), .ref 198], (223, kc, ks, pd_H g v))) rfl ?_
              rcases pd_cases h with ⟨hb42, h⟩ | ⟨hb42, h⟩
              · rw [hb42]
                refine ev_gos pp_Mo_out 2 (S' := (84, [some (.ref 198), some (.int l1), some (.int l2), some (.int l3), some (.int (d_Mo_beyond l2 (0 : Int32) (7 : Int32))), some (.int (1 : Int32)), some (.int ((8 : Int32) + l2))], [.int (1 : Int32), .int (1 : Int32), .int (d_Mo_beyond l2 (0 : Int32) (7 : Int32)), .ref 198], (223, kc, ks, pd_H g v))) rfl ?_
                obtain ⟨q43, hq43, h⟩ := pd_bind h
                refine ev_callv pp_Mo_out rfl rfl rfl rfl (s_Mo_throwing hq43) ?_
                refine ev_gos pp_Mo_out 0 (S' := (87, [some (.ref 198), some (.int l1), some (.int l2), some (.int l3), some (.int (d_Mo_beyond l2 (0 : Int32) (7 : Int32))), some (.int (1 : Int32)), some (.int ((8 : Int32) + l2))], [.int q43.1], (223, kc, ks, pd_H g q43.2))) rfl ?_
                refine ev_gos pp_Mo_out 1 (S' := (bif decide (q43.1 = 0) then 92 else 90, [some (.ref 198), some (.int l1), some (.int l2), some (.int l3), some (.int (d_Mo_beyond l2 (0 : Int32) (7 : Int32))), some (.int (1 : Int32)), some (.int ((8 : Int32) + l2))], [], (223, kc, ks, pd_H g q43.2))) rfl ?_
                rcases pd_cases h with ⟨hb44, h⟩ | ⟨hb44, h⟩
                · rw [hb44]
                  refine ev_gos pp_Mo_out 7 (S' := (103, [some (.ref 198), some (.int l1), some (.int l2), some (.int l3), some (.int (d_Mo_beyond l2 (0 : Int32) (7 : Int32))), some (.int (1 : Int32)), some (.int ((8 : Int32) + l2))], [.int (((20 : Int32) * ((8 : Int32) + l2)) + l3), .ref 206], (223, kc, ks, pd_H g q43.2))) rfl ?_
                  obtain ⟨hc45, h⟩ := pd_chk h
                  refine ev_iald pp_Mo_out rfl (fun _ => rfl) hc45 ?_
                  refine ev_gos pp_Mo_out 0 (S' := (104, [some (.ref 198), some (.int l1), some (.int l2), some (.int l3), some (.int (d_Mo_beyond l2 (0 : Int32) (7 : Int32))), some (.int (1 : Int32)), some (.int ((8 : Int32) + l2))], [.int (q43.2 206 ((((20 : Int32) * ((8 : Int32) + l2)) + l3).toNatClampNeg))], (223, kc, ks, pd_H g q43.2))) rfl ?_
                  cases h
                  exact ev_fin pp_Mo_out rfl
                · rw [hb44]
                  refine ev_gos pp_Mo_out 1 (S' := (91, [some (.ref 198), some (.int l1), some (.int l2), some (.int l3), some (.int (d_Mo_beyond l2 (0 : Int32) (7 : Int32))), some (.int (1 : Int32)), some (.int ((8 : Int32) + l2))], [.int (0 : Int32)], (223, kc, ks, pd_H g q43.2))) rfl ?_
                  cases h
                  exact ev_fin pp_Mo_out rfl
              · rw [hb42]
                refine ev_gos pp_Mo_out 4 (S' := (75, [some (.ref 198), some (.int l1), some (.int l2), some (.int l3), some (.int (d_Mo_beyond l2 (0 : Int32) (7 : Int32))), some (.int (1 : Int32)), some (.int ((8 : Int32) + l2))], [.int ((8 : Int32) + l2), .ref 207, .int l3, .int (1 : Int32), .int (d_Mo_beyond l2 (0 : Int32) (7 : Int32)), .ref 198], (223, kc, ks, pd_H g v))) rfl ?_
                obtain ⟨hc46, h⟩ := pd_chk h
                refine ev_iald pp_Mo_out rfl (fun _ => rfl) hc46 ?_
                refine ev_gos pp_Mo_out 0 (S' := (76, [some (.ref 198), some (.int l1), some (.int l2), some (.int l3), some (.int (d_Mo_beyond l2 (0 : Int32) (7 : Int32))), some (.int (1 : Int32)), some (.int ((8 : Int32) + l2))], [.int (v 207 (((8 : Int32) + l2).toNatClampNeg)), .int l3, .int (1 : Int32), .int (d_Mo_beyond l2 (0 : Int32) (7 : Int32)), .ref 198], (223, kc, ks, pd_H g v))) rfl ?_
                refine ev_gos pp_Mo_out 1 (S' := (bif decide (l3 < (v 207 (((8 : Int32) + l2).toNatClampNeg))) then 83 else 79, [some (.ref 198), some (.int l1), some (.int l2), some (.int l3), some (.int (d_Mo_beyond l2 (0 : Int32) (7 : Int32))), some (.int (1 : Int32)), some (.int ((8 : Int32) + l2))], [.int (1 : Int32), .int (d_Mo_beyond l2 (0 : Int32) (7 : Int32)), .ref 198], (223, kc, ks, pd_H g v))) rfl ?_
                rcases pd_cases h with ⟨hb47, h⟩ | ⟨hb47, h⟩
                · rw [hb47]
                  refine ev_gos pp_Mo_out 1 (S' := (84, [some (.ref 198), some (.int l1), some (.int l2), some (.int l3), some (.int (d_Mo_beyond l2 (0 : Int32) (7 : Int32))), some (.int (1 : Int32)), some (.int ((8 : Int32) + l2))], [.int (0 : Int32), .int (1 : Int32), .int (d_Mo_beyond l2 (0 : Int32) (7 : Int32)), .ref 198], (223, kc, ks, pd_H g v))) rfl ?_
                  obtain ⟨q48, hq48, h⟩ := pd_bind h
                  refine ev_callv pp_Mo_out rfl rfl rfl rfl (s_Mo_throwing hq48) ?_
                  refine ev_gos pp_Mo_out 0 (S' := (87, [some (.ref 198), some (.int l1), some (.int l2), some (.int l3), some (.int (d_Mo_beyond l2 (0 : Int32) (7 : Int32))), some (.int (1 : Int32)), some (.int ((8 : Int32) + l2))], [.int q48.1], (223, kc, ks, pd_H g q48.2))) rfl ?_
                  refine ev_gos pp_Mo_out 1 (S' := (bif decide (q48.1 = 0) then 92 else 90, [some (.ref 198), some (.int l1), some (.int l2), some (.int l3), some (.int (d_Mo_beyond l2 (0 : Int32) (7 : Int32))), some (.int (1 : Int32)), some (.int ((8 : Int32) + l2))], [], (223, kc, ks, pd_H g q48.2))) rfl ?_
                  rcases pd_cases h with ⟨hb49, h⟩ | ⟨hb49, h⟩
                  · rw [hb49]
                    refine ev_gos pp_Mo_out 7 (S' := (103, [some (.ref 198), some (.int l1), some (.int l2), some (.int l3), some (.int (d_Mo_beyond l2 (0 : Int32) (7 : Int32))), some (.int (1 : Int32)), some (.int ((8 : Int32) + l2))], [.int (((20 : Int32) * ((8 : Int32) + l2)) + l3), .ref 206], (223, kc, ks, pd_H g q48.2))) rfl ?_
                    obtain ⟨hc50, h⟩ := pd_chk h
                    refine ev_iald pp_Mo_out rfl (fun _ => rfl) hc50 ?_
                    refine ev_gos pp_Mo_out 0 (S' := (104, [some (.ref 198), some (.int l1), some (.int l2), some (.int l3), some (.int (d_Mo_beyond l2 (0 : Int32) (7 : Int32))), some (.int (1 : Int32)), some (.int ((8 : Int32) + l2))], [.int (q48.2 206 ((((20 : Int32) * ((8 : Int32) + l2)) + l3).toNatClampNeg))], (223, kc, ks, pd_H g q48.2))) rfl ?_
                    cases h
                    exact ev_fin pp_Mo_out rfl
                  · rw [hb49]
                    refine ev_gos pp_Mo_out 1 (S' := (91, [some (.ref 198), some (.int l1), some (.int l2), some (.int l3), some (.int (d_Mo_beyond l2 (0 : Int32) (7 : Int32))), some (.int (1 : Int32)), some (.int ((8 : Int32) + l2))], [.int (0 : Int32)], (223, kc, ks, pd_H g q48.2))) rfl ?_
                    cases h
                    exact ev_fin pp_Mo_out rfl
                · rw [hb47]
                  refine ev_gos pp_Mo_out 2 (S' := (84, [some (.ref 198), some (.int l1), some (.int l2), some (.int l3), some (.int (d_Mo_beyond l2 (0 : Int32) (7 : Int32))), some (.int (1 : Int32)), some (.int ((8 : Int32) + l2))], [.int (1 : Int32), .int (1 : Int32), .int (d_Mo_beyond l2 (0 : Int32) (7 : Int32)), .ref 198], (223, kc, ks, pd_H g v))) rfl ?_
                  obtain ⟨q51, hq51, h⟩ := pd_bind h
                  refine ev_callv pp_Mo_out rfl rfl rfl rfl (s_Mo_throwing hq51) ?_
                  refine ev_gos pp_Mo_out 0 (S' := (87, [some (.ref 198), some (.int l1), some (.int l2), some (.int l3), some (.int (d_Mo_beyond l2 (0 : Int32) (7 : Int32))), some (.int (1 : Int32)), some (.int ((8 : Int32) + l2))], [.int q51.1], (223, kc, ks, pd_H g q51.2))) rfl ?_
                  refine ev_gos pp_Mo_out 1 (S' := (bif decide (q51.1 = 0) then 92 else 90, [some (.ref 198), some (.int l1), some (.int l2), some (.int l3), some (.int (d_Mo_beyond l2 (0 : Int32) (7 : Int32))), some (.int (1 : Int32)), some (.int ((8 : Int32) + l2))], [], (223, kc, ks, pd_H g q51.2))) rfl ?_
                  rcases pd_cases h with ⟨hb52, h⟩ | ⟨hb52, h⟩
                  · rw [hb52]
                    refine ev_gos pp_Mo_out 7 (S' := (103, [some (.ref 198), some (.int l1), some (.int l2), some (.int l3), some (.int (d_Mo_beyond l2 (0 : Int32) (7 : Int32))), some (.int (1 : Int32)), some (.int ((8 : Int32) + l2))], [.int (((20 : Int32) * ((8 : Int32) + l2)) + l3), .ref 206], (223, kc, ks, pd_H g q51.2))) rfl ?_
                    obtain ⟨hc53, h⟩ := pd_chk h
                    refine ev_iald pp_Mo_out rfl (fun _ => rfl) hc53 ?_
                    refine ev_gos pp_Mo_out 0 (S' := (104, [some (.ref 198), some (.int l1), some (.int l2), some (.int l3), some (.int (d_Mo_beyond l2 (0 : Int32) (7 : Int32))), some (.int (1 : Int32)), some (.int ((8 : Int32) + l2))], [.int (q51.2 206 ((((20 : Int32) * ((8 : Int32) + l2)) + l3).toNatClampNeg))], (223, kc, ks, pd_H g q51.2))) rfl ?_
                    cases h
                    exact ev_fin pp_Mo_out rfl
                  · rw [hb52]
                    refine ev_gos pp_Mo_out 1 (S' := (91, [some (.ref 198), some (.int l1), some (.int l2), some (.int l3), some (.int (d_Mo_beyond l2 (0 : Int32) (7 : Int32))), some (.int (1 : Int32)), some (.int ((8 : Int32) + l2))], [.int (0 : Int32)], (223, kc, ks, pd_H g q51.2))) rfl ?_
                    cases h
                    exact ev_fin pp_Mo_out rfl
end FN
