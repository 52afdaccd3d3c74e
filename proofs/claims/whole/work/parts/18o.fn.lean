section FN
variable {xs : Nat → Int32} {L : Nat} {g : Nat → Int64} {d kc ks : Nat}
theorem pp_Mo_lane {xs : Nat → Int32} {L : Nat} : (pj_P xs L 151).1 = fun S => pm_look tb_Mo_lane S.1 S := rfl
def d_Mo_lane_120  (v : pd_V) : Option (Int32 × pd_V) :=
  some ((1 : Int32), v)
theorem s_Mo_lane_120 : ∀  (v : pd_V) (y1 : Int32) (y2 : Int32) (y3 : Int32) (y4 : Int32) (y5 : Int32) (q : (Int32 × pd_V)) , d_Mo_lane_120 v = some q → pm_ev (pj_P xs L) (d + 1) 151 (120, [some (.ref 198), some (.int y1), some (.int y2), some (.int y3), some (.int y4), some (.int y5)], [], (223, kc, ks, pd_H g v)) (.inl (some (.int q.1)), (223, kc, ks, pd_H g q.2)) := by
  intro v y1 y2 y3 y4 y5 q h
  unfold d_Mo_lane_120 at h
  refine ev_gos pp_Mo_lane 2 (S' := (125, [some (.ref 198), some (.int y1), some (.int y2), some (.int y3), some (.int y4), some (.int y5)], [.int (1 : Int32)], (223, kc, ks, pd_H g v))) rfl ?_
  cases h
  exact ev_fin pp_Mo_lane rfl
def d_Mo_lane_124  (v : pd_V) : Option (Int32 × pd_V) :=
  some ((0 : Int32), v)
theorem s_Mo_lane_124 : ∀  (v : pd_V) (y1 : Int32) (y2 : Int32) (y3 : Int32) (y4 : Int32) (y5 : Int32) (q : (Int32 × pd_V)) , d_Mo_lane_124 v = some q → pm_ev (pj_P xs L) (d + 1) 151 (124, [some (.ref 198), some (.int y1), some (.int y2), some (.int y3), some (.int y4), some (.int y5)], [], (223, kc, ks, pd_H g v)) (.inl (some (.int q.1)), (223, kc, ks, pd_H g q.2)) := by
  intro v y1 y2 y3 y4 y5 q h
  unfold d_Mo_lane_124 at h
  refine ev_gos pp_Mo_lane 1 (S' := (125, [some (.ref 198), some (.int y1), some (.int y2), some (.int y3), some (.int y4), some (.int y5)], [.int (0 : Int32)], (223, kc, ks, pd_H g v))) rfl ?_
  cases h
  exact ev_fin pp_Mo_lane rfl
def d_Mo_lane_19 (l1 : Int32) (l2 : Int32) (l3 : Int32) (v : pd_V) : Option (Int32 × pd_V) :=
  bif !(decide ((1 : Int32) = 0)) then
    (d_Mo_throwing (1 : Int32) (0 : Int32) (0 : Int32) v).bind fun q2 =>
    bif decide (q2.1 = 0) then
      bif decide (l1 = 0) then
        bif !(decide (l3 = 0)) then
          bif !(decide (l3 = (1 : Int32))) then
            bif pm_in l2 16 then
            bif !(decide ((q2.2 209 l2.toNatClampNeg) = 0)) then
              d_Mo_lane_120 q2.2
            else
              bif !(decide (l1 = 0)) then
                d_Mo_lane_124 q2.2
              else
                bif !(decide ((q2.2 198 26) = 0)) then
                  d_Mo_lane_124 q2.2
                else
                  d_Mo_lane_120 q2.2
            else none
          else
            bif pm_in l2 16 then
            some ((q2.2 208 l2.toNatClampNeg), q2.2)
            else none
        else
          bif pm_in l2 16 then
          some ((q2.2 207 l2.toNatClampNeg), q2.2)
          else none
      else
        bif !(decide (l3 = 0)) then
          bif !(decide (l3 = (1 : Int32))) then
            bif pm_in ((8 : Int32) + l2) 16 then
            bif !(decide ((q2.2 209 (((8 : Int32) + l2).toNatClampNeg)) = 0)) then
              d_Mo_lane_120 q2.2
            else
              bif !(decide (l1 = 0)) then
                d_Mo_lane_124 q2.2
              else
                bif !(decide ((q2.2 198 26) = 0)) then
                  d_Mo_lane_124 q2.2
                else
                  d_Mo_lane_120 q2.2
            else none
          else
            bif pm_in ((8 : Int32) + l2) 16 then
            some ((q2.2 208 (((8 : Int32) + l2).toNatClampNeg)), q2.2)
            else none
        else
          bif pm_in ((8 : Int32) + l2) 16 then
          some ((q2.2 207 (((8 : Int32) + l2).toNatClampNeg)), q2.2)
          else none
    else
      some ((0 : Int32), q2.2)
  else
    bif decide ((d_Mo_isNot l1 v) = 0) then
      (d_Mo_throwing (1 : Int32) (0 : Int32) (0 : Int32) v).bind fun q23 =>
      bif decide (q23.1 = 0) then
        bif decide (l1 = 0) then
          bif !(decide (l3 = 0)) then
            bif !(decide (l3 = (1 : Int32))) then
              bif pm_in l2 16 then
              bif !(decide ((q23.2 209 l2.toNatClampNeg) = 0)) then
                d_Mo_lane_120 q23.2
              else
                bif !(decide (l1 = 0)) then
                  d_Mo_lane_124 q23.2
                else
                  bif !(decide ((q23.2 198 26) = 0)) then
                    d_Mo_lane_124 q23.2
                  else
                    d_Mo_lane_120 q23.2
              else none
            else
              bif pm_in l2 16 then
              some ((q23.2 208 l2.toNatClampNeg), q23.2)
              else none
          else
            bif pm_in l2 16 then
            some ((q23.2 207 l2.toNatClampNeg), q23.2)
            else none
        else
          bif !(decide (l3 = 0)) then
            bif !(decide (l3 = (1 : Int32))) then
              bif pm_in ((8 : Int32) + l2) 16 then
              bif !(decide ((q23.2 209 (((8 : Int32) + l2).toNatClampNeg)) = 0)) then
                d_Mo_lane_120 q23.2
              else
                bif !(decide (l1 = 0)) then
                  d_Mo_lane_124 q23.2
                else
                  bif !(decide ((q23.2 198 26) = 0)) then
                    d_Mo_lane_124 q23.2
                  else
                    d_Mo_lane_120 q23.2
              else none
            else
              bif pm_in ((8 : Int32) + l2) 16 then
              some ((q23.2 208 (((8 : Int32) + l2).toNatClampNeg)), q23.2)
              else none
          else
            bif pm_in ((8 : Int32) + l2) 16 then
            some ((q23.2 207 (((8 : Int32) + l2).toNatClampNeg)), q23.2)
            else none
      else
        some ((0 : Int32), q23.2)
    else
      (d_Mo_throwing (1 : Int32) (1 : Int32) (0 : Int32) v).bind fun q42 =>
      bif decide (q42.1 = 0) then
        bif decide (l1 = 0) then
          bif !(decide (l3 = 0)) then
            bif !(decide (l3 = (1 : Int32))) then
              bif pm_in l2 16 then
              bif !(decide ((q42.2 209 l2.toNatClampNeg) = 0)) then
                d_Mo_lane_120 q42.2
              else
                bif !(decide (l1 = 0)) then
                  d_Mo_lane_124 q42.2
                else
                  bif !(decide ((q42.2 198 26) = 0)) then
                    d_Mo_lane_124 q42.2
                  else
                    d_Mo_lane_120 q42.2
              else none
            else
              bif pm_in l2 16 then
              some ((q42.2 208 l2.toNatClampNeg), q42.2)
              else none
          else
            bif pm_in l2 16 then
            some ((q42.2 207 l2.toNatClampNeg), q42.2)
            else none
        else
          bif !(decide (l3 = 0)) then
            bif !(decide (l3 = (1 : Int32))) then
              bif pm_in ((8 : Int32) + l2) 16 then
              bif !(decide ((q42.2 209 (((8 : Int32) + l2).toNatClampNeg)) = 0)) then
                d_Mo_lane_120 q42.2
              else
                bif !(decide (l1 = 0)) then
                  d_Mo_lane_124 q42.2
                else
                  bif !(decide ((q42.2 198 26) = 0)) then
                    d_Mo_lane_124 q42.2
                  else
                    d_Mo_lane_120 q42.2
              else none
            else
              bif pm_in ((8 : Int32) + l2) 16 then
              some ((q42.2 208 (((8 : Int32) + l2).toNatClampNeg)), q42.2)
              else none
          else
            bif pm_in ((8 : Int32) + l2) 16 then
            some ((q42.2 207 (((8 : Int32) + l2).toNatClampNeg)), q42.2)
            else none
      else
        some ((0 : Int32), q42.2)
theorem s_Mo_lane_19 : ∀ (l1 : Int32) (l2 : Int32) (l3 : Int32) (v : pd_V) (y4 : Option Value) (y5 : Option Value) (q : (Int32 × pd_V)) , d_Mo_lane_19 l1 l2 l3 v = some q → pm_ev (pj_P xs L) (d + 1) 151 (19, [some (.ref 198), some (.int l1), some (.int l2), some (.int l3), y4, y5], [], (223, kc, ks, pd_H g v)) (.inl (some (.int q.1)), (223, kc, ks, pd_H g q.2)) := by
  intro l1 l2 l3 v y4 y5 q h
  unfold d_Mo_lane_19 at h
  refine ev_gos pp_Mo_lane 6 (S' := (31, [some (.ref 198), some (.int l1), some (.int l2), some (.int l3), some (.int (1 : Int32)), y5], [.int (1 : Int32), .int (1 : Int32), .ref 198], (223, kc, ks, pd_H g v))) rfl ?_
  refine ev_gos pp_Mo_lane 1 (S' := (bif !(decide ((1 : Int32) = 0)) then 46 else 34, [some (.ref 198), some (.int l1), some (.int l2), some (.int l3), some (.int (1 : Int32)), y5], [.int (1 : Int32), .ref 198], (223, kc, ks, pd_H g v))) rfl ?_
  rcases pd_cases h with ⟨hb1, h⟩ | ⟨hb1, h⟩
  · rw [hb1]
    refine ev_gos pp_Mo_lane 2 (S' := (48, [some (.ref 198), some (.int l1), some (.int l2), some (.int l3), some (.int (1 : Int32)), y5], [.int (0 : Int32), .int (0 : Int32), .int (1 : Int32), .ref 198], (223, kc, ks, pd_H g v))) rfl ?_
    obtain ⟨q2, hq2, h⟩ := pd_bind h
    refine ev_callv pp_Mo_lane rfl rfl rfl rfl (s_Mo_throwing hq2) ?_
    refine ev_gos pp_Mo_lane 0 (S' := (51, [some (.ref 198), some (.int l1), some (.int l2), some (.int l3), some (.int (1 : Int32)), y5], [.int q2.1], (223, kc, ks, pd_H g q2.2))) rfl ?_
    refine ev_gos pp_Mo_lane 1 (S' := (bif decide (q2.1 = 0) then 56 else 54, [some (.ref 198), some (.int l1), some (.int l2), some (.int l3), some (.int (1 : Int32)), y5], [], (223, kc, ks, pd_H g q2.2))) rfl ?_
    rcases pd_cases h with ⟨hb3, h⟩ | ⟨hb3, h⟩
    · rw [hb3]
      refine ev_gos pp_Mo_lane 1 (S' := (57, [some (.ref 198), some (.int l1), some (.int l2), some (.int l3), some (.int (1 : Int32)), y5], [.int l1], (223, kc, ks, pd_H g q2.2))) rfl ?_
      refine ev_gos pp_Mo_lane 1 (S' := (bif decide (l1 = 0) then 67 else 60, [some (.ref 198), some (.int l1), some (.int l2), some (.int l3), some (.int (1 : Int32)), y5], [], (223, kc, ks, pd_H g q2.2))) rfl ?_
      rcases pd_cases h with ⟨hb4, h⟩ | ⟨hb4, h⟩
      · rw [hb4]
        refine ev_gos pp_Mo_lane 3 (S' := (71, [some (.ref 198), some (.int l1), some (.int l2), some (.int l3), some (.int (1 : Int32)), some (.int l2)], [.int l3], (223, kc, ks, pd_H g q2.2))) rfl ?_
        refine ev_gos pp_Mo_lane 1 (S' := (bif !(decide (l3 = 0)) then 84 else 74, [some (.ref 198), some (.int l1), some (.int l2), some (.int l3), some (.int (1 : Int32)), some (.int l2)], [], (223, kc, ks, pd_H g q2.2))) rfl ?_
        rcases pd_cases h with ⟨hb5, h⟩ | ⟨hb5, h⟩
        · rw [hb5]
          refine ev_gos pp_Mo_lane 2 (S' := (86, [some (.ref 198), some (.int l1), some (.int l2), some (.int l3), some (.int (1 : Int32)), some (.int l2)], [.int (1 : Int32), .int l3], (223, kc, ks, pd_H g q2.2))) rfl ?_
          refine ev_gos pp_Mo_lane 1 (S' := (bif !(decide (l3 = (1 : Int32))) then 99 else 89, [some (.ref 198), some (.int l1), some (.int l2), some (.int l3), some (.int (1 : Int32)), some (.int l2)], [], (223, kc, ks, pd_H g q2.2))) rfl ?_
          rcases pd_cases h with ⟨hb6, h⟩ | ⟨hb6, h⟩
          · rw [hb6]
            refine ev_gos pp_Mo_lane 3 (S' := (105, [some (.ref 198), some (.int l1), some (.int l2), some (.int l3), some (.int (1 : Int32)), some (.int l2)], [.int l2, .ref 209], (223, kc, ks, pd_H g q2.2))) rfl ?_
            obtain ⟨hc7, h⟩ := pd_chk h
            refine ev_zald pp_Mo_lane rfl (fun _ => rfl) hc7 ?_
            refine ev_gos pp_Mo_lane 0 (S' := (106, [some (.ref 198), some (.int l1), some (.int l2), some (.int l3), some (.int (1 : Int32)), some (.int l2)], [.int (q2.2 209 l2.toNatClampNeg)], (223, kc, ks, pd_H g q2.2))) rfl ?_
            refine ev_gos pp_Mo_lane 1 (S' := (bif !(decide ((q2.2 209 l2.toNatClampNeg) = 0)) then 120 else 109, [some (.ref 198), some (.int l1), some (.int l2), some (.int l3), some (.int (1 : Int32)), some (.int l2)], [], (223, kc, ks, pd_H g q2.2))) rfl ?_
            rcases pd_cases h with ⟨hb8, h⟩ | ⟨hb8, h⟩
            · rw [hb8]
              refine ev_gos pp_Mo_lane 0 (S' := (120, [some (.ref 198), some (.int l1), some (.int l2), some (.int l3), some (.int (1 : Int32)), some (.int l2)], [], (223, kc, ks, pd_H g q2.2))) rfl ?_
              exact s_Mo_lane_120 _ _ _ _ _ _ _  h
            · rw [hb8]
              refine ev_gos pp_Mo_lane 1 (S' := (110, [some (.ref 198), some (.int l1), some (.int l2), some (.int l3), some (.int (1 : Int32)), some (.int l2)], [.int l1], (223, kc, ks, pd_H g q2.2))) rfl ?_
              refine ev_gos pp_Mo_lane 1 (S' := (bif !(decide (l1 = 0)) then 124 else 113, [some (.ref 198), some (.int l1), some (.int l2), some (.int l3), some (.int (1 : Int32)), some (.int l2)], [], (223, kc, ks, pd_H g q2.2))) rfl ?_
              rcases pd_cases h with ⟨hb9, h⟩ | ⟨hb9, h⟩
              · rw [hb9]
                refine ev_gos pp_Mo_lane 0 (S' := (124, [some (.ref 198), some (.int l1), some (.int l2), some (.int l3), some (.int (1 : Int32)), some (.int l2)], [], (223, kc, ks, pd_H g q2.2))) rfl ?_
                exact s_Mo_lane_124 _ _ _ _ _ _ _  h
              · rw [hb9]
                refine ev_gos pp_Mo_lane 2 (S' := (117, [some (.ref 198), some (.int l1), some (.int l2), some (.int l3), some (.int (1 : Int32)), some (.int l2)], [.int (q2.2 198 26)], (223, kc, ks, pd_H g q2.2))) rfl ?_
                refine ev_gos pp_Mo_lane 1 (S' := (bif !(decide ((q2.2 198 26) = 0)) then 124 else 120, [some (.ref 198), some (.int l1), some (.int l2), some (.int l3), some (.int (1 : Int32)), some (.int l2)], [], (223, kc, ks, pd_H g q2.2))) rfl ?_
                rcases pd_cases h with ⟨hb10, h⟩ | ⟨hb10, h⟩
                · rw [hb10]
                  refine ev_gos pp_Mo_lane 0 (S' := (124, [some (.ref 198), some (.int l1), some (.int l2), some (.int l3), some (.int (1 : Int32)), some (.int l2)], [], (223, kc, ks, pd_H g q2.2))) rfl ?_
                  exact s_Mo_lane_124 _ _ _ _ _ _ _  h
                · rw [hb10]
                  refine ev_gos pp_Mo_lane 0 (S' := (120, [some (.ref 198), some (.int l1), some (.int l2), some (.int l3), some (.int (1 : Int32)), some (.int l2)], [], (223, kc, ks, pd_H g q2.2))) rfl ?_
                  exact s_Mo_lane_120 _ _ _ _ _ _ _  h
          · rw [hb6]
            refine ev_gos pp_Mo_lane 3 (S' := (95, [some (.ref 198), some (.int l1), some (.int l2), some (.int l3), some (.int (1 : Int32)), some (.int l2)], [.int l2, .ref 208], (223, kc, ks, pd_H g q2.2))) rfl ?_
            obtain ⟨hc11, h⟩ := pd_chk h
            refine ev_iald pp_Mo_lane rfl (fun _ => rfl) hc11 ?_
            refine ev_gos pp_Mo_lane 1 (S' := (125, [some (.ref 198), some (.int l1), some (.int l2), some (.int l3), some (.int (1 : Int32)), some (.int l2)], [.int (q2.2 208 l2.toNatClampNeg)], (223, kc, ks, pd_H g q2.2))) rfl ?_
            cases h
            exact ev_fin pp_Mo_lane rfl
        · rw [hb5]
          refine ev_gos pp_Mo_lane 3 (S' := (80, [some (.ref 198), some (.int l1), some (.int l2), some (.int l3), some (.int (1 : Int32)), some (.int l2)], [.int l2, .ref 207], (223, kc, ks, pd_H g q2.2))) rfl ?_
          obtain ⟨hc12, h⟩ := pd_chk h
          refine ev_iald pp_Mo_lane rfl (fun _ => rfl) hc12 ?_
          refine ev_gos pp_Mo_lane 1 (S' := (125, [some (.ref 198), some (.int l1), some (.int l2), some (.int l3), some (.int (1 : Int32)), some (.int l2)], [.int (q2.2 207 l2.toNatClampNeg)], (223, kc, ks, pd_H g q2.2))) rfl ?_
          cases h
          exact ev_fin pp_Mo_lane rfl
      · rw [hb4]
        refine ev_gos pp_Mo_lane 6 (S' := (71, [some (.ref 198), some (.int l1), some (.int l2), some (.int l3), some (.int (1 : Int32)), some (.int ((8 : Int32) + l2))], [.int l3], (223, kc, ks, pd_H g q2.2))) rfl ?_
        refine ev_gos pp_Mo_lane 1 (S' := (bif !(decide (l3 = 0)) then 84 else 74, [some (.ref 198), some (.int l1), some (.int l2), some (.int l3), some (.int (1 : Int32)), some (.int ((8 : Int32) + l2))], [], (223, kc, ks, pd_H g q2.2))) rfl ?_
        rcases pd_cases h with ⟨hb13, h⟩ | ⟨hb13, h⟩
        · rw [hb13]
          refine ev_gos pp_Mo_lane 2 (S' := (86, [some (.ref 198), some (.int l1), some (.int l2), some (.int l3), some (.int (1 : Int32)), some (.int ((8 : Int32) + l2))], [.int (1 : Int32), .int l3], (223, kc, ks, pd_H g q2.2))) rfl ?_
          refine ev_gos pp_Mo_lane 1 (S' := (bif !(decide (l3 = (1 : Int32))) then 99 else 89, [some (.ref 198), some (.int l1), some (.int l2), some (.int l3), some (.int (1 : Int32)), some (.int ((8 : Int32) + l2))], [], (223, kc, ks, pd_H g q2.2))) rfl ?_
          rcases pd_cases h with ⟨hb14, h⟩ | ⟨hb14, h⟩
          · rw [hb14]
            refine ev_gos pp_Mo_lane 3 (S' := (105, [some (.ref 198), some (.int l1), some (.int l2), some (.int l3), some (.int (1 : Int32)), some (.int ((8 : Int32) + l2))], [.int ((8 : Int32) + l2), .ref 209], (223, kc, ks, pd_H g q2.2))) rfl ?_
            obtain ⟨hc15, h⟩ := pd_chk h
            refine ev_zald pp_Mo_lane rfl (fun _ => rfl) hc15 ?_
            refine ev_gos pp_Mo_lane 0 (S' := (106, [some (.ref 198), some (.int l1), some (.int l2), some (.int l3), some (.int (1 : Int32)), some (.int ((8 : Int32) + l2))], [.int (q2.2 209 (((8 : Int32) + l2).toNatClampNeg))], (223, kc, ks, pd_H g q2.2))) rfl ?_
            refine ev_gos pp_Mo_lane 1 (S' := (bif !(decide ((q2.2 209 (((8 : Int32) + l2).toNatClampNeg)) = 0)) then 120 else 109, [some (.ref 198), some (.int l1), some (.int l2), some (.int l3), some (.int (1 : Int32)), some (.int ((8 : Int32) + l2))], [], (223, kc, ks, pd_H g q2.2))) rfl ?_
            rcases pd_cases h with ⟨hb16, h⟩ | ⟨hb16, h⟩
            · rw [hb16]
              refine ev_gos pp_Mo_lane 0 (S' := (120, [some (.ref 198), some (.int l1), some (.int l2), some (.int l3), some (.int (1 : Int32)), some (.int ((8 : Int32) + l2))], [], (223, kc, ks, pd_H g q2.2))) rfl ?_
              exact s_Mo_lane_120 _ _ _ _ _ _ _  h
            · rw [hb16]
              refine ev_gos pp_Mo_lane 1 (S' := (110, [some (.ref 198), some (.int l1), some (.int l2), some (.int l3), some (.int (1 : Int32)), some (.int ((8 : Int32) + l2))], [.int l1], (223, kc, ks, pd_H g q2.2))) rfl ?_
              refine ev_gos pp_Mo_lane 1 (S' := (bif !(decide (l1 = 0)) then 124 else 113, [some (.ref 198), some (.int l1), some (.int l2), some (.int l3), some (.int (1 : Int32)), some (.int ((8 : Int32) + l2))], [], (223, kc, ks, pd_H g q2.2))) rfl ?_
              rcases pd_cases h with ⟨hb17, h⟩ | ⟨hb17, h⟩
              · rw [hb17]
                refine ev_gos pp_Mo_lane 0 (S' := (124, [some (.ref 198), some (.int l1), some (.int l2), some (.int l3), some (.int (1 : Int32)), some (.int ((8 : Int32) + l2))], [], (223, kc, ks, pd_H g q2.2))) rfl ?_
                exact s_Mo_lane_124 _ _ _ _ _ _ _  h
              · rw [hb17]
                refine ev_gos pp_Mo_lane 2 (S' := (117, [some (.ref 198), some (.int l1), some (.int l2), some (.int l3), some (.int (1 : Int32)), some (.int ((8 : Int32) + l2))], [.int (q2.2 198 26)], (223, kc, ks, pd_H g q2.2))) rfl ?_
                refine ev_gos pp_Mo_lane 1 (S' := (bif !(decide ((q2.2 198 26) = 0)) then 124 else 120, [some (.ref 198), some (.int l1), some (.int l2), some (.int l3), some (.int (1 : Int32)), some (.int ((8 : Int32) + l2))], [], (223, kc, ks, pd_H g q2.2))) rfl ?_
                rcases pd_cases h with ⟨hb18, h⟩ | ⟨hb18, h⟩
                · rw [hb18]
                  refine ev_gos pp_Mo_lane 0 (S' := (124, [some (.ref 198), some (.int l1), some (.int l2), some (.int l3), some (.int (1 : Int32)), some (.int ((8 : Int32) + l2))], [], (223, kc, ks, pd_H g q2.2))) rfl ?_
                  exact s_Mo_lane_124 _ _ _ _ _ _ _  h
                · rw [hb18]
                  refine ev_gos pp_Mo_lane 0 (S' := (120, [some (.ref 198), some (.int l1), some (.int l2), some (.int l3), some (.int (1 : Int32)), some (.int ((8 : Int32) + l2))], [], (223, kc, ks, pd_H g q2.2))) rfl ?_
                  exact s_Mo_lane_120 _ _ _ _ _ _ _  h
          · rw [hb14]
            refine ev_gos pp_Mo_lane 3 (S' := (95, [some (.ref 198), some (.int l1), some (.int l2), some (.int l3), some (.int (1 : Int32)), some (.int ((8 : Int32) + l2))], [.int ((8 : Int32) + l2), .ref 208], (223, kc, ks, pd_H g q2.2))) rfl ?_
            obtain ⟨hc19, h⟩ := pd_chk h
            refine ev_iald pp_Mo_lane rfl (fun _ => rfl) hc19 ?_
            refine ev_gos pp_Mo_lane 1 (S' := (125, [some (.ref 198), some (.int l1), some (.int l2), some (.int l3), some (.int (1 : Int32)), some (.int ((8 : Int32) + l2))], [.int (q2.2 208 (((8 : Int32) + l2).toNatClampNeg))], (223, kc, ks, pd_H g q2.2))) rfl ?_
            cases h
            exact ev_fin pp_Mo_lane rfl
        · rw [hb13]
          refine ev_gos pp_Mo_lane 3 (S' := (80, [some (.ref 198), some (.int l1), some (.int l2), some (.int l3), some (.int (1 : Int32)), some (.int ((8 : Int32) + l2))], [.int ((8 : Int32) + l2), .ref 207], (223, kc, ks, pd_H g q2.2))) rfl ?_
          obtain ⟨hc20, h⟩ := pd_chk h
          refine ev_iald pp_Mo_lane rfl (fun _ => rfl) hc20 ?_
          refine ev_gos pp_Mo_lane 1 (S' := (125, [some (.ref 198), some (.int l1), some (.int l2), some (.int l3), some (.int (1 : Int32)), some (.int ((8 : Int32) + l2))], [.int (q2.2 207 (((8 : Int32) + l2).toNatClampNeg))], (223, kc, ks, pd_H g q2.2))) rfl ?_
          cases h
          exact ev_fin pp_Mo_lane rfl
    · rw [hb3]
      refine ev_gos pp_Mo_lane 1 (S' := (55, [some (.ref 198), some (.int l1), some (.int l2), some (.int l3), some (.int (1 : Int32)), y5], [.int (0 : Int32)], (223, kc, ks, pd_H g q2.2))) rfl ?_
      cases h
      exact ev_fin pp_Mo_lane rfl
  · rw [hb1]
    refine ev_gos pp_Mo_lane 2 (S' := (36, [some (.ref 198), some (.int l1), some (.int l2), some (.int l3), some (.int (1 : Int32)), y5], [.int l1, .ref 198, .int (1 : Int32), .ref 198], (223, kc, ks, pd_H g v))) rfl ?_
    refine ev_callv pp_Mo_lane rfl rfl rfl rfl (s_Mo_isNot) ?_
    refine ev_gos pp_Mo_lane 0 (S' := (39, [some (.ref 198), some (.int l1), some (.int l2), some (.int l3), some (.int (1 : Int32)), y5], [.int (d_Mo_isNot l1 v), .int (1 : Int32), .ref 198], (223, kc, ks, pd_H g v))) rfl ?_
    refine ev_gos pp_Mo_lane 1 (S' := (bif decide ((d_Mo_isNot l1 v) = 0) then 46 else 42, [some (.ref 198), some (.int l1), some (.int l2), some (.int l3), some (.int (1 : Int32)), y5], [.int (1 : Int32), .ref 198], (223, kc, ks, pd_H g v))) rfl ?_
    rcases pd_cases h with ⟨hb22, h⟩ | ⟨hb22, h⟩
    · rw [hb22]
      refine ev_gos pp_Mo_lane 2 (S' := (48, [some (.ref 198), some (.int l1), some (.int l2), some (.int l3), some (.int (1 : Int32)), y5], [.int (0 : Int32), .int (0 : Int32), .int (1 : Int32), .ref 198], (223, kc, ks, pd_H g v))) rfl ?_
      obtain ⟨q23, hq23, h⟩ := pd_bind h
      refine ev_callv pp_Mo_lane rfl rfl rfl rfl (s_Mo_throwing hq23) ?_
      refine ev_gos pp_Mo_lane 0 (S' := (51, [some (.ref 198), some (.int l1), some (.int l2), some (.int l3), some (.int (1 : Int32)), y5], [.int q23.1], (223, kc, ks, pd_H g q23.2))) rfl ?_
      refine ev_gos pp_Mo_lane 1 (S' := (bif decide (q23.1 = 0) then 56 else 54, [some (.ref 198), some (.int l1), some (.int l2), some (.int l3), some (.int (1 : Int32)), y5], [], (223, kc, ks, pd_H g q23.2))) rfl ?_
      rcases pd_cases h with ⟨hb24, h⟩ | ⟨hb24, h⟩
      · rw [hb24]
        refine ev_gos pp_Mo_lane 1 (S' := (57, [some (.ref 198), some (.int l1), some (.int l2), some (.int l3), some (.int (1 : Int32)), y5], [.int l1], (223, kc, ks, pd_H g q23.2))) rfl ?_
        refine ev_gos pp_Mo_lane 1 (S' := (bif decide (l1 = 0) then 67 else 60, [some (.ref 198), some (.int l1), some (.int l2), some (.int l3), some (.int (1 : Int32)), y5], [], (223, kc, ks, pd_H g q23.2))) rfl ?_
        rcases pd_cases h with ⟨hb25, h⟩ | ⟨hb25, h⟩
        · rw [hb25]
          refine ev_gos pp_Mo_lane 3 (S' := (71, [some (.ref 198), some (.int l1), some (.int l2), some (.int l3), some (.int (1 : Int32)), some (.int l2)], [.int l3], (223, kc, ks, pd_H g q23.2))) rfl ?_
          refine ev_gos pp_Mo_lane 1 (S' := (bif !(decide (l3 = 0)) then 84 else 74, [some (.ref 198), some (.int l1), some (.int l2), some (.int l3), some (.int (1 : Int32)), some (.int l2)], [], (223, kc, ks, pd_H g q23.2))) rfl ?_
          rcases pd_cases h with ⟨hb26, h⟩ | ⟨hb26, h⟩
          · rw [hb26]
            refine ev_gos pp_Mo_lane 2 (S' := (86, [some (.ref 198), some (.int l1), some (.int l2), some (.int l3), some (.int (1 : Int32)), some (.int l2)], [.int (1 : Int32), .int l3], (223, kc, ks, pd_H g q23.2))) rfl ?_
            refine ev_gos pp_Mo_lane 1 (S' := (bif !(decide (l3 = (1 : Int32))) then 99 else 89, [some (.ref 198), some (.int l1), some (.int l2), some (.int l3), some (.int (1 : Int32)), some (.int l2)], [], (223, kc, ks, pd_H g q23.2))) rfl ?_
            rcases pd_cases h with ⟨hb27, h⟩ | ⟨hb27, h⟩
            · rw [hb27]
              refine ev_gos pp_Mo_lane 3 (S' := (105, [some (.ref 198), some (.int l1), some (.int l2), some (.int l3), some (.int (1 : Int32)), some (.int l2)], [.int l2, .ref 209], (223, kc, ks, pd_H g q23.2))) rfl ?_
              obtain ⟨hc28, h⟩ := pd_chk h
              refine ev_zald pp_Mo_lane rfl (fun _ => rfl) hc28 ?_
              refine ev_gos pp_Mo_lane 0 (S' := (106, [some (.ref 198), some (.int l1), some (.int l2), some (.int l3), some (.int (1 : Int32)), some (.int l2)], [.int (q23.2 209 l2.toNatClampNeg)], (223, kc, ks, pd_H g q23.2))) rfl ?_
              refine ev_gos pp_Mo_lane 1 (S' := (bif !(decide ((q23.2 209 l2.toNatClampNeg) = 0)) then 120 else 109, [some (.ref 198), some (.int l1), some (.int l2), some (.int l3), some (.int (1 : Int32)), some (.int l2)], [], (223, kc, ks, pd_H g q23.2))) rfl ?_
              rcases pd_cases h with ⟨hb29, h⟩ | ⟨hb29, h⟩
              · rw [hb29]
                refine ev_gos pp_Mo_lane 0 (S' := (120, [some (.ref 198), some (.int l1), some (.int l2), some (.int l3), some (.int (1 : Int32)), some (.int l2)], [], (223, kc, ks, pd_H g q23.2))) rfl ?_
                exact s_Mo_lane_120 _ _ _ _ _ _ _  h
              · rw [hb29]
                refine ev_gos pp_Mo_lane 1 (S' := (110, [some (.ref 198), some (.int l1), some (.int l2), some (.int l3), some (.int (1 : Int32)), some (.int l2)], [.int l1], (223, kc, ks, pd_H g q23.2))) rfl ?_
                refine ev_gos pp_Mo_lane 1 (S' := (bif !(decide (l1 = 0)) then 124 else 113, [some (.ref 198), some (.int l1), some (.int l2), some (.int l3), some (.int (1 : Int32)), some (.int l2)], [], (223, kc, ks, pd_H g q23.2))) rfl ?_
                rcases pd_cases h with ⟨hb30, h⟩ | ⟨hb30, h⟩
                · rw [hb30]
                  refine ev_gos pp_Mo_lane 0 (S' := (124, [some (.ref 198), some (.int l1), some (.int l2), some (.int l3), some (.int (1 : Int32)), some (.int l2)], [], (223, kc, ks, pd_H g q23.2))) rfl ?_
                  exact s_Mo_lane_124 _ _ _ _ _ _ _  h
                · rw [hb30]
                  refine ev_gos pp_Mo_lane 2 (S' := (117, [some (.ref 198), some (.int l1), some (.int l2), some (.int l3), some (.int (1 : Int32)), some (.int l2)], [.int (q23.2 198 26)], (223, kc, ks, pd_H g q23.2))) rfl ?_
                  refine ev_gos pp_Mo_lane 1 (S' := (bif !(decide ((q23.2 198 26) = 0)) then 124 else 120, [some (.ref 198), some (.int l1), some (.int l2), some (.int l3), some (.int (1 : Int32)), some (.int l2)], [], (223, kc, ks, pd_H g q23.2))) rfl ?_
                  rcases pd_cases h with ⟨hb31, h⟩ | ⟨hb31, h⟩
                  · rw [hb31]
                    refine ev_gos pp_Mo_lane 0 (S' := (124, [some (.ref 198), some (.int l1), some (.int l2), some (.int l3), some (.int (1 : Int32)), some (.int l2)], [], (223, kc, ks, pd_H g q23.2))) rfl ?_
                    exact s_Mo_lane_124 _ _ _ _ _ _ _  h
                  · rw [hb31]
                    refine ev_gos pp_Mo_lane 0 (S' := (120, [some (.ref 198), some (.int l1), some (.int l2), some (.int l3), some (.int (1 : Int32)), some (.int l2)], [], (223, kc, ks, pd_H g q23.2))) rfl ?_
                    exact s_Mo_lane_120 _ _ _ _ _ _ _  h
            · rw [hb27]
              refine ev_gos pp_Mo_lane 3 (S' := (95, [some (.ref 198), some (.int l1), some (.int l2), some (.int l3), some (.int (1 : Int32)), some (.int l2)], [.int l2, .ref 208], (223, kc, ks, pd_H g q23.2))) rfl ?_
              obtain ⟨hc32, h⟩ := pd_chk h
              refine ev_iald pp_Mo_lane rfl (fun _ => rfl) hc32 ?_
              refine ev_gos pp_Mo_lane 1 (S' := (125, [some (.ref 198), some (.int l1), some (.int l2), some (.int l3), some (.int (1 : Int32)), some (.int l2)], [.int (q23.2 208 l2.toNatClampNeg)], (223, kc, ks, pd_H g q23.2))) rfl ?_
              cases h
              exact ev_fin pp_Mo_lane rfl
          · rw [hb26]
            refine ev_gos pp_Mo_lane 3 (S' := (80, [some (.ref 198), some (.int l1), some (.int l2), some (.int l3), some (.int (1 : Int32)), some (.int l2)], [.int l2, .ref 207], (223, kc, ks, pd_H g q23.2))) rfl ?_
            obtain ⟨hc33, h⟩ := pd_chk h
            refine ev_iald pp_Mo_lane rfl (fun _ => rfl) hc33 ?_
            refine ev_gos pp_Mo_lane 1 (S' := (125, [some (.ref 198), some (.int l1), some (.int l2), some (.int l3), some (.int (1 : Int32)), some (.int l2)], [.int (q23.2 207 l2.toNatClampNeg)], (223, kc, ks, pd_H g q23.2))) rfl ?_
            cases h
            exact ev_fin pp_Mo_lane rfl
        · rw [hb25]
          refine ev_gos pp_Mo_lane 6 (S' := (71, [some (.ref 198), some (.int l1), some (.int l2), some (.int l3), some (.int (1 : Int32)), some (.int ((8 : Int32) + l2))], [.int l3], (223, kc, ks, pd_H g q23.2))) rfl ?_
          refine ev_gos pp_Mo_lane 1 (S' := (bif !(decide (l3 = 0)) then 84 else 74, [some (.ref 198), some (.int l1), some (.int l2), some (.int l3), some (.int (1 : Int32)), some (.int ((8 : Int32) + l2))], [], (223, kc, ks, pd_H g q23.2))) rfl ?_
          rcases pd_cases h with ⟨hb34, h⟩ | ⟨hb34, h⟩
          · rw [hb34]
            refine ev_gos pp_Mo_lane 2 (S' := (86, [some (.ref 198), some (.int l1), some (.int l2), some (.int l3), some (.int (1 : Int32)), some (.int ((8 : Int32) + l2))], [.int (1 : Int32), .int l3], (223, kc, ks, pd_H g q23.2))) rfl ?_
            refine ev_gos pp_Mo_lane 1 (S' := (bif !(decide (l3 = (1 : Int32))) then 99 else 89, [some (.ref 198), some (.int l1), some (.int l2), some (.int l3), some (.int (1 : Int32)), some (.int ((8 : Int32) + l2))], [], (223, kc, ks, pd_H g q23.2))) rfl ?_
            rcases pd_cases h with ⟨hb35, h⟩ | ⟨hb35, h⟩
            · rw [hb35]
              refine ev_gos pp_Mo_lane 3 (S' := (105, [some (.ref 198), some (.int l1), some (.int l2), some (.int l3), some (.int (1 : Int32)), some (.int ((8 : Int32) + l2))], [.int ((8 : Int32) + l2), .ref 209], (223, kc, ks, pd_H g q23.2))) rfl ?_
              obtain ⟨hc36, h⟩ := pd_chk h
              refine ev_zald pp_Mo_lane rfl (fun _ => rfl) hc36 ?_
              refine ev_gos pp_Mo_lane 0 (S' := (106, [some (.ref 198), some (.int l1), some (.int l2), some (.int l3), some (.int (1 : Int32)), some (.int ((8 : Int32) + l2))], [.int (q23.2 209 (((8 : Int32) + l2).toNatClampNeg))], (223, kc, ks, pd_H g q23.2))) rfl ?_
              refine ev_gos pp_Mo_lane 1 (S' := (bif !(decide ((q23.2 209 (((8 : Int32) + l2).toNatClampNeg)) = 0)) then 120 else 109, [some (.ref 198), some (.int l1), some (.int l2), some (.int l3), some (.int (1 : Int32)), some (.int ((8 : Int32) + l2))], [], (223, kc, ks, pd_H g q23.2))) rfl ?_
              rcases pd_cases h with ⟨hb37, h⟩ | ⟨hb37, h⟩
              · rw [hb37]
                refine ev_gos pp_Mo_lane 0 (S' := (120, [some (.ref 198), some (.int l1), some (.int l2), some (.int l3), some (.int (1 : Int32)), some (.int ((8 : Int32) + l2))], [], (223, kc, ks, pd_H g q23.2))) rfl ?_
                exact s_Mo_lane_120 _ _ _ _ _ _ _  h
              · rw [hb37]
                refine ev_gos pp_Mo_lane 1 (S' := (110, [some (.ref 198), some (.int l1), some (.int l2), some (.int l3), some (.int (1 : Int32)), some (.int ((8 : Int32) + l2))], [.int l1], (223, kc, ks, pd_H g q23.2))) rfl ?_
                refine ev_gos pp_Mo_lane 1 (S' := (bif !(decide (l1 = 0)) then 124 else 113, [some (.ref 198), some (.int l1), some (.int l2), some (.int l3), some (.int (1 : Int32)), some (.int ((8 : Int32) + l2))], [], (223, kc, ks, pd_H g q23.2))) rfl ?_
                rcases pd_cases h with ⟨hb38, h⟩ | ⟨hb38, h⟩
                · rw [hb38]
                  refine ev_gos pp_Mo_lane 0 (S' := (124, [some (.ref 198), some (.int l1), some (.int l2), some (.int l3), some (.int (1 : Int32)), some (.int ((8 : Int32) + l2))], [], (223, kc, ks, pd_H g q23.2))) rfl ?_
                  exact s_Mo_lane_124 _ _ _ _ _ _ _  h
                · rw [hb38]
                  refine ev_gos pp_Mo_lane 2 (S' := (117, [some (.ref 198), some (.int l1), some (.int l2), some (.int l3), some (.int (1 : Int32)), some (.int ((8 : Int32) + l2))], [.int (q23.2 198 26)], (223, kc, ks, pd_H g q23.2))) rfl ?_
                  refine ev_gos pp_Mo_lane 1 (S' := (bif !(decide ((q23.2 198 26) = 0)) then 124 else 120, [some (.ref 198), some (.int l1), some (.int l2), some (.int l3), some (.int (1 : Int32)), some (.int ((8 : Int32) + l2))], [], (223, kc, ks, pd_H g q23.2))) rfl ?_
                  rcases pd_cases h with ⟨hb39, h⟩ | ⟨hb39, h⟩
                  · rw [hb39]
                    refine ev_gos pp_Mo_lane 0 (S' := (124, [some (.ref 198), some (.int l1), some (.int l2), some (.int l3), some (.int (1 : Int32)), some (.int ((8 : Int32) + l2))], [], (223, kc, ks, pd_H g q23.2))) rfl ?_
                    exact s_Mo_lane_124 _ _ _ _ _ _ _  h
                  · rw [hb39]
                    refine ev_gos pp_Mo_lane 0 (S' := (120, [some (.ref 198), some (.int l1), some (.int l2), some (.int l3), some (.int (1 : Int32)), some (.int ((8 : Int32) + l2))], [], (223, kc, ks, pd_H g q23.2))) rfl ?_
                    exact s_Mo_lane_120 _ _ _ _ _ _ _  h
            · rw [hb35]
              refine ev_gos pp_Mo_lane 3 (S' := (95, [some (.ref 198), some (.int l1), some (.int l2), some (.int l3), some (.int (1 : Int32)), some (.int ((8 : Int32) + l2))], [.int ((8 : Int32) + l2), .ref 208], (223, kc, ks, pd_H g q23.2))) rfl ?_
              obtain ⟨hc40, h⟩ := pd_chk h
              refine ev_iald pp_Mo_lane rfl (fun _ => rfl) hc40 ?_
              refine ev_gos pp_Mo_lane 1 (S' := (125, [some (.ref 198), some (.int l1), some (.int l2), some (.int l3), some (.int (1 : Int32)), some (.int ((8 : Int32) + l2))], [.int (q23.2 208 (((8 : Int32) + l2).toNatClampNeg))], (223, kc, ks, pd_H g q23.2))) rfl ?_
              cases h
              exact ev_fin pp_Mo_lane rfl
          · rw [hb34]
            refine ev_gos pp_Mo_lane 3 (S' := (80, [some (.ref 198), some (.int l1), some (.int l2), some (.int l3), some (.int (1 : Int32)), some (.int ((8 : Int32) + l2))], [.int ((8 : Int32) + l2), .ref 207], (223, kc, ks, pd_H g q23.2))) rfl ?_
            obtain ⟨hc41, h⟩ := pd_chk h
            refine ev_iald pp_Mo_lane rfl (fun _ => rfl) hc41 ?_
            refine ev_gos pp_Mo_lane 1 (S' := (125, [some (.ref 198), some (.int l1), some (.int l2), some (.int l3), some (.int (1 : Int32)), some (.int ((8 : Int32) + l2))], [.int (q23.2 207 (((8 : Int32) + l2).toNatClampNeg))], (223, kc, ks, pd_H g q23.2))) rfl ?_
            cases h
            exact ev_fin pp_Mo_lane rfl
      · rw [hb24]
        refine ev_gos pp_Mo_lane 1 (S' := (55, [some (.ref 198), some (.int l1), some (.int l2), some (.int l3), some (.int (1 : Int32)), y5], [.int (0 : Int32)], (223, kc, ks, pd_H g q23.2))) rfl ?_
        cases h
        exact ev_fin pp_Mo_lane rfl
    · rw [hb22]
      refine ev_gos pp_Mo_lane 3 (S' := (48, [some (.ref 198), some (.int l1), some (.int l2), some (.int l3), some (.int (1 : Int32)), y5], [.int (0 : Int32), .int (1 : Int32), .int (1 : Int32), .ref 198], (223, kc, ks, pd_H g v))) rfl ?_
      obtain ⟨q42, hq42, h⟩ := pd_bind h
      refine ev_callv pp_Mo_lane rfl rfl rfl rfl (s_Mo_throwing hq42) ?_
      refine ev_gos pp_Mo_lane 0 (S' := (51, [some (.ref 198), some (.int l1), some (.int l2), some (.int l3), some (.int (1 : Int32)), y5], [.int q42.1], (223, kc, ks, pd_H g q42.2))) rfl ?_
      refine ev_gos pp_Mo_lane 1 (S' := (bif decide (q42.1 = 0) then 56 else 54, [some (.ref 198), some (.int l1), some (.int l2), some (.int l3), some (.int (1 : Int32)), y5], [], (223, kc, ks, pd_H g q42.2))) rfl ?_
      rcases pd_cases h with ⟨hb43, h⟩ | ⟨hb43, h⟩
      · rw [hb43]
        refine ev_gos pp_Mo_lane 1 (S' := (57, [some (.ref 198), some (.int l1), some (.int l2), some (.int l3), some (.int (1 : Int32)), y5], [.int l1], (223, kc, ks, pd_H g q42.2))) rfl ?_
        refine ev_gos pp_Mo_lane 1 (S' := (bif decide (l1 = 0) then 67 else 60, [some (.ref 198), some (.int l1), some (.int l2), some (.int l3), some (.int (1 : Int32)), y5], [], (223, kc, ks, pd_H g q42.2))) rfl ?_
        rcases pd_cases h with ⟨hb44, h⟩ | ⟨hb44, h⟩
        · rw [hb44]
          refine ev_gos pp_Mo_lane 3 (S' := (71, [some (.ref 198), some (.int l1), some (.int l2), some (.int l3), some (.int (1 : Int32)), some (.int l2)], [.int l3], (223, kc, ks, pd_H g q42.2))) rfl ?_
          refine ev_gos pp_Mo_lane 1 (S' := (bif !(decide (l3 = 0)) then 84 else 74, [some (.ref 198), some (.int l1), some (.int l2), some (.int l3), some (.int (1 : Int32)), some (.int l2)], [], (223, kc, ks, pd_H g q42.2))) rfl ?_
          rcases pd_cases h with ⟨hb45, h⟩ | ⟨hb45, h⟩
          · rw [hb45]
            refine ev_gos pp_Mo_lane 2 (S' := (86, [some (.ref 198), some (.int l1), some (.int l2), some (.int l3), some (.int (1 : Int32)), some (.int l2)], [.int (1 : Int32), .int l3], (223, kc, ks, pd_H g q42.2))) rfl ?_
            refine ev_gos pp_Mo_lane 1 (S' := (bif !(decide (l3 = (1 : Int32))) then 99 else 89, [some (.ref 198), some (.int l1), some (.int l2), some (.int l3), some (.int (1 : Int32)), some (.int l2)], [], (223, kc, ks, pd_H g q42.2))) rfl ?_
            rcases pd_cases h with ⟨hb46, h⟩ | ⟨hb46, h⟩
            · rw [hb46]
              refine ev_gos pp_Mo_lane 3 (S' := (105, [some (.ref 198), some (.int l1), some (.int l2), some (.int l3), some (.int (1 : Int32)), some (.int l2)], [.int l2, .ref 209], (223, kc, ks, pd_H g q42.2))) rfl ?_
              obtain ⟨hc47, h⟩ := pd_chk h
              refine ev_zald pp_Mo_lane rfl (fun _ => rfl) hc47 ?_
              refine ev_gos pp_Mo_lane 0 (S' := (106, [some (.ref 198), some (.int l1), some (.int l2), some (.int l3), some (.int (1 : Int32)), some (.int l2)], [.int (q42.2 209 l2.toNatClampNeg)], (223, kc, ks, pd_H g q42.2))) rfl ?_
              refine ev_gos pp_Mo_lane 1 (S' := (bif !(decide ((q42.2 209 l2.toNatClampNeg) = 0)) then 120 else 109, [some (.ref 198), some (.int l1), some (.int l2), some (.int l3), some (.int (1 : Int32)), some (.int l2)], [], (223, kc, ks, pd_H g q42.2))) rfl ?_
              rcases pd_cases h with ⟨hb48, h⟩ | ⟨hb48, h⟩
              · rw [hb48]
                refine ev_gos pp_Mo_lane 0 (S' := (120, [some (.ref 198), some (.int l1), some (.int l2), some (.int l3), some (.int (1 : Int32)), some (.int l2)], [], (223, kc, ks, pd_H g q42.2))) rfl ?_
                exact s_Mo_lane_120 _ _ _ _ _ _ _  h
              · rw [hb48]
                refine ev_gos pp_Mo_lane 1 (S' := (110, [some (.ref 198), some (.int l1), some (.int l2), some (.int l3), some (.int (1 : Int32)), some (.int l2)], [.int l1], (223, kc, ks, pd_H g q42.2))) rfl ?_
                refine ev_gos pp_Mo_lane 1 (S' := (bif !(decide (l1 = 0)) then 124 else 113, [some (.ref 198), some (.int l1), some (.int l2), some (.int l3), some (.int (1 : Int32)), some (.int l2)], [], (223, kc, ks, pd_H g q42.2))) rfl ?_
                rcases pd_cases h with ⟨hb49, h⟩ | ⟨hb49, h⟩
                · rw [hb49]
                  refine ev_gos pp_Mo_lane 0 (S' := (124, [some (.ref 198), some (.int l1), some (.int l2), some (.int l3), some (.int (1 : Int32)), some (.int l2)], [], (223, kc, ks, pd_H g q42.2))) rfl ?_
                  exact s_Mo_lane_124 _ _ _ _ _ _ _  h
                · rw [hb49]
                  refine ev_gos pp_Mo_lane 2 (S' := (117, [some (.ref 198), some (.int l1), some (.int l2), some (.int l3), some (.int (1 : Int32)), some (.int l2)], [.int (q42.2 198 26)], (223, kc, ks, pd_H g q42.2))) rfl ?_
                  refine ev_gos pp_Mo_lane 1 (S' := (bif !(decide ((q42.2 198 26) = 0)) then 124 else 120, [some (.ref 198), some (.int l1), some (.int l2), some (.int l3), some (.int (1 : Int32)), some (.int l2)], [], (223, kc, ks, pd_H g q42.2))) rfl ?_
                  rcases pd_cases h with ⟨hb50, h⟩ | ⟨hb50, h⟩
                  · rw [hb50]
                    refine ev_gos pp_Mo_lane 0 (S' := (124, [some (.ref 198), some (.int l1), some (.int l2), some (.int l3), some (.int (1 : Int32)), some (.int l2)], [], (223, kc, ks, pd_H g q42.2))) rfl ?_
                    exact s_Mo_lane_124 _ _ _ _ _ _ _  h
                  · rw [hb50]
                    refine ev_gos pp_Mo_lane 0 (S' := (120, [some (.ref 198), some (.int l1), some (.int l2), some (.int l3), some (.int (1 : Int32)), some (.int l2)], [], (223, kc, ks, pd_H g q42.2))) rfl ?_
                    exact s_Mo_lane_120 _ _ _ _ _ _ _  h
            · rw [hb46]
              refine ev_gos pp_Mo_lane 3 (S' := (95, [some (.ref 198), some (.int l1), some (.int l2), some (.int l3), some (.int (1 : Int32)), some (.int l2)], [.int l2, .ref 208], (223, kc, ks, pd_H g q42.2))) rfl ?_
              obtain ⟨hc51, h⟩ := pd_chk h
              refine ev_iald pp_Mo_lane rfl (fun _ => rfl) hc51 ?_
              refine ev_gos pp_Mo_lane 1 (S' := (125, [some (.ref 198), some (.int l1), some (.int l2), some (.int l3), some (.int (1 : Int32)), some (.int l2)], [.int (q42.2 208 l2.toNatClampNeg)], (223, kc, ks, pd_H g q42.2))) rfl ?_
              cases h
              exact ev_fin pp_Mo_lane rfl
          · rw [hb45]
            refine ev_gos pp_Mo_lane 3 (S' := (80, [some (.ref 198), some (.int l1), some (.int l2), some (.int l3), some (.int (1 : Int32)), some (.int l2)], [.int l2, .ref 207], (223, kc, ks, pd_H g q42.2))) rfl ?_
            obtain ⟨hc52, h⟩ := pd_chk h
            refine ev_iald pp_Mo_lane rfl (fun _ => rfl) hc52 ?_
            refine ev_gos pp_Mo_lane 1 (S' := (125, [some (.ref 198), some (.int l1), some (.int l2), some (.int l3), some (.int (1 : Int32)), some (.int l2)], [.int (q42.2 207 l2.toNatClampNeg)], (223, kc, ks, pd_H g q42.2))) rfl ?_
            cases h
            exact ev_fin pp_Mo_lane rfl
        · rw [hb44]
          refine ev_gos pp_Mo_lane 6 (S' := (71, [some (.ref 198), some (.int l1), some (.int l2), some (.int l3), some (.int (1 : Int32)), some (.int ((8 : Int32) + l2))], [.int l3], (223, kc, ks, pd_H g q42.2))) rfl ?_
          refine ev_gos pp_Mo_lane 1 (S' := (bif !(decide (l3 = 0)) then 84 else 74, [some (.ref 198), some (.int l1), some (.int l2), some (.int l3), some (.int (1 : Int32)), some (.int ((8 : Int32) + l2))], [], (223, kc, ks, pd_H g q42.2))) rfl ?_
          rcases pd_cases h with ⟨hb53, h⟩ | ⟨hb53, h⟩
          · rw [hb53]
            refine ev_gos pp_Mo_lane 2 (S' := (86, [some (.ref 198), some (.int l1), some (.int l2), some (.int l3), some (.int (1 : Int32)), some (.int ((8 : Int32) + l2))], [.int (1 : Int32), .int l3], (223, kc, ks, pd_H g q42.2))) rfl ?_
            refine ev_gos pp_Mo_lane 1 (S' := (bif !(decide (l3 = (1 : Int32))) then 99 else 89, [some (.ref 198), some (.int l1), some (.int l2), some (.int l3), some (.int (1 : Int32)), some (.int ((8 : Int32) + l2))], [], (223, kc, ks, pd_H g q42.2))) rfl ?_
            rcases pd_cases h with ⟨hb54, h⟩ | ⟨hb54, h⟩
            · rw [hb54]
              refine ev_gos pp_Mo_lane 3 (S' := (105, [some (.ref 198), some (.int l1), some (.int l2), some (.int l3), some (.int (1 : Int32)), some (.int ((8 : Int32) + l2))], [.int ((8 : Int32) + l2), .ref 209], (223, kc, ks, pd_H g q42.2))) rfl ?_
              obtain ⟨hc55, h⟩ := pd_chk h
              refine ev_zald pp_Mo_lane rfl (fun _ => rfl) hc55 ?_
              refine ev_gos pp_Mo_lane 0 (S' := (106, [some (.ref 198), some (.int l1), some (.int l2), some (.int l3), some (.int (1 : Int32)), some (.int ((8 : Int32) + l2))], [.int (q42.2 209 (((8 : Int32) + l2).toNatClampNeg))], (223, kc, ks, pd_H g q42.2))) rfl ?_
              refine ev_gos pp_Mo_lane 1 (S' := (bif !(decide ((q42.2 209 (((8 : Int32) + l2).toNatClampNeg)) = 0)) then 120 else 109, [some (.ref 198), some (.int l1), some (.int l2), some (.int l3), some (.int (1 : Int32)), some (.int ((8 : Int32) + l2))], [], (223, kc, ks, pd_H g q42.2))) rfl ?_
              rcases pd_cases h with ⟨hb56, h⟩ | ⟨hb56, h⟩
              · rw [hb56]
                refine ev_gos pp_Mo_lane 0 (S' := (120, [some (.ref 198), some (.int l1), some (.int l2), some (.int l3), some (.int (1 : Int32)), some (.int ((8 : Int32) + l2))], [], (223, kc, ks, pd_H g q42.2))) rfl ?_
                exact s_Mo_lane_120 _ _ _ _ _ _ _  h
              · rw [hb56]
                refine ev_gos pp_Mo_lane 1 (S' := (110, [some (.ref 198), some (.int l1), some (.int l2), some (.int l3), some (.int (1 : Int32)), some (.int ((8 : Int32) + l2))], [.int l1], (223, kc, ks, pd_H g q42.2))) rfl ?_
                refine ev_gos pp_Mo_lane 1 (S' := (bif !(decide (l1 = 0)) then 124 else 113, [some (.ref 198), some (.int l1), some (.int l2), some (.int l3), some (.int (1 : Int32)), some (.int ((8 : Int32) + l2))], [], (223, kc, ks, pd_H g q42.2))) rfl ?_
                rcases pd_cases h with ⟨hb57, h⟩ | ⟨hb57, h⟩
                · rw [hb57]
                  refine ev_gos pp_Mo_lane 0 (S' := (124, [some (.ref 198), some (.int l1), some (.int l2), some (.int l3), some (.int (1 : Int32)), some (.int ((8 : Int32) + l2))], [], (223, kc, ks, pd_H g q42.2))) rfl ?_
                  exact s_Mo_lane_124 _ _ _ _ _ _ _  h
                · rw [hb57]
                  refine ev_gos pp_Mo_lane 2 (S' := (117, [some (.ref 198), some (.int l1), some (.int l2), some (.int l3), some (.int (1 : Int32)), some (.int ((8 : Int32) + l2))], [.int (q42.2 198 26)], (223, kc, ks, pd_H g q42.2))) rfl ?_
                  refine ev_gos pp_Mo_lane 1 (S' := (bif !(decide ((q42.2 198 26) = 0)) then 124 else 120, [some (.ref 198), some (.int l1), some (.int l2), some (.int l3), some (.int (1 : Int32)), some (.int ((8 : Int32) + l2))], [], (223, kc, ks, pd_H g q42.2))) rfl ?_
                  rcases pd_cases h with ⟨hb58, h⟩ | ⟨hb58, h⟩
                  · rw [hb58]
                    refine ev_gos pp_Mo_lane 0 (S' := (124, [some (.ref 198), some (.int l1), some (.int l2), some (.int l3), some (.int (1 : Int32)), some (.int ((8 : Int32) + l2))], [], (223, kc, ks, pd_H g q42.2))) rfl ?_
                    exact s_Mo_lane_124 _ _ _ _ _ _ _  h
                  · rw [hb58]
                    refine ev_gos pp_Mo_lane 0 (S' := (120, [some (.ref 198), some (.int l1), some (.int l2), some (.int l3), some (.int (1 : Int32)), some (.int ((8 : Int32) + l2))], [], (223, kc, ks, pd_H g q42.2))) rfl ?_
                    exact s_Mo_lane_120 _ _ _ _ _ _ _  h
            · rw [hb54]
              refine ev_gos pp_Mo_lane 3 (S' := (95, [some (.ref 198), some (.int l1), some (.int l2), some (.int l3), some (.int (1 : Int32)), some (.int ((8 : Int32) + l2))], [.int ((8 : Int32) + l2), .ref 208], (223, kc, ks, pd_H g q42.2))) rfl ?_
              obtain ⟨hc59, h⟩ := pd_chk h
              refine ev_iald pp_Mo_lane rfl (fun _ => rfl) hc59 ?_
              refine ev_gos pp_Mo_lane 1 (S' := (125, [some (.ref 198), some (.int l1), some (.int l2), some (.int l3), some (.int (1 : Int32)), some (.int ((8 : Int32) + l2))], [.int (q42.2 208 (((8 : Int32) + l2).toNatClampNeg))], (223, kc, ks, pd_H g q42.2))) rfl ?_
              cases h
              exact ev_fin pp_Mo_lane rfl
          · rw [hb53]
            refine ev_gos pp_Mo_lane 3 (S' := (80, [some (.ref 198), some (.int l1), some (.int l2), some (.int l3), some (.int (1 : Int32)), some (.int ((8 : Int32) + l2))], [.int ((8 : Int32) + l2), .ref 207], (223, kc, ks, pd_H g q42.2))) rfl ?_
            obtain ⟨hc60, h⟩ := pd_chk h
            refine ev_iald pp_Mo_lane rfl (fun _ => rfl) hc60 ?_
            refine ev_gos pp_Mo_lane 1 (S' := (125, [some (.ref 198), some (.int l1), some (.int l2), some (.int l3), some (.int (1 : Int32)), some (.int ((8 : Int32) + l2))], [.int (q42.2 207 (((8 : Int32) + l2).toNatClampNeg))], (223, kc, ks, pd_H g q42.2))) rfl ?_
            cases h
            exact ev_fin pp_Mo_lane rfl
      · rw [hb43]
        refine ev_gos pp_Mo_lane 1 (S' := (55, [some (.ref 198), some (.int l1), some (.int l2), some (.int l3), some (.int (1 : Int32)), y5], [.int (0 : Int32)], (223, kc, ks, pd_H g q42.2))) rfl ?_
        cases h
        exact ev_fin pp_Mo_lane rfl
def d_Mo_lane (l1 : Int32) (l2 : Int32) (l3 : Int32) (v : pd_V) : Option (Int32 × pd_V) :=
  bif !(decide ((d_Mo_beyond l2 (0 : Int32) (7 : Int32)) = 0)) then
    d_Mo_lane_19 l1 l2 l3 v
  else
    bif decide ((d_Mo_beyond l3 (0 : Int32) (2 : Int32)) = 0) then
      bif !(decide ((0 : Int32) = 0)) then
        (d_Mo_throwing (0 : Int32) (0 : Int32) (0 : Int32) v).bind fun q6 =>
        bif decide (q6.1 = 0) then
          bif decide (l1 = 0) then
            bif !(decide (l3 = 0)) then
              bif !(decide (l3 = (1 : Int32))) then
                bif pm_in l2 16 then
                bif !(decide ((q6.2 209 l2.toNatClampNeg) = 0)) then
                  d_Mo_lane_120 q6.2
                else
                  bif !(decide (l1 = 0)) then
                    d_Mo_lane_124 q6.2
                  else
                    bif !(decide ((q6.2 198 26) = 0)) then
                      d_Mo_lane_124 q6.2
                    else
                      d_Mo_lane_120 q6.2
                else none
              else
                bif pm_in l2 16 then
                some ((q6.2 208 l2.toNatClampNeg), q6.2)
                else none
            else
              bif pm_in l2 16 then
              some ((q6.2 207 l2.toNatClampNeg), q6.2)
              else none
          else
            bif !(decide (l3 = 0)) then
              bif !(decide (l3 = (1 : Int32))) then
                bif pm_in ((8 : Int32) + l2) 16 then
                bif !(decide ((q6.2 209 (((8 : Int32) + l2).toNatClampNeg)) = 0)) then
                  d_Mo_lane_120 q6.2
                else
                  bif !(decide (l1 = 0)) then
                    d_Mo_lane_124 q6.2
                  else
                    bif !(decide ((q6.2 198 26) = 0)) then
                      d_Mo_lane_124 q6.2
                    else
                      d_Mo_lane_120 q6.2
                else none
              else
                bif pm_in ((8 : Int32) + l2) 16 then
                some ((q6.2 208 (((8 : Int32) + l2).toNatClampNeg)), q6.2)
                else none
            else
              bif pm_in ((8 : Int32) + l2) 16 then
              some ((q6.2 207 (((8 : Int32) + l2).toNatClampNeg)), q6.2)
              else none
        else
          some ((0 : Int32), q6.2)
      else
        bif decide ((d_Mo_isNot l1 v) = 0) then
          (d_Mo_throwing (0 : Int32) (0 : Int32) (0 : Int32) v).bind fun q27 =>
          bif decide (q27.1 = 0) then
            bif decide (l1 = 0) then
              bif !(decide (l3 = 0)) then
                bif !(decide (l3 = (1 : Int32))) then
                  bif pm_in l2 16 then
                  bif !(decide ((q27.2 209 l2.toNatClampNeg) = 0)) then
                    d_Mo_lane_120 q27.2
                  else
                    bif !(decide (l1 = 0)) then
                      d_Mo_lane_124 q27.2
                    else
                      bif !(decide ((q27.2 198 26) = 0)) then
                        d_Mo_lane_124 q27.2
                      else
                        d_Mo_lane_120 q27.2
                  else none
                else
                  bif pm_in l2 16 then
                  some ((q27.2 208 l2.toNatClampNeg), q27.2)
                  else none
              else
                bif pm_in l2 16 then
                some ((q27.2 207 l2.toNatClampNeg), q27.2)
                else none
            else
              bif !(decide (l3 = 0)) then
                bif !(decide (l3 = (1 : Int32))) then
                  bif pm_in ((8 : Int32) + l2) 16 then
                  bif !(decide ((q27.2 209 (((8 : Int32) + l2).toNatClampNeg)) = 0)) then
                    d_Mo_lane_120 q27.2
                  else
                    bif !(decide (l1 = 0)) then
                      d_Mo_lane_124 q27.2
                    else
                      bif !(decide ((q27.2 198 26) = 0)) then
                        d_Mo_lane_124 q27.2
                      else
                        d_Mo_lane_120 q27.2
                  else none
                else
                  bif pm_in ((8 : Int32) + l2) 16 then
                  some ((q27.2 208 (((8 : Int32) + l2).toNatClampNeg)), q27.2)
                  else none
              else
                bif pm_in ((8 : Int32) + l2) 16 then
                some ((q27.2 207 (((8 : Int32) + l2).toNatClampNeg)), q27.2)
                else none
          else
            some ((0 : Int32), q27.2)
        else
          (d_Mo_throwing (0 : Int32) (1 : Int32) (0 : Int32) v).bind fun q46 =>
          bif decide (q46.1 = 0) then
            bif decide (l1 = 0) then
              bif !(decide (l3 = 0)) then
                bif !(decide (l3 = (1 : Int32))) then
                  bif pm_in l2 16 then
                  bif !(decide ((q46.2 209 l2.toNatClampNeg) = 0)) then
                    d_Mo_lane_120 q46.2
                  else
                    bif !(decide (l1 = 0)) then
                      d_Mo_lane_124 q46.2
                    else
                      bif !(decide ((q46.2 198 26) = 0)) then
                        d_Mo_lane_124 q46.2
                      else
                        d_Mo_lane_120 q46.2
                  else none
                else
                  bif pm_in l2 16 then
                  some ((q46.2 208 l2.toNatClampNeg), q46.2)
                  else none
              else
                bif pm_in l2 16 then
                some ((q46.2 207 l2.toNatClampNeg), q46.2)
                else none
            else
              bif !(decide (l3 = 0)) then
                bif !(decide (l3 = (1 : Int32))) then
                  bif pm_in ((8 : Int32) + l2) 16 then
                  bif !(decide ((q46.2 209 (((8 : Int32) + l2).toNatClampNeg)) = 0)) then
                    d_Mo_lane_120 q46.2
                  else
                    bif !(decide (l1 = 0)) then
                      d_Mo_lane_124 q46.2
                    else
                      bif !(decide ((q46.2 198 26) = 0)) then
                        d_Mo_lane_124 q46.2
                      else
                        d_Mo_lane_120 q46.2
                  else none
                else
                  bif pm_in ((8 : Int32) + l2) 16 then
                  some ((q46.2 208 (((8 : Int32) + l2).toNatClampNeg)), q46.2)
                  else none
              else
                bif pm_in ((8 : Int32) + l2) 16 then
                some ((q46.2 207 (((8 : Int32) + l2).toNatClampNeg)), q46.2)
                else none
          else
            some ((0 : Int32), q46.2)
    else
      d_Mo_lane_19 l1 l2 l3 v
theorem s_Mo_lane {l1 : Int32} {l2 : Int32} {l3 : Int32} {v : pd_V} {q : (Int32 × pd_V)}  (h : d_Mo_lane l1 l2 l3 v = some q) : pm_ev (pj_P xs L) (d + 1) 151 (0, [some (.ref 198), some (.int l1), some (.int l2), some (.int l3), none, none], [], (223, kc, ks, pd_H g v)) (.inl (some (.int q.1)), (223, kc, ks, pd_H g q.2)) := by
  unfold d_Mo_lane at h
  refine ev_gos pp_Mo_lane 3 (S' := (4, [some (.ref 198), some (.int l1), some (.int l2), some (.int l3), none, none], [.int (7 : Int32), .int (0 : Int32), .int l2], (223, kc, ks, pd_H g v))) rfl ?_
  refine ev_call pp_Mo_lane rfl rfl rfl (s_Mo_beyond) ?_
  refine ev_gos pp_Mo_lane 0 (S' := (7, [some (.ref 198), some (.int l1), some (.int l2), some (.int l3), none, none], [.int (d_Mo_beyond l2 (0 : Int32) (7 : Int32))], (223, kc, ks, pd_H g v))) rfl ?_
  refine ev_gos pp_Mo_lane 1 (S' := (bif !(decide ((d_Mo_beyond l2 (0 : Int32) (7 : Int32)) = 0)) then 19 else 10, [some (.ref 198), some (.int l1), some (.int l2), some (.int l3), none, none], [], (223, kc, ks, pd_H g v))) rfl ?_
  rcases pd_cases h with ⟨hb2, h⟩ | ⟨hb2, h⟩
  · rw [hb2]
    refine ev_gos pp_Mo_lane 0 (S' := (19, [some (.ref 198), some (.int l1), some (.int l2), some (.int l3), none, none], [], (223, kc, ks, pd_H g v))) rfl ?_
    exact s_Mo_lane_19 _ _ _ _ _ _ _  h
  · rw [hb2]
    refine ev_gos pp_Mo_lane 3 (S' := (13, [some (.ref 198), some (.int l1), some (.int l2), some (.int l3), none, none], [.int (2 : Int32), .int (0 : Int32), .int l3], (223, kc, ks, pd_H g v))) rfl ?_
    refine ev_call pp_Mo_lane rfl rfl rfl (s_Mo_beyond) ?_
    refine ev_gos pp_Mo_lane 0 (S' := (16, [some (.ref 198), some (.int l1), some (.int l2), some (.int l3), none, none], [.int (d_Mo_beyond l3 (0 : Int32) (2 : Int32))], (223, kc, ks, pd_H g v))) rfl ?_
    refine ev_gos pp_Mo_lane 1 (S' := (bif decide ((d_Mo_beyond l3 (0 : Int32) (2 : Int32)) = 0) then 23 else 19, [some (.ref 198), some (.int l1), some (.int l2), some (.int l3), none, none], [], (223, kc, ks, pd_H g v))) rfl ?_
    rcases pd_cases h with ⟨hb4, h⟩ | ⟨hb4, h⟩
    · rw [hb4]
      refine ev_gos pp_Mo_lane 5 (S' := (31, [some (.ref 198), some (.int l1), some (.int l2), some (.int l3), some (.int (0 : Int32)), none], [.int (0 : Int32), .int (0 : Int32), .ref 198], (223, kc, ks, pd_H g v))) rfl ?_
      refine ev_gos pp_Mo_lane 1 (S' := (bif !(decide ((0 : Int32) = 0)) then 46 else 34, [some (.ref 198), some (.int l1), some (.int l2), some (.int l3), some (.int (0 : Int32)), none], [.int (0 : Int32), .ref 198], (223, kc, ks, pd_H g v))) rfl ?_
      rcases pd_cases h with ⟨hb5, h⟩ | ⟨hb5, h⟩
      · rw [hb5]
        refine ev_gos pp_Mo_lane 2 (S' := (48, [some (.ref 198), some (.int l1), some (.int l2), some (.int l3), some (.int (0 : Int32)), none], [.int (0 : Int32), .int (0 : Int32), .int (0 : Int32), .ref 198], (223, kc, ks, pd_H g v))) rfl ?_
        obtain ⟨q6, hq6, h⟩ := pd_bind h
        refine ev_callv pp_Mo_lane rfl rfl rfl rfl (s_Mo_throwing hq6) ?_
        refine ev_gos pp_Mo_lane 0 (S' := (51, [some (.ref 198), some (.int l1), some (.int l2), some (.int l3), some (.int (0 : Int32)), none], [.int q6.1], (223, kc, ks, pd_H g q6.2))) rfl ?_
        refine ev_gos pp_Mo_lane 1 (S' := (bif decide (q6.1 = 0) then 56 else 54, [some (.ref 198), some (.int l1), some (.int l2), some (.int l3), some (.int (0 : Int32)), none], [], (223, kc, ks, pd_H g q6.2))) rfl ?_
        rcases pd_cases h with ⟨hb7, h⟩ | ⟨hb7, h⟩
        · rw [hb7]
          refine ev_gos pp_Mo_lane 1 (S' := (57, [some (.ref 198), some (.int l1), some (.int l2), some (.int l3), some (.int (0 : Int32)), none], [.int l1], (223, kc, ks, pd_H g q6.2))) rfl ?_
          refine ev_gos pp_Mo_lane 1 (S' := (bif decide (l1 = 0) then 67 else 60, [some (.ref 198), some (.int l1), some (.int l2), some (.int l3), some (.int (0 : Int32)), none], [], (223, kc, ks, pd_H g q6.2))) rfl ?_
          rcases pd_cases h with ⟨hb8, h⟩ | ⟨hb8, h⟩
          · rw [hb8]
            refine ev_gos pp_Mo_lane 3 (S' := (71, [some (.ref 198), some (.int l1), some (.int l2), some (.int l3), some (.int (0 : Int32)), some (.int l2)], [.int l3], (223, kc, ks, pd_H g q6.2))) rfl ?_
            refine ev_gos pp_Mo_lane 1 (S' := (bif !(decide (l3 = 0)) then 84 else 74, [some (.ref 198), some (.int l1), some (.int l2), some (.int l3), some (.int (0 : Int32)), some (.int l2)], [], (223, kc, ks, pd_H g q6.2))) rfl ?_
            rcases pd_cases h with ⟨hb9, h⟩ | ⟨hb9, h⟩
            · rw [hb9]
              refine ev_gos pp_Mo_lane 2 (S' := (86, [some (.ref 198), some (.int l1), some (.int l2), some (.int l3), some (.int (0 : Int32)), some (.int l2)], [.int (1 : Int32), .int l3], (223, kc, ks, pd_H g q6.2))) rfl ?_
              refine ev_gos pp_Mo_lane 1 (S' := (bif !(decide (l3 = (1 : Int32))) then 99 else 89, [some (.ref 198), some (.int l1), some (.int l2), some (.int l3), some (.int (0 : Int32)), some (.int l2)], [], (223, kc, ks, pd_H g q6.2))) rfl ?_
              rcases pd_cases h with ⟨hb10, h⟩ | ⟨hb10, h⟩
              · rw [hb10]
                refine ev_gos pp_Mo_lane 3 (S' := (105, [some (.ref 198), some (.int l1), some (.int l2), some (.int l3), some (.int (0 : Int32)), some (.int l2)], [.int l2, .ref 209], (223, kc, ks, pd_H g q6.2))) rfl ?_
                obtain ⟨hc11, h⟩ := pd_chk h
                refine ev_zald pp_Mo_lane rfl (fun _ => rfl) hc11 ?_
                refine ev_gos pp_Mo_lane 0 (S' := (106, [some (.ref 198), some (.int l1), some (.int l2), some (.int l3), some (.int (0 : Int32)), some (.int l2)], [.int (q6.2 209 l2.toNatClampNeg)], (223, kc, ks, pd_H g q6.2))) rfl ?_
                refine ev_gos pp_Mo_lane 1 (S' := (bif !(decide ((q6.2 209 l2.toNatClampNeg) = 0)) then 120 else 109, [some (.ref 198), some (.int l1), some (.int l2), some (.int l3), some (.int (0 : Int32)), some (.int l2)], [], (223, kc, ks, pd_H g q6.2))) rfl ?_
                rcases pd_cases h with ⟨hb12, h⟩ | ⟨hb12, h⟩
                · rw [hb12]
                  refine ev_gos pp_Mo_lane 0 (S' := (120, [some (.ref 198), some (.int l1), some (.int l2), some (.int l3), some (.int (0 : Int32)), some (.int l2)], [], (223, kc, ks, pd_H g q6.2))) rfl ?_
                  exact s_Mo_lane_120 _ _ _ _ _ _ _  h
                · rw [hb12]
                  refine ev_gos pp_Mo_lane 1 (S' := (110, [some (.ref 198), some (.int l1), some (.int l2), some (.int l3), some (.int (0 : Int32)), some (.int l2)], [.int l1], (223, kc, ks, pd_H g q6.2))) rfl ?_
                  refine ev_gos pp_Mo_lane 1 (S' := (bif !(decide (l1 = 0)) then 124 else 113, [some (.ref 198), some (.int l1), some (.int l2), some (.int l3), some (.int (0 : Int32)), some (.int l2)], [], (223, kc, ks, pd_H g q6.2))) rfl ?_
                  rcases pd_cases h with ⟨hb13, h⟩ | ⟨hb13, h⟩
                  · rw [hb13]
                    refine ev_gos pp_Mo_lane 0 (S' := (124, [some (.ref 198), some (.int l1), some (.int l2), some (.int l3), some (.int (0 : Int32)), some (.int l2)], [], (223, kc, ks, pd_H g q6.2))) rfl ?_
                    exact s_Mo_lane_124 _ _ _ _ _ _ _  h
                  · rw [hb13]
                    refine ev_gos pp_Mo_lane 2 (S' := (117, [some (.ref 198), some (.int l1), some (.int l2), some (.int l3), some (.int (0 : Int32)), some (.int l2)], [.int (q6.2 198 26)], (223, kc, ks, pd_H g q6.2))) rfl ?_
                    refine ev_gos pp_Mo_lane 1 (S' := (bif !(decide ((q6.2 198 26) = 0)) then 124 else 120, [some (.ref 198), some (.int l1), some (.int l2), some (.int l3), some (.int (0 : Int32)), some (.int l2)], [], (223, kc, ks, pd_H g q6.2))) rfl ?_
                    rcases pd_cases h with ⟨hb14, h⟩ | ⟨hb14, h⟩
                    · rw [hb14]
                      refine ev_gos pp_Mo_lane 0 (S' := (124, [some (.ref 198), some (.int l1), some (.int l2), some (.int l3), some (.int (0 : Int32)), some (.int l2)], [], (223, kc, ks, pd_H g q6.2))) rfl ?_
                      exact s_Mo_lane_124 _ _ _ _ _ _ _  h
                    · rw [hb14]
                      refine ev_gos pp_Mo_lane 0 (S' := (120, [some (.ref 198), some (.int l1), some (.int l2), some (.int l3), some (.int (0 : Int32)), some (.int l2)], [], (223, kc, ks, pd_H g q6.2))) rfl ?_
                      exact s_Mo_lane_120 _ _ _ _ _ _ _  h
              · rw [hb10]
                refine ev_gos pp_Mo_lane 3 (S' := (95, [some (.ref 198), some (.int l1), some (.int l2), some (.int l3), some (.int (0 : Int32)), some (.int l2)], [.int l2, .ref 208], (223, kc, ks, pd_H g q6.2))) rfl ?_
                obtain ⟨hc15, h⟩ := pd_chk h
                refine ev_iald pp_Mo_lane rfl (fun _ => rfl) hc15 ?_
                refine ev_gos pp_Mo_lane 1 (S' := (125, [some (.ref 198), some (.int l1), some (.int l2), some (.int l3), some (.int (0 : Int32)), some (.int l2)], [.int (q6.2 208 l2.toNatClampNeg)], (223, kc, ks, pd_H g q6.2))) rfl ?_
                cases h
                exact ev_fin pp_Mo_lane rfl
            · rw [hb9]
              refine ev_gos pp_Mo_lane 3 (S' := (80, [some (.ref 198), some (.int l1), some (.int l2), some (.int l3), some (.int (0 : Int32)), some (.int l2)], [.int l2, .ref 207], (223, kc, ks, pd_H g q6.2))) rfl ?_
              obtain ⟨hc16, h⟩ := pd_chk h
              refine ev_iald pp_Mo_lane rfl (fun _ => rfl) hc16 ?_
              refine ev_gos pp_Mo_lane 1 (S' := (125, [some (.ref 198), some (.int l1), some (.int l2), some (.int l3), some (.int (0 : Int32)), some (.int l2)], [.int (q6.2 207 l2.toNatClampNeg)], (223, kc, ks, pd_H g q6.2))) rfl ?_
              cases h
              exact ev_fin pp_Mo_lane rfl
          · rw [hb8]
            refine ev_gos pp_Mo_lane 6 (S' := (71, [some (.ref 198), some (.int l1), some (.int l2), some (.int l3), some (.int (0 : Int32)), some (.int ((8 : Int32) + l2))], [.int l3], (223, kc, ks, pd_H g q6.2))) rfl ?_
            refine ev_gos pp_Mo_lane 1 (S' := (bif !(decide (l3 = 0)) then 84 else 74, [some (.ref 198), some (.int l1), some (.int l2), some (.int l3), some (.int (0 : Int32)), some (.int ((8 : Int32) + l2))], [], (223, kc, ks, pd_H g q6.2))) rfl ?_
            rcases pd_cases h with ⟨hb17, h⟩ | ⟨hb17, h⟩
            · rw [hb17]
              refine ev_gos pp_Mo_lane 2 (S' := (86, [some (.ref 198), some (.int l1), some (.int l2), some (.int l3), some (.int (0 : Int32)), some (.int ((8 : Int32) + l2))], [.int (1 : Int32), .int l3], (223, kc, ks, pd_H g q6.2))) rfl ?_
              refine ev_gos pp_Mo_lane 1 (S' := (bif !(decide (l3 = (1 : Int32))) then 99 else 89, [some (.ref 198), some (.int l1), some (.int l2), some (.int l3), some (.int (0 : Int32)), some (.int ((8 : Int32) + l2))], [], (223, kc, ks, pd_H g q6.2))) rfl ?_
              rcases pd_cases h with ⟨hb18, h⟩ | ⟨hb18, h⟩
              · rw [hb18]
                refine ev_gos pp_Mo_lane 3 (S' := (105, [some (.ref 198), some (.int l1), some (.int l2), some (.int l3), some (.int (0 : Int32)), some (.int ((8 : Int32) + l2))], [.int ((8 : Int32) + l2), .ref 209], (223, kc, ks, pd_H g q6.2))) rfl ?_
                obtain ⟨hc19, h⟩ := pd_chk h
                refine ev_zald pp_Mo_lane rfl (fun _ => rfl) hc19 ?_
                refine ev_gos pp_Mo_lane 0 (S' := (106, [some (.ref 198), some (.int l1), some (.int l2), some (.int l3), some (.int (0 : Int32)), some (.int ((8 : Int32) + l2))], [.int (q6.2 209 (((8 : Int32) + l2).toNatClampNeg))], (223, kc, ks, pd_H g q6.2))) rfl ?_
                refine ev_gos pp_Mo_lane 1 (S' := (bif !(decide ((q6.2 209 (((8 : Int32) + l2).toNatClampNeg)) = 0)) then 120 else 109, [some (.ref 198), some (.int l1), some (.int l2), some (.int l3), some (.int (0 : Int32)), some (.int ((8 : Int32) + l2))], [], (223, kc, ks, pd_H g q6.2))) rfl ?_
                rcases pd_cases h with ⟨hb20, h⟩ | ⟨hb20, h⟩
                · rw [hb20]
                  refine ev_gos pp_Mo_lane 0 (S' := (120, [some (.ref 198), some (.int l1), some (.int l2), some (.int l3), some (.int (0 : Int32)), some (.int ((8 : Int32) + l2))], [], (223, kc, ks, pd_H g q6.2))) rfl ?_
                  exact s_Mo_lane_120 _ _ _ _ _ _ _  h
                · rw [hb20]
                  refine ev_gos pp_Mo_lane 1 (S' := (110, [some (.ref 198), some (.int l1), some (.int l2), some (.int l3), some (.int (0 : Int32)), some (.int ((8 : Int32) + l2))], [.int l1], (223, kc, ks, pd_H g q6.2))) rfl ?_
                  refine ev_gos pp_Mo_lane 1 (S' := (bif !(decide (l1 = 0)) then 124 else 113, [some (.ref 198), some (.int l1), some (.int l2), some (.int l3), some (.int (0 : Int32)), some (.int ((8 : Int32) + l2))], [], (223, kc, ks, pd_H g q6.2))) rfl ?_
                  rcases pd_cases h with ⟨hb21, h⟩ | ⟨hb21, h⟩
                  · rw [hb21]
                    refine ev_gos pp_Mo_lane 0 (S' := (124, [some (.ref 198), some (.int l1), some (.int l2), some (.int l3), some (.int (0 : Int32)), some (.int ((8 : Int32) + l2))], [], (223, kc, ks, pd_H g q6.2))) rfl ?_
                    exact s_Mo_lane_124 _ _ _ _ _ _ _  h
                  · rw [hb21]
                    refine ev_gos pp_Mo_lane 2 (S' := (117, [some (.ref 198), some (.int l1), some (.int l2), some (.int l3), some (.int (0 : Int32)), some (.int ((8 : Int32) + l2))], [.int (q6.2 198 26)], (223, kc, ks, pd_H g q6.2))) rfl ?_
                    refine ev_gos pp_Mo_lane 1 (S' := (bif !(decide ((q6.2 198 26) = 0)) then 124 else 120, [some (.ref 198), some (.int l1), some (.int l2), some (.int l3), some (.int (0 : Int32)), some (.int ((8 : Int32) + l2))], [], (223, kc, ks, pd_H g q6.2))) rfl ?_
                    rcases pd_cases h with ⟨hb22, h⟩ | ⟨hb22, h⟩
                    · rw [hb22]
                      refine ev_gos pp_Mo_lane 0 (S' := (124, [some (.ref 198), some (.int l1), some (.int l2), some (.int l3), some (.int (0 : Int32)), some (.int ((8 : Int32) + l2))], [], (223, kc, ks, pd_H g q6.2))) rfl ?_
                      exact s_Mo_lane_124 _ _ _ _ _ _ _  h
                    · rw [hb22]
                      refine ev_gos pp_Mo_lane 0 (S' := (120, [some (.ref 198), some (.int l1), some (.int l2), some (.int l3), some (.int (0 : Int32)), some (.int ((8 : Int32) + l2))], [], (223, kc, ks, pd_H g q6.2))) rfl ?_
                      exact s_Mo_lane_120 _ _ _ _ _ _ _  h
              · rw [hb18]
                refine ev_gos pp_Mo_lane 3 (S' := (95, [some (.ref 198), some (.int l1), some (.int l2), some (.int l3), some (.int (0 : Int32)), some (.int ((8 : Int32) + l2))], [.int ((8 : Int32) + l2), .ref 208], (223, kc, ks, pd_H g q6.2))) rfl ?_
                obtain ⟨hc23, h⟩ := pd_chk h
                refine ev_iald pp_Mo_lane rfl (fun _ => rfl) hc23 ?_
                refine ev_gos pp_Mo_lane 1 (S' := (125, [some (.ref 198), some (.int l1), some (.int l2), some (.int l3), some (.int (0 : Int32)), some (.int ((8 : Int32) + l2))], [.int (q6.2 208 (((8 : Int32) + l2).toNatClampNeg))], (223, kc, ks, pd_H g q6.2))) rfl ?_
                cases h
                exact ev_fin pp_Mo_lane rfl
            · rw [hb17]
              refine ev_gos pp_Mo_lane 3 (S' := (80, [some (.ref 198), some (.int l1), some (.int l2), some (.int l3), some (.int (0 : Int32)), some (.int ((8 : Int32) + l2))], [.int ((8 : Int32) + l2), .ref 207], (223, kc, ks, pd_H g q6.2))) rfl ?_
              obtain ⟨hc24, h⟩ := pd_chk h
              refine ev_iald pp_Mo_lane rfl (fun _ => rfl) hc24 ?_
              refine ev_gos pp_Mo_lane 1 (S' := (125, [some (.ref 198), some (.int l1), some (.int l2), some (.int l3), some (.int (0 : Int32)), some (.int ((8 : Int32) + l2))], [.int (q6.2 207 (((8 : Int32) + l2).toNatClampNeg))], (223, kc, ks, pd_H g q6.2))) rfl ?_
              cases h
              exact ev_fin pp_Mo_lane rfl
        · rw [hb7]
          refine ev_gos pp_Mo_lane 1 (S' := (55, [some (.ref 198), some (.int l1), some (.int l2), some (.int l3), some (.int (0 : Int32)), none], [.int (0 : Int32)], (223, kc, ks, pd_H g q6.2))) rfl ?_
          cases h
          exact ev_fin pp_Mo_lane rfl
      · rw [hb5]
        refine ev_gos pp_Mo_lane 2 (S' := (36, [some (.ref 198), some (.int l1), some (.int l2), some (.int l3), some (.int (0 : Int32)), none], [.int l1, .ref 198, .int (0 : Int32), .ref 198], (223, kc, ks, pd_H g v))) rfl ?_
        refine ev_callv pp_Mo_lane rfl rfl rfl rfl (s_Mo_isNot) ?_
        refine ev_gos pp_Mo_lane 0 (S' := (39, [some (.ref 198), some (.int l1), some (.int l2), some (.int l3), some (.int (0 : Int32)), none], [.int (d_Mo_isNot l1 v), .int (0 : Int32), .ref 198], (223, kc, ks, pd_H g v))) rfl ?_
        refine ev_gos pp_Mo_lane 1 (S' := (bif decide ((d_Mo_isNot l1 v) = 0) then 46 else 42, [some (.ref 198), some (.int l1), some (.int l2), some (.int l3), some (.int (0 : Int32)), none], [.int (0 : Int32), .ref 198], (223, kc, ks, pd_H g v))) rfl ?_
        rcases pd_cases h with ⟨hb26, h⟩ | ⟨hb26, h⟩
        · rw [hb26]
          refine ev_gos pp_Mo_lane 2 (S' := (48, [some (.ref 198), some (.int l1), some (.int l2), some (.int l3), some (.int (0 : Int32)), none], [.int (0 : Int32), .int (0 : Int32), .int (0 : Int32), .ref 198], (223, kc, ks, pd_H g v))) rfl ?_
          obtain ⟨q27, hq27, h⟩ := pd_bind h
          refine ev_callv pp_Mo_lane rfl rfl rfl rfl (s_Mo_throwing hq27) ?_
          refine ev_gos pp_Mo_lane 0 (S' := (51, [some (.ref 198), some (.int l1), some (.int l2), some (.int l3), some (.int (0 : Int32)), none], [.int q27.1], (223, kc, ks, pd_H g q27.2))) rfl ?_
          refine ev_gos pp_Mo_lane 1 (S' := (bif decide (q27.1 = 0) then 56 else 54, [some (.ref 198), some (.int l1), some (.int l2), some (.int l3), some (.int (0 : Int32)), none], [], (223, kc, ks, pd_H g q27.2))) rfl ?_
          rcases pd_cases h with ⟨hb28, h⟩ | ⟨hb28, h⟩
          · rw [hb28]
            refine ev_gos pp_Mo_lane 1 (S' := (57, [some (.ref 198), some (.int l1), some (.int l2), some (.int l3), some (.int (0 : Int32)), none], [.int l1], (223, kc, ks, pd_H g q27.2))) rfl ?_
            refine ev_gos pp_Mo_lane 1 (S' := (bif decide (l1 = 0) then 67 else 60, [some (.ref 198), some (.int l1), some (.int l2), some (.int l3), some (.int (0 : Int32)), none], [], (223, kc, ks, pd_H g q27.2))) rfl ?_
            rcases pd_cases h with ⟨hb29, h⟩ | ⟨hb29, h⟩
            · rw [hb29]
              refine ev_gos pp_Mo_lane 3 (S' := (71, [some (.ref 198), some (.int l1), some (.int l2), some (.int l3), some (.int (0 : Int32)), some (.int l2)], [.int l3], (223, kc, ks, pd_H g q27.2))) rfl ?_
              refine ev_gos pp_Mo_lane 1 (S' := (bif !(decide (l3 = 0)) then 84 else 74, [some (.ref 198), some (.int l1), some (.int l2), some (.int l3), some (.int (0 : Int32)), some (.int l2)], [], (223, kc, ks, pd_H g q27.2))) rfl ?_
              rcases pd_cases h with ⟨hb30, h⟩ | ⟨hb30, h⟩
              · rw [hb30]
                refine ev_gos pp_Mo_lane 2 (S' := (86, [some (.ref 198), some (.int l1), some (.int l2), some (.int l3), some (.int (0 : Int32)), some (.int l2)], [.int (1 : Int32), .int l3], (223, kc, ks, pd_H g q27.2))) rfl ?_
                refine ev_gos pp_Mo_lane 1 (S' := (bif !(decide (l3 = (1 : Int32))) then 99 else 89, [some (.ref 198), some (.int l1), some (.int l2), some (.int l3), some (.int (0 : Int32)), some (.int l2)], [], (223, kc, ks, pd_H g q27.2))) rfl ?_
                rcases pd_cases h with ⟨hb31, h⟩ | ⟨hb31, h⟩
                · rw [hb31]
                  refine ev_gos pp_Mo_lane 3 (S' := (105, [some (.ref 198), some (.int l1), some (.int l2), some (.int l3), some (.int (0 : Int32)), some (.int l2)], [.int l2, .ref 209], (223, kc, ks, pd_H g q27.2))) rfl ?_
                  obtain ⟨hc32, h⟩ := pd_chk h
                  refine ev_zald pp_Mo_lane rfl (fun _ => rfl) hc32 ?_
                  refine ev_gos pp_Mo_lane 0 (S' := (106, [some (.ref 198), some (.int l1), some (.int l2), some (.int l3), some (.int (0 : Int32)), some (.int l2)], [.int (q27.2 209 l2.toNatClampNeg)], (223, kc, ks, pd_H g q27.2))) rfl ?_
                  refine ev_gos pp_Mo_lane 1 (S' := (bif !(decide ((q27.2 209 l2.toNatClampNeg) = 0)) then 120 else 109, [some (.ref 198), some (.int l1), some (.int l2), some (.int l3), some (.int (0 : Int32)), some (.int l2)], [], (223, kc, ks, pd_H g q27.2))) rfl ?_
                  rcases pd_cases h with ⟨hb33, h⟩ | ⟨hb33, h⟩
                  · rw [hb33]
                    refine ev_gos pp_Mo_lane 0 (S' := (120, [some (.ref 198), some (.int l1), some (.int l2), some (.int l3), some (.int (0 : Int32)), some (.int l2)], [], (223, kc, ks, pd_H g q27.2))) rfl ?_
                    exact s_Mo_lane_120 _ _ _ _ _ _ _  h
                  · rw [hb33]
                    refine ev_gos pp_Mo_lane 1 (S' := (110, [some (.ref 198), some (.int l1), some (.int l2), some (.int l3), some (.int (0 : Int32)), some (.int l2)], [.int l1], (223, kc, ks, pd_H g q27.2))) rfl ?_
                    refine ev_gos pp_Mo_lane 1 (S' := (bif !(decide (l1 = 0)) then 124 else 113, [some (.ref 198), some (.int l1), some (.int l2), some (.int l3), some (.int (0 : Int32)), some (.int l2)], [], (223, kc, ks, pd_H g q27.2))) rfl ?_
                    rcases pd_cases h with ⟨hb34, h⟩ | ⟨hb34, h⟩
                    · rw [hb34]
                      refine ev_gos pp_Mo_lane 0 (S' := (124, [some (.ref 198), some (.int l1), some (.int l2), some (.int l3), some (.int (0 : Int32)), some (.int l2)], [], (223, kc, ks, pd_H g q27.2))) rfl ?_
                      exact s_Mo_lane_124 _ _ _ _ _ _ _  h
                    · rw [hb34]
                      refine ev_gos pp_Mo_lane 2 (S' := (117, [some (.ref 198), some (.int l1), some (.int l2), some (.int l3), some (.int (0 : Int32)), some (.int l2)], [.int (q27.2 198 26)], (223, kc, ks, pd_H g q27.2))) rfl ?_
                      refine ev_gos pp_Mo_lane 1 (S' := (bif !(decide ((q27.2 198 26) = 0)) then 124 else 120, [some (.ref 198), some (.int l1), some (.int l2), some (.int l3), some (.int (0 : Int32)), some (.int l2)], [], (223, kc, ks, pd_H g q27.2))) rfl ?_
                      rcases pd_cases h with ⟨hb35, h⟩ | ⟨hb35, h⟩
                      · rw [hb35]
                        refine ev_gos pp_Mo_lane 0 (S' := (124, [some (.ref 198), some (.int l1), some (.int l2), some (.int l3), some (.int (0 : Int32)), some (.int l2)], [], (223, kc, ks, pd_H g q27.2))) rfl ?_
                        exact s_Mo_lane_124 _ _ _ _ _ _ _  h
                      · rw [hb35]
                        refine ev_gos pp_Mo_lane 0 (S' := (120, [some (.ref 198), some (.int l1), some (.int l2), some (.int l3), some (.int (0 : Int32)), some (.int l2)], [], (223, kc, ks, pd_H g q27.2))) rfl ?_
                        exact s_Mo_lane_120 _ _ _ _ _ _ _  h
                · rw [hb31]
                  refine ev_gos pp_Mo_lane 3 (S' := (95, [some (.ref 198), some (.int l1), some (.int l2), some (.int l3), some (.int (0 : Int32)), some (.int l2)], [.int l2, .ref 208], (223, kc, ks, pd_H g q27.2))) rfl ?_
                  obtain ⟨hc36, h⟩ := pd_chk h
                  refine ev_iald pp_Mo_lane rfl (fun _ => rfl) hc36 ?_
                  refine ev_gos pp_Mo_lane 1 (S' := (125, [some (.ref 198), some (.int l1), some (.int l2), some (.int l3), some (.int (0 : Int32)), some (.int l2)], [.int (q27.2 208 l2.toNatClampNeg)], (223, kc, ks, pd_H g q27.2))) rfl ?_
                  cases h
                  exact ev_fin pp_Mo_lane rfl
              · rw [hb30]
                refine ev_gos pp_Mo_lane 3 (S' := (80, [some (.ref 198), some (.int l1), some (.int l2), some (.int l3), some (.int (0 : Int32)), some (.int l2)], [.int l2, .ref 207], (223, kc, ks, pd_H g q27.2))) rfl ?_
                obtain ⟨hc37, h⟩ := pd_chk h
                refine ev_iald pp_Mo_lane rfl (fun _ => rfl) hc37 ?_
                refine ev_gos pp_Mo_lane 1 (S' := (125, [some (.ref 198), some (.int l1), some (.int l2), some (.int l3), some (.int (0 : Int32)), some (.int l2)], [.int (q27.2 207 l2.toNatClampNeg)], (223, kc, ks, pd_H g q27.2))) rfl ?_
                cases h
                exact ev_fin pp_Mo_lane rfl
            · rw [hb29]
              refine ev_gos pp_Mo_lane 6 (S' := (71, [some (.ref 198), some (.int l1), some (.int l2), some (.int l3), some (.int (0 : Int32)), some (.int ((8 : Int32) + l2))], [.int l3], (223, kc, ks, pd_H g q27.2))) rfl ?_
              refine ev_gos pp_Mo_lane 1 (S' := (bif !(decide (l3 = 0)) then 84 else 74, [some (.ref 198), some (.int l1), some (.int l2), some (.int l3), some (.int (0 : Int32)), some (.int ((8 : Int32) + l2))], [], (223, kc, ks, pd_H g q27.2))) rfl ?_
              rcases pd_cases h with ⟨hb38, h⟩ | ⟨hb38, h⟩
              · rw [hb38]
                refine ev_gos pp_Mo_lane 2 (S' := (86, [some (.ref 198), some (.int l1), some (.int l2), some (.int l3), some (.int (0 : Int32)), some (.int ((8 : Int32) + l2))], [.int (1 : Int32), .int l3], (223, kc, ks, pd_H g q27.2))) rfl ?_
                refine ev_gos pp_Mo_lane 1 (S' := (bif !(decide (l3 = (1 : Int32))) then 99 else 89, [some (.ref 198), some (.int l1), some (.int l2), some (.int l3), some (.int (0 : Int32)), some (.int ((8 : Int32) + l2))], [], (223, kc, ks, pd_H g q27.2))) rfl ?_
                rcases pd_cases h with ⟨hb39, h⟩ | ⟨hb39, h⟩
                · rw [hb39]
                  refine ev_gos pp_Mo_lane 3 (S' := (105, [some (.ref 198), some (.int l1), some (.int l2), some (.int l3), some (.int (0 : Int32)), some (.int ((8 : Int32) + l2))], [.int ((8 : Int32) + l2), .ref 209], (223, kc, ks, pd_H g q27.2))) rfl ?_
                  obtain ⟨hc40, h⟩ := pd_chk h
                  refine ev_zald pp_Mo_lane rfl (fun _ => rfl) hc40 ?_
                  refine ev_gos pp_Mo_lane 0 (S' := (106, [some (.ref 198), some (.int l1), some (.int l2), some (.int l3), some (.int (0 : Int32)), some (.int ((8 : Int32) + l2))], [.int (q27.2 209 (((8 : Int32) + l2).toNatClampNeg))], (223, kc, ks, pd_H g q27.2))) rfl ?_
                  refine ev_gos pp_Mo_lane 1 (S' := (bif !(decide ((q27.2 209 (((8 : Int32) + l2).toNatClampNeg)) = 0)) then 120 else 109, [some (.ref 198), some (.int l1), some (.int l2), some (.int l3), some (.int (0 : Int32)), some (.int ((8 : Int32) + l2))], [], (223, kc, ks, pd_H g q27.2))) rfl ?_
                  rcases pd_cases h with ⟨hb41, h⟩ | ⟨hb41, h⟩
                  · rw [hb41]
                    refine ev_gos pp_Mo_lane 0 (S' := (120, [some (.ref 198), some (.int l1), some (.int l2), some (.int l3), some (.int (0 : Int32)), some (.int ((8 : Int32) + l2))], [], (223, kc, ks, pd_H g q27.2))) rfl ?_
                    exact s_Mo_lane_120 _ _ _ _ _ _ _  h
                  · rw [hb41]
                    refine ev_gos pp_Mo_lane 1 (S' := (110, [some (.ref 198), some (.int l1), some (.int l2), some (.int l3), some (.int (0 : Int32)), some (.int ((8 : Int32) + l2))], [.int l1], (223, kc, ks, pd_H g q27.2))) rfl ?_
                    refine ev_gos pp_Mo_lane 1 (S' := (bif !(decide (l1 = 0)) then 124 else 113, [some (.ref 198), some (.int l1), some (.int l2), some (.int l3), some (.int (0 : Int32)), some (.int ((8 : Int32) + l2))], [], (223, kc, ks, pd_H g q27.2))) rfl ?_
                    rcases pd_cases h with ⟨hb42, h⟩ | ⟨hb42, h⟩
                    · rw [hb42]
                      refine ev_gos pp_Mo_lane 0 (S' := (124, [some (.ref 198), some (.int l1), some (.int l2), some (.int l3), some (.int (0 : Int32)), some (.int ((8 : Int32) + l2))], [], (223, kc, ks, pd_H g q27.2))) rfl ?_
                      exact s_Mo_lane_124 _ _ _ _ _ _ _  h
                    · rw [hb42]
                      refine ev_gos pp_Mo_lane 2 (S' := (117, [some (.ref 198), some (.int l1), some (.int l2), some (.int l3), some (.int (0 : Int32)), some (.int ((8 : Int32) + l2))], [.int (q27.2 198 26)], (223, kc, ks, pd_H g q27.2))) rfl ?_
                      refine ev_gos pp_Mo_lane 1 (S' := (bif !(decide ((q27.2 198 26) = 0)) then 124 else 120, [some (.ref 198), some (.int l1), some (.int l2), some (.int l3), some (.int (0 : Int32)), some (.int ((8 : Int32) + l2))], [], (223, kc, ks, pd_H g q27.2))) rfl ?_
                      rcases pd_cases h with ⟨hb43, h⟩ | ⟨hb43, h⟩
                      · rw [hb43]
                        refine ev_gos pp_Mo_lane 0 (S' := (124, [some (.ref 198), some (.int l1), some (.int l2), some (.int l3), some (.int (0 : Int32)), some (.int ((8 : Int32) + l2))], [], (223, kc, ks, pd_H g q27.2))) rfl ?_
                        exact s_Mo_lane_124 _ _ _ _ _ _ _  h
                      · rw [hb43]
                        refine ev_gos pp_Mo_lane 0 (S' := (120, [some (.ref 198), some (.int l1), some (.int l2), some (.int l3), some (.int (0 : Int32)), some (.int ((8 : Int32) + l2))], [], (223, kc, ks, pd_H g q27.2))) rfl ?_
                        exact s_Mo_lane_120 _ _ _ _ _ _ _  h
                · rw [hb39]
                  refine ev_gos pp_Mo_lane 3 (S' := (95, [some (.ref 198), some (.int l1), some (.int l2), some (.int l3), some (.int (0 : Int32)), some (.int ((8 : Int32) + l2))], [.int ((8 : Int32) + l2), .ref 208], (223, kc, ks, pd_H g q27.2))) rfl ?_
                  obtain ⟨hc44, h⟩ := pd_chk h
                  refine ev_iald pp_Mo_lane rfl (fun _ => rfl) hc44 ?_
                  refine ev_gos pp_Mo_lane 1 (S' := (125, [some (.ref 198), some (.int l1), some (.int l2), some (.int l3), some (.int (0 : Int32)), some (.int ((8 : Int32) + l2))], [.int (q27.2 208 (((8 : Int32) + l2).toNatClampNeg))], (223, kc, ks, pd_H g q27.2))) rfl ?_
                  cases h
                  exact ev_fin pp_Mo_lane rfl
              · rw [hb38]
                refine ev_gos pp_Mo_lane 3 (S' := (80, [some (.ref 198), some (.int l1), some (.int l2), some (.int l3), some (.int (0 : Int32)), some (.int ((8 : Int32) + l2))], [.int ((8 : Int32) + l2), .ref 207], (223, kc, ks, pd_H g q27.2))) rfl ?_
                obtain ⟨hc45, h⟩ := pd_chk h
                refine ev_iald pp_Mo_lane rfl (fun _ => rfl) hc45 ?_
                refine ev_gos pp_Mo_lane 1 (S' := (125, [some (.ref 198), some (.int l1), some (.int l2), some (.int l3), some (.int (0 : Int32)), some (.int ((8 : Int32) + l2))], [.int (q27.2 207 (((8 : Int32) + l2).toNatClampNeg))], (223, kc, ks, pd_H g q27.2))) rfl ?_
                cases h
                exact ev_fin pp_Mo_lane rfl
          · rw [hb28]
            refine ev_gos pp_Mo_lane 1 (S' := (55, [some (.ref 198), some (.int l1), some (.int l2), some (.int l3), some (.int (0 : Int32)), none], [.int (0 : Int32)], (223, kc, ks, pd_H g q27.2))) rfl ?_
            cases h
            exact ev_fin pp_Mo_lane rfl
        · rw [hb26]
          refine ev_gos pp_Mo_lane 3 (S' := (48, [some (.ref 198), some (.int l1), some (.int l2), some (.int l3), some (.int (0 : Int32)), none], [.int (0 : Int32), .int (1 : Int32), .int (0 : Int32), .ref 198], (223, kc, ks, pd_H g v))) rfl ?_
          obtain ⟨q46, hq46, h⟩ := pd_bind h
          refine ev_callv pp_Mo_lane rfl rfl rfl rfl (s_Mo_throwing hq46) ?_
          refine ev_gos pp_Mo_lane 0 (S' := (51, [some (.ref 198), some (.int l1), some (.int l2), some (.int l3), some (.int (0 : Int32)), none], [.int q46.1], (223, kc, ks, pd_H g q46.2))) rfl ?_
          refine ev_gos pp_Mo_lane 1 (S' := (bif decide (q46.1 = 0) then 56 else 54, [some (.ref 198), some (.int l1), some (.int l2), some (.int l3), some (.int (0 : Int32)), none], [], (223, kc, ks, pd_H g q46.2))) rfl ?_
          rcases pd_cases h with ⟨hb47, h⟩ | ⟨hb47, h⟩
          · rw [hb47]
            refine ev_gos pp_Mo_lane 1 (S' := (57, [some (.ref 198), some (.int l1), some (.int l2), some (.int l3), some (.int (0 : Int32)), none], [.int l1], (223, kc, ks, pd_H g q46.2))) rfl ?_
            refine ev_gos pp_Mo_lane 1 (S' := (bif decide (l1 = 0) then 67 else 60, [some (.ref 198), some (.int l1), some (.int l2), some (.int l3), some (.int (0 : Int32)), none], [], (223, kc, ks, pd_H g q46.2))) rfl ?_
            rcases pd_cases h with ⟨hb48, h⟩ | ⟨hb48, h⟩
            · rw [hb48]
              refine ev_gos pp_Mo_lane 3 (S' := (71, [some (.ref 198), some (.int l1), some (.int l2), some (.int l3), some (.int (0 : Int32)), some (.int l2)], [.int l3], (223, kc, ks, pd_H g q46.2))) rfl ?_
              refine ev_gos pp_Mo_lane 1 (S' := (bif !(decide (l3 = 0)) then 84 else 74, [some (.ref 198), some (.int l1), some (.int l2), some (.int l3), some (.int (0 : Int32)), some (.int l2)], [], (223, kc, ks, pd_H g q46.2))) rfl ?_
              rcases pd_cases h with ⟨hb49, h⟩ | ⟨hb49, h⟩
              · rw [hb49]
                refine ev_gos pp_Mo_lane 2 (S' := (86, [some (.ref 198), some (.int l1), some (.int l2), some (.int l3), some (.int (0 : Int32)), some (.int l2)], [.int (1 : Int32), .int l3], (223, kc, ks, pd_H g q46.2))) rfl ?_
                refine ev_gos pp_Mo_lane 1 (S' := (bif !(decide (l3 = (1 : Int32))) then 99 else 89, [some (.ref 198), some (.int l1), some (.int l2), some (.int l3), some (.int (0 : Int32)), some (.int l2)], [], (223, kc, ks, pd_H g q46.2))) rfl ?_
                rcases pd_cases h with ⟨hb50, h⟩ | ⟨hb50, h⟩
                · rw [hb50]
                  refine ev_gos pp_Mo_lane 3 (S' := (105, [some (.ref 198), some (.int l1), some (.int l2), some (.int l3), some (.int (0 : Int32)), some (.int l2)], [.int l2, .ref 209], (223, kc, ks, pd_H g q46.2))) rfl ?_
                  obtain ⟨hc51, h⟩ := pd_chk h
                  refine ev_zald pp_Mo_lane rfl (fun _ => rfl) hc51 ?_
                  refine ev_gos pp_Mo_lane 0 (S' := (106, [some (.ref 198), some (.int l1), some (.int l2), some (.int l3), some (.int (0 : Int32)), some (.int l2)], [.int (q46.2 209 l2.toNatClampNeg)], (223, kc, ks, pd_H g q46.2))) rfl ?_
                  refine ev_gos pp_Mo_lane 1 (S' := (bif !(decide ((q46.2 209 l2.toNatClampNeg) = 0)) then 120 else 109, [some (.ref 198), some (.int l1), some (.int l2), some (.int l3), some (.int (0 : Int32)), some (.int l2)], [], (223, kc, ks, pd_H g q46.2))) rfl ?_
                  rcases pd_cases h with ⟨hb52, h⟩ | ⟨hb52, h⟩
                  · rw [hb52]
                    refine ev_gos pp_Mo_lane 0 (S' := (120, [some (.ref 198), some (.int l1), some (.int l2), some (.int l3), some (.int (0 : Int32)), some (.int l2)], [], (223, kc, ks, pd_H g q46.2))) rfl ?_
                    exact s_Mo_lane_120 _ _ _ _ _ _ _  h
                  · rw [hb52]
                    refine ev_gos pp_Mo_lane 1 (S' := (110, [some (.ref 198), some (.int l1), some (.int l2), some (.int l3), some (.int (0 : Int32)), some (.int l2)], [.int l1], (223, kc, ks, pd_H g q46.2))) rfl ?_
                    refine ev_gos pp_Mo_lane 1 (S' := (bif !(decide (l1 = 0)) then 124 else 113, [some (.ref 198), some (.int l1), some (.int l2), some (.int l3), some (.int (0 : Int32)), some (.int l2)], [], (223, kc, ks, pd_H g q46.2))) rfl ?_
                    rcases pd_cases h with ⟨hb53, h⟩ | ⟨hb53, h⟩
                    · rw [hb53]
                      refine ev_gos pp_Mo_lane 0 (S' := (124, [some (.ref 198), some (.int l1), some (.int l2), some (.int l3), some (.int (0 : Int32)), some (.int l2)], [], (223, kc, ks, pd_H g q46.2))) rfl ?_
                      exact s_Mo_lane_124 _ _ _ _ _ _ _  h
                    · rw [hb53]
                      refine ev_gos pp_Mo_lane 2 (S' := (117, [some (.ref 198), some (.int l1), some (.int l2), some (.int l3), some (.int (0 : Int32)), some (.int l2)], [.int (q46.2 198 26)], (223, kc, ks, pd_H g q46.2))) rfl ?_
                      refine ev_gos pp_Mo_lane 1 (S' := (bif !(decide ((q46.2 198 26) = 0)) then 124 else 120, [some (.ref 198), some (.int l1), some (.int l2), some (.int l3), some (.int (0 : Int32)), some (.int l2)], [], (223, kc, ks, pd_H g q46.2))) rfl ?_
                      rcases pd_cases h with ⟨hb54, h⟩ | ⟨hb54, h⟩
                      · rw [hb54]
                        refine ev_gos pp_Mo_lane 0 (S' := (124, [some (.ref 198), some (.int l1), some (.int l2), some (.int l3), some (.int (0 : Int32)), some (.int l2)], [], (223, kc, ks, pd_H g q46.2))) rfl ?_
                        exact s_Mo_lane_124 _ _ _ _ _ _ _  h
                      · rw [hb54]
                        refine ev_gos pp_Mo_lane 0 (S' := (120, [some (.ref 198), some (.int l1), some (.int l2), some (.int l3), some (.int (0 : Int32)), some (.int l2)], [], (223, kc, ks, pd_H g q46.2))) rfl ?_
                        exact s_Mo_lane_120 _ _ _ _ _ _ _  h
                · rw [hb50]
                  refine ev_gos pp_Mo_lane 3 (S' := (95, [some (.ref 198), some (.int l1), some (.int l2), some (.int l3), some (.int (0 : Int32)), some (.int l2)], [.int l2, .ref 208], (223, kc, ks, pd_H g q46.2))) rfl ?_
                  obtain ⟨hc55, h⟩ := pd_chk h
                  refine ev_iald pp_Mo_lane rfl (fun _ => rfl) hc55 ?_
                  refine ev_gos pp_Mo_lane 1 (S' := (125, [some (.ref 198), some (.int l1), some (.int l2), some (.int l3), some (.int (0 : Int32)), some (.int l2)], [.int (q46.2 208 l2.toNatClampNeg)], (223, kc, ks, pd_H g q46.2))) rfl ?_
                  cases h
                  exact ev_fin pp_Mo_lane rfl
              · rw [hb49]
                refine ev_gos pp_Mo_lane 3 (S' := (80, [some (.ref 198), some (.int l1), some (.int l2), some (.int l3), some (.int (0 : Int32)), some (.int l2)], [.int l2, .ref 207], (223, kc, ks, pd_H g q46.2))) rfl ?_
                obtain ⟨hc56, h⟩ := pd_chk h
                refine ev_iald pp_Mo_lane rfl (fun _ => rfl) hc56 ?_
                refine ev_gos pp_Mo_lane 1 (S' := (125, [some (.ref 198), some (.int l1), some (.int l2), some (.int l3), some (.int (0 : Int32)), some (.int l2)], [.int (q46.2 207 l2.toNatClampNeg)], (223, kc, ks, pd_H g q46.2))) rfl ?_
                cases h
                exact ev_fin pp_Mo_lane rfl
            · rw [hb48]
              refine ev_gos pp_Mo_lane 6 (S' := (71, [some (.ref 198), some (.int l1), some (.int l2), some (.int l3), some (.int (0 : Int32)), some (.int ((8 : Int32) + l2))], [.int l3], (223, kc, ks, pd_H g q46.2))) rfl ?_
              refine ev_gos pp_Mo_lane 1 (S' := (bif !(decide (l3 = 0)) then 84 else 74, [some (.ref 198), some (.int l1), some (.int l2), some (.int l3), some (.int (0 : Int32)), some (.int ((8 : Int32) + l2))], [], (223, kc, ks, pd_H g q46.2))) rfl ?_
              rcases pd_cases h with ⟨hb57, h⟩ | ⟨hb57, h⟩
              · rw [hb57]
                refine ev_gos pp_Mo_lane 2 (S' := (86, [some (.ref 198), some (.int l1), some (.int l2), some (.int l3), some (.int (0 : Int32)), some (.int ((8 : Int32) + l2))], [.int (1 : Int32), .int l3], (223, kc, ks, pd_H g q46.2))) rfl ?_
                refine ev_gos pp_Mo_lane 1 (S' := (bif !(decide (l3 = (1 : Int32))) then 99 else 89, [some (.ref 198), some (.int l1), some (.int l2), some (.int l3), some (.int (0 : Int32)), some (.int ((8 : Int32) + l2))], [], (223, kc, ks, pd_H g q46.2))) rfl ?_
                rcases pd_cases h with ⟨hb58, h⟩ | ⟨hb58, h⟩
                · rw [hb58]
                  refine ev_gos pp_Mo_lane 3 (S' := (105, [some (.ref 198), some (.int l1), some (.int l2), some (.int l3), some (.int (0 : Int32)), some (.int ((8 : Int32) + l2))], [.int ((8 : Int32) + l2), .ref 209], (223, kc, ks, pd_H g q46.2))) rfl ?_
                  obtain ⟨hc59, h⟩ := pd_chk h
                  refine ev_zald pp_Mo_lane rfl (fun _ => rfl) hc59 ?_
                  refine ev_gos pp_Mo_lane 0 (S' := (106, [some (.ref 198), some (.int l1), some (.int l2), some (.int l3), some (.int (0 : Int32)), some (.int ((8 : Int32) + l2))], [.int (q46.2 209 (((8 : Int32) + l2).toNatClampNeg))], (223, kc, ks, pd_H g q46.2))) rfl ?_
                  refine ev_gos pp_Mo_lane 1 (S' := (bif !(decide ((q46.2 209 (((8 : Int32) + l2).toNatClampNeg)) = 0)) then 120 else 109, [some (.ref 198), some (.int l1), some (.int l2), some (.int l3), some (.int (0 : Int32)), some (.int ((8 : Int32) + l2))], [], (223, kc, ks, pd_H g q46.2))) rfl ?_
                  rcases pd_cases h with ⟨hb60, h⟩ | ⟨hb60, h⟩
                  · rw [hb60]
                    refine ev_gos pp_Mo_lane 0 (S' := (120, [some (.ref 198), some (.int l1), some (.int l2), some (.int l3), some (.int (0 : Int32)), some (.int ((8 : Int32) + l2))], [], (223, kc, ks, pd_H g q46.2))) rfl ?_
                    exact s_Mo_lane_120 _ _ _ _ _ _ _  h
                  · rw [hb60]
                    refine ev_gos pp_Mo_lane 1 (S' := (110, [some (.ref 198), some (.int l1), some (.int l2), some (.int l3), some (.int (0 : Int32)), some (.int ((8 : Int32) + l2))], [.int l1], (223, kc, ks, pd_H g q46.2))) rfl ?_
                    refine ev_gos pp_Mo_lane 1 (S' := (bif !(decide (l1 = 0)) then 124 else 113, [some (.ref 198), some (.int l1), some (.int l2), some (.int l3), some (.int (0 : Int32)), some (.int ((8 : Int32) + l2))], [], (223, kc, ks, pd_H g q46.2))) rfl ?_
                    rcases pd_cases h with ⟨hb61, h⟩ | ⟨hb61, h⟩
                    · rw [hb61]
                      refine ev_gos pp_Mo_lane 0 (S' := (124, [some (.ref 198), some (.int l1), some (.int l2), some (.int l3), some (.int (0 : Int32)), some (.int ((8 : Int32) + l2))], [], (223, kc, ks, pd_H g q46.2))) rfl ?_
                      exact s_Mo_lane_124 _ _ _ _ _ _ _  h
                    · rw [hb61]
                      refine ev_gos pp_Mo_lane 2 (S' := (117, [some (.ref 198), some (.int l1), some (.int l2), some (.int l3), some (.int (0 : Int32)), some (.int ((8 : Int32) + l2))], [.int (q46.2 198 26)], (223, kc, ks, pd_H g q46.2))) rfl ?_
                      refine ev_gos pp_Mo_lane 1 (S' := (bif !(decide ((q46.2 198 26) = 0)) then 124 else 120, [some (.ref 198), some (.int l1), some (.int l2), some (.int l3), some (.int (0 : Int32)), some (.int ((8 : Int32) + l2))], [], (223, kc, ks, pd_H g q46.2))) rfl ?_
                      rcases pd_cases h with ⟨hb62, h⟩ | ⟨hb62, h⟩
                      · rw [hb62]
                        refine ev_gos pp_Mo_lane 0 (S' := (124, [some (.ref 198), some (.int l1), some (.int l2), some (.int l3), some (.int (0 : Int32)), some (.int ((8 : Int32) + l2))], [], (223, kc, ks, pd_H g q46.2))) rfl ?_
                        exact s_Mo_lane_124 _ _ _ _ _ _ _  h
                      · rw [hb62]
                        refine ev_gos pp_Mo_lane 0 (S' := (120, [some (.ref 198), some (.int l1), some (.int l2), some (.int l3), some (.int (0 : Int32)), some (.int ((8 : Int32) + l2))], [], (223, kc, ks, pd_H g q46.2))) rfl ?_
                        exact s_Mo_lane_120 _ _ _ _ _ _ _  h
                · rw [hb58]
                  refine ev_gos pp_Mo_lane 3 (S' := (95, [some (.ref 198), some (.int l1), some (.int l2), some (.int l3), some (.int (0 : Int32)), some (.int ((8 : Int32) + l2))], [.int ((8 : Int32) + l2), .ref 208], (223, kc, ks, pd_H g q46.2))) rfl ?_
                  obtain ⟨hc63, h⟩ := pd_chk h
                  refine ev_iald pp_Mo_lane rfl (fun _ => rfl) hc63 ?_
                  refine ev_gos pp_Mo_lane 1 (S' := (125, [some (.ref 198), some (.int l1), some (.int l2), some (.int l3), some (.int (0 : Int32)), some (.int ((8 : Int32) + l2))], [.int (q46.2 208 (((8 : Int32) + l2).toNatClampNeg))], (223, kc, ks, pd_H g q46.2))) rfl ?_
                  cases h
                  exact ev_fin pp_Mo_lane rfl
              · rw [hb57]
                refine ev_gos pp_Mo_lane 3 (S' := (80, [some (.ref 198), some (.int l1), some (.int l2), some (.int l3), some (.int (0 : Int32)), some (.int ((8 : Int32) + l2))], [.int ((8 : Int32) + l2), .ref 207], (223, kc, ks, pd_H g q46.2))) rfl ?_
                obtain ⟨hc64, h⟩ := pd_chk h
                refine ev_iald pp_Mo_lane rfl (fun _ => rfl) hc64 ?_
                refine ev_gos pp_Mo_lane 1 (S' := (125, [some (.ref 198), some (.int l1), some (.int l2), some (.int l3), some (.int (0 : Int32)), some (.int ((8 : Int32) + l2))], [.int (q46.2 207 (((8 : Int32) + l2).toNatClampNeg))], (223, kc, ks, pd_H g q46.2))) rfl ?_
                cases h
                exact ev_fin pp_Mo_lane rfl
          · rw [hb47]
            refine ev_gos pp_Mo_lane 1 (S' := (55, [some (.ref 198), some (.int l1), some (.int l2), some (.int l3), some (.int (0 : Int32)), none], [.int (0 : Int32)], (223, kc, ks, pd_H g q46.2))) rfl ?_
            cases h
            exact ev_fin pp_Mo_lane rfl
    · rw [hb4]
      refine ev_gos pp_Mo_lane 0 (S' := (19, [some (.ref 198), some (.int l1), some (.int l2), some (.int l3), none, none], [], (223, kc, ks, pd_H g v))) rfl ?_
      exact s_Mo_lane_19 _ _ _ _ _ _ _  h
end FN
