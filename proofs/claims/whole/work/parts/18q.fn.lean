section FN
variable {xs : Nat → Int32} {L : Nat} {g : Nat → Int64} {d kc ks : Nat}
theorem pp_Mo_cell {xs : Nat → Int32} {L : Nat} : (pj_P xs L 154).1 = fun S => pm_look tb_Mo_cell S.1 S := rfl
def d_Mo_cell_20 (l1 : Int32) (l2 : Int32) (l3 : Int32) (v : pd_V) : Option (Int32 × pd_V) :=
  bif !(decide ((1 : Int32) = 0)) then
    (d_Mo_throwing (1 : Int32) (0 : Int32) (0 : Int32) v).bind fun q2 =>
    bif decide (q2.1 = 0) then
      bif decide (l1 = 0) then
        bif decide ((8 : Int32) ≤ l3) then
          bif pm_in ((((8 : Int32) * l2) + l3) - (8 : Int32)) 128 then
          some ((q2.2 204 (((((8 : Int32) * l2) + l3) - (8 : Int32)).toNatClampNeg)), q2.2)
          else none
        else
          bif pm_in (((8 : Int32) * l2) + l3) 128 then
          some ((q2.2 205 ((((8 : Int32) * l2) + l3).toNatClampNeg)), q2.2)
          else none
      else
        bif decide ((8 : Int32) ≤ l3) then
          bif pm_in ((((8 : Int32) * ((8 : Int32) + l2)) + l3) - (8 : Int32)) 128 then
          some ((q2.2 204 (((((8 : Int32) * ((8 : Int32) + l2)) + l3) - (8 : Int32)).toNatClampNeg)), q2.2)
          else none
        else
          bif pm_in (((8 : Int32) * ((8 : Int32) + l2)) + l3) 128 then
          some ((q2.2 205 ((((8 : Int32) * ((8 : Int32) + l2)) + l3).toNatClampNeg)), q2.2)
          else none
    else
      some ((0 : Int32), q2.2)
  else
    bif decide ((d_Mo_isNot l1 v) = 0) then
      (d_Mo_throwing (1 : Int32) (0 : Int32) (0 : Int32) v).bind fun q13 =>
      bif decide (q13.1 = 0) then
        bif decide (l1 = 0) then
          bif decide ((8 : Int32) ≤ l3) then
            bif pm_in ((((8 : Int32) * l2) + l3) - (8 : Int32)) 128 then
            some ((q13.2 204 (((((8 : Int32) * l2) + l3) - (8 : Int32)).toNatClampNeg)), q13.2)
            else none
          else
            bif pm_in (((8 : Int32) * l2) + l3) 128 then
            some ((q13.2 205 ((((8 : Int32) * l2) + l3).toNatClampNeg)), q13.2)
            else none
        else
          bif decide ((8 : Int32) ≤ l3) then
            bif pm_in ((((8 : Int32) * ((8 : Int32) + l2)) + l3) - (8 : Int32)) 128 then
            some ((q13.2 204 (((((8 : Int32) * ((8 : Int32) + l2)) + l3) - (8 : Int32)).toNatClampNeg)), q13.2)
            else none
          else
            bif pm_in (((8 : Int32) * ((8 : Int32) + l2)) + l3) 128 then
            some ((q13.2 205 ((((8 : Int32) * ((8 : Int32) + l2)) + l3).toNatClampNeg)), q13.2)
            else none
      else
        some ((0 : Int32), q13.2)
    else
      (d_Mo_throwing (1 : Int32) (1 : Int32) (0 : Int32) v).bind fun q22 =>
      bif decide (q22.1 = 0) then
        bif decide (l1 = 0) then
          bif decide ((8 : Int32) ≤ l3) then
            bif pm_in ((((8 : Int32) * l2) + l3) - (8 : Int32)) 128 then
            some ((q22.2 204 (((((8 : Int32) * l2) + l3) - (8 : Int32)).toNatClampNeg)), q22.2)
            else none
          else
            bif pm_in (((8 : Int32) * l2) + l3) 128 then
            some ((q22.2 205 ((((8 : Int32) * l2) + l3).toNatClampNeg)), q22.2)
            else none
        else
          bif decide ((8 : Int32) ≤ l3) then
            bif pm_in ((((8 : Int32) * ((8 : Int32) + l2)) + l3) - (8 : Int32)) 128 then
            some ((q22.2 204 (((((8 : Int32) * ((8 : Int32) + l2)) + l3) - (8 : Int32)).toNatClampNeg)), q22.2)
            else none
          else
            bif pm_in (((8 : Int32) * ((8 : Int32) + l2)) + l3) 128 then
            some ((q22.2 205 ((((8 : Int32) * ((8 : Int32) + l2)) + l3).toNatClampNeg)), q22.2)
            else none
      else
        some ((0 : Int32), q22.2)
theorem s_Mo_cell_20 : ∀ (l1 : Int32) (l2 : Int32) (l3 : Int32) (v : pd_V) (y4 : Option Value) (y5 : Option Value) (q : (Int32 × pd_V)) , d_Mo_cell_20 l1 l2 l3 v = some q → pm_ev (pj_P xs L) (d + 1) 154 (20, [some (.ref 198), some (.int l1), some (.int l2), some (.int l3), y4, y5], [], (223, kc, ks, pd_H g v)) (.inl (some (.int q.1)), (223, kc, ks, pd_H g q.2)) := by
  intro l1 l2 l3 v y4 y5 q h
  unfold d_Mo_cell_20 at h
  refine ev_gos pp_Mo_cell 6 (S' := (32, [some (.ref 198), some (.int l1), some (.int l2), some (.int l3), some (.int (1 : Int32)), y5], [.int (1 : Int32), .int (1 : Int32), .ref 198], (223, kc, ks, pd_H g v))) rfl ?_
  refine ev_gos pp_Mo_cell 1 (S' := (bif !(decide ((1 : Int32) = 0)) then 47 else 35, [some (.ref 198), some (.int l1), some (.int l2), some (.int l3), some (.int (1 : Int32)), y5], [.int (1 : Int32), .ref 198], (223, kc, ks, pd_H g v))) rfl ?_
  rcases pd_cases h with ⟨hb1, h⟩ | ⟨hb1, h⟩
  · rw [hb1]
    refine ev_gos pp_Mo_cell 2 (S' := (49, [some (.ref 198), some (.int l1), some (.int l2), some (.int l3), some (.int (1 : Int32)), y5], [.int (0 : Int32), .int (0 : Int32), .int (1 : Int32), .ref 198], (223, kc, ks, pd_H g v))) rfl ?_
    obtain ⟨q2, hq2, h⟩ := pd_bind h
    refine ev_callv pp_Mo_cell rfl rfl rfl rfl (s_Mo_throwing hq2) ?_
    refine ev_gos pp_Mo_cell 0 (S' := (52, [some (.ref 198), some (.int l1), some (.int l2), some (.int l3), some (.int (1 : Int32)), y5], [.int q2.1], (223, kc, ks, pd_H g q2.2))) rfl ?_
    refine ev_gos pp_Mo_cell 1 (S' := (bif decide (q2.1 = 0) then 57 else 55, [some (.ref 198), some (.int l1), some (.int l2), some (.int l3), some (.int (1 : Int32)), y5], [], (223, kc, ks, pd_H g q2.2))) rfl ?_
    rcases pd_cases h with ⟨hb3, h⟩ | ⟨hb3, h⟩
    · rw [hb3]
      refine ev_gos pp_Mo_cell 1 (S' := (58, [some (.ref 198), some (.int l1), some (.int l2), some (.int l3), some (.int (1 : Int32)), y5], [.int l1], (223, kc, ks, pd_H g q2.2))) rfl ?_
      refine ev_gos pp_Mo_cell 1 (S' := (bif decide (l1 = 0) then 68 else 61, [some (.ref 198), some (.int l1), some (.int l2), some (.int l3), some (.int (1 : Int32)), y5], [], (223, kc, ks, pd_H g q2.2))) rfl ?_
      rcases pd_cases h with ⟨hb4, h⟩ | ⟨hb4, h⟩
      · rw [hb4]
        refine ev_gos pp_Mo_cell 4 (S' := (74, [some (.ref 198), some (.int l1), some (.int l2), some (.int l3), some (.int (1 : Int32)), some (.int l2)], [.int (8 : Int32), .int l3], (223, kc, ks, pd_H g q2.2))) rfl ?_
        refine ev_gos pp_Mo_cell 1 (S' := (bif decide ((8 : Int32) ≤ l3) then 92 else 77, [some (.ref 198), some (.int l1), some (.int l2), some (.int l3), some (.int (1 : Int32)), some (.int l2)], [], (223, kc, ks, pd_H g q2.2))) rfl ?_
        rcases pd_cases h with ⟨hb5, h⟩ | ⟨hb5, h⟩
        · rw [hb5]
          refine ev_gos pp_Mo_cell 9 (S' := (106, [some (.ref 198), some (.int l1), some (.int l2), some (.int l3), some (.int (1 : Int32)), some (.int l2)], [.int ((((8 : Int32) * l2) + l3) - (8 : Int32)), .ref 204], (223, kc, ks, pd_H g q2.2))) rfl ?_
          obtain ⟨hc6, h⟩ := pd_chk h
          refine ev_iald pp_Mo_cell rfl (fun _ => rfl) hc6 ?_
          refine ev_gos pp_Mo_cell 0 (S' := (107, [some (.ref 198), some (.int l1), some (.int l2), some (.int l3), some (.int (1 : Int32)), some (.int l2)], [.int (q2.2 204 (((((8 : Int32) * l2) + l3) - (8 : Int32)).toNatClampNeg))], (223, kc, ks, pd_H g q2.2))) rfl ?_
          cases h
          exact ev_fin pp_Mo_cell rfl
        · rw [hb5]
          refine ev_gos pp_Mo_cell 7 (S' := (88, [some (.ref 198), some (.int l1), some (.int l2), some (.int l3), some (.int (1 : Int32)), some (.int l2)], [.int (((8 : Int32) * l2) + l3), .ref 205], (223, kc, ks, pd_H g q2.2))) rfl ?_
          obtain ⟨hc7, h⟩ := pd_chk h
          refine ev_iald pp_Mo_cell rfl (fun _ => rfl) hc7 ?_
          refine ev_gos pp_Mo_cell 1 (S' := (107, [some (.ref 198), some (.int l1), some (.int l2), some (.int l3), some (.int (1 : Int32)), some (.int l2)], [.int (q2.2 205 ((((8 : Int32) * l2) + l3).toNatClampNeg))], (223, kc, ks, pd_H g q2.2))) rfl ?_
          cases h
          exact ev_fin pp_Mo_cell rfl
      · rw [hb4]
        refine ev_gos pp_Mo_cell 7 (S' := (74, [some (.ref 198), some (.int l1), some (.int l2), some (.int l3), some (.int (1 : Int32)), some (.int ((8 : Int32) + l2))], [.int (8 : Int32), .int l3], (223, kc, ks, pd_H g q2.2))) rfl ?_
        refine ev_gos pp_Mo_cell 1 (S' := (bif decide ((8 : Int32) ≤ l3) then 92 else 77, [some (.ref 198), some (.int l1), some (.int l2), some (.int l3), some (.int (1 : Int32)), some (.int ((8 : Int32) + l2))], [], (223, kc, ks, pd_H g q2.2))) rfl ?_
        rcases pd_cases h with ⟨hb8, h⟩ | ⟨hb8, h⟩
        · rw [hb8]
          refine ev_gos pp_Mo_cell 9 (S' := (106, [some (.ref 198), some (.int l1), some (.int l2), some (.int l3), some (.int (1 : Int32)), some (.int ((8 : Int32) + l2))], [.int ((((8 : Int32) * ((8 : Int32) + l2)) + l3) - (8 : Int32)), .ref 204], (223, kc, ks, pd_H g q2.2))) rfl ?_
          obtain ⟨hc9, h⟩ := pd_chk h
          refine ev_iald pp_Mo_cell rfl (fun _ => rfl) hc9 ?_
          refine ev_gos pp_Mo_cell 0 (S' := (107, [some (.ref 198), some (.int l1), some (.int l2), some (.int l3), some (.int (1 : Int32)), some (.int ((8 : Int32) + l2))], [.int (q2.2 204 (((((8 : Int32) * ((8 : Int32) + l2)) + l3) - (8 : Int32)).toNatClampNeg))], (223, kc, ks, pd_H g q2.2))) rfl ?_
          cases h
          exact ev_fin pp_Mo_cell rfl
        · rw [hb8]
          refine ev_gos pp_Mo_cell 7 (S' := (88, [some (.ref 198), some (.int l1), some (.int l2), some (.int l3), some (.int (1 : Int32)), some (.int ((8 : Int32) + l2))], [.int (((8 : Int32) * ((8 : Int32) + l2)) + l3), .ref 205], (223, kc, ks, pd_H g q2.2))) rfl ?_
          obtain ⟨hc10, h⟩ := pd_chk h
          refine ev_iald pp_Mo_cell rfl (fun _ => rfl) hc10 ?_
          refine ev_gos pp_Mo_cell 1 (S' := (107, [some (.ref 198), some (.int l1), some (.int l2), some (.int l3), some (.int (1 : Int32)), some (.int ((8 : Int32) + l2))], [.int (q2.2 205 ((((8 : Int32) * ((8 : Int32) + l2)) + l3).toNatClampNeg))], (223, kc, ks, pd_H g q2.2))) rfl ?_
          cases h
          exact ev_fin pp_Mo_cell rfl
    · rw [hb3]
      refine ev_gos pp_Mo_cell 1 (S' := (56, [some (.ref 198), some (.int l1), some (.int l2), some (.int l3), some (.int (1 : Int32)), y5], [.int (0 : Int32)], (223, kc, ks, pd_H g q2.2))) rfl ?_
      cases h
      exact ev_fin pp_Mo_cell rfl
  · rw [hb1]
    refine ev_gos pp_Mo_cell 2 (S' := (37, [some (.ref 198), some (.int l1), some (.int l2), some (.int l3), some (.int (1 : Int32)), y5], [.int l1, .ref 198, .int (1 : Int32), .ref 198], (223, kc, ks, pd_H g v))) rfl ?_
    refine ev_callv pp_Mo_cell rfl rfl rfl rfl (s_Mo_isNot) ?_
    refine ev_gos pp_Mo_cell 0 (S' := (40, [some (.ref 198), some (.int l1), some (.int l2), some (.int l3), some (.int (1 : Int32)), y5], [.int (d_Mo_isNot l1 v), .int (1 : Int32), .ref 198], (223, kc, ks, pd_H g v))) rfl ?_
    refine ev_gos pp_Mo_cell 1 (S' := (bif decide ((d_Mo_isNot l1 v) = 0) then 47 else 43, [some (.ref 198), some (.int l1), some (.int l2), some (.int l3), some (.int (1 : Int32)), y5], [.int (1 : Int32), .ref 198], (223, kc, ks, pd_H g v))) rfl ?_
    rcases pd_cases h with ⟨hb12, h⟩ | ⟨hb12, h⟩
    · rw [hb12]
      refine ev_gos pp_Mo_cell 2 (S' := (49, [some (.ref 198), some (.int l1), some (.int l2), some (.int l3), some (.int (1 : Int32)), y5], [.int (0 : Int32), .int (0 : Int32), .int (1 : Int32), .ref 198], (223, kc, ks, pd_H g v))) rfl ?_
      obtain ⟨q13, hq13, h⟩ := pd_bind h
      refine ev_callv pp_Mo_cell rfl rfl rfl rfl (s_Mo_throwing hq13) ?_
      refine ev_gos pp_Mo_cell 0 (S' := (52, [some (.ref 198), some (.int l1), some (.int l2), some (.int l3), some (.int (1 : Int32)), y5], [.int q13.1], (223, kc, ks, pd_H g q13.2))) rfl ?_
      refine ev_gos pp_Mo_cell 1 (S' := (bif decide (q13.1 = 0) then 57 else 55, [some (.ref 198), some (.int l1), some (.int l2), some (.int l3), some (.int (1 : Int32)), y5], [], (223, kc, ks, pd_H g q13.2))) rfl ?_
      rcases pd_cases h with ⟨hb14, h⟩ | ⟨hb14, h⟩
      · rw [hb14]
        refine ev_gos pp_Mo_cell 1 (S' := (58, [some (.ref 198), some (.int l1), some (.int l2), some (.int l3), some (.int (1 : Int32)), y5], [.int l1], (223, kc, ks, pd_H g q13.2))) rfl ?_
        refine ev_gos pp_Mo_cell 1 (S' := (bif decide (l1 = 0) then 68 else 61, [some (.ref 198), some (.int l1), some (.int l2), some (.int l3), some (.int (1 : Int32)), y5], [], (223, kc, ks, pd_H g q13.2))) rfl ?_
        rcases pd_cases h with ⟨hb15, h⟩ | ⟨hb15, h⟩
        · rw [hb15]
          refine ev_gos pp_Mo_cell 4 (S' := (74, [some (.ref 198), some (.int l1), some (.int l2), some (.int l3), some (.int (1 : Int32)), some (.int l2)], [.int (8 : Int32), .int l3], (223, kc, ks, pd_H g q13.2))) rfl ?_
          refine ev_gos pp_Mo_cell 1 (S' := (bif decide ((8 : Int32) ≤ l3) then 92 else 77, [some (.ref 198), some (.int l1), some (.int l2), some (.int l3), some (.int (1 : Int32)), some (.int l2)], [], (223, kc, ks, pd_H g q13.2))) rfl ?_
          rcases pd_cases h with ⟨hb16, h⟩ | ⟨hb16, h⟩
          · rw [hb16]
            refine ev_gos pp_Mo_cell 9 (S' := (106, [some (.ref 198), some (.int l1), some (.int l2), some (.int l3), some (.int (1 : Int32)), some (.int l2)], [.int ((((8 : Int32) * l2) + l3) - (8 : Int32)), .ref 204], (223, kc, ks, pd_H g q13.2))) rfl ?_
            obtain ⟨hc17, h⟩ := pd_chk h
            refine ev_iald pp_Mo_cell rfl (fun _ => rfl) hc17 ?_
            refine ev_gos pp_Mo_cell 0 (S' := (107, [some (.ref 198), some (.int l1), some (.int l2), some (.int l3), some (.int (1 : Int32)), some (.int l2)], [.int (q13.2 204 (((((8 : Int32) * l2) + l3) - (8 : Int32)).toNatClampNeg))], (223, kc, ks, pd_H g q13.2))) rfl ?_
            cases h
            exact ev_fin pp_Mo_cell rfl
          · rw [hb16]
            refine ev_gos pp_Mo_cell 7 (S' := (88, [some (.ref 198), some (.int l1), some (.int l2), some (.int l3), some (.int (1 : Int32)), some (.int l2)], [.int (((8 : Int32) * l2) + l3), .ref 205], (223, kc, ks, pd_H g q13.2))) rfl ?_
            obtain ⟨hc18, h⟩ := pd_chk h
            refine ev_iald pp_Mo_cell rfl (fun _ => rfl) hc18 ?_
            refine ev_gos pp_Mo_cell 1 (S' := (107, [some (.ref 198), some (.int l1), some (.int l2), some (.int l3), some (.int (1 : Int32)), some (.int l2)], [.int (q13.2 205 ((((8 : Int32) * l2) + l3).toNatClampNeg))], (223, kc, ks, pd_H g q13.2))) rfl ?_
            cases h
            exact ev_fin pp_Mo_cell rfl
        · rw [hb15]
          refine ev_gos pp_Mo_cell 7 (S' := (74, [some (.ref 198), some (.int l1), some (.int l2), some (.int l3), some (.int (1 : Int32)), some (.int ((8 : Int32) + l2))], [.int (8 : Int32), .int l3], (223, kc, ks, pd_H g q13.2))) rfl ?_
          refine ev_gos pp_Mo_cell 1 (S' := (bif decide ((8 : Int32) ≤ l3) then 92 else 77, [some (.ref 198), some (.int l1), some (.int l2), some (.int l3), some (.int (1 : Int32)), some (.int ((8 : Int32) + l2))], [], (223, kc, ks, pd_H g q13.2))) rfl ?_
          rcases pd_cases h with ⟨hb19, h⟩ | ⟨hb19, h⟩
          · rw [hb19]
            refine ev_gos pp_Mo_cell 9 (S' := (106, [some (.ref 198), some (.int l1), some (.int l2), some (.int l3), some (.int (1 : Int32)), some (.int ((8 : Int32) + l2))], [.int ((((8 : Int32) * ((8 : Int32) + l2)) + l3) - (8 : Int32)), .ref 204], (223, kc, ks, pd_H g q13.2))) rfl ?_
            obtain ⟨hc20, h⟩ := pd_chk h
            refine ev_iald pp_Mo_cell rfl (fun _ => rfl) hc20 ?_
            refine ev_gos pp_Mo_cell 0 (S' := (107, [some (.ref 198), some (.int l1), some (.int l2), some (.int l3), some (.int (1 : Int32)), some (.int ((8 : Int32) + l2))], [.int (q13.2 204 (((((8 : Int32) * ((8 : Int32) + l2)) + l3) - (8 : Int32)).toNatClampNeg))], (223, kc, ks, pd_H g q13.2))) rfl ?_
            cases h
            exact ev_fin pp_Mo_cell rfl
          · rw [hb19]
            refine ev_gos pp_Mo_cell 7 (S' := (88, [some (.ref 198), some (.int l1), some (.int l2), some (.int l3), some (.int (1 : Int32)), some (.int ((8 : Int32) + l2))], [.int (((8 : Int32) * ((8 : Int32) + l2)) + l3), .ref 205], (223, kc, ks, pd_H g q13.2))) rfl ?_
            obtain ⟨hc21, h⟩ := pd_chk h
            refine ev_iald pp_Mo_cell rfl (fun _ => rfl) hc21 ?_
            refine ev_gos pp_Mo_cell 1 (S' := (107, [some (.ref 198), some (.int l1), some (.int l2), some (.int l3), some (.int (1 : Int32)), some (.int ((8 : Int32) + l2))], [.int (q13.2 205 ((((8 : Int32) * ((8 : Int32) + l2)) + l3).toNatClampNeg))], (223, kc, ks, pd_H g q13.2))) rfl ?_
            cases h
            exact ev_fin pp_Mo_cell rfl
      · rw [hb14]
        refine ev_gos pp_Mo_cell 1 (S' := (56, [some (.ref 198), some (.int l1), some (.int l2), some (.int l3), some (.int (1 : Int32)), y5], [.int (0 : Int32)], (223, kc, ks, pd_H g q13.2))) rfl ?_
        cases h
        exact ev_fin pp_Mo_cell rfl
    · rw [hb12]
      refine ev_gos pp_Mo_cell 3 (S' := (49, [some (.ref 198), some (.int l1), some (.int l2), some (.int l3), some (.int (1 : Int32)), y5], [.int (0 : Int32), .int (1 : Int32), .int (1 : Int32), .ref 198], (223, kc, ks, pd_H g v))) rfl ?_
      obtain ⟨q22, hq22, h⟩ := pd_bind h
      refine ev_callv pp_Mo_cell rfl rfl rfl rfl (s_Mo_throwing hq22) ?_
      refine ev_gos pp_Mo_cell 0 (S' := (52, [some (.ref 198), some (.int l1), some (.int l2), some (.int l3), some (.int (1 : Int32)), y5], [.int q22.1], (223, kc, ks, pd_H g q22.2))) rfl ?_
      refine ev_gos pp_Mo_cell 1 (S' := (bif decide (q22.1 = 0) then 57 else 55, [some (.ref 198), some (.int l1), some (.int l2), some (.int l3), some (.int (1 : Int32)), y5], [], (223, kc, ks, pd_H g q22.2))) rfl ?_
      rcases pd_cases h with ⟨hb23, h⟩ | ⟨hb23, h⟩
      · rw [hb23]
        refine ev_gos pp_Mo_cell 1 (S' := (58, [some (.ref 198), some (.int l1), some (.int l2), some (.int l3), some (.int (1 : Int32)), y5], [.int l1], (223, kc, ks, pd_H g q22.2))) rfl ?_
        refine ev_gos pp_Mo_cell 1 (S' := (bif decide (l1 = 0) then 68 else 61, [some (.ref 198), some (.int l1), some (.int l2), some (.int l3), some (.int (1 : Int32)), y5], [], (223, kc, ks, pd_H g q22.2))) rfl ?_
        rcases pd_cases h with ⟨hb24, h⟩ | ⟨hb24, h⟩
        · rw [hb24]
          refine ev_gos pp_Mo_cell 4 (S' := (74, [some (.ref 198), some (.int l1), some (.int l2), some (.int l3), some (.int (1 : Int32)), some (.int l2)], [.int (8 : Int32), .int l3], (223, kc, ks, pd_H g q22.2))) rfl ?_
          refine ev_gos pp_Mo_cell 1 (S' := (bif decide ((8 : Int32) ≤ l3) then 92 else 77, [some (.ref 198), some (.int l1), some (.int l2), some (.int l3), some (.int (1 : Int32)), some (.int l2)], [], (223, kc, ks, pd_H g q22.2))) rfl ?_
          rcases pd_cases h with ⟨hb25, h⟩ | ⟨hb25, h⟩
          · rw [hb25]
            refine ev_gos pp_Mo_cell 9 (S' := (106, [some (.ref 198), some (.int l1), some (.int l2), some (.int l3), some (.int (1 : Int32)), some (.int l2)], [.int ((((8 : Int32) * l2) + l3) - (8 : Int32)), .ref 204], (223, kc, ks, pd_H g q22.2))) rfl ?_
            obtain ⟨hc26, h⟩ := pd_chk h
            refine ev_iald pp_Mo_cell rfl (fun _ => rfl) hc26 ?_
            refine ev_gos pp_Mo_cell 0 (S' := (107, [some (.ref 198), some (.int l1), some (.int l2), some (.int l3), some (.int (1 : Int32)), some (.int l2)], [.int (q22.2 204 (((((8 : Int32) * l2) + l3) - (8 : Int32)).toNatClampNeg))], (223, kc, ks, pd_H g q22.2))) rfl ?_
            cases h
            exact ev_fin pp_Mo_cell rfl
          · rw [hb25]
            refine ev_gos pp_Mo_cell 7 (S' := (88, [some (.ref 198), some (.int l1), some (.int l2), some (.int l3), some (.int (1 : Int32)), some (.int l2)], [.int (((8 : Int32) * l2) + l3), .ref 205], (223, kc, ks, pd_H g q22.2))) rfl ?_
            obtain ⟨hc27, h⟩ := pd_chk h
            refine ev_iald pp_Mo_cell rfl (fun _ => rfl) hc27 ?_
            refine ev_gos pp_Mo_cell 1 (S' := (107, [some (.ref 198), some (.int l1), some (.int l2), some (.int l3), some (.int (1 : Int32)), some (.int l2)], [.int (q22.2 205 ((((8 : Int32) * l2) + l3).toNatClampNeg))], (223, kc, ks, pd_H g q22.2))) rfl ?_
            cases h
            exact ev_fin pp_Mo_cell rfl
        · rw [hb24]
          refine ev_gos pp_Mo_cell 7 (S' := (74, [some (.ref 198), some (.int l1), some (.int l2), some (.int l3), some (.int (1 : Int32)), some (.int ((8 : Int32) + l2))], [.int (8 : Int32), .int l3], (223, kc, ks, pd_H g q22.2))) rfl ?_
          refine ev_gos pp_Mo_cell 1 (S' := (bif decide ((8 : Int32) ≤ l3) then 92 else 77, [some (.ref 198), some (.int l1), some (.int l2), some (.int l3), some (.int (1 : Int32)), some (.int ((8 : Int32) + l2))], [], (223, kc, ks, pd_H g q22.2))) rfl ?_
          rcases pd_cases h with ⟨hb28, h⟩ | ⟨hb28, h⟩
          · rw [hb28]
            refine ev_gos pp_Mo_cell 9 (S' := (106, [some (.ref 198), some (.int l1), some (.int l2), some (.int l3), some (.int (1 : Int32)), some (.int ((8 : Int32) + l2))], [.int ((((8 : Int32) * ((8 : Int32) + l2)) + l3) - (8 : Int32)), .ref 204], (223, kc, ks, pd_H g q22.2))) rfl ?_
            obtain ⟨hc29, h⟩ := pd_chk h
            refine ev_iald pp_Mo_cell rfl (fun _ => rfl) hc29 ?_
            refine ev_gos pp_Mo_cell 0 (S' := (107, [some (.ref 198), some (.int l1), some (.int l2), some (.int l3), some (.int (1 : Int32)), some (.int ((8 : Int32) + l2))], [.int (q22.2 204 (((((8 : Int32) * ((8 : Int32) + l2)) + l3) - (8 : Int32)).toNatClampNeg))], (223, kc, ks, pd_H g q22.2))) rfl ?_
            cases h
            exact ev_fin pp_Mo_cell rfl
          · rw [hb28]
            refine ev_gos pp_Mo_cell 7 (S' := (88, [some (.ref 198), some (.int l1), some (.int l2), some (.int l3), some (.int (1 : Int32)), some (.int ((8 : Int32) + l2))], [.int (((8 : Int32) * ((8 : Int32) + l2)) + l3), .ref 205], (223, kc, ks, pd_H g q22.2))) rfl ?_
            obtain ⟨hc30, h⟩ := pd_chk h
            refine ev_iald pp_Mo_cell rfl (fun _ => rfl) hc30 ?_
            refine ev_gos pp_Mo_cell 1 (S' := (107, [some (.ref 198), some (.int l1), some (.int l2), some (.int l3), some (.int (1 : Int32)), some (.int ((8 : Int32) + l2))], [.int (q22.2 205 ((((8 : Int32) * ((8 : Int32) + l2)) + l3).toNatClampNeg))], (223, kc, ks, pd_H g q22.2))) rfl ?_
            cases h
            exact ev_fin pp_Mo_cell rfl
      · rw [hb23]
        refine ev_gos pp_Mo_cell 1 (S' := (56, [some (.ref 198), some (.int l1), some (.int l2), some (.int l3), some (.int (1 : Int32)), y5], [.int (0 : Int32)], (223, kc, ks, pd_H g q22.2))) rfl ?_
        cases h
        exact ev_fin pp_Mo_cell rfl
def d_Mo_cell (l1 : Int32) (l2 : Int32) (l3 : Int32) (v : pd_V) : Option (Int32 × pd_V) :=
  bif !(decide ((d_Mo_beyond l2 (0 : Int32) (7 : Int32)) = 0)) then
    d_Mo_cell_20 l1 l2 l3 v
  else
    bif decide ((d_Mo_beyond l3 (0 : Int32) (15 : Int32)) = 0) then
      bif !(decide ((0 : Int32) = 0)) then
        (d_Mo_throwing (0 : Int32) (0 : Int32) (0 : Int32) v).bind fun q6 =>
        bif decide (q6.1 = 0) then
          bif decide (l1 = 0) then
            bif decide ((8 : Int32) ≤ l3) then
              bif pm_in ((((8 : Int32) * l2) + l3) - (8 : Int32)) 128 then
              some ((q6.2 204 (((((8 : Int32) * l2) + l3) - (8 : Int32)).toNatClampNeg)), q6.2)
              else none
            else
              bif pm_in (((8 : Int32) * l2) + l3) 128 then
              some ((q6.2 205 ((((8 : Int32) * l2) + l3).toNatClampNeg)), q6.2)
              else none
          else
            bif decide ((8 : Int32) ≤ l3) then
              bif pm_in ((((8 : Int32) * ((8 : Int32) + l2)) + l3) - (8 : Int32)) 128 then
              some ((q6.2 204 (((((8 : Int32) * ((8 : Int32) + l2)) + l3) - (8 : Int32)).toNatClampNeg)), q6.2)
              else none
            else
              bif pm_in (((8 : Int32) * ((8 : Int32) + l2)) + l3) 128 then
              some ((q6.2 205 ((((8 : Int32) * ((8 : Int32) + l2)) + l3).toNatClampNeg)), q6.2)
              else none
        else
          some ((0 : Int32), q6.2)
      else
        bif decide ((d_Mo_isNot l1 v) = 0) then
          (d_Mo_throwing (0 : Int32) (0 : Int32) (0 : Int32) v).bind fun q17 =>
          bif decide (q17.1 = 0) then
            bif decide (l1 = 0) then
              bif decide ((8 : Int32) ≤ l3) then
                bif pm_in ((((8 : Int32) * l2) + l3) - (8 : Int32)) 128 then
                some ((q17.2 204 (((((8 : Int32) * l2) + l3) - (8 : Int32)).toNatClampNeg)), q17.2)
                else none
              else
                bif pm_in (((8 : Int32) * l2) + l3) 128 then
                some ((q17.2 205 ((((8 : Int32) * l2) + l3).toNatClampNeg)), q17.2)
                else none
            else
              bif decide ((8 : Int32) ≤ l3) then
                bif pm_in ((((8 : Int32) * ((8 : Int32) + l2)) + l3) - (8 : Int32)) 128 then
                some ((q17.2 204 (((((8 : Int32) * ((8 : Int32) + l2)) + l3) - (8 : Int32)).toNatClampNeg)), q17.2)
                else none
              else
                bif pm_in (((8 : Int32) * ((8 : Int32) + l2)) + l3) 128 then
                some ((q17.2 205 ((((8 : Int32) * ((8 : Int32) + l2)) + l3).toNatClampNeg)), q17.2)
                else none
          else
            some ((0 : Int32), q17.2)
        else
          (d_Mo_throwing (0 : Int32) (1 : Int32) (0 : Int32) v).bind fun q26 =>
          bif decide (q26.1 = 0) then
            bif decide (l1 = 0) then
              bif decide ((8 : Int32) ≤ l3) then
                bif pm_in ((((8 : Int32) * l2) + l3) - (8 : Int32)) 128 then
                some ((q26.2 204 (((((8 : Int32) * l2) + l3) - (8 : Int32)).toNatClampNeg)), q26.2)
                else none
              else
                bif pm_in (((8 : Int32) * l2) + l3) 128 then
                some ((q26.2 205 ((((8 : Int32) * l2) + l3).toNatClampNeg)), q26.2)
                else none
            else
              bif decide ((8 : Int32) ≤ l3) then
                bif pm_in ((((8 : Int32) * ((8 : Int32) + l2)) + l3) - (8 : Int32)) 128 then
                some ((q26.2 204 (((((8 : Int32) * ((8 : Int32) + l2)) + l3) - (8 : Int32)).toNatClampNeg)), q26.2)
                else none
              else
                bif pm_in (((8 : Int32) * ((8 : Int32) + l2)) + l3) 128 then
                some ((q26.2 205 ((((8 : Int32) * ((8 : Int32) + l2)) + l3).toNatClampNeg)), q26.2)
                else none
          else
            some ((0 : Int32), q26.2)
    else
      d_Mo_cell_20 l1 l2 l3 v
theorem s_Mo_cell {l1 : Int32} {l2 : Int32} {l3 : Int32} {v : pd_V} {q : (Int32 × pd_V)}  (h : d_Mo_cell l1 l2 l3 v = some q) : pm_ev (pj_P xs L) (d + 1) 154 (0, [some (.ref 198), some (.int l1), some (.int l2), some (.int l3), none, none], [], (223, kc, ks, pd_H g v)) (.inl (some (.int q.1)), (223, kc, ks, pd_H g q.2)) := by
  unfold d_Mo_cell at h
  refine ev_gos pp_Mo_cell 3 (S' := (4, [some (.ref 198), some (.int l1), some (.int l2), some (.int l3), none, none], [.int (7 : Int32), .int (0 : Int32), .int l2], (223, kc, ks, pd_H g v))) rfl ?_
  refine ev_call pp_Mo_cell rfl rfl rfl (s_Mo_beyond) ?_
  refine ev_gos pp_Mo_cell 0 (S' := (7, [some (.ref 198), some (.int l1), some (.int l2), some (.int l3), none, none], [.int (d_Mo_beyond l2 (0 : Int32) (7 : Int32))], (223, kc, ks, pd_H g v))) rfl ?_
  refine ev_gos pp_Mo_cell 1 (S' := (bif !(decide ((d_Mo_beyond l2 (0 : Int32) (7 : Int32)) = 0)) then 20 else 10, [some (.ref 198), some (.int l1), some (.int l2), some (.int l3), none, none], [], (223, kc, ks, pd_H g v))) rfl ?_
  rcases pd_cases h with ⟨hb2, h⟩ | ⟨hb2, h⟩
  · rw [hb2]
    refine ev_gos pp_Mo_cell 0 (S' := (20, [some (.ref 198), some (.int l1), some (.int l2), some (.int l3), none, none], [], (223, kc, ks, pd_H g v))) rfl ?_
    exact s_Mo_cell_20 _ _ _ _ _ _ _  h
  · rw [hb2]
    refine ev_gos pp_Mo_cell 3 (S' := (14, [some (.ref 198), some (.int l1), some (.int l2), some (.int l3), none, none], [.int (15 : Int32), .int (0 : Int32), .int l3], (223, kc, ks, pd_H g v))) rfl ?_
    refine ev_call pp_Mo_cell rfl rfl rfl (s_Mo_beyond) ?_
    refine ev_gos pp_Mo_cell 0 (S' := (17, [some (.ref 198), some (.int l1), some (.int l2), some (.int l3), none, none], [.int (d_Mo_beyond l3 (0 : Int32) (15 : Int32))], (223, kc, ks, pd_H g v))) rfl ?_
    refine ev_gos pp_Mo_cell 1 (S' := (bif decide ((d_Mo_beyond l3 (0 : Int32) (15 : Int32)) = 0) then 24 else 20, [some (.ref 198), some (.int l1), some (.int l2), some (.int l3), none, none], [], (223, kc, ks, pd_H g v))) rfl ?_
    rcases pd_cases h with ⟨hb4, h⟩ | ⟨hb4, h⟩
    · rw [hb4]
      refine ev_gos pp_Mo_cell 5 (S' := (32, [some (.ref 198), some (.int l1), some (.int l2), some (.int l3), some (.int (0 : Int32)), none], [.int (0 : Int32), .int (0 : Int32), .ref 198], (223, kc, ks, pd_H g v))) rfl ?_
      refine ev_gos pp_Mo_cell 1 (S' := (bif !(decide ((0 : Int32) = 0)) then 47 else 35, [some (.ref 198), some (.int l1), some (.int l2), some (.int l3), some (.int (0 : Int32)), none], [.int (0 : Int32), .ref 198], (223, kc, ks, pd_H g v))) rfl ?_
      rcases pd_cases h with ⟨hb5, h⟩ | ⟨hb5, h⟩
      · rw [hb5]
        refine ev_gos pp_Mo_cell 2 (S' := (49, [some (.ref 198), some (.int l1), some (.int l2), some (.int l3), some (.int (0 : Int32)), none], [.int (0 : Int32), .int (0 : Int32), .int (0 : Int32), .ref 198], (223, kc, ks, pd_H g v))) rfl ?_
        obtain ⟨q6, hq6, h⟩ := pd_bind h
        refine ev_callv pp_Mo_cell rfl rfl rfl rfl (s_Mo_throwing hq6) ?_
        refine ev_gos pp_Mo_cell 0 (S' := (52, [some (.ref 198), some (.int l1), some (.int l2), some (.int l3), some (.int (0 : Int32)), none], [.int q6.1], (223, kc, ks, pd_H g q6.2))) rfl ?_
        refine ev_gos pp_Mo_cell 1 (S' := (bif decide (q6.1 = 0) then 57 else 55, [some (.ref 198), some (.int l1), some (.int l2), some (.int l3), some (.int (0 : Int32)), none], [], (223, kc, ks, pd_H g q6.2))) rfl ?_
        rcases pd_cases h with ⟨hb7, h⟩ | ⟨hb7, h⟩
        · rw [hb7]
          refine ev_gos pp_Mo_cell 1 (S' := (58, [some (.ref 198), some (.int l1), some (.int l2), some (.int l3), some (.int (0 : Int32)), none], [.int l1], (223, kc, ks, pd_H g q6.2))) rfl ?_
          refine ev_gos pp_Mo_cell 1 (S' := (bif decide (l1 = 0) then 68 else 61, [some (.ref 198), some (.int l1), some (.int l2), some (.int l3), some (.int (0 : Int32)), none], [], (223, kc, ks, pd_H g q6.2))) rfl ?_
          rcases pd_cases h with ⟨hb8, h⟩ | ⟨hb8, h⟩
          · rw [hb8]
            refine ev_gos pp_Mo_cell 4 (S' := (74, [some (.ref 198), some (.int l1), some (.int l2), some (.int l3), some (.int (0 : Int32)), some (.int l2)], [.int (8 : Int32), .int l3], (223, kc, ks, pd_H g q6.2))) rfl ?_
            refine ev_gos pp_Mo_cell 1 (S' := (bif decide ((8 : Int32) ≤ l3) then 92 else 77, [some (.ref 198), some (.int l1), some (.int l2), some (.int l3), some (.int (0 : Int32)), some (.int l2)], [], (223, kc, ks, pd_H g q6.2))) rfl ?_
            rcases pd_cases h with ⟨hb9, h⟩ | ⟨hb9, h⟩
            · rw [hb9]
              refine ev_gos pp_Mo_cell 9 (S' := (106, [some (.ref 198), some (.int l1), some (.int l2), some (.int l3), some (.int (0 : Int32)), some (.int l2)], [.int ((((8 : Int32) * l2) + l3) - (8 : Int32)), .ref 204], (223, kc, ks, pd_H g q6.2))) rfl ?_
              obtain ⟨hc10, h⟩ := pd_chk h
              refine ev_iald pp_Mo_cell rfl (fun _ => rfl) hc10 ?_
              refine ev_gos pp_Mo_cell 0 (S' := (107, [some (.ref 198), some (.int l1), some (.int l2), some (.int l3), some (.int (0 : Int32)), some (.int l2)], [.int (q6.2 204 (((((8 : Int32) * l2) + l3) - (8 : Int32)).toNatClampNeg))], (223, kc, ks, pd_H g q6.2))) rfl ?_
              cases h
              exact ev_fin pp_Mo_cell rfl
            · rw [hb9]
              refine ev_gos pp_Mo_cell 7 (S' := (88, [some (.ref 198), some (.int l1), some (.int l2), some (.int l3), some (.int (0 : Int32)), some (.int l2)], [.int (((8 : Int32) * l2) + l3), .ref 205], (223, kc, ks, pd_H g q6.2))) rfl ?_
              obtain ⟨hc11, h⟩ := pd_chk h
              refine ev_iald pp_Mo_cell rfl (fun _ => rfl) hc11 ?_
              refine ev_gos pp_Mo_cell 1 (S' := (107, [some (.ref 198), some (.int l1), some (.int l2), some (.int l3), some (.int (0 : Int32)), some (.int l2)], [.int (q6.2 205 ((((8 : Int32) * l2) + l3).toNatClampNeg))], (223, kc, ks, pd_H g q6.2))) rfl ?_
              cases h
              exact ev_fin pp_Mo_cell rfl
          · rw [hb8]
            refine ev_gos pp_Mo_cell 7 (S' := (74, [some (.ref 198), some (.int l1), some (.int l2), some (.int l3), some (.int (0 : Int32)), some (.int ((8 : Int32) + l2))], [.int (8 : Int32), .int l3], (223, kc, ks, pd_H g q6.2))) rfl ?_
            refine ev_gos pp_Mo_cell 1 (S' := (bif decide ((8 : Int32) ≤ l3) then 92 else 77, [some (.ref 198), some (.int l1), some (.int l2), some (.int l3), some (.int (0 : Int32)), some (.int ((8 : Int32) + l2))], [], (223, kc, ks, pd_H g q6.2))) rfl ?_
            rcases pd_cases h with ⟨hb12, h⟩ | ⟨hb12, h⟩
            · rw [hb12]
              refine ev_gos pp_Mo_cell 9 (S' := (106, [some (.ref 198), some (.int l1), some (.int l2), some (.int l3), some (.int (0 : Int32)), some (.int ((8 : Int32) + l2))], [.int ((((8 : Int32) * ((8 : Int32) + l2)) + l3) - (8 : Int32)), .ref 204], (223, kc, ks, pd_H g q6.2))) rfl ?_
              obtain ⟨hc13, h⟩ := pd_chk h
              refine ev_iald pp_Mo_cell rfl (fun _ => rfl) hc13 ?_
              refine ev_gos pp_Mo_cell 0 (S' := (107, [some (.ref 198), some (.int l1), some (.int l2), some (.int l3), some (.int (0 : Int32)), some (.int ((8 : Int32) + l2))], [.int (q6.2 204 (((((8 : Int32) * ((8 : Int32) + l2)) + l3) - (8 : Int32)).toNatClampNeg))], (223, kc, ks, pd_H g q6.2))) rfl ?_
              cases h
              exact ev_fin pp_Mo_cell rfl
            · rw [hb12]
              refine ev_gos pp_Mo_cell 7 (S' := (88, [some (.ref 198), some (.int l1), some (.int l2), some (.int l3), some (.int (0 : Int32)), some (.int ((8 : Int32) + l2))], [.int (((8 : Int32) * ((8 : Int32) + l2)) + l3), .ref 205], (223, kc, ks, pd_H g q6.2))) rfl ?_
              obtain ⟨hc14, h⟩ := pd_chk h
              refine ev_iald pp_Mo_cell rfl (fun _ => rfl) hc14 ?_
              refine ev_gos pp_Mo_cell 1 (S' := (107, [some (.ref 198), some (.int l1), some (.int l2), some (.int l3), some (.int (0 : Int32)), some (.int ((8 : Int32) + l2))], [.int (q6.2 205 ((((8 : Int32) * ((8 : Int32) + l2)) + l3).toNatClampNeg))], (223, kc, ks, pd_H g q6.2))) rfl ?_
              cases h
              exact ev_fin pp_Mo_cell rfl
        · rw [hb7]
          refine ev_gos pp_Mo_cell 1 (S' := (56, [some (.ref 198), some (.int l1), some (.int l2), some (.int l3), some (.int (0 : Int32)), none], [.int (0 : Int32)], (223, kc, ks, pd_H g q6.2))) rfl ?_
          cases h
          exact ev_fin pp_Mo_cell rfl
      · rw [hb5]
        refine ev_gos pp_Mo_cell 2 (S' := (37, [some (.ref 198), some (.int l1), some (.int l2), some (.int l3), some (.int (0 : Int32)), none], [.int l1, .ref 198, .int (0 : Int32), .ref 198], (223, kc, ks, pd_H g v))) rfl ?_
        refine ev_callv pp_Mo_cell rfl rfl rfl rfl (s_Mo_isNot) ?_
        refine ev_gos pp_Mo_cell 0 (S' := (40, [some (.ref 198), some (.int l1), some (.int l2), some (.int l3), some (.int (0 : Int32)), none], [.int (d_Mo_isNot l1 v), .int (0 : Int32), .ref 198], (223, kc, ks, pd_H g v))) rfl ?_
        refine ev_gos pp_Mo_cell 1 (S' := (bif decide ((d_Mo_isNot l1 v) = 0) then 47 else 43, [some (.ref 198), some (.int l1), some (.int l2), some (.int l3), some (.int (0 : Int32)), none], [.int (0 : Int32), .ref 198], (223, kc, ks, pd_H g v))) rfl ?_
        rcases pd_cases h with ⟨hb16, h⟩ | ⟨hb16, h⟩
        · rw [hb16]
          refine ev_gos pp_Mo_cell 2 (S' := (49, [some (.ref 198), some (.int l1), some (.int l2), some (.int l3), some (.int (0 : Int32)), none], [.int (0 : Int32), .int (0 : Int32), .int (0 : Int32), .ref 198], (223, kc, ks, pd_H g v))) rfl ?_
          obtain ⟨q17, hq17, h⟩ := pd_bind h
          refine ev_callv pp_Mo_cell rfl rfl rfl rfl (s_Mo_throwing hq17) ?_
          refine ev_gos pp_Mo_cell 0 (S' := (52, [some (.ref 198), some (.int l1), some (.int l2), some (.int l3), some (.int (0 : Int32)), none], [.int q17.1], (223, kc, ks, pd_H g q17.2))) rfl ?_
          refine ev_gos pp_Mo_cell 1 (S' := (bif decide (q17.1 = 0) then 57 else 55, [some (.ref 198), some (.int l1), some (.int l2), some (.int l3), some (.int (0 : Int32)), none], [], (223, kc, ks, pd_H g q17.2))) rfl ?_
          rcases pd_cases h with ⟨hb18, h⟩ | ⟨hb18, h⟩
          · rw [hb18]
            refine ev_gos pp_Mo_cell 1 (S' := (58, [some (.ref 198), some (.int l1), some (.int l2), some (.int l3), some (.int (0 : Int32)), none], [.int l1], (223, kc, ks, pd_H g q17.2))) rfl ?_
            refine ev_gos pp_Mo_cell 1 (S' := (bif decide (l1 = 0) then 68 else 61, [some (.ref 198), some (.int l1), some (.int l2), some (.int l3), some (.int (0 : Int32)), none], [], (223, kc, ks, pd_H g q17.2))) rfl ?_
            rcases pd_cases h with ⟨hb19, h⟩ | ⟨hb19, h⟩
            · rw [hb19]
              refine ev_gos pp_Mo_cell 4 (S' := (74, [some (.ref 198), some (.int l1), some (.int l2), some (.int l3), some (.int (0 : Int32)), some (.int l2)], [.int (8 : Int32), .int l3], (223, kc, ks, pd_H g q17.2))) rfl ?_
              refine ev_gos pp_Mo_cell 1 (S' := (bif decide ((8 : Int32) ≤ l3) then 92 else 77, [some (.ref 198), some (.int l1), some (.int l2), some (.int l3), some (.int (0 : Int32)), some (.int l2)], [], (223, kc, ks, pd_H g q17.2))) rfl ?_
              rcases pd_cases h with ⟨hb20, h⟩ | ⟨hb20, h⟩
              · rw [hb20]
                refine ev_gos pp_Mo_cell 9 (S' := (106, [some (.ref 198), some (.int l1), some (.int l2), some (.int l3), some (.int (0 : Int32)), some (.int l2)], [.int ((((8 : Int32) * l2) + l3) - (8 : Int32)), .ref 204], (223, kc, ks, pd_H g q17.2))) rfl ?_
                obtain ⟨hc21, h⟩ := pd_chk h
                refine ev_iald pp_Mo_cell rfl (fun _ => rfl) hc21 ?_
                refine ev_gos pp_Mo_cell 0 (S' := (107, [some (.ref 198), some (.int l1), some (.int l2), some (.int l3), some (.int (0 : Int32)), some (.int l2)], [.int (q17.2 204 (((((8 : Int32) * l2) + l3) - (8 : Int32)).toNatClampNeg))], (223, kc, ks, pd_H g q17.2))) rfl ?_
                cases h
                exact ev_fin pp_Mo_cell rfl
              · rw [hb20]
                refine ev_gos pp_Mo_cell 7 (S' := (88, [some (.ref 198), some (.int l1), some (.int l2), some (.int l3), some (.int (0 : Int32)), some (.int l2)], [.int (((8 : Int32) * l2) + l3), .ref 205], (223, kc, ks, pd_H g q17.2))) rfl ?_
                obtain ⟨hc22, h⟩ := pd_chk h
                refine ev_iald pp_Mo_cell rfl (fun _ => rfl) hc22 ?_
                refine ev_gos pp_Mo_cell 1 (S' := (107, [some (.ref 198), some (.int l1), some (.int l2), some (.int l3), some (.int (0 : Int32)), some (.int l2)], [.int (q17.2 205 ((((8 : Int32) * l2) + l3).toNatClampNeg))], (223, kc, ks, pd_H g q17.2))) rfl ?_
                cases h
                exact ev_fin pp_Mo_cell rfl
            · rw [hb19]
              refine ev_gos pp_Mo_cell 7 (S' := (74, [some (.ref 198), some (.int l1), some (.int l2), some (.int l3), some (.int (0 : Int32)), some (.int ((8 : Int32) + l2))], [.int (8 : Int32), .int l3], (223, kc, ks, pd_H g q17.2))) rfl ?_
              refine ev_gos pp_Mo_cell 1 (S' := (bif decide ((8 : Int32) ≤ l3) then 92 else 77, [some (.ref 198), some (.int l1), some (.int l2), some (.int l3), some (.int (0 : Int32)), some (.int ((8 : Int32) + l2))], [], (223, kc, ks, pd_H g q17.2))) rfl ?_
              rcases pd_cases h with ⟨hb23, h⟩ | ⟨hb23, h⟩
              · rw [hb23]
                refine ev_gos pp_Mo_cell 9 (S' := (106, [some (.ref 198), some (.int l1), some (.int l2), some (.int l3), some (.int (0 : Int32)), some (.int ((8 : Int32) + l2))], [.int ((((8 : Int32) * ((8 : Int32) + l2)) + l3) - (8 : Int32)), .ref 204], (223, kc, ks, pd_H g q17.2))) rfl ?_
                obtain ⟨hc24, h⟩ := pd_chk h
                refine ev_iald pp_Mo_cell rfl (fun _ => rfl) hc24 ?_
                refine ev_gos pp_Mo_cell 0 (S' := (107, [some (.ref 198), some (.int l1), some (.int l2), some (.int l3), some (.int (0 : Int32)), some (.int ((8 : Int32) + l2))], [.int (q17.2 204 (((((8 : Int32) * ((8 : Int32) + l2)) + l3) - (8 : Int32)).toNatClampNeg))], (223, kc, ks, pd_H g q17.2))) rfl ?_
                cases h
                exact ev_fin pp_Mo_cell rfl
              · rw [hb23]
                refine ev_gos pp_Mo_cell 7 (S' := (88, [some (.ref 198), some (.int l1), some (.int l2), some (.int l3), some (.int (0 : Int32)), some (.int ((8 : Int32) + l2))], [.int (((8 : Int32) * ((8 : Int32) + l2)) + l3), .ref 205], (223, kc, ks, pd_H g q17.2))) rfl ?_
                obtain ⟨hc25, h⟩ := pd_chk h
                refine ev_iald pp_Mo_cell rfl (fun _ => rfl) hc25 ?_
                refine ev_gos pp_Mo_cell 1 (S' := (107, [some (.ref 198), some (.int l1), some (.int l2), some (.int l3), some (.int (0 : Int32)), some (.int ((8 : Int32) + l2))], [.int (q17.2 205 ((((8 : Int32) * ((8 : Int32) + l2)) + l3).toNatClampNeg))], (223, kc, ks, pd_H g q17.2))) rfl ?_
                cases h
                exact ev_fin pp_Mo_cell rfl
          · rw [hb18]
            refine ev_gos pp_Mo_cell 1 (S' := (56, [some (.ref 198), some (.int l1), some (.int l2), some (.int l3), some (.int (0 : Int32)), none], [.int (0 : Int32)], (223, kc, ks, pd_H g q17.2))) rfl ?_
            cases h
            exact ev_fin pp_Mo_cell rfl
        · rw [hb16]
          refine ev_gos pp_Mo_cell 3 (S' := (49, [some (.ref 198), some (.int l1), some (.int l2), some (.int l3), some (.int (0 : Int32)), none], [.int (0 : Int32), .int (1 : Int32), .int (0 : Int32), .ref 198], (223, kc, ks, pd_H g v))) rfl ?_
          obtain ⟨q26, hq26, h⟩ := pd_bind h
          refine ev_callv pp_Mo_cell rfl rfl rfl rfl (s_Mo_throwing hq26) ?_
          refine ev_gos pp_Mo_cell 0 (S' := (52, [some (.ref 198), some (.int l1), some (.int l2), some (.int l3), some (.int (0 : Int32)), none], [.int q26.1], (223, kc, ks, pd_H g q26.2))) rfl ?_
          refine ev_gos pp_Mo_cell 1 (S' := (bif decide (q26.1 = 0) then 57 else 55, [some (.ref 198), some (.int l1), some (.int l2), some (.int l3), some (.int (0 : Int32)), none], [], (223, kc, ks, pd_H g q26.2))) rfl ?_
          rcases pd_cases h with ⟨hb27, h⟩ | ⟨hb27, h⟩
          · rw [hb27]
            refine ev_gos pp_Mo_cell 1 (S' := (58, [some (.ref 198), some (.int l1), some (.int l2), some (.int l3), some (.int (0 : Int32)), none], [.int l1], (223, kc, ks, pd_H g q26.2))) rfl ?_
            refine ev_gos pp_Mo_cell 1 (S' := (bif decide (l1 = 0) then 68 else 61, [some (.ref 198), some (.int l1), some (.int l2), some (.int l3), some (.int (0 : Int32)), none], [], (223, kc, ks, pd_H g q26.2))) rfl ?_
            rcases pd_cases h with ⟨hb28, h⟩ | ⟨hb28, h⟩
            · rw [hb28]
              refine ev_gos pp_Mo_cell 4 (S' := (74, [some (.ref 198), some (.int l1), some (.int l2), some (.int l3), some (.int (0 : Int32)), some (.int l2)], [.int (8 : Int32), .int l3], (223, kc, ks, pd_H g q26.2))) rfl ?_
              refine ev_gos pp_Mo_cell 1 (S' := (bif decide ((8 : Int32) ≤ l3) then 92 else 77, [some (.ref 198), some (.int l1), some (.int l2), some (.int l3), some (.int (0 : Int32)), some (.int l2)], [], (223, kc, ks, pd_H g q26.2))) rfl ?_
              rcases pd_cases h with ⟨hb29, h⟩ | ⟨hb29, h⟩
              · rw [hb29]
                refine ev_gos pp_Mo_cell 9 (S' := (106, [some (.ref 198), some (.int l1), some (.int l2), some (.int l3), some (.int (0 : Int32)), some (.int l2)], [.int ((((8 : Int32) * l2) + l3) - (8 : Int32)), .ref 204], (223, kc, ks, pd_H g q26.2))) rfl ?_
                obtain ⟨hc30, h⟩ := pd_chk h
                refine ev_iald pp_Mo_cell rfl (fun _ => rfl) hc30 ?_
                refine ev_gos pp_Mo_cell 0 (S' := (107, [some (.ref 198), some (.int l1), some (.int l2), some (.int l3), some (.int (0 : Int32)), some (.int l2)], [.int (q26.2 204 (((((8 : Int32) * l2) + l3) - (8 : Int32)).toNatClampNeg))], (223, kc, ks, pd_H g q26.2))) rfl ?_
                cases h
                exact ev_fin pp_Mo_cell rfl
              · rw [hb29]
                refine ev_gos pp_Mo_cell 7 (S' := (88, [some (.ref 198), some (.int l1), some (.int l2), some (.int l3), some (.int (0 : Int32)), some (.int l2)], [.int (((8 : Int32) * l2) + l3), .ref 205], (223, kc, ks, pd_H g q26.2))) rfl ?_
                obtain ⟨hc31, h⟩ := pd_chk h
                refine ev_iald pp_Mo_cell rfl (fun _ => rfl) hc31 ?_
                refine ev_gos pp_Mo_cell 1 (S' := (107, [some (.ref 198), some (.int l1), some (.int l2), some (.int l3), some (.int (0 : Int32)), some (.int l2)], [.int (q26.2 205 ((((8 : Int32) * l2) + l3).toNatClampNeg))], (223, kc, ks, pd_H g q26.2))) rfl ?_
                cases h
                exact ev_fin pp_Mo_cell rfl
            · rw [hb28]
              refine ev_gos pp_Mo_cell 7 (S' := (74, [some (.ref 198), some (.int l1), some (.int l2), some (.int l3), some (.int (0 : Int32)), some (.int ((8 : Int32) + l2))], [.int (8 : Int32), .int l3], (223, kc, ks, pd_H g q26.2))) rfl ?_
              refine ev_gos pp_Mo_cell 1 (S' := (bif decide ((8 : Int32) ≤ l3) then 92 else 77, [some (.ref 198), some (.int l1), some (.int l2), some (.int l3), some (.int (0 : Int32)), some (.int ((8 : Int32) + l2))], [], (223, kc, ks, pd_H g q26.2))) rfl ?_
              rcases pd_cases h with ⟨hb32, h⟩ | ⟨hb32, h⟩
              · rw [hb32]
                refine ev_gos pp_Mo_cell 9 (S' := (106, [some (.ref 198), some (.int l1), some (.int l2), some (.int l3), some (.int (0 : Int32)), some (.int ((8 : Int32) + l2))], [.int ((((8 : Int32) * ((8 : Int32) + l2)) + l3) - (8 : Int32)), .ref 204], (223, kc, ks, pd_H g q26.2))) rfl ?_
                obtain ⟨hc33, h⟩ := pd_chk h
                refine ev_iald pp_Mo_cell rfl (fun _ => rfl) hc33 ?_
                refine ev_gos pp_Mo_cell 0 (S' := (107, [some (.ref 198), some (.int l1), some (.int l2), some (.int l3), some (.int (0 : Int32)), some (.int ((8 : Int32) + l2))], [.int (q26.2 204 (((((8 : Int32) * ((8 : Int32) + l2)) + l3) - (8 : Int32)).toNatClampNeg))], (223, kc, ks, pd_H g q26.2))) rfl ?_
                cases h
                exact ev_fin pp_Mo_cell rfl
              · rw [hb32]
                refine ev_gos pp_Mo_cell 7 (S' := (88, [some (.ref 198), some (.int l1), some (.int l2), some (.int l3), some (.int (0 : Int32)), some (.int ((8 : Int32) + l2))], [.int (((8 : Int32) * ((8 : Int32) + l2)) + l3), .ref 205], (223, kc, ks, pd_H g q26.2))) rfl ?_
                obtain ⟨hc34, h⟩ := pd_chk h
                refine ev_iald pp_Mo_cell rfl (fun _ => rfl) hc34 ?_
                refine ev_gos pp_Mo_cell 1 (S' := (107, [some (.ref 198), some (.int l1), some (.int l2), some (.int l3), some (.int (0 : Int32)), some (.int ((8 : Int32) + l2))], [.int (q26.2 205 ((((8 : Int32) * ((8 : Int32) + l2)) + l3).toNatClampNeg))], (223, kc, ks, pd_H g q26.2))) rfl ?_
                cases h
                exact ev_fin pp_Mo_cell rfl
          · rw [hb27]
            refine ev_gos pp_Mo_cell 1 (S' := (56, [some (.ref 198), some (.int l1), some (.int l2), some (.int l3), some (.int (0 : Int32)), none], [.int (0 : Int32)], (223, kc, ks, pd_H g q26.2))) rfl ?_
            cases h
            exact ev_fin pp_Mo_cell rfl
    · rw [hb4]
      refine ev_gos pp_Mo_cell 0 (S' := (20, [some (.ref 198), some (.int l1), some (.int l2), some (.int l3), none, none], [], (223, kc, ks, pd_H g v))) rfl ?_
      exact s_Mo_cell_20 _ _ _ _ _ _ _  h
end FN
