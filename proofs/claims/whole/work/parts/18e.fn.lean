section FN
variable {xs : Nat → Int32} {L : Nat} {g : Nat → Int64} {d kc ks : Nat}
theorem pp_Cr_act {xs : Nat → Int32} {L : Nat} : (pj_P xs L 78).1 = fun S => pm_look tb_Cr_act S.1 S := rfl
def d_Cr_act (w : Nat) (l0 : Nat) (l1 : Nat) (l2 : Nat) (l3 : Int32) (v : pd_V) : Option pd_V :=
  bif !(decide ((v l2 0) = (4 : Int32))) then
    (d_Cr_reckon w l0 l1 ((pd_w v l0 9 (0 : Int32)) l2 7) ((pd_w v l0 9 (0 : Int32)) l2 8) l3 (pd_w v l0 9 (0 : Int32))).bind fun q2 =>
    (d_Cr_reckon w l0 l1 (q2.2 l2 8) (q2.2 l2 9) l3 q2.2).bind fun q3 =>
    bif !(decide ((q3.2 l2 0) = (2 : Int32))) then
      bif (((q3.2 l0 9) ||| (0 : Int32)) == 0 || ((q3.2 l0 9) ||| (0 : Int32)) == 1) then
      bif decide (((pd_w q3.2 l0 9 ((q3.2 l0 9) ||| (0 : Int32))) l0 9) = 0) then
        bif !(decide (((pd_w q3.2 l0 9 ((q3.2 l0 9) ||| (0 : Int32))) l2 0) = 0)) then
          bif !(decide (((pd_w q3.2 l0 9 ((q3.2 l0 9) ||| (0 : Int32))) l2 0) = (1 : Int32))) then
            bif !(decide (((pd_w q3.2 l0 9 ((q3.2 l0 9) ||| (0 : Int32))) l2 0) = (2 : Int32))) then
              some (pd_w q3.2 l0 9 ((q3.2 l0 9) ||| (0 : Int32)))
            else
              bif pm_in (d_De_slot l3 q2.1) 64 then
              some (pd_w (pd_w q3.2 l0 9 ((q3.2 l0 9) ||| (0 : Int32))) (l0 + 3) ((d_De_slot l3 q2.1).toNatClampNeg) q3.1)
              else none
          else
            (d_Cr_put l0 l3 q2.1 (pd_w q3.2 l0 9 ((q3.2 l0 9) ||| (0 : Int32)))).bind fun q12 =>
            some q12
        else
          bif pm_in (d_De_slot l3 ((pd_w q3.2 l0 9 ((q3.2 l0 9) ||| (0 : Int32))) l2 5)) 64 then
          some (pd_w (pd_w q3.2 l0 9 ((q3.2 l0 9) ||| (0 : Int32))) (l0 + 2) ((d_De_slot l3 ((pd_w q3.2 l0 9 ((q3.2 l0 9) ||| (0 : Int32))) l2 5)).toNatClampNeg) q2.1)
          else none
      else
        (d_Cr_trap l0 l2 l3 (pd_w q3.2 l0 9 ((q3.2 l0 9) ||| (0 : Int32)))).bind fun q15 =>
        some q15
      else none
    else
      bif decide ((d_Cr_isOutside q2.1 (8 : Int32)) = 0) then
        bif (((q3.2 l0 9) ||| (0 : Int32)) == 0 || ((q3.2 l0 9) ||| (0 : Int32)) == 1) then
        bif decide (((pd_w q3.2 l0 9 ((q3.2 l0 9) ||| (0 : Int32))) l0 9) = 0) then
          bif !(decide (((pd_w q3.2 l0 9 ((q3.2 l0 9) ||| (0 : Int32))) l2 0) = 0)) then
            bif !(decide (((pd_w q3.2 l0 9 ((q3.2 l0 9) ||| (0 : Int32))) l2 0) = (1 : Int32))) then
              bif !(decide (((pd_w q3.2 l0 9 ((q3.2 l0 9) ||| (0 : Int32))) l2 0) = (2 : Int32))) then
                some (pd_w q3.2 l0 9 ((q3.2 l0 9) ||| (0 : Int32)))
              else
                bif pm_in (d_De_slot l3 q2.1) 64 then
                some (pd_w (pd_w q3.2 l0 9 ((q3.2 l0 9) ||| (0 : Int32))) (l0 + 3) ((d_De_slot l3 q2.1).toNatClampNeg) q3.1)
                else none
            else
              (d_Cr_put l0 l3 q2.1 (pd_w q3.2 l0 9 ((q3.2 l0 9) ||| (0 : Int32)))).bind fun q25 =>
              some q25
          else
            bif pm_in (d_De_slot l3 ((pd_w q3.2 l0 9 ((q3.2 l0 9) ||| (0 : Int32))) l2 5)) 64 then
            some (pd_w (pd_w q3.2 l0 9 ((q3.2 l0 9) ||| (0 : Int32))) (l0 + 2) ((d_De_slot l3 ((pd_w q3.2 l0 9 ((q3.2 l0 9) ||| (0 : Int32))) l2 5)).toNatClampNeg) q2.1)
            else none
        else
          (d_Cr_trap l0 l2 l3 (pd_w q3.2 l0 9 ((q3.2 l0 9) ||| (0 : Int32)))).bind fun q28 =>
          some q28
        else none
      else
        bif (((q3.2 l0 9) ||| (1 : Int32)) == 0 || ((q3.2 l0 9) ||| (1 : Int32)) == 1) then
        bif decide (((pd_w q3.2 l0 9 ((q3.2 l0 9) ||| (1 : Int32))) l0 9) = 0) then
          bif !(decide (((pd_w q3.2 l0 9 ((q3.2 l0 9) ||| (1 : Int32))) l2 0) = 0)) then
            bif !(decide (((pd_w q3.2 l0 9 ((q3.2 l0 9) ||| (1 : Int32))) l2 0) = (1 : Int32))) then
              bif !(decide (((pd_w q3.2 l0 9 ((q3.2 l0 9) ||| (1 : Int32))) l2 0) = (2 : Int32))) then
                some (pd_w q3.2 l0 9 ((q3.2 l0 9) ||| (1 : Int32)))
              else
                bif pm_in (d_De_slot l3 q2.1) 64 then
                some (pd_w (pd_w q3.2 l0 9 ((q3.2 l0 9) ||| (1 : Int32))) (l0 + 3) ((d_De_slot l3 q2.1).toNatClampNeg) q3.1)
                else none
            else
              (d_Cr_put l0 l3 q2.1 (pd_w q3.2 l0 9 ((q3.2 l0 9) ||| (1 : Int32)))).bind fun q36 =>
              some q36
          else
            bif pm_in (d_De_slot l3 ((pd_w q3.2 l0 9 ((q3.2 l0 9) ||| (1 : Int32))) l2 5)) 64 then
            some (pd_w (pd_w q3.2 l0 9 ((q3.2 l0 9) ||| (1 : Int32))) (l0 + 2) ((d_De_slot l3 ((pd_w q3.2 l0 9 ((q3.2 l0 9) ||| (1 : Int32))) l2 5)).toNatClampNeg) q2.1)
            else none
        else
          (d_Cr_trap l0 l2 l3 (pd_w q3.2 l0 9 ((q3.2 l0 9) ||| (1 : Int32)))).bind fun q39 =>
          some q39
        else none
  else
    some (pd_w v l0 10 ((v l0 10) ||| ((1 : Int32) <<< (l3 &&& 31))))
theorem s_Cr_act {w : Nat} {l0 : Nat} {l1 : Nat} {l2 : Nat} {l3 : Int32} {v : pd_V} {q : pd_V} (hl0 : crw l0) (hl1 : ker l1) (hl2 : stp l2) (h : d_Cr_act w l0 l1 l2 l3 v = some q) : pm_ev (pj_P xs L) (d + 3) 78 (0, [some (.ref l0), some (.ref l1), some (.ref l2), some (.int l3), none, none], [], (223, kc, ks, pd_H g v)) (.inl none, (223, kc, ks, pd_H g q)) := by
  unfold d_Cr_act at h
  refine ev_gos pp_Cr_act 1 (S' := (1, [some (.ref l0), some (.ref l1), some (.ref l2), some (.int l3), none, none], [.ref l2], (223, kc, ks, pd_H g v))) rfl ?_
  refine ev_get pp_Cr_act rfl (c_st hl2) rfl ?_
  refine ev_gos pp_Cr_act 1 (S' := (5, [some (.ref l0), some (.ref l1), some (.ref l2), some (.int l3), none, none], [.int (4 : Int32), .int (v l2 0)], (223, kc, ks, pd_H g v))) rfl ?_
  refine ev_gos pp_Cr_act 1 (S' := (bif !(decide ((v l2 0) = (4 : Int32))) then 21 else 8, [some (.ref l0), some (.ref l1), some (.ref l2), some (.int l3), none, none], [], (223, kc, ks, pd_H g v))) rfl ?_
  rcases pd_cases h with ⟨hb1, h⟩ | ⟨hb1, h⟩
  · rw [hb1]
    refine ev_gos pp_Cr_act 2 (S' := (23, [some (.ref l0), some (.ref l1), some (.ref l2), some (.int l3), none, none], [.int (0 : Int32), .ref l0], (223, kc, ks, pd_H g v))) rfl ?_
    refine ev_put pp_Cr_act rfl (c_cr hl0) rfl rfl (pd_fit pd_b0) ?_
    refine ev_gos pp_Cr_act 3 (S' := (29, [some (.ref l0), some (.ref l1), some (.ref l2), some (.int l3), none, none], [.ref l2, .ref l1, .ref l0], (223, kc, ks, pd_H g (pd_w v l0 9 (0 : Int32))))) rfl ?_
    refine ev_get pp_Cr_act rfl (c_st hl2) rfl ?_
    refine ev_gos pp_Cr_act 1 (S' := (33, [some (.ref l0), some (.ref l1), some (.ref l2), some (.int l3), none, none], [.ref l2, .int ((pd_w v l0 9 (0 : Int32)) l2 7), .ref l1, .ref l0], (223, kc, ks, pd_H g (pd_w v l0 9 (0 : Int32))))) rfl ?_
    refine ev_get pp_Cr_act rfl (c_st hl2) rfl ?_
    refine ev_gos pp_Cr_act 1 (S' := (37, [some (.ref l0), some (.ref l1), some (.ref l2), some (.int l3), none, none], [.int l3, .int ((pd_w v l0 9 (0 : Int32)) l2 8), .int ((pd_w v l0 9 (0 : Int32)) l2 7), .ref l1, .ref l0], (223, kc, ks, pd_H g (pd_w v l0 9 (0 : Int32))))) rfl ?_
    obtain ⟨q2, hq2, h⟩ := pd_bind h
    refine ev_callv pp_Cr_act rfl rfl (pd_isa (c_cr hl0)) rfl (s_Cr_reckon hl0 hl1 hq2) ?_
    refine ev_gos pp_Cr_act 4 (S' := (45, [some (.ref l0), some (.ref l1), some (.ref l2), some (.int l3), some (.int q2.1), none], [.ref l2, .ref l1, .ref l0], (223, kc, ks, pd_H g q2.2))) rfl ?_
    refine ev_get pp_Cr_act rfl (c_st hl2) rfl ?_
    refine ev_gos pp_Cr_act 1 (S' := (49, [some (.ref l0), some (.ref l1), some (.ref l2), some (.int l3), some (.int q2.1), none], [.ref l2, .int (q2.2 l2 8), .ref l1, .ref l0], (223, kc, ks, pd_H g q2.2))) rfl ?_
    refine ev_get pp_Cr_act rfl (c_st hl2) rfl ?_
    refine ev_gos pp_Cr_act 1 (S' := (53, [some (.ref l0), some (.ref l1), some (.ref l2), some (.int l3), some (.int q2.1), none], [.int l3, .int (q2.2 l2 9), .int (q2.2 l2 8), .ref l1, .ref l0], (223, kc, ks, pd_H g q2.2))) rfl ?_
    obtain ⟨q3, hq3, h⟩ := pd_bind h
    refine ev_callv pp_Cr_act rfl rfl (pd_isa (c_cr hl0)) rfl (s_Cr_reckon hl0 hl1 hq3) ?_
    refine ev_gos pp_Cr_act 3 (S' := (60, [some (.ref l0), some (.ref l1), some (.ref l2), some (.int l3), some (.int q2.1), some (.int q3.1)], [.ref l0, .ref l0], (223, kc, ks, pd_H g q3.2))) rfl ?_
    refine ev_get pp_Cr_act rfl (c_cr hl0) rfl ?_
    refine ev_gos pp_Cr_act 1 (S' := (64, [some (.ref l0), some (.ref l1), some (.ref l2), some (.int l3), some (.int q2.1), some (.int q3.1)], [.ref l2, .int (q3.2 l0 9), .ref l0], (223, kc, ks, pd_H g q3.2))) rfl ?_
    refine ev_get pp_Cr_act rfl (c_st hl2) rfl ?_
    refine ev_gos pp_Cr_act 1 (S' := (68, [some (.ref l0), some (.ref l1), some (.ref l2), some (.int l3), some (.int q2.1), some (.int q3.1)], [.int (2 : Int32), .int (q3.2 l2 0), .int (q3.2 l0 9), .ref l0], (223, kc, ks, pd_H g q3.2))) rfl ?_
    refine ev_gos pp_Cr_act 1 (S' := (bif !(decide ((q3.2 l2 0) = (2 : Int32))) then 85 else 71, [some (.ref l0), some (.ref l1), some (.ref l2), some (.int l3), some (.int q2.1), some (.int q3.1)], [.int (q3.2 l0 9), .ref l0], (223, kc, ks, pd_H g q3.2))) rfl ?_
    rcases pd_cases h with ⟨hb4, h⟩ | ⟨hb4, h⟩
    · rw [hb4]
      refine ev_gos pp_Cr_act 2 (S' := (87, [some (.ref l0), some (.ref l1), some (.ref l2), some (.int l3), some (.int q2.1), some (.int q3.1)], [.int ((q3.2 l0 9) ||| (0 : Int32)), .ref l0], (223, kc, ks, pd_H g q3.2))) rfl ?_
      obtain ⟨hc5, h⟩ := pd_chk h
      refine ev_put pp_Cr_act rfl (c_cr hl0) rfl rfl (pd_fit hc5) ?_
      refine ev_gos pp_Cr_act 1 (S' := (91, [some (.ref l0), some (.ref l1), some (.ref l2), some (.int l3), some (.int q2.1), some (.int q3.1)], [.ref l0], (223, kc, ks, pd_H g (pd_w q3.2 l0 9 ((q3.2 l0 9) ||| (0 : Int32)))))) rfl ?_
      refine ev_get pp_Cr_act rfl (c_cr hl0) rfl ?_
      refine ev_gos pp_Cr_act 0 (S' := (94, [some (.ref l0), some (.ref l1), some (.ref l2), some (.int l3), some (.int q2.1), some (.int q3.1)], [.int ((pd_w q3.2 l0 9 ((q3.2 l0 9) ||| (0 : Int32))) l0 9)], (223, kc, ks, pd_H g (pd_w q3.2 l0 9 ((q3.2 l0 9) ||| (0 : Int32)))))) rfl ?_
      refine ev_gos pp_Cr_act 1 (S' := (bif decide (((pd_w q3.2 l0 9 ((q3.2 l0 9) ||| (0 : Int32))) l0 9) = 0) then 106 else 97, [some (.ref l0), some (.ref l1), some (.ref l2), some (.int l3), some (.int q2.1), some (.int q3.1)], [], (223, kc, ks, pd_H g (pd_w q3.2 l0 9 ((q3.2 l0 9) ||| (0 : Int32)))))) rfl ?_
      rcases pd_cases h with ⟨hb6, h⟩ | ⟨hb6, h⟩
      · rw [hb6]
        refine ev_gos pp_Cr_act 1 (S' := (107, [some (.ref l0), some (.ref l1), some (.ref l2), some (.int l3), some (.int q2.1), some (.int q3.1)], [.ref l2], (223, kc, ks, pd_H g (pd_w q3.2 l0 9 ((q3.2 l0 9) ||| (0 : Int32)))))) rfl ?_
        refine ev_get pp_Cr_act rfl (c_st hl2) rfl ?_
        refine ev_gos pp_Cr_act 0 (S' := (110, [some (.ref l0), some (.ref l1), some (.ref l2), some (.int l3), some (.int q2.1), some (.int q3.1)], [.int ((pd_w q3.2 l0 9 ((q3.2 l0 9) ||| (0 : Int32))) l2 0)], (223, kc, ks, pd_H g (pd_w q3.2 l0 9 ((q3.2 l0 9) ||| (0 : Int32)))))) rfl ?_
        refine ev_gos pp_Cr_act 1 (S' := (bif !(decide (((pd_w q3.2 l0 9 ((q3.2 l0 9) ||| (0 : Int32))) l2 0) = 0)) then 131 else 113, [some (.ref l0), some (.ref l1), some (.ref l2), some (.int l3), some (.int q2.1), some (.int q3.1)], [], (223, kc, ks, pd_H g (pd_w q3.2 l0 9 ((q3.2 l0 9) ||| (0 : Int32)))))) rfl ?_
        rcases pd_cases h with ⟨hb7, h⟩ | ⟨hb7, h⟩
        · rw [hb7]
          refine ev_gos pp_Cr_act 1 (S' := (132, [some (.ref l0), some (.ref l1), some (.ref l2), some (.int l3), some (.int q2.1), some (.int q3.1)], [.ref l2], (223, kc, ks, pd_H g (pd_w q3.2 l0 9 ((q3.2 l0 9) ||| (0 : Int32)))))) rfl ?_
          refine ev_get pp_Cr_act rfl (c_st hl2) rfl ?_
          refine ev_gos pp_Cr_act 1 (S' := (136, [some (.ref l0), some (.ref l1), some (.ref l2), some (.int l3), some (.int q2.1), some (.int q3.1)], [.int (1 : Int32), .int ((pd_w q3.2 l0 9 ((q3.2 l0 9) ||| (0 : Int32))) l2 0)], (223, kc, ks, pd_H g (pd_w q3.2 l0 9 ((q3.2 l0 9) ||| (0 : Int32)))))) rfl ?_
          refine ev_gos pp_Cr_act 1 (S' := (bif !(decide (((pd_w q3.2 l0 9 ((q3.2 l0 9) ||| (0 : Int32))) l2 0) = (1 : Int32))) then 149 else 139, [some (.ref l0), some (.ref l1), some (.ref l2), some (.int l3), some (.int q2.1), some (.int q3.1)], [], (223, kc, ks, pd_H g (pd_w q3.2 l0 9 ((q3.2 l0 9) ||| (0 : Int32)))))) rfl ?_
          rcases pd_cases h with ⟨hb8, h⟩ | ⟨hb8, h⟩
          · rw [hb8]
            refine ev_gos pp_Cr_act 1 (S' := (150, [some (.ref l0), some (.ref l1), some (.ref l2), some (.int l3), some (.int q2.1), some (.int q3.1)], [.ref l2], (223, kc, ks, pd_H g (pd_w q3.2 l0 9 ((q3.2 l0 9) ||| (0 : Int32)))))) rfl ?_
            refine ev_get pp_Cr_act rfl (c_st hl2) rfl ?_
            refine ev_gos pp_Cr_act 1 (S' := (154, [some (.ref l0), some (.ref l1), some (.ref l2), some (.int l3), some (.int q2.1), some (.int q3.1)], [.int (2 : Int32), .int ((pd_w q3.2 l0 9 ((q3.2 l0 9) ||| (0 : Int32))) l2 0)], (223, kc, ks, pd_H g (pd_w q3.2 l0 9 ((q3.2 l0 9) ||| (0 : Int32)))))) rfl ?_
            refine ev_gos pp_Cr_act 1 (S' := (bif !(decide (((pd_w q3.2 l0 9 ((q3.2 l0 9) ||| (0 : Int32))) l2 0) = (2 : Int32))) then 170 else 157, [some (.ref l0), some (.ref l1), some (.ref l2), some (.int l3), some (.int q2.1), some (.int q3.1)], [], (223, kc, ks, pd_H g (pd_w q3.2 l0 9 ((q3.2 l0 9) ||| (0 : Int32)))))) rfl ?_
            rcases pd_cases h with ⟨hb9, h⟩ | ⟨hb9, h⟩
            · rw [hb9]
              refine ev_gos pp_Cr_act 0 (S' := (170, [some (.ref l0), some (.ref l1), some (.ref l2), some (.int l3), some (.int q2.1), some (.int q3.1)], [], (223, kc, ks, pd_H g (pd_w q3.2 l0 9 ((q3.2 l0 9) ||| (0 : Int32)))))) rfl ?_
              cases h
              exact ev_fin pp_Cr_act rfl
            · rw [hb9]
              refine ev_gos pp_Cr_act 1 (S' := (158, [some (.ref l0), some (.ref l1), some (.ref l2), some (.int l3), some (.int q2.1), some (.int q3.1)], [.ref l0], (223, kc, ks, pd_H g (pd_w q3.2 l0 9 ((q3.2 l0 9) ||| (0 : Int32)))))) rfl ?_
              refine ev_get pp_Cr_act rfl (c_cr hl0) rfl ?_
              refine ev_gos pp_Cr_act 2 (S' := (164, [some (.ref l0), some (.ref l1), some (.ref l2), some (.int l3), some (.int q2.1), some (.int q3.1)], [.int q2.1, .int l3, .ref (l0 + 3)], (223, kc, ks, pd_H g (pd_w q3.2 l0 9 ((q3.2 l0 9) ||| (0 : Int32)))))) rfl ?_
              refine ev_call pp_Cr_act rfl rfl rfl (s_De_slot) ?_
              refine ev_gos pp_Cr_act 1 (S' := (169, [some (.ref l0), some (.ref l1), some (.ref l2), some (.int l3), some (.int q2.1), some (.int q3.1)], [.int q3.1, .int (d_De_slot l3 q2.1), .ref (l0 + 3)], (223, kc, ks, pd_H g (pd_w q3.2 l0 9 ((q3.2 l0 9) ||| (0 : Int32)))))) rfl ?_
              obtain ⟨hc11, h⟩ := pd_chk h
              refine ev_iast pp_Cr_act rfl (c_cr3 hl0) hc11 ?_
              refine ev_gos pp_Cr_act 0 (S' := (170, [some (.ref l0), some (.ref l1), some (.ref l2), some (.int l3), some (.int q2.1), some (.int q3.1)], [], (223, kc, ks, pd_H g (pd_w (pd_w q3.2 l0 9 ((q3.2 l0 9) ||| (0 : Int32))) (l0 + 3) ((d_De_slot l3 q2.1).toNatClampNeg) q3.1)))) rfl ?_
              cases h
              exact ev_fin pp_Cr_act rfl
          · rw [hb8]
            refine ev_gos pp_Cr_act 3 (S' := (143, [some (.ref l0), some (.ref l1), some (.ref l2), some (.int l3), some (.int q2.1), some (.int q3.1)], [.int q2.1, .int l3, .ref l0], (223, kc, ks, pd_H g (pd_w q3.2 l0 9 ((q3.2 l0 9) ||| (0 : Int32)))))) rfl ?_
            obtain ⟨q12, hq12, h⟩ := pd_bind h
            refine ev_callv pp_Cr_act rfl rfl (pd_isa (c_cr hl0)) rfl (s_Cr_put hl0 hq12) ?_
            refine ev_gos pp_Cr_act 1 (S' := (170, [some (.ref l0), some (.ref l1), some (.ref l2), some (.int l3), some (.int q2.1), some (.int q3.1)], [], (223, kc, ks, pd_H g q12))) rfl ?_
            cases h
            exact ev_fin pp_Cr_act rfl
        · rw [hb7]
          refine ev_gos pp_Cr_act 1 (S' := (114, [some (.ref l0), some (.ref l1), some (.ref l2), some (.int l3), some (.int q2.1), some (.int q3.1)], [.ref l0], (223, kc, ks, pd_H g (pd_w q3.2 l0 9 ((q3.2 l0 9) ||| (0 : Int32)))))) rfl ?_
          refine ev_get pp_Cr_act rfl (c_cr hl0) rfl ?_
          refine ev_gos pp_Cr_act 2 (S' := (119, [some (.ref l0), some (.ref l1), some (.ref l2), some (.int l3), some (.int q2.1), some (.int q3.1)], [.ref l2, .int l3, .ref (l0 + 2)], (223, kc, ks, pd_H g (pd_w q3.2 l0 9 ((q3.2 l0 9) ||| (0 : Int32)))))) rfl ?_
          refine ev_get pp_Cr_act rfl (c_st hl2) rfl ?_
          refine ev_gos pp_Cr_act 0 (S' := (122, [some (.ref l0), some (.ref l1), some (.ref l2), some (.int l3), some (.int q2.1), some (.int q3.1)], [.int ((pd_w q3.2 l0 9 ((q3.2 l0 9) ||| (0 : Int32))) l2 5), .int l3, .ref (l0 + 2)], (223, kc, ks, pd_H g (pd_w q3.2 l0 9 ((q3.2 l0 9) ||| (0 : Int32)))))) rfl ?_
          refine ev_call pp_Cr_act rfl rfl rfl (s_De_slot) ?_
          refine ev_gos pp_Cr_act 1 (S' := (127, [some (.ref l0), some (.ref l1), some (.ref l2), some (.int l3), some (.int q2.1), some (.int q3.1)], [.int q2.1, .int (d_De_slot l3 ((pd_w q3.2 l0 9 ((q3.2 l0 9) ||| (0 : Int32))) l2 5)), .ref (l0 + 2)], (223, kc, ks, pd_H g (pd_w q3.2 l0 9 ((q3.2 l0 9) ||| (0 : Int32)))))) rfl ?_
          obtain ⟨hc14, h⟩ := pd_chk h
          refine ev_iast pp_Cr_act rfl (c_cr2 hl0) hc14 ?_
          refine ev_gos pp_Cr_act 1 (S' := (170, [some (.ref l0), some (.ref l1), some (.ref l2), some (.int l3), some (.int q2.1), some (.int q3.1)], [], (223, kc, ks, pd_H g (pd_w (pd_w q3.2 l0 9 ((q3.2 l0 9) ||| (0 : Int32))) (l0 + 2) ((d_De_slot l3 ((pd_w q3.2 l0 9 ((q3.2 l0 9) ||| (0 : Int32))) l2 5)).toNatClampNeg) q2.1)))) rfl ?_
          cases h
          exact ev_fin pp_Cr_act rfl
      · rw [hb6]
        refine ev_gos pp_Cr_act 3 (S' := (100, [some (.ref l0), some (.ref l1), some (.ref l2), some (.int l3), some (.int q2.1), some (.int q3.1)], [.int l3, .ref l2, .ref l0], (223, kc, ks, pd_H g (pd_w q3.2 l0 9 ((q3.2 l0 9) ||| (0 : Int32)))))) rfl ?_
        obtain ⟨q15, hq15, h⟩ := pd_bind h
        refine ev_callv pp_Cr_act rfl rfl (pd_isa (c_cr hl0)) rfl (s_Cr_trap hl0 hl2 hq15) ?_
        refine ev_gos pp_Cr_act 1 (S' := (170, [some (.ref l0), some (.ref l1), some (.ref l2), some (.int l3), some (.int q2.1), some (.int q3.1)], [], (223, kc, ks, pd_H g q15))) rfl ?_
        cases h
        exact ev_fin pp_Cr_act rfl
    · rw [hb4]
      refine ev_gos pp_Cr_act 2 (S' := (75, [some (.ref l0), some (.ref l1), some (.ref l2), some (.int l3), some (.int q2.1), some (.int q3.1)], [.int (8 : Int32), .int q2.1, .int (q3.2 l0 9), .ref l0], (223, kc, ks, pd_H g q3.2))) rfl ?_
      refine ev_call pp_Cr_act rfl rfl rfl (s_Cr_isOutside) ?_
      refine ev_gos pp_Cr_act 0 (S' := (78, [some (.ref l0), some (.ref l1), some (.ref l2), some (.int l3), some (.int q2.1), some (.int q3.1)], [.int (d_Cr_isOutside q2.1 (8 : Int32)), .int (q3.2 l0 9), .ref l0], (223, kc, ks, pd_H g q3.2))) rfl ?_
      refine ev_gos pp_Cr_act 1 (S' := (bif decide ((d_Cr_isOutside q2.1 (8 : Int32)) = 0) then 85 else 81, [some (.ref l0), some (.ref l1), some (.ref l2), some (.int l3), some (.int q2.1), some (.int q3.1)], [.int (q3.2 l0 9), .ref l0], (223, kc, ks, pd_H g q3.2))) rfl ?_
      rcases pd_cases h with ⟨hb17, h⟩ | ⟨hb17, h⟩
      · rw [hb17]
        refine ev_gos pp_Cr_act 2 (S' := (87, [some (.ref l0), some (.ref l1), some (.ref l2), some (.int l3), some (.int q2.1), some (.int q3.1)], [.int ((q3.2 l0 9) ||| (0 : Int32)), .ref l0], (223, kc, ks, pd_H g q3.2))) rfl ?_
        obtain ⟨hc18, h⟩ := pd_chk h
        refine ev_put pp_Cr_act rfl (c_cr hl0) rfl rfl (pd_fit hc18) ?_
        refine ev_gos pp_Cr_act 1 (S' := (91, [some (.ref l0), some (.ref l1), some (.ref l2), some (.int l3), some (.int q2.1), some (.int q3.1)], [.ref l0], (223, kc, ks, pd_H g (pd_w q3.2 l0 9 ((q3.2 l0 9) ||| (0 : Int32)))))) rfl ?_
        refine ev_get pp_Cr_act rfl (c_cr hl0) rfl ?_
        refine ev_gos pp_Cr_act 0 (S' := (94, [some (.ref l0), some (.ref l1), some (.ref l2), some (.int l3), some (.int q2.1), some (.int q3.1)], [.int ((pd_w q3.2 l0 9 ((q3.2 l0 9) ||| (0 : Int32))) l0 9)], (223, kc, ks, pd_H g (pd_w q3.2 l0 9 ((q3.2 l0 9) ||| (0 : Int32)))))) rfl ?_
        refine ev_gos pp_Cr_act 1 (S' := (bif decide (((pd_w q3.2 l0 9 ((q3.2 l0 9) ||| (0 : Int32))) l0 9) = 0) then 106 else 97, [some (.ref l0), some (.ref l1), some (.ref l2), some (.int l3), some (.int q2.1), some (.int q3.1)], [], (223, kc, ks, pd_H g (pd_w q3.2 l0 9 ((q3.2 l0 9) ||| (0 : Int32)))))) rfl ?_
        rcases pd_cases h with ⟨hb19, h⟩ | ⟨hb19, h⟩
        · rw [hb19]
          refine ev_gos pp_Cr_act 1 (S' := (107, [some (.ref l0), some (.ref l1), some (.ref l2), some (.int l3), some (.int q2.1), some (.int q3.1)], [.ref l2], (223, kc, ks, pd_H g (pd_w q3.2 l0 9 ((q3.2 l0 9) ||| (0 : Int32)))))) rfl ?_
          refine ev_get pp_Cr_act rfl (c_st hl2) rfl ?_
          refine ev_gos pp_Cr_act 0 (S' := (110, [some (.ref l0), some (.ref l1), some (.ref l2), some (.int l3), some (.int q2.1), some (.int q3.1)], [.int ((pd_w q3.2 l0 9 ((q3.2 l0 9) ||| (0 : Int32))) l2 0)], (223, kc, ks, pd_H g (pd_w q3.2 l0 9 ((q3.2 l0 9) ||| (0 : Int32)))))) rfl ?_
          refine ev_gos pp_Cr_act 1 (S' := (bif !(decide (((pd_w q3.2 l0 9 ((q3.2 l0 9) ||| (0 : Int32))) l2 0) = 0)) then 131 else 113, [some (.ref l0), some (.ref l1), some (.ref l2), some (.int l3), some (.int q2.1), some (.int q3.1)], [], (223, kc, ks, pd_H g (pd_w q3.2 l0 9 ((q3.2 l0 9) ||| (0 : Int32)))))) rfl ?_
          rcases pd_cases h with ⟨hb20, h⟩ | ⟨hb20, h⟩
          · rw [hb20]
            refine ev_gos pp_Cr_act 1 (S' := (132, [some (.ref l0), some (.ref l1), some (.ref l2), some (.int l3), some (.int q2.1), some (.int q3.1)], [.ref l2], (223, kc, ks, pd_H g (pd_w q3.2 l0 9 ((q3.2 l0 9) ||| (0 : Int32)))))) rfl ?_
            refine ev_get pp_Cr_act rfl (c_st hl2) rfl ?_
            refine ev_gos pp_Cr_act 1 (S' := (136, [some (.ref l0), some (.ref l1), some (.ref l2), some (.int l3), some (.int q2.1), some (.int q3.1)], [.int (1 : Int32), .int ((pd_w q3.2 l0 9 ((q3.2 l0 9) ||| (0 : Int32))) l2 0)], (223, kc, ks, pd_H g (pd_w q3.2 l0 9 ((q3.2 l0 9) ||| (0 : Int32)))))) rfl ?_
            refine ev_gos pp_Cr_act 1 (S' := (bif !(decide (((pd_w q3.2 l0 9 ((q3.2 l0 9) ||| (0 : Int32))) l2 0) = (1 : Int32))) then 149 else 139, [some (.ref l0), some (.ref l1), some (.ref l2), some (.int l3), some (.int q2.1), some (.int q3.1)], [], (223, kc, ks, pd_H g (pd_w q3.2 l0 9 ((q3.2 l0 9) ||| (0 : Int32)))))) rfl ?_
            rcases pd_cases h with ⟨hb21, h⟩ | ⟨hb21, h⟩
            · rw [hb21]
              refine ev_gos pp_Cr_act 1 (S' := (150, [some (.ref l0), some (.ref l1), some (.ref l2), some (.int l3), some (.int q2.1), some (.int q3.1)], [.ref l2], (223, kc, ks, pd_H g (pd_w q3.2 l0 9 ((q3.2 l0 9) ||| (0 : Int32)))))) rfl ?_
              refine ev_get pp_Cr_act rfl (c_st hl2) rfl ?_
              refine ev_gos pp_Cr_act 1 (S' := (154, [some (.ref l0), some (.ref l1), some (.ref l2), some (.int l3), some (.int q2.1), some (.int q3.1)], [.int (2 : Int32), .int ((pd_w q3.2 l0 9 ((q3.2 l0 9) ||| (0 : Int32))) l2 0)], (223, kc, ks, pd_H g (pd_w q3.2 l0 9 ((q3.2 l0 9) ||| (0 : Int32)))))) rfl ?_
              refine ev_gos pp_Cr_act 1 (S' := (bif !(decide (((pd_w q3.2 l0 9 ((q3.2 l0 9) ||| (0 : Int32))) l2 0) = (2 : Int32))) then 170 else 157, [some (.ref l0), some (.ref l1), some (.ref l2), some (.int l3), some (.int q2.1), some (.int q3.1)], [], (223, kc, ks, pd_H g (pd_w q3.2 l0 9 ((q3.2 l0 9) ||| (0 : Int32)))))) rfl ?_
              rcases pd_cases h with ⟨hb22, h⟩ | ⟨hb22, h⟩
              · rw [hb22]
                refine ev_gos pp_Cr_act 0 (S' := (170, [some (.ref l0), some (.ref l1), some (.ref l2), some (.int l3), some (.int q2.1), some (.int q3.1)], [], (223, kc, ks, pd_H g (pd_w q3.2 l0 9 ((q3.2 l0 9) ||| (0 : Int32)))))) rfl ?_
                cases h
                exact ev_fin pp_Cr_act rfl
              · rw [hb22]
                refine ev_gos pp_Cr_act 1 (S' := (158, [some (.ref l0), some (.ref l1), some (.ref l2), some (.int l3), some (.int q2.1), some (.int q3.1)], [.ref l0], (223, kc, ks, pd_H g (pd_w q3.2 l0 9 ((q3.2 l0 9) ||| (0 : Int32)))))) rfl ?_
                refine ev_get pp_Cr_act rfl (c_cr hl0) rfl ?_
                refine ev_gos pp_Cr_act 2 (S' := (164, [some (.ref l0), some (.ref l1), some (.ref l2), some (.int l3), some (.int q2.1), some (.int q3.1)], [.int q2.1, .int l3, .ref (l0 + 3)], (223, kc, ks, pd_H g (pd_w q3.2 l0 9 ((q3.2 l0 9) ||| (0 : Int32)))))) rfl ?_
                refine ev_call pp_Cr_act rfl rfl rfl (s_De_slot) ?_
                refine ev_gos pp_Cr_act 1 (S' := (169, [some (.ref l0), some (.ref l1), some (.ref l2), some (.int l3), some (.int q2.1), some (.int q3.1)], [.int q3.1, .int (d_De_slot l3 q2.1), .ref (l0 + 3)], (223, kc, ks, pd_H g (pd_w q3.2 l0 9 ((q3.2 l0 9) ||| (0 : Int32)))))) rfl ?_
                obtain ⟨hc24, h⟩ := pd_chk h
                refine ev_iast pp_Cr_act rfl (c_cr3 hl0) hc24 ?_
                refine ev_gos pp_Cr_act 0 (S' := (170, [some (.ref l0), some (.ref l1), some (.ref l2), some (.int l3), some (.int q2.1), some (.int q3.1)], [], (223, kc, ks, pd_H g (pd_w (pd_w q3.2 l0 9 ((q3.2 l0 9) ||| (0 : Int32))) (l0 + 3) ((d_De_slot l3 q2.1).toNatClampNeg) q3.1)))) rfl ?_
                cases h
                exact ev_fin pp_Cr_act rfl
            · rw [hb21]
              refine ev_gos pp_Cr_act 3 (S' := (143, [some (.ref l0), some (.ref l1), some (.ref l2), some (.int l3), some (.int q2.1), some (.int q3.1)], [.int q2.1, .int l3, .ref l0], (223, kc, ks, pd_H g (pd_w q3.2 l0 9 ((q3.2 l0 9) ||| (0 : Int32)))))) rfl ?_
              obtain ⟨q25, hq25, h⟩ := pd_bind h
              refine ev_callv pp_Cr_act rfl rfl (pd_isa (c_cr hl0)) rfl (s_Cr_put hl0 hq25) ?_
              refine ev_gos pp_Cr_act 1 (S' := (170, [some (.ref l0), some (.ref l1), some (.ref l2), some (.int l3), some (.int q2.1), some (.int q3.1)], [], (223, kc, ks, pd_H g q25))) rfl ?_
              cases h
              exact ev_fin pp_Cr_act rfl
          · rw [hb20]
            refine ev_gos pp_Cr_act 1 (S' := (114, [some (.ref l0), some (.ref l1), some (.ref l2), some (.int l3), some (.int q2.1), some (.int q3.1)], [.ref l0], (223, kc, ks, pd_H g (pd_w q3.2 l0 9 ((q3.2 l0 9) ||| (0 : Int32)))))) rfl ?_
            refine ev_get pp_Cr_act rfl (c_cr hl0) rfl ?_
            refine ev_gos pp_Cr_act 2 (S' := (119, [some (.ref l0), some (.ref l1), some (.ref l2), some (.int l3), some (.int q2.1), some (.int q3.1)], [.ref l2, .int l3, .ref (l0 + 2)], (223, kc, ks, pd_H g (pd_w q3.2 l0 9 ((q3.2 l0 9) ||| (0 : Int32)))))) rfl ?_
            refine ev_get pp_Cr_act rfl (c_st hl2) rfl ?_
            refine ev_gos pp_Cr_act 0 (S' := (122, [some (.ref l0), some (.ref l1), some (.ref l2), some (.int l3), some (.int q2.1), some (.int q3.1)], [.int ((pd_w q3.2 l0 9 ((q3.2 l0 9) ||| (0 : Int32))) l2 5), .int l3, .ref (l0 + 2)], (223, kc, ks, pd_H g (pd_w q3.2 l0 9 ((q3.2 l0 9) ||| (0 : Int32)))))) rfl ?_
            refine ev_call pp_Cr_act rfl rfl rfl (s_De_slot) ?_
            refine ev_gos pp_Cr_act 1 (S' := (127, [some (.ref l0), some (.ref l1), some (.ref l2), some (.int l3), some (.int q2.1), some (.int q3.1)], [.int q2.1, .int (d_De_slot l3 ((pd_w q3.2 l0 9 ((q3.2 l0 9) ||| (0 : Int32))) l2 5)), .ref (l0 + 2)], (223, kc, ks, pd_H g (pd_w q3.2 l0 9 ((q3.2 l0 9) ||| (0 : Int32)))))) rfl ?_
            obtain ⟨hc27, h⟩ := pd_chk h
            refine ev_iast pp_Cr_act rfl (c_cr2 hl0) hc27 ?_
            refine ev_gos pp_Cr_act 1 (S' := (170, [some (.ref l0), some (.ref l1), some (.ref l2), some (.int l3), some (.int q2.1), some (.int q3.1)], [], (223, kc, ks, pd_H g (pd_w (pd_w q3.2 l0 9 ((q3.2 l0 9) ||| (0 : Int32))) (l0 + 2) ((d_De_slot l3 ((pd_w q3.2 l0 9 ((q3.2 l0 9) ||| (0 : Int32))) l2 5)).toNatClampNeg) q2.1)))) rfl ?_
            cases h
            exact ev_fin pp_Cr_act rfl
        · rw [hb19]
          refine ev_gos pp_Cr_act 3 (S' := (100, [some (.ref l0), some (.ref l1), some (.ref l2), some (.int l3), some (.int q2.1), some (.int q3.1)], [.int l3, .ref l2, .ref l0], (223, kc, ks, pd_H g (pd_w q3.2 l0 9 ((q3.2 l0 9) ||| (0 : Int32)))))) rfl ?_
          obtain ⟨q28, hq28, h⟩ := pd_bind h
          refine ev_callv pp_Cr_act rfl rfl (pd_isa (c_cr hl0)) rfl (s_Cr_trap hl0 hl2 hq28) ?_
          refine ev_gos pp_Cr_act 1 (S' := (170, [some (.ref l0), some (.ref l1), some (.ref l2), some (.int l3), some (.int q2.1), some (.int q3.1)], [], (223, kc, ks, pd_H g q28))) rfl ?_
          cases h
          exact ev_fin pp_Cr_act rfl
      · rw [hb17]
        refine ev_gos pp_Cr_act 3 (S' := (87, [some (.ref l0), some (.ref l1), some (.ref l2), some (.int l3), some (.int q2.1), some (.int q3.1)], [.int ((q3.2 l0 9) ||| (1 : Int32)), .ref l0], (223, kc, ks, pd_H g q3.2))) rfl ?_
        obtain ⟨hc29, h⟩ := pd_chk h
        refine ev_put pp_Cr_act rfl (c_cr hl0) rfl rfl (pd_fit hc29) ?_
        refine ev_gos pp_Cr_act 1 (S' := (91, [some (.ref l0), some (.ref l1), some (.ref l2), some (.int l3), some (.int q2.1), some (.int q3.1)], [.ref l0], (223, kc, ks, pd_H g (pd_w q3.2 l0 9 ((q3.2 l0 9) ||| (1 : Int32)))))) rfl ?_
        refine ev_get pp_Cr_act rfl (c_cr hl0) rfl ?_
        refine ev_gos pp_Cr_act 0 (S' := (94, [some (.ref l0), some (.ref l1), some (.ref l2), some (.int l3), some (.int q2.1), some (.int q3.1)], [.int ((pd_w q3.2 l0 9 ((q3.2 l0 9) ||| (1 : Int32))) l0 9)], (223, kc, ks, pd_H g (pd_w q3.2 l0 9 ((q3.2 l0 9) ||| (1 : Int32)))))) rfl ?_
        refine ev_gos pp_Cr_act 1 (S' := (bif decide (((pd_w q3.2 l0 9 ((q3.2 l0 9) ||| (1 : Int32))) l0 9) = 0) then 106 else 97, [some (.ref l0), some (.ref l1), some (.ref l2), some (.int l3), some (.int q2.1), some (.int q3.1)], [], (223, kc, ks, pd_H g (pd_w q3.2 l0 9 ((q3.2 l0 9) ||| (1 : Int32)))))) rfl ?_
        rcases pd_cases h with ⟨hb30, h⟩ | ⟨hb30, h⟩
        · rw [hb30]
          refine ev_gos pp_Cr_act 1 (S' := (107, [some (.ref l0), some (.ref l1), some (.ref l2), some (.int l3), some (.int q2.1), some (.int q3.1)], [.ref l2], (223, kc, ks, pd_H g (pd_w q3.2 l0 9 ((q3.2 l0 9) ||| (1 : Int32)))))) rfl ?_
          refine ev_get pp_Cr_act rfl (c_st hl2) rfl ?_
          refine ev_gos pp_Cr_act 0 (S' := (110, [some (.ref l0), some (.ref l1), some (.ref l2), some (.int l3), some (.int q2.1), some (.int q3.1)], [.int ((pd_w q3.2 l0 9 ((q3.2 l0 9) ||| (1 : Int32))) l2 0)], (223, kc, ks, pd_H g (pd_w q3.2 l0 9 ((q3.2 l0 9) ||| (1 : Int32)))))) rfl ?_
          refine ev_gos pp_Cr_act 1 (S' := (bif !(decide (((pd_w q3.2 l0 9 ((q3.2 l0 9) ||| (1 : Int32))) l2 0) = 0)) then 131 else 113, [some (.ref l0), some (.ref l1), some (.ref l2), some (.int l3), some (.int q2.1), some (.int q3.1)], [], (223, kc, ks, pd_H g (pd_w q3.2 l0 9 ((q3.2 l0 9) ||| (1 : Int32)))))) rfl ?_
          rcases pd_cases h with ⟨hb31, h⟩ | ⟨hb31, h⟩
          · rw [hb31]
            refine ev_gos pp_Cr_act 1 (S' := (132, [some (.ref l0), some (.ref l1), some (.ref l2), some (.int l3), some (.int q2.1), some (.int q3.1)], [.ref l2], (223, kc, ks, pd_H g (pd_w q3.2 l0 9 ((q3.2 l0 9) ||| (1 : Int32)))))) rfl ?_
            refine ev_get pp_Cr_act rfl (c_st hl2) rfl ?_
            refine ev_gos pp_Cr_act 1 (S' := (136, [some (.ref l0), some (.ref l1), some (.ref l2), some (.int l3), some (.int q2.1), some (.int q3.1)], [.int (1 : Int32), .int ((pd_w q3.2 l0 9 ((q3.2 l0 9) ||| (1 : Int32))) l2 0)], (223, kc, ks, pd_H g (pd_w q3.2 l0 9 ((q3.2 l0 9) ||| (1 : Int32)))))) rfl ?_
            refine ev_gos pp_Cr_act 1 (S' := (bif !(decide (((pd_w q3.2 l0 9 ((q3.2 l0 9) ||| (1 : Int32))) l2 0) = (1 : Int32))) then 149 else 139, [some (.ref l0), some (.ref l1), some (.ref l2), some (.int l3), some (.int q2.1), some (.int q3.1)], [], (223, kc, ks, pd_H g (pd_w q3.2 l0 9 ((q3.2 l0 9) ||| (1 : Int32)))))) rfl ?_
            rcases pd_cases h with ⟨hb32, h⟩ | ⟨hb32, h⟩
            · rw [hb32]
              refine ev_gos pp_Cr_act 1 (S' := (150, [some (.ref l0), some (.ref l1), some (.ref l2), some (.int l3), some (.int q2.1), some (.int q3.1)], [.ref l2], (223, kc, ks, pd_H g (pd_w q3.2 l0 9 ((q3.2 l0 9) ||| (1 : Int32)))))) rfl ?_
              refine ev_get pp_Cr_act rfl (c_st hl2) rfl ?_
              refine ev_gos pp_Cr_act 1 (S' := (154, [some (.ref l0), some (.ref l1), some (.ref l2), some (.int l3), some (.int q2.1), some (.int q3.1)], [.int (2 : Int32), .int ((pd_w q3.2 l0 9 ((q3.2 l0 9) ||| (1 : Int32))) l2 0)], (223, kc, ks, pd_H g (pd_w q3.2 l0 9 ((q3.2 l0 9) ||| (1 : Int32)))))) rfl ?_
              refine ev_gos pp_Cr_act 1 (S' := (bif !(decide (((pd_w q3.2 l0 9 ((q3.2 l0 9) ||| (1 : Int32))) l2 0) = (2 : Int32))) then 170 else 157, [some (.ref l0), some (.ref l1), some (.ref l2), some (.int l3), some (.int q2.1), some (.int q3.1)], [], (223, kc, ks, pd_H g (pd_w q3.2 l0 9 ((q3.2 l0 9) ||| (1 : Int32)))))) rfl ?_
              rcases pd_cases h with ⟨hb33, h⟩ | ⟨hb33, h⟩
              · rw [hb33]
                refine ev_gos pp_Cr_act 0 (S' := (170, [some (.ref l0), some (.ref l1), some (.ref l2), some (.int l3), some (.int q2.1), some (.int q3.1)], [], (223, kc, ks, pd_H g (pd_w q3.2 l0 9 ((q3.2 l0 9) ||| (1 : Int32)))))) rfl ?_
                cases h
                exact ev_fin pp_Cr_act rfl
              · rw [hb33]
                refine ev_gos pp_Cr_act 1 (S' := (158, [some (.ref l0), some (.ref l1), some (.ref l2), some (.int l3), some (.int q2.1), some (.int q3.1)], [.ref l0], (223, kc, ks, pd_H g (pd_w q3.2 l0 9 ((q3.2 l0 9) ||| (1 : Int32)))))) rfl ?_
                refine ev_get pp_Cr_act rfl (c_cr hl0) rfl ?_
                refine ev_gos pp_Cr_act 2 (S' := (164, [some (.ref l0), some (.ref l1), some (.ref l2), some (.int l3), some (.int q2.1), some (.int q3.1)], [.int q2.1, .int l3, .ref (l0 + 3)], (223, kc, ks, pd_H g (pd_w q3.2 l0 9 ((q3.2 l0 9) ||| (1 : Int32)))))) rfl ?_
                refine ev_call pp_Cr_act rfl rfl rfl (s_De_slot) ?_
                refine ev_gos pp_Cr_act 1 (S' := (169, [some (.ref l0), some (.ref l1), some (.ref l2), some (.int l3), some (.int q2.1), some (.int q3.1)], [.int q3.1, .int (d_De_slot l3 q2.1), .ref (l0 + 3)], (223, kc, ks, pd_H g (pd_w q3.2 l0 9 ((q3.2 l0 9) ||| (1 : Int32)))))) rfl ?_
                obtain ⟨hc35, h⟩ := pd_chk h
                refine ev_iast pp_Cr_act rfl (c_cr3 hl0) hc35 ?_
                refine ev_gos pp_Cr_act 0 (S' := (170, [some (.ref l0), some (.ref l1), some (.ref l2), some (.int l3), some (.int q2.1), some (.int q3.1)], [], (223, kc, ks, pd_H g (pd_w (pd_w q3.2 l0 9 ((q3.2 l0 9) ||| (1 : Int32))) (l0 + 3) ((d_De_slot l3 q2.1).toNatClampNeg) q3.1)))) rfl ?_
                cases h
                exact ev_fin pp_Cr_act rfl
            · rw [hb32]
              refine ev_gos pp_Cr_act 3 (S' := (143, [some (.ref l0), some (.ref l1), some (.ref l2), some (.int l3), some (.int q2.1), some (.int q3.1)], [.int q2.1, .int l3, .ref l0], (223, kc, ks, pd_H g (pd_w q3.2 l0 9 ((q3.2 l0 9) ||| (1 : Int32)))))) rfl ?_
              obtain ⟨q36, hq36, h⟩ := pd_bind h
              refine ev_callv pp_Cr_act rfl rfl (pd_isa (c_cr hl0)) rfl (s_Cr_put hl0 hq36) ?_
              refine ev_gos pp_Cr_act 1 (S' := (170, [some (.ref l0), some (.ref l1), some (.ref l2), some (.int l3), some (.int q2.1), some (.int q3.1)], [], (223, kc, ks, pd_H g q36))) rfl ?_
              cases h
              exact ev_fin pp_Cr_act rfl
          · rw [hb31]
            refine ev_gos pp_Cr_act 1 (S' := (114, [some (.ref l0), some (.ref l1), some (.ref l2), some (.int l3), some (.int q2.1), some (.int q3.1)], [.ref l0], (223, kc, ks, pd_H g (pd_w q3.2 l0 9 ((q3.2 l0 9) ||| (1 : Int32)))))) rfl ?_
            refine ev_get pp_Cr_act rfl (c_cr hl0) rfl ?_
            refine ev_gos pp_Cr_act 2 (S' := (119, [some (.ref l0), some (.ref l1), some (.ref l2), some (.int l3), some (.int q2.1), some (.int q3.1)], [.ref l2, .int l3, .ref (l0 + 2)], (223, kc, ks, pd_H g (pd_w q3.2 l0 9 ((q3.2 l0 9) ||| (1 : Int32)))))) rfl ?_
            refine ev_get pp_Cr_act rfl (c_st hl2) rfl ?_
            refine ev_gos pp_Cr_act 0 (S' := (122, [some (.ref l0), some (.ref l1), some (.ref l2), some (.int l3), some (.int q2.1), some (.int q3.1)], [.int ((pd_w q3.2 l0 9 ((q3.2 l0 9) ||| (1 : Int32))) l2 5), .int l3, .ref (l0 + 2)], (223, kc, ks, pd_H g (pd_w q3.2 l0 9 ((q3.2 l0 9) ||| (1 : Int32)))))) rfl ?_
            refine ev_call pp_Cr_act rfl rfl rfl (s_De_slot) ?_
            refine ev_gos pp_Cr_act 1 (S' := (127, [some (.ref l0), some (.ref l1), some (.ref l2), some (.int l3), some (.int q2.1), some (.int q3.1)], [.int q2.1, .int (d_De_slot l3 ((pd_w q3.2 l0 9 ((q3.2 l0 9) ||| (1 : Int32))) l2 5)), .ref (l0 + 2)], (223, kc, ks, pd_H g (pd_w q3.2 l0 9 ((q3.2 l0 9) ||| (1 : Int32)))))) rfl ?_
            obtain ⟨hc38, h⟩ := pd_chk h
            refine ev_iast pp_Cr_act rfl (c_cr2 hl0) hc38 ?_
            refine ev_gos pp_Cr_act 1 (S' := (170, [some (.ref l0), some (.ref l1), some (.ref l2), some (.int l3), some (.int q2.1), some (.int q3.1)], [], (223, kc, ks, pd_H g (pd_w (pd_w q3.2 l0 9 ((q3.2 l0 9) ||| (1 : Int32))) (l0 + 2) ((d_De_slot l3 ((pd_w q3.2 l0 9 ((q3.2 l0 9) ||| (1 : Int32))) l2 5)).toNatClampNeg) q2.1)))) rfl ?_
            cases h
            exact ev_fin pp_Cr_act rfl
        · rw [hb30]
          refine ev_gos pp_Cr_act 3 (S' := (100, [some (.ref l0), some (.ref l1), some (.ref l2), some (.int l3), some (.int q2.1), some (.int q3.1)], [.int l3, .ref l2, .ref l0], (223, kc, ks, pd_H g (pd_w q3.2 l0 9 ((q3.2 l0 9) ||| (1 : Int32)))))) rfl ?_
          obtain ⟨q39, hq39, h⟩ := pd_bind h
          refine ev_callv pp_Cr_act rfl rfl (pd_isa (c_cr hl0)) rfl (s_Cr_trap hl0 hl2 hq39) ?_
          refine ev_gos pp_Cr_act 1 (S' := (170, [some (.ref l0), some (.ref l1), some (.ref l2), some (.int l3), some (.int q2.1), some (.int q3.1)], [], (223, kc, ks, pd_H g q39))) rfl ?_
          cases h
          exact ev_fin pp_Cr_act rfl
  · rw [hb1]
    refine ev_gos pp_Cr_act 2 (S' := (10, [some (.ref l0), some (.ref l1), some (.ref l2), some (.int l3), none, none], [.ref l0, .ref l0], (223, kc, ks, pd_H g v))) rfl ?_
    refine ev_get pp_Cr_act rfl (c_cr hl0) rfl ?_
    refine ev_gos pp_Cr_act 4 (S' := (17, [some (.ref l0), some (.ref l1), some (.ref l2), some (.int l3), none, none], [.int ((v l0 10) ||| ((1 : Int32) <<< (l3 &&& 31))), .ref l0], (223, kc, ks, pd_H g v))) rfl ?_
    refine ev_put pp_Cr_act rfl (c_cr hl0) rfl rfl rfl ?_
    refine ev_gos pp_Cr_act 0 (S' := (20, [some (.ref l0), some (.ref l1), some (.ref l2), some (.int l3), none, none], [], (223, kc, ks, pd_H g (pd_w v l0 10 ((v l0 10) ||| ((1 : Int32) <<< (l3 &&& 31))))))) rfl ?_
    cases h
    exact ev_fin pp_Cr_act rfl
theorem pp_To_issue {xs : Nat → Int32} {L : Nat} : (pj_P xs L 62).1 = fun S => pm_look tb_To_issue S.1 S := rfl
def d_To_issue_78 (w : Nat) (f : Nat) (l1 : Nat) (l2 : Nat) (l3 : Int32) (v : pd_V) : Option pd_V := match f with
  | 0 => none
  | f + 1 =>
    bif decide ((8 : Int32) ≤ l3) then
      some (pd_w (pd_w v 173 3 ((v 173 3) &&& ((v 174 10) ^^^ (-1 : Int32)))) 173 6 ((v 173 6) + (1 : Int32)))
    else
      bif decide ((d_De_isIn (v 173 3) l3) = 0) then
        d_To_issue_78 w f l1 l2 (l3 + (1 : Int32)) v
      else
        (d_Cr_act w 174 l1 l2 l3 v).bind fun q4 =>
        d_To_issue_78 w f l1 l2 (l3 + (1 : Int32)) q4
theorem s_To_issue_78 {w : Nat} : ∀ (f : Nat) (l1 : Nat) (l2 : Nat) (l3 : Int32) (v : pd_V)  (q : pd_V) (hl1 : ker l1) (hl2 : stp l2), d_To_issue_78 w f l1 l2 l3 v = some q → pm_ev (pj_P xs L) (d + 5) 62 (78, [some (.ref 173), some (.ref l1), some (.ref l2), some (.int l3)], [], (223, kc, ks, pd_H g v)) (.inl none, (223, kc, ks, pd_H g q)) := by
  intro f
  induction f with
  | zero => intro l1 l2 l3 v q hl1 hl2 h; exact nomatch (show (none : Option pd_V) = some q from h)
  | succ f ih =>
    intro l1 l2 l3 v q hl1 hl2 h
    rw [d_To_issue_78] at h
    refine ev_gos pp_To_issue 2 (S' := (81, [some (.ref 173), some (.ref l1), some (.ref l2), some (.int l3)], [.int (8 : Int32), .int l3], (223, kc, ks, pd_H g v))) rfl ?_
    refine ev_gos pp_To_issue 1 (S' := (bif decide ((8 : Int32) ≤ l3) then 111 else 84, [some (.ref 173), some (.ref l1), some (.ref l2), some (.int l3)], [], (223, kc, ks, pd_H g v))) rfl ?_
    rcases pd_cases h with ⟨hb1, h⟩ | ⟨hb1, h⟩
    · rw [hb1]
      refine ev_gos pp_To_issue 5 (S' := (120, [some (.ref 173), some (.ref l1), some (.ref l2), some (.int l3)], [.ref 174, .int (v 173 3), .ref 173], (223, kc, ks, pd_H g v))) rfl ?_
      refine ev_get pp_To_issue rfl (c_cr crw_174) rfl ?_
      refine ev_gos pp_To_issue 3 (S' := (126, [some (.ref 173), some (.ref l1), some (.ref l2), some (.int l3)], [.int ((v 173 3) &&& ((v 174 10) ^^^ (-1 : Int32))), .ref 173], (223, kc, ks, pd_H g v))) rfl ?_
      refine ev_put pp_To_issue rfl (fun _ => rfl) rfl rfl rfl ?_
      refine ev_gos pp_To_issue 5 (S' := (136, [some (.ref 173), some (.ref l1), some (.ref l2), some (.int l3)], [.int ((v 173 6) + (1 : Int32)), .ref 173], (223, kc, ks, pd_H g (pd_w v 173 3 ((v 173 3) &&& ((v 174 10) ^^^ (-1 : Int32))))))) rfl ?_
      refine ev_put pp_To_issue rfl (fun _ => rfl) rfl rfl rfl ?_
      refine ev_gos pp_To_issue 0 (S' := (139, [some (.ref 173), some (.ref l1), some (.ref l2), some (.int l3)], [], (223, kc, ks, pd_H g (pd_w (pd_w v 173 3 ((v 173 3) &&& ((v 174 10) ^^^ (-1 : Int32)))) 173 6 ((v 173 6) + (1 : Int32)))))) rfl ?_
      cases h
      exact ev_fin pp_To_issue rfl
    · rw [hb1]
      refine ev_gos pp_To_issue 3 (S' := (89, [some (.ref 173), some (.ref l1), some (.ref l2), some (.int l3)], [.int l3, .int (v 173 3)], (223, kc, ks, pd_H g v))) rfl ?_
      refine ev_call pp_To_issue rfl rfl rfl (s_De_isIn) ?_
      refine ev_gos pp_To_issue 0 (S' := (92, [some (.ref 173), some (.ref l1), some (.ref l2), some (.int l3)], [.int (d_De_isIn (v 173 3) l3)], (223, kc, ks, pd_H g v))) rfl ?_
      refine ev_gos pp_To_issue 1 (S' := (bif decide ((d_De_isIn (v 173 3) l3) = 0) then 105 else 95, [some (.ref 173), some (.ref l1), some (.ref l2), some (.int l3)], [], (223, kc, ks, pd_H g v))) rfl ?_
      rcases pd_cases h with ⟨hb3, h⟩ | ⟨hb3, h⟩
      · rw [hb3]
        refine ev_gos pp_To_issue 2 (S' := (78, [some (.ref 173), some (.ref l1), some (.ref l2), some (.int (l3 + (1 : Int32)))], [], (223, kc, ks, pd_H g v))) rfl ?_
        exact ih _ _ _ _ _ hl1 hl2 h
      · rw [hb3]
        refine ev_gos pp_To_issue 5 (S' := (102, [some (.ref 173), some (.ref l1), some (.ref l2), some (.int l3)], [.int l3, .ref l2, .ref l1, .ref 174], (223, kc, ks, pd_H g v))) rfl ?_
        obtain ⟨q4, hq4, h⟩ := pd_bind h
        refine ev_callv pp_To_issue rfl rfl (pd_isa (c_cr crw_174)) rfl (s_Cr_act crw_174 hl1 hl2 hq4) ?_
        refine ev_gos pp_To_issue 2 (S' := (78, [some (.ref 173), some (.ref l1), some (.ref l2), some (.int (l3 + (1 : Int32)))], [], (223, kc, ks, pd_H g q4))) rfl ?_
        exact ih _ _ _ _ _ hl1 hl2 h
def d_To_issue (w : Nat) (l1 : Nat) (l2 : Nat) (v : pd_V) : Option pd_V :=
  bif decide (((pd_w (pd_w v 173 4 ((v 173 4) + (1 : Int32))) 173 5 ((v 173 5) + (d_Int_bitCount (v 173 3)))) l2 0) = (5 : Int32)) then
    (d_To_part w l1 l2 (pd_w (pd_w v 173 4 ((v 173 4) + (1 : Int32))) 173 5 ((v 173 5) + (d_Int_bitCount (v 173 3))))).bind fun q3 =>
    some (pd_w (pd_w q3 173 3 ((q3 173 3) &&& ((q3 174 10) ^^^ (-1 : Int32)))) 173 6 ((q3 173 6) + (1 : Int32)))
  else
    bif !(decide (((pd_w (pd_w v 173 4 ((v 173 4) + (1 : Int32))) 173 5 ((v 173 5) + (d_Int_bitCount (v 173 3)))) l2 0) = (6 : Int32))) then
      bif !(decide (((pd_w (pd_w v 173 4 ((v 173 4) + (1 : Int32))) 173 5 ((v 173 5) + (d_Int_bitCount (v 173 3)))) l2 0) = (3 : Int32))) then
        d_To_issue_78 w w l1 l2 (0 : Int32) (pd_w (pd_w v 173 4 ((v 173 4) + (1 : Int32))) 173 5 ((v 173 5) + (d_Int_bitCount (v 173 3))))
      else
        (d_Cr_exchange w 174 l1 l2 (v 173 3) (pd_w (pd_w v 173 4 ((v 173 4) + (1 : Int32))) 173 5 ((v 173 5) + (d_Int_bitCount (v 173 3))))).bind fun q6 =>
        some (pd_w (pd_w q6 173 3 ((q6 173 3) &&& ((q6 174 10) ^^^ (-1 : Int32)))) 173 6 ((q6 173 6) + (1 : Int32)))
    else
      (d_To_part w l1 l2 (pd_w (pd_w v 173 4 ((v 173 4) + (1 : Int32))) 173 5 ((v 173 5) + (d_Int_bitCount (v 173 3))))).bind fun q7 =>
      some (pd_w (pd_w q7 173 3 ((q7 173 3) &&& ((q7 174 10) ^^^ (-1 : Int32)))) 173 6 ((q7 173 6) + (1 : Int32)))
theorem s_To_issue {w : Nat} {l1 : Nat} {l2 : Nat} {v : pd_V} {q : pd_V} (hl1 : ker l1) (hl2 : stp l2) (h : d_To_issue w l1 l2 v = some q) : pm_ev (pj_P xs L) (d + 5) 62 (0, [some (.ref 173), some (.ref l1), some (.ref l2), none], [], (223, kc, ks, pd_H g v)) (.inl none, (223, kc, ks, pd_H g q)) := by
  unfold d_To_issue at h
  refine ev_gos pp_To_issue 5 (S' := (7, [some (.ref 173), some (.ref l1), some (.ref l2), none], [.int ((v 173 4) + (1 : Int32)), .ref 173], (223, kc, ks, pd_H g v))) rfl ?_
  refine ev_put pp_To_issue rfl (fun _ => rfl) rfl rfl rfl ?_
  refine ev_gos pp_To_issue 5 (S' := (19, [some (.ref 173), some (.ref l1), some (.ref l2), none], [.int (v 173 3), .int (v 173 5), .ref 173], (223, kc, ks, pd_H g (pd_w v 173 4 ((v 173 4) + (1 : Int32)))))) rfl ?_
  refine ev_call pp_To_issue rfl rfl rfl (s_Int_bitCount) ?_
  refine ev_gos pp_To_issue 1 (S' := (23, [some (.ref 173), some (.ref l1), some (.ref l2), none], [.int ((v 173 5) + (d_Int_bitCount (v 173 3))), .ref 173], (223, kc, ks, pd_H g (pd_w v 173 4 ((v 173 4) + (1 : Int32)))))) rfl ?_
  refine ev_put pp_To_issue rfl (fun _ => rfl) rfl rfl rfl ?_
  refine ev_gos pp_To_issue 1 (S' := (27, [some (.ref 173), some (.ref l1), some (.ref l2), none], [.ref l2], (223, kc, ks, pd_H g (pd_w (pd_w v 173 4 ((v 173 4) + (1 : Int32))) 173 5 ((v 173 5) + (d_Int_bitCount (v 173 3))))))) rfl ?_
  refine ev_get pp_To_issue rfl (c_st hl2) rfl ?_
  refine ev_gos pp_To_issue 1 (S' := (31, [some (.ref 173), some (.ref l1), some (.ref l2), none], [.int (5 : Int32), .int ((pd_w (pd_w v 173 4 ((v 173 4) + (1 : Int32))) 173 5 ((v 173 5) + (d_Int_bitCount (v 173 3)))) l2 0)], (223, kc, ks, pd_H g (pd_w (pd_w v 173 4 ((v 173 4) + (1 : Int32))) 173 5 ((v 173 5) + (d_Int_bitCount (v 173 3))))))) rfl ?_
  refine ev_gos pp_To_issue 1 (S' := (bif decide (((pd_w (pd_w v 173 4 ((v 173 4) + (1 : Int32))) 173 5 ((v 173 5) + (d_Int_bitCount (v 173 3)))) l2 0) = (5 : Int32)) then 43 else 34, [some (.ref 173), some (.ref l1), some (.ref l2), none], [], (223, kc, ks, pd_H g (pd_w (pd_w v 173 4 ((v 173 4) + (1 : Int32))) 173 5 ((v 173 5) + (d_Int_bitCount (v 173 3))))))) rfl ?_
  rcases pd_cases h with ⟨hb2, h⟩ | ⟨hb2, h⟩
  · rw [hb2]
    refine ev_gos pp_To_issue 3 (S' := (46, [some (.ref 173), some (.ref l1), some (.ref l2), none], [.ref l2, .ref l1, .ref 173], (223, kc, ks, pd_H g (pd_w (pd_w v 173 4 ((v 173 4) + (1 : Int32))) 173 5 ((v 173 5) + (d_Int_bitCount (v 173 3))))))) rfl ?_
    obtain ⟨q3, hq3, h⟩ := pd_bind h
    refine ev_callv pp_To_issue rfl rfl rfl rfl (s_To_part hl1 hl2 hq3) ?_
    refine ev_gos pp_To_issue 6 (S' := (120, [some (.ref 173), some (.ref l1), some (.ref l2), none], [.ref 174, .int (q3 173 3), .ref 173], (223, kc, ks, pd_H g q3))) rfl ?_
    refine ev_get pp_To_issue rfl (c_cr crw_174) rfl ?_
    refine ev_gos pp_To_issue 3 (S' := (126, [some (.ref 173), some (.ref l1), some (.ref l2), none], [.int ((q3 173 3) &&& ((q3 174 10) ^^^ (-1 : Int32))), .ref 173], (223, kc, ks, pd_H g q3))) rfl ?_
    refine ev_put pp_To_issue rfl (fun _ => rfl) rfl rfl rfl ?_
    refine ev_gos pp_To_issue 5 (S' := (136, [some (.ref 173), some (.ref l1), some (.ref l2), none], [.int ((q3 173 6) + (1 : Int32)), .ref 173], (223, kc, ks, pd_H g (pd_w q3 173 3 ((q3 173 3) &&& ((q3 174 10) ^^^ (-1 : Int32))))))) rfl ?_
    refine ev_put pp_To_issue rfl (fun _ => rfl) rfl rfl rfl ?_
    refine ev_gos pp_To_issue 0 (S' := (139, [some (.ref 173), some (.ref l1), some (.ref l2), none], [], (223, kc, ks, pd_H g (pd_w (pd_w q3 173 3 ((q3 173 3) &&& ((q3 174 10) ^^^ (-1 : Int32)))) 173 6 ((q3 173 6) + (1 : Int32)))))) rfl ?_
    cases h
    exact ev_fin pp_To_issue rfl
  · rw [hb2]
    refine ev_gos pp_To_issue 1 (S' := (35, [some (.ref 173), some (.ref l1), some (.ref l2), none], [.ref l2], (223, kc, ks, pd_H g (pd_w (pd_w v 173 4 ((v 173 4) + (1 : Int32))) 173 5 ((v 173 5) + (d_Int_bitCount (v 173 3))))))) rfl ?_
    refine ev_get pp_To_issue rfl (c_st hl2) rfl ?_
    refine ev_gos pp_To_issue 1 (S' := (40, [some (.ref 173), some (.ref l1), some (.ref l2), none], [.int (6 : Int32), .int ((pd_w (pd_w v 173 4 ((v 173 4) + (1 : Int32))) 173 5 ((v 173 5) + (d_Int_bitCount (v 173 3)))) l2 0)], (223, kc, ks, pd_H g (pd_w (pd_w v 173 4 ((v 173 4) + (1 : Int32))) 173 5 ((v 173 5) + (d_Int_bitCount (v 173 3))))))) rfl ?_
    refine ev_gos pp_To_issue 1 (S' := (bif !(decide (((pd_w (pd_w v 173 4 ((v 173 4) + (1 : Int32))) 173 5 ((v 173 5) + (d_Int_bitCount (v 173 3)))) l2 0) = (6 : Int32))) then 52 else 43, [some (.ref 173), some (.ref l1), some (.ref l2), none], [], (223, kc, ks, pd_H g (pd_w (pd_w v 173 4 ((v 173 4) + (1 : Int32))) 173 5 ((v 173 5) + (d_Int_bitCount (v 173 3))))))) rfl ?_
    rcases pd_cases h with ⟨hb4, h⟩ | ⟨hb4, h⟩
    · rw [hb4]
      refine ev_gos pp_To_issue 1 (S' := (53, [some (.ref 173), some (.ref l1), some (.ref l2), none], [.ref l2], (223, kc, ks, pd_H g (pd_w (pd_w v 173 4 ((v 173 4) + (1 : Int32))) 173 5 ((v 173 5) + (d_Int_bitCount (v 173 3))))))) rfl ?_
      refine ev_get pp_To_issue rfl (c_st hl2) rfl ?_
      refine ev_gos pp_To_issue 1 (S' := (57, [some (.ref 173), some (.ref l1), some (.ref l2), none], [.int (3 : Int32), .int ((pd_w (pd_w v 173 4 ((v 173 4) + (1 : Int32))) 173 5 ((v 173 5) + (d_Int_bitCount (v 173 3)))) l2 0)], (223, kc, ks, pd_H g (pd_w (pd_w v 173 4 ((v 173 4) + (1 : Int32))) 173 5 ((v 173 5) + (d_Int_bitCount (v 173 3))))))) rfl ?_
      refine ev_gos pp_To_issue 1 (S' := (bif !(decide (((pd_w (pd_w v 173 4 ((v 173 4) + (1 : Int32))) 173 5 ((v 173 5) + (d_Int_bitCount (v 173 3)))) l2 0) = (3 : Int32))) then 76 else 60, [some (.ref 173), some (.ref l1), some (.ref l2), none], [], (223, kc, ks, pd_H g (pd_w (pd_w v 173 4 ((v 173 4) + (1 : Int32))) 173 5 ((v 173 5) + (d_Int_bitCount (v 173 3))))))) rfl ?_
      rcases pd_cases h with ⟨hb5, h⟩ | ⟨hb5, h⟩
      · rw [hb5]
        refine ev_gos pp_To_issue 2 (S' := (78, [some (.ref 173), some (.ref l1), some (.ref l2), some (.int (0 : Int32))], [], (223, kc, ks, pd_H g (pd_w (pd_w v 173 4 ((v 173 4) + (1 : Int32))) 173 5 ((v 173 5) + (d_Int_bitCount (v 173 3))))))) rfl ?_
        exact s_To_issue_78 _ _ _ _ _ _ hl1 hl2 h
      · rw [hb5]
        refine ev_gos pp_To_issue 6 (S' := (70, [some (.ref 173), some (.ref l1), some (.ref l2), none], [.int (v 173 3), .ref l2, .ref l1, .ref 174], (223, kc, ks, pd_H g (pd_w (pd_w v 173 4 ((v 173 4) + (1 : Int32))) 173 5 ((v 173 5) + (d_Int_bitCount (v 173 3))))))) rfl ?_
        obtain ⟨q6, hq6, h⟩ := pd_bind h
        refine ev_callv pp_To_issue rfl rfl (pd_isa (c_cr crw_174)) rfl (s_Cr_exchange crw_174 hl1 hl2 hq6) ?_
        refine ev_gos pp_To_issue 6 (S' := (120, [some (.ref 173), some (.ref l1), some (.ref l2), none], [.ref 174, .int (q6 173 3), .ref 173], (223, kc, ks, pd_H g q6))) rfl ?_
        refine ev_get pp_To_issue rfl (c_cr crw_174) rfl ?_
        refine ev_gos pp_To_issue 3 (S' := (126, [some (.ref 173), some (.ref l1), some (.ref l2), none], [.int ((q6 173 3) &&& ((q6 174 10) ^^^ (-1 : Int32))), .ref 173], (223, kc, ks, pd_H g q6))) rfl ?_
        refine ev_put pp_To_issue rfl (fun _ => rfl) rfl rfl rfl ?_
        refine ev_gos pp_To_issue 5 (S' := (136, [some (.ref 173), some (.ref l1), some (.ref l2), none], [.int ((q6 173 6) + (1 : Int32)), .ref 173], (223, kc, ks, pd_H g (pd_w q6 173 3 ((q6 173 3) &&& ((q6 174 10) ^^^ (-1 : Int32))))))) rfl ?_
        refine ev_put pp_To_issue rfl (fun _ => rfl) rfl rfl rfl ?_
        refine ev_gos pp_To_issue 0 (S' := (139, [some (.ref 173), some (.ref l1), some (.ref l2), none], [], (223, kc, ks, pd_H g (pd_w (pd_w q6 173 3 ((q6 173 3) &&& ((q6 174 10) ^^^ (-1 : Int32)))) 173 6 ((q6 173 6) + (1 : Int32)))))) rfl ?_
        cases h
        exact ev_fin pp_To_issue rfl
    · rw [hb4]
      refine ev_gos pp_To_issue 3 (S' := (46, [some (.ref 173), some (.ref l1), some (.ref l2), none], [.ref l2, .ref l1, .ref 173], (223, kc, ks, pd_H g (pd_w (pd_w v 173 4 ((v 173 4) + (1 : Int32))) 173 5 ((v 173 5) + (d_Int_bitCount (v 173 3))))))) rfl ?_
      obtain ⟨q7, hq7, h⟩ := pd_bind h
      refine ev_callv pp_To_issue rfl rfl rfl rfl (s_To_part hl1 hl2 hq7) ?_
      refine ev_gos pp_To_issue 6 (S' := (120, [some (.ref 173), some (.ref l1), some (.ref l2), none], [.ref 174, .int (q7 173 3), .ref 173], (223, kc, ks, pd_H g q7))) rfl ?_
      refine ev_get pp_To_issue rfl (c_cr crw_174) rfl ?_
      refine ev_gos pp_To_issue 3 (S' := (126, [some (.ref 173), some (.ref l1), some (.ref l2), none], [.int ((q7 173 3) &&& ((q7 174 10) ^^^ (-1 : Int32))), .ref 173], (223, kc, ks, pd_H g q7))) rfl ?_
      refine ev_put pp_To_issue rfl (fun _ => rfl) rfl rfl rfl ?_
      refine ev_gos pp_To_issue 5 (S' := (136, [some (.ref 173), some (.ref l1), some (.ref l2), none], [.int ((q7 173 6) + (1 : Int32)), .ref 173], (223, kc, ks, pd_H g (pd_w q7 173 3 ((q7 173 3) &&& ((q7 174 10) ^^^ (-1 : Int32))))))) rfl ?_
      refine ev_put pp_To_issue rfl (fun _ => rfl) rfl rfl rfl ?_
      refine ev_gos pp_To_issue 0 (S' := (139, [some (.ref 173), some (.ref l1), some (.ref l2), none], [], (223, kc, ks, pd_H g (pd_w (pd_w q7 173 3 ((q7 173 3) &&& ((q7 174 10) ^^^ (-1 : Int32)))) 173 6 ((q7 173 6) + (1 : Int32)))))) rfl ?_
      cases h
      exact ev_fin pp_To_issue rfl
theorem pp_To_goOn {xs : Nat → Int32} {L : Nat} : (pj_P xs L 61).1 = fun S => pm_look tb_To_goOn S.1 S := rfl
def d_To_goOn_2 (w : Nat) (f : Nat) (l1 : Nat) (l3 : Int32) (v : pd_V) : Option pd_V := match f with
  | 0 => none
  | f + 1 =>
    bif decide (l3 ≤ 0) then
      some v
    else
      bif !(decide ((v 173 2) = 0)) then
        some v
      else
        (d_Ke_stepAt l1 (v 173 6) v).bind fun q3 =>
        (d_To_issue w l1 q3 v).bind fun q4 =>
        (d_To_moveToNext w l1 q4).bind fun q5 =>
        d_To_goOn_2 w f l1 (l3 + (-1 : Int32)) q5
theorem s_To_goOn_2 {w : Nat} : ∀ (f : Nat) (l1 : Nat) (l3 : Int32) (v : pd_V) (y2 : Int32) (q : pd_V) (hl1 : ker l1), d_To_goOn_2 w f l1 l3 v = some q → pm_ev (pj_P xs L) (d + 6) 61 (2, [some (.ref 173), some (.ref l1), some (.int y2), some (.int l3)], [], (223, kc, ks, pd_H g v)) (.inl none, (223, kc, ks, pd_H g q)) := by
  intro f
  induction f with
  | zero => intro l1 l3 v y2 q hl1 h; exact nomatch (show (none : Option pd_V) = some q from h)
  | succ f ih =>
    intro l1 l3 v y2 q hl1 h
    rw [d_To_goOn_2] at h
    refine ev_gos pp_To_goOn 1 (S' := (3, [some (.ref 173), some (.ref l1), some (.int y2), some (.int l3)], [.int l3], (223, kc, ks, pd_H g v))) rfl ?_
    refine ev_gos pp_To_goOn 1 (S' := (bif decide (l3 ≤ 0) then 37 else 6, [some (.ref 173), some (.ref l1), some (.int y2), some (.int l3)], [], (223, kc, ks, pd_H g v))) rfl ?_
    rcases pd_cases h with ⟨hb1, h⟩ | ⟨hb1, h⟩
    · rw [hb1]
      refine ev_gos pp_To_goOn 0 (S' := (37, [some (.ref 173), some (.ref l1), some (.int y2), some (.int l3)], [], (223, kc, ks, pd_H g v))) rfl ?_
      cases h
      exact ev_fin pp_To_goOn rfl
    · rw [hb1]
      refine ev_gos pp_To_goOn 2 (S' := (10, [some (.ref 173), some (.ref l1), some (.int y2), some (.int l3)], [.int (v 173 2)], (223, kc, ks, pd_H g v))) rfl ?_
      refine ev_gos pp_To_goOn 1 (S' := (bif !(decide ((v 173 2) = 0)) then 37 else 13, [some (.ref 173), some (.ref l1), some (.int y2), some (.int l3)], [], (223, kc, ks, pd_H g v))) rfl ?_
      rcases pd_cases h with ⟨hb2, h⟩ | ⟨hb2, h⟩
      · rw [hb2]
        refine ev_gos pp_To_goOn 0 (S' := (37, [some (.ref 173), some (.ref l1), some (.int y2), some (.int l3)], [], (223, kc, ks, pd_H g v))) rfl ?_
        cases h
        exact ev_fin pp_To_goOn rfl
      · rw [hb2]
        refine ev_gos pp_To_goOn 5 (S' := (20, [some (.ref 173), some (.ref l1), some (.int y2), some (.int l3)], [.int (v 173 6), .ref l1, .ref l1, .ref 173], (223, kc, ks, pd_H g v))) rfl ?_
        obtain ⟨q3, hq3, h⟩ := pd_bind h
        refine ev_callv pp_To_goOn rfl rfl (pd_isa (c_ke hl1)) rfl (s_Ke_stepAt hl1 hq3) ?_
        refine ev_gos pp_To_goOn 0 (S' := (23, [some (.ref 173), some (.ref l1), some (.int y2), some (.int l3)], [.ref q3, .ref l1, .ref 173], (223, kc, ks, pd_H g v))) rfl ?_
        obtain ⟨q4, hq4, h⟩ := pd_bind h
        refine ev_callv pp_To_goOn rfl rfl rfl rfl (s_To_issue hl1 (r_Ke_stepAt hl1 hq3) hq4) ?_
        refine ev_gos pp_To_goOn 2 (S' := (28, [some (.ref 173), some (.ref l1), some (.int y2), some (.int l3)], [.ref l1, .ref 173], (223, kc, ks, pd_H g q4))) rfl ?_
        obtain ⟨q5, hq5, h⟩ := pd_bind h
        refine ev_callv pp_To_goOn rfl rfl rfl rfl (s_To_moveToNext hl1 hq5) ?_
        refine ev_gos pp_To_goOn 2 (S' := (2, [some (.ref 173), some (.ref l1), some (.int y2), some (.int (l3 + (-1 : Int32)))], [], (223, kc, ks, pd_H g q5))) rfl ?_
        exact ih _ _ _ _ _ hl1 h
def d_To_goOn (w : Nat) (l1 : Nat) (l2 : Int32) (v : pd_V) : Option pd_V :=
  d_To_goOn_2 w w l1 l2 v
theorem s_To_goOn {w : Nat} {l1 : Nat} {l2 : Int32} {v : pd_V} {q : pd_V} (hl1 : ker l1) (h : d_To_goOn w l1 l2 v = some q) : pm_ev (pj_P xs L) (d + 6) 61 (0, [some (.ref 173), some (.ref l1), some (.int l2), none], [], (223, kc, ks, pd_H g v)) (.inl none, (223, kc, ks, pd_H g q)) := by
  unfold d_To_goOn at h
  refine ev_gos pp_To_goOn 2 (S' := (2, [some (.ref 173), some (.ref l1), some (.int l2), some (.int l2)], [], (223, kc, ks, pd_H g v))) rfl ?_
  exact s_To_goOn_2 _ _ _ _ _ _ hl1 h
theorem pp_De_run {xs : Nat → Int32} {L : Nat} : (pj_P xs L 58).1 = fun S => pm_look tb_De_run S.1 S := rfl
def d_De_run (w : Nat) (l1 : Int32) (v : pd_V) : Option ((Int32 ⊕ Nat) × pd_V) :=
  (d_De_needStarted v).bind fun q1 => Option.elim q1 (
  (d_De_needFuel l1 (500 : Int32) v).bind fun q2 => Option.elim q2 (
  (d_To_goOn w (kerOf (v 0 1)) l1 v).bind fun q3 =>
  bif decide ((q3 173 2) = 0) then
    some (Sum.inl (0 : Int32), q3)
  else
    some (Sum.inl (1 : Int32), q3)) (fun xq2 => some (Sum.inr xq2, v))) (fun xq1 => some (Sum.inr xq1, v))
theorem s_De_run {w : Nat} {l1 : Int32} {v : pd_V} {q : ((Int32 ⊕ Nat) × pd_V)}  (h : d_De_run w l1 v = some q) : pm_ev (pj_P xs L) (d + 7) 58 (0, [some (.ref 0), some (.int l1)], [], (223, kc, ks, pd_H g v)) (pd_oi q.1 kc ks g q.2) := by
  unfold d_De_run at h
  refine ev_gos pp_De_run 1 (S' := (1, [some (.ref 0), some (.int l1)], [.ref 0], (223, kc, ks, pd_H g v))) rfl ?_
  obtain ⟨q1, hq1, h⟩ := pd_bind h
  have evq1 := s_De_needStarted (xs := xs) (L := L) (g := g) (d := d + 6) (kc := kc) (ks := ks) hq1
  rcases pd_elimv h with ⟨eq1, h⟩ | ⟨xq1, eq1, h⟩
  · rw [eq1] at evq1
    refine ev_callv pp_De_run rfl rfl rfl rfl evq1 ?_
    refine ev_gos pp_De_run 2 (S' := (8, [some (.ref 0), some (.int l1)], [.int (500 : Int32), .int l1], (223, kc, ks, pd_H g v))) rfl ?_
    obtain ⟨q2, hq2, h⟩ := pd_bind h
    have evq2 := s_De_needFuel (xs := xs) (L := L) (g := g) (d := d + 6) (kc := kc) (ks := ks) hq2
    rcases pd_elimv h with ⟨eq2, h⟩ | ⟨xq2, eq2, h⟩
    · rw [eq2] at evq2
      refine ev_call pp_De_run rfl rfl rfl evq2 ?_
      refine ev_gos pp_De_run 5 (S' := (20, [some (.ref 0), some (.int l1)], [.int l1, .ref (kerOf (v 0 1)), .ref 173], (223, kc, ks, pd_H g v))) rfl ?_
      obtain ⟨q3, hq3, h⟩ := pd_bind h
      refine ev_callv pp_De_run rfl rfl rfl rfl (s_To_goOn (ker_of _) hq3) ?_
      refine ev_gos pp_De_run 3 (S' := (30, [some (.ref 0), some (.int l1)], [.int (q3 173 2)], (223, kc, ks, pd_H g q3))) rfl ?_
      refine ev_gos pp_De_run 1 (S' := (bif decide ((q3 173 2) = 0) then 37 else 33, [some (.ref 0), some (.int l1)], [], (223, kc, ks, pd_H g q3))) rfl ?_
      rcases pd_cases h with ⟨hb4, h⟩ | ⟨hb4, h⟩
      · rw [hb4]
        refine ev_gos pp_De_run 1 (S' := (38, [some (.ref 0), some (.int l1)], [.int (0 : Int32)], (223, kc, ks, pd_H g q3))) rfl ?_
        cases h
        exact ev_fin pp_De_run rfl
      · rw [hb4]
        refine ev_gos pp_De_run 2 (S' := (38, [some (.ref 0), some (.int l1)], [.int (1 : Int32)], (223, kc, ks, pd_H g q3))) rfl ?_
        cases h
        exact ev_fin pp_De_run rfl
    · cases h
      rw [eq2] at evq2
      exact ev_callX pp_De_run rfl rfl rfl evq2 rfl
  · cases h
    rw [eq1] at evq1
    exact ev_callvX pp_De_run rfl rfl rfl rfl evq1 rfl
theorem pp_De_spent {xs : Nat → Int32} {L : Nat} : (pj_P xs L 80).1 = fun S => pm_look tb_De_spent S.1 S := rfl
def d_De_spent (l1 : Int32) (v : pd_V) : Option (Int32 ⊕ Nat) :=
  bif decide (l1 < 0) then
    some (Sum.inr 0)
  else
    bif decide (l1 ≤ (1 : Int32)) then
      (d_De_needStarted v).bind fun q3 => Option.elim q3 (
      bif !(decide (l1 = 0)) then
        some (Sum.inl (v 173 5))
      else
        some (Sum.inl (v 173 4))) (fun xq3 => some (Sum.inr xq3))
    else
      some (Sum.inr 0)
theorem s_De_spent {l1 : Int32} {v : pd_V} {q : (Int32 ⊕ Nat)}  (h : d_De_spent l1 v = some q) : pm_ev (pj_P xs L) (d + 1) 80 (0, [some (.ref 0), some (.int l1)], [], (223, kc, ks, pd_H g v)) (pd_oi q kc ks g v) := by
  unfold d_De_spent at h
  refine ev_gos pp_De_spent 1 (S' := (1, [some (.ref 0), some (.int l1)], [.int l1], (223, kc, ks, pd_H g v))) rfl ?_
  refine ev_gos pp_De_spent 1 (S' := (bif decide (l1 < 0) then 9 else 4, [some (.ref 0), some (.int l1)], [], (223, kc, ks, pd_H g v))) rfl ?_
  rcases pd_cases h with ⟨hb1, h⟩ | ⟨hb1, h⟩
  · rw [hb1]
    refine ev_gos pp_De_spent 0 (S' := (9, [some (.ref 0), some (.int l1)], [], (223, kc, ks, pd_H g v))) rfl ?_
    cases h
    exact ev_fin pp_De_spent rfl
  · rw [hb1]
    refine ev_gos pp_De_spent 2 (S' := (6, [some (.ref 0), some (.int l1)], [.int (1 : Int32), .int l1], (223, kc, ks, pd_H g v))) rfl ?_
    refine ev_gos pp_De_spent 1 (S' := (bif decide (l1 ≤ (1 : Int32)) then 19 else 9, [some (.ref 0), some (.int l1)], [], (223, kc, ks, pd_H g v))) rfl ?_
    rcases pd_cases h with ⟨hb2, h⟩ | ⟨hb2, h⟩
    · rw [hb2]
      refine ev_gos pp_De_spent 1 (S' := (20, [some (.ref 0), some (.int l1)], [.ref 0], (223, kc, ks, pd_H g v))) rfl ?_
      obtain ⟨q3, hq3, h⟩ := pd_bind h
      have evq3 := s_De_needStarted (xs := xs) (L := L) (g := g) (d := d + 0) (kc := kc) (ks := ks) hq3
      rcases pd_elimv h with ⟨eq3, h⟩ | ⟨xq3, eq3, h⟩
      · rw [eq3] at evq3
        refine ev_callv pp_De_spent rfl rfl rfl rfl evq3 ?_
        refine ev_gos pp_De_spent 1 (S' := (24, [some (.ref 0), some (.int l1)], [.int l1], (223, kc, ks, pd_H g v))) rfl ?_
        refine ev_gos pp_De_spent 1 (S' := (bif !(decide (l1 = 0)) then 37 else 27, [some (.ref 0), some (.int l1)], [], (223, kc, ks, pd_H g v))) rfl ?_
        rcases pd_cases h with ⟨hb4, h⟩ | ⟨hb4, h⟩
        · rw [hb4]
          refine ev_gos pp_De_spent 3 (S' := (44, [some (.ref 0), some (.int l1)], [.int (v 173 5)], (223, kc, ks, pd_H g v))) rfl ?_
          cases h
          exact ev_fin pp_De_spent rfl
        · rw [hb4]
          refine ev_gos pp_De_spent 4 (S' := (44, [some (.ref 0), some (.int l1)], [.int (v 173 4)], (223, kc, ks, pd_H g v))) rfl ?_
          cases h
          exact ev_fin pp_De_spent rfl
      · cases h
        rw [eq3] at evq3
        exact ev_callvX pp_De_spent rfl rfl rfl rfl evq3 rfl
    · rw [hb2]
      refine ev_gos pp_De_spent 0 (S' := (9, [some (.ref 0), some (.int l1)], [], (223, kc, ks, pd_H g v))) rfl ?_
      cases h
      exact ev_fin pp_De_spent rfl
theorem pp_Ap_begin {xs : Nat → Int32} {L : Nat} : (pj_P xs L 82).1 = fun S => pm_look tb_Ap_begin S.1 S := rfl
def d_Ap_begin (w : Nat) (l1 : Nat) (nl1 : Nat) (l2 : Int32) (l3 : Int32) (v : pd_V) : Option pd_V :=
  (d_Cr_gather w 187 l1 nl1 l2 v).bind fun q1 =>
  (d_Arr_fill w 197 8 (0 : Int32) q1).bind fun q2 =>
  some (pd_w (pd_w q2 186 3 l3) 186 1 (0 : Int32))
theorem s_Ap_begin {w : Nat} {l1 : Nat} {nl1 : Nat} {l2 : Int32} {l3 : Int32} {v : pd_V} {q : pd_V} (hl1 : pd_ai g l1 nl1) (h : d_Ap_begin w l1 nl1 l2 l3 v = some q) : pm_ev (pj_P xs L) (d + 2) 82 (0, [some (.ref 186), some (.ref l1), some (.int l2), some (.int l3)], [], (223, kc, ks, pd_H g v)) (.inl none, (223, kc, ks, pd_H g q)) := by
  unfold d_Ap_begin at h
  refine ev_gos pp_Ap_begin 4 (S' := (6, [some (.ref 186), some (.ref l1), some (.int l2), some (.int l3)], [.int l2, .ref l1, .ref 187], (223, kc, ks, pd_H g v))) rfl ?_
  obtain ⟨q1, hq1, h⟩ := pd_bind h
  refine ev_callv pp_Ap_begin rfl rfl (pd_isa (c_cr crw_187)) rfl (s_Cr_gather crw_187 hl1 hq1) ?_
  refine ev_gos pp_Ap_begin 3 (S' := (14, [some (.ref 186), some (.ref l1), some (.int l2), some (.int l3)], [.int (0 : Int32), .ref 197], (223, kc, ks, pd_H g q1))) rfl ?_
  obtain ⟨q2, hq2, h⟩ := pd_bind h
  refine ev_call pp_Ap_begin rfl rfl rfl (s_Arr_fill (fun _ => rfl) hq2) ?_
  refine ev_gos pp_Ap_begin 2 (S' := (19, [some (.ref 186), some (.ref l1), some (.int l2), some (.int l3)], [.int l3, .ref 186], (223, kc, ks, pd_H g q2))) rfl ?_
  refine ev_put pp_Ap_begin rfl (fun _ => rfl) rfl rfl rfl ?_
  refine ev_gos pp_Ap_begin 2 (S' := (24, [some (.ref 186), some (.ref l1), some (.int l2), some (.int l3)], [.int (0 : Int32), .ref 186], (223, kc, ks, pd_H g (pd_w q2 186 3 l3)))) rfl ?_
  refine ev_put pp_Ap_begin rfl (fun _ => rfl) rfl rfl (pd_fit pd_b0) ?_
  refine ev_gos pp_Ap_begin 0 (S' := (27, [some (.ref 186), some (.ref l1), some (.int l2), some (.int l3)], [], (223, kc, ks, pd_H g (pd_w (pd_w q2 186 3 l3) 186 1 (0 : Int32))))) rfl ?_
  cases h
  exact ev_fin pp_Ap_begin rfl
theorem pp_Ap_isHeld {xs : Nat → Int32} {L : Nat} : (pj_P xs L 85).1 = fun S => pm_look tb_Ap_isHeld S.1 S := rfl
def d_Ap_isHeld (l1 : Nat) (l2 : Int32) (v : pd_V) : Option Int32 :=
  bif pm_in (l2 &&& (7 : Int32)) 8 then
  bif !(decide ((d_De_isIn (v 187 10) l2) = 0)) then
    some (1 : Int32)
  else
    bif decide ((v l1 3) ≤ (v 197 ((l2 &&& (7 : Int32)).toNatClampNeg))) then
      some (1 : Int32)
    else
      (d_Ke_stepAt l1 (v 197 ((l2 &&& (7 : Int32)).toNatClampNeg)) v).bind fun q5 =>
      bif !(decide ((v q5 0) = (3 : Int32))) then
        some (0 : Int32)
      else
        some (1 : Int32)
  else none
theorem s_Ap_isHeld {l1 : Nat} {l2 : Int32} {v : pd_V} {q : Int32} (hl1 : ker l1) (h : d_Ap_isHeld l1 l2 v = some q) : pm_ev (pj_P xs L) (d + 1) 85 (0, [some (.ref 186), some (.ref l1), some (.int l2), none], [], (223, kc, ks, pd_H g v)) (.inl (some (.int q)), (223, kc, ks, pd_H g v)) := by
  unfold d_Ap_isHeld at h
  refine ev_gos pp_Ap_isHeld 5 (S' := (8, [some (.ref 186), some (.ref l1), some (.int l2), none], [.int (l2 &&& (7 : Int32)), .ref 197], (223, kc, ks, pd_H g v))) rfl ?_
  obtain ⟨hc1, h⟩ := pd_chk h
  refine ev_iald pp_Ap_isHeld rfl (fun _ => rfl) hc1 ?_
  refine ev_gos pp_Ap_isHeld 3 (S' := (14, [some (.ref 186), some (.ref l1), some (.int l2), some (.int (v 197 ((l2 &&& (7 : Int32)).toNatClampNeg)))], [.ref 187], (223, kc, ks, pd_H g v))) rfl ?_
  refine ev_get pp_Ap_isHeld rfl (c_cr crw_187) rfl ?_
  refine ev_gos pp_Ap_isHeld 1 (S' := (18, [some (.ref 186), some (.ref l1), some (.int l2), some (.int (v 197 ((l2 &&& (7 : Int32)).toNatClampNeg)))], [.int l2, .int (v 187 10)], (223, kc, ks, pd_H g v))) rfl ?_
  refine ev_call pp_Ap_isHeld rfl rfl rfl (s_De_isIn) ?_
  refine ev_gos pp_Ap_isHeld 0 (S' := (21, [some (.ref 186), some (.ref l1), some (.int l2), some (.int (v 197 ((l2 &&& (7 : Int32)).toNatClampNeg)))], [.int (d_De_isIn (v 187 10) l2)], (223, kc, ks, pd_H g v))) rfl ?_
  refine ev_gos pp_Ap_isHeld 1 (S' := (bif !(decide ((d_De_isIn (v 187 10) l2) = 0)) then 44 else 24, [some (.ref 186), some (.ref l1), some (.int l2), some (.int (v 197 ((l2 &&& (7 : Int32)).toNatClampNeg)))], [], (223, kc, ks, pd_H g v))) rfl ?_
  rcases pd_cases h with ⟨hb3, h⟩ | ⟨hb3, h⟩
  · rw [hb3]
    refine ev_gos pp_Ap_isHeld 2 (S' := (49, [some (.ref 186), some (.ref l1), some (.int l2), some (.int (v 197 ((l2 &&& (7 : Int32)).toNatClampNeg)))], [.int (1 : Int32)], (223, kc, ks, pd_H g v))) rfl ?_
    cases h
    exact ev_zret pp_Ap_isHeld rfl pd_b1
  · rw [hb3]
    refine ev_gos pp_Ap_isHeld 2 (S' := (26, [some (.ref 186), some (.ref l1), some (.int l2), some (.int (v 197 ((l2 &&& (7 : Int32)).toNatClampNeg)))], [.ref l1, .int (v 197 ((l2 &&& (7 : Int32)).toNatClampNeg))], (223, kc, ks, pd_H g v))) rfl ?_
    refine ev_get pp_Ap_isHeld rfl (c_ke hl1) rfl ?_
    refine ev_gos pp_Ap_isHeld 0 (S' := (29, [some (.ref 186), some (.ref l1), some (.int l2), some (.int (v 197 ((l2 &&& (7 : Int32)).toNatClampNeg)))], [.int (v l1 3), .int (v 197 ((l2 &&& (7 : Int32)).toNatClampNeg))], (223, kc, ks, pd_H g v))) rfl ?_
    refine ev_gos pp_Ap_isHeld 1 (S' := (bif decide ((v l1 3) ≤ (v 197 ((l2 &&& (7 : Int32)).toNatClampNeg))) then 44 else 32, [some (.ref 186), some (.ref l1), some (.int l2), some (.int (v 197 ((l2 &&& (7 : Int32)).toNatClampNeg)))], [], (223, kc, ks, pd_H g v))) rfl ?_
    rcases pd_cases h with ⟨hb4, h⟩ | ⟨hb4, h⟩
    · rw [hb4]
      refine ev_gos pp_Ap_isHeld 2 (S' := (49, [some (.ref 186), some (.ref l1), some (.int l2), some (.int (v 197 ((l2 &&& (7 : Int32)).toNatClampNeg)))], [.int (1 : Int32)], (223, kc, ks, pd_H g v))) rfl ?_
      cases h
      exact ev_zret pp_Ap_isHeld rfl pd_b1
    · rw [hb4]
      refine ev_gos pp_Ap_isHeld 2 (S' := (34, [some (.ref 186), some (.ref l1), some (.int l2), some (.int (v 197 ((l2 &&& (7 : Int32)).toNatClampNeg)))], [.int (v 197 ((l2 &&& (7 : Int32)).toNatClampNeg)), .ref l1], (223, kc, ks, pd_H g v))) rfl ?_
      obtain ⟨q5, hq5, h⟩ := pd_bind h
      refine ev_callv pp_Ap_isHeld rfl rfl (pd_isa (c_ke hl1)) rfl (s_Ke_stepAt hl1 hq5) ?_
      refine ev_gos pp_Ap_isHeld 0 (S' := (37, [some (.ref 186), some (.ref l1), some (.int l2), some (.int (v 197 ((l2 &&& (7 : Int32)).toNatClampNeg)))], [.ref q5], (223, kc, ks, pd_H g v))) rfl ?_
      refine ev_get pp_Ap_isHeld rfl (c_st (r_Ke_stepAt hl1 hq5)) rfl ?_
      refine ev_gos pp_Ap_isHeld 1 (S' := (41, [some (.ref 186), some (.ref l1), some (.int l2), some (.int (v 197 ((l2 &&& (7 : Int32)).toNatClampNeg)))], [.int (3 : Int32), .int (v q5 0)], (223, kc, ks, pd_H g v))) rfl ?_
      refine ev_gos pp_Ap_isHeld 1 (S' := (bif !(decide ((v q5 0) = (3 : Int32))) then 48 else 44, [some (.ref 186), some (.ref l1), some (.int l2), some (.int (v 197 ((l2 &&& (7 : Int32)).toNatClampNeg)))], [], (223, kc, ks, pd_H g v))) rfl ?_
      rcases pd_cases h with ⟨hb6, h⟩ | ⟨hb6, h⟩
      · rw [hb6]
        refine ev_gos pp_Ap_isHeld 1 (S' := (49, [some (.ref 186), some (.ref l1), some (.int l2), some (.int (v 197 ((l2 &&& (7 : Int32)).toNatClampNeg)))], [.int (0 : Int32)], (223, kc, ks, pd_H g v))) rfl ?_
        cases h
        exact ev_zret pp_Ap_isHeld rfl pd_b0
      · rw [hb6]
        refine ev_gos pp_Ap_isHeld 2 (S' := (49, [some (.ref 186), some (.ref l1), some (.int l2), some (.int (v 197 ((l2 &&& (7 : Int32)).toNatClampNeg)))], [.int (1 : Int32)], (223, kc, ks, pd_H g v))) rfl ?_
        cases h
        exact ev_zret pp_Ap_isHeld rfl pd_b1
theorem z_Ap_isHeld {l1 : Nat} {l2 : Int32} {v : pd_V} {q : Int32} (hl1 : ker l1) (h : d_Ap_isHeld l1 l2 v = some q) : (q == 0 || q == 1) = true := by
  unfold d_Ap_isHeld at h
  obtain ⟨hc1, h⟩ := pd_chk h
  rcases pd_cases h with ⟨hb3, h⟩ | ⟨hb3, h⟩
  · cases h
    exact pd_b1
  · rcases pd_cases h with ⟨hb4, h⟩ | ⟨hb4, h⟩
    · cases h
      exact pd_b1
    · obtain ⟨q5, hq5, h⟩ := pd_bind h
      rcases pd_cases h with ⟨hb6, h⟩ | ⟨hb6, h⟩
      · cases h
        exact pd_b0
      · cases h
        exact pd_b1
theorem pp_Ap_afterStep {xs : Nat → Int32} {L : Nat} : (pj_P xs L 86).1 = fun S => pm_look tb_Ap_afterStep S.1 S := rfl
def d_Ap_afterStep (w : Nat) (l1 : Nat) (l2 : Int32) (v : pd_V) : Option (Int32 × pd_V) :=
  bif pm_in (l2 &&& (7 : Int32)) 8 then
  (d_Ke_stepAt l1 (v 197 ((l2 &&& (7 : Int32)).toNatClampNeg)) v).bind fun q2 =>
  bif decide ((v q2 0) = (5 : Int32)) then
    (d_Cr_decide w 187 l1 q2 l2 v).bind fun q4 =>
    bif decide (q4.1 = 0) then
      some (((q4.2 q2 4) + (1 : Int32)), q4.2)
    else
      some (((v 197 ((l2 &&& (7 : Int32)).toNatClampNeg)) + (1 : Int32)), q4.2)
  else
    bif !(decide ((v q2 0) = (6 : Int32))) then
      (d_Cr_act w 187 l1 q2 l2 v).bind fun q7 =>
      some (((v 197 ((l2 &&& (7 : Int32)).toNatClampNeg)) + (1 : Int32)), q7)
    else
      (d_Cr_decide w 187 l1 q2 l2 v).bind fun q8 =>
      bif decide (q8.1 = 0) then
        some (((q8.2 q2 4) + (1 : Int32)), q8.2)
      else
        some (((v 197 ((l2 &&& (7 : Int32)).toNatClampNeg)) + (1 : Int32)), q8.2)
  else none
theorem s_Ap_afterStep {w : Nat} {l1 : Nat} {l2 : Int32} {v : pd_V} {q : (Int32 × pd_V)} (hl1 : ker l1) (h : d_Ap_afterStep w l1 l2 v = some q) : pm_ev (pj_P xs L) (d + 4) 86 (0, [some (.ref 186), some (.ref l1), some (.int l2), none, none], [], (223, kc, ks, pd_H g v)) (.inl (some (.int q.1)), (223, kc, ks, pd_H g q.2)) := by
  unfold d_Ap_afterStep at h
  refine ev_gos pp_Ap_afterStep 5 (S' := (8, [some (.ref 186), some (.ref l1), some (.int l2), none, none], [.int (l2 &&& (7 : Int32)), .ref 197], (223, kc, ks, pd_H g v))) rfl ?_
  obtain ⟨hc1, h⟩ := pd_chk h
  refine ev_iald pp_Ap_afterStep rfl (fun _ => rfl) hc1 ?_
  refine ev_gos pp_Ap_afterStep 3 (S' := (12, [some (.ref 186), some (.ref l1), some (.int l2), some (.int (v 197 ((l2 &&& (7 : Int32)).toNatClampNeg))), none], [.int (v 197 ((l2 &&& (7 : Int32)).toNatClampNeg)), .ref l1], (223, kc, ks, pd_H g v))) rfl ?_
  obtain ⟨q2, hq2, h⟩ := pd_bind h
  refine ev_callv pp_Ap_afterStep rfl rfl (pd_isa (c_ke hl1)) rfl (s_Ke_stepAt hl1 hq2) ?_
  refine ev_gos pp_Ap_afterStep 2 (S' := (19, [some (.ref 186), some (.ref l1), some (.int l2), some (.int (v 197 ((l2 &&& (7 : Int32)).toNatClampNeg))), some (.ref q2)], [.ref q2], (223, kc, ks, pd_H g v))) rfl ?_
  refine ev_get pp_Ap_afterStep rfl (c_st (r_Ke_stepAt hl1 hq2)) rfl ?_
  refine ev_gos pp_Ap_afterStep 1 (S' := (23, [some (.ref 186), some (.ref l1), some (.int l2), some (.int (v 197 ((l2 &&& (7 : Int32)).toNatClampNeg))), some (.ref q2)], [.int (5 : Int32), .int (v q2 0)], (223, kc, ks, pd_H g v))) rfl ?_
  refine ev_gos pp_Ap_afterStep 1 (S' := (bif decide ((v q2 0) = (5 : Int32)) then 36 else 26, [some (.ref 186), some (.ref l1), some (.int l2), some (.int (v 197 ((l2 &&& (7 : Int32)).toNatClampNeg))), some (.ref q2)], [], (223, kc, ks, pd_H g v))) rfl ?_
  rcases pd_cases h with ⟨hb3, h⟩ | ⟨hb3, h⟩
  · rw [hb3]
    refine ev_gos pp_Ap_afterStep 5 (S' := (44, [some (.ref 186), some (.ref l1), some (.int l2), some (.int (v 197 ((l2 &&& (7 : Int32)).toNatClampNeg))), some (.ref q2)], [.int l2, .ref q2, .ref l1, .ref 187], (223, kc, ks, pd_H g v))) rfl ?_
    obtain ⟨q4, hq4, h⟩ := pd_bind h
    refine ev_callv pp_Ap_afterStep rfl rfl (pd_isa (c_cr crw_187)) rfl (s_Cr_decide crw_187 hl1 (r_Ke_stepAt hl1 hq2) hq4) ?_
    refine ev_gos pp_Ap_afterStep 0 (S' := (47, [some (.ref 186), some (.ref l1), some (.int l2), some (.int (v 197 ((l2 &&& (7 : Int32)).toNatClampNeg))), some (.ref q2)], [.int q4.1], (223, kc, ks, pd_H g q4.2))) rfl ?_
    refine ev_gos pp_Ap_afterStep 1 (S' := (bif decide (q4.1 = 0) then 56 else 50, [some (.ref 186), some (.ref l1), some (.int l2), some (.int (v 197 ((l2 &&& (7 : Int32)).toNatClampNeg))), some (.ref q2)], [], (223, kc, ks, pd_H g q4.2))) rfl ?_
    rcases pd_cases h with ⟨hb5, h⟩ | ⟨hb5, h⟩
    · rw [hb5]
      refine ev_gos pp_Ap_afterStep 1 (S' := (58, [some (.ref 186), some (.ref l1), some (.int l2), some (.int (v 197 ((l2 &&& (7 : Int32)).toNatClampNeg))), some (.ref q2)], [.ref q2], (223, kc, ks, pd_H g q4.2))) rfl ?_
      refine ev_get pp_Ap_afterStep rfl (c_st (r_Ke_stepAt hl1 hq2)) rfl ?_
      refine ev_gos pp_Ap_afterStep 2 (S' := (63, [some (.ref 186), some (.ref l1), some (.int l2), some (.int (v 197 ((l2 &&& (7 : Int32)).toNatClampNeg))), some (.ref q2)], [.int ((q4.2 q2 4) + (1 : Int32))], (223, kc, ks, pd_H g q4.2))) rfl ?_
      cases h
      exact ev_fin pp_Ap_afterStep rfl
    · rw [hb5]
      refine ev_gos pp_Ap_afterStep 4 (S' := (63, [some (.ref 186), some (.ref l1), some (.int l2), some (.int (v 197 ((l2 &&& (7 : Int32)).toNatClampNeg))), some (.ref q2)], [.int ((v 197 ((l2 &&& (7 : Int32)).toNatClampNeg)) + (1 : Int32))], (223, kc, ks, pd_H g q4.2))) rfl ?_
      cases h
      exact ev_fin pp_Ap_afterStep rfl
  · rw [hb3]
    refine ev_gos pp_Ap_afterStep 1 (S' := (28, [some (.ref 186), some (.ref l1), some (.int l2), some (.int (v 197 ((l2 &&& (7 : Int32)).toNatClampNeg))), some (.ref q2)], [.ref q2], (223, kc, ks, pd_H g v))) rfl ?_
    refine ev_get pp_Ap_afterStep rfl (c_st (r_Ke_stepAt hl1 hq2)) rfl ?_
    refine ev_gos pp_Ap_afterStep 1 (S' := (33, [some (.ref 186), some (.ref l1), some (.int l2), some (.int (v 197 ((l2 &&& (7 : Int32)).toNatClampNeg))), some (.ref q2)], [.int (6 : Int32), .int (v q2 0)], (223, kc, ks, pd_H g v))) rfl ?_
    refine ev_gos pp_Ap_afterStep 1 (S' := (bif !(decide ((v q2 0) = (6 : Int32))) then 64 else 36, [some (.ref 186), some (.ref l1), some (.int l2), some (.int (v 197 ((l2 &&& (7 : Int32)).toNatClampNeg))), some (.ref q2)], [], (223, kc, ks, pd_H g v))) rfl ?_
    rcases pd_cases h with ⟨hb6, h⟩ | ⟨hb6, h⟩
    · rw [hb6]
      refine ev_gos pp_Ap_afterStep 5 (S' := (72, [some (.ref 186), some (.ref l1), some (.int l2), some (.int (v 197 ((l2 &&& (7 : Int32)).toNatClampNeg))), some (.ref q2)], [.int l2, .ref q2, .ref l1, .ref 187], (223, kc, ks, pd_H g v))) rfl ?_
      obtain ⟨q7, hq7, h⟩ := pd_bind h
      refine ev_callv pp_Ap_afterStep rfl rfl (pd_isa (c_cr crw_187)) rfl (s_Cr_act crw_187 hl1 (r_Ke_stepAt hl1 hq2) hq7) ?_
      refine ev_gos pp_Ap_afterStep 3 (S' := (78, [some (.ref 186), some (.ref l1), some (.int l2), some (.int (v 197 ((l2 &&& (7 : Int32)).toNatClampNeg))), some (.ref q2)], [.int ((v 197 ((l2 &&& (7 : Int32)).toNatClampNeg)) + (1 : Int32))], (223, kc, ks, pd_H g q7))) rfl ?_
      cases h
      exact ev_fin pp_Ap_afterStep rfl
    · rw [hb6]
      refine ev_gos pp_Ap_afterStep 5 (S' := (44, [some (.ref 186), some (.ref l1), some (.int l2), some (.int (v 197 ((l2 &&& (7 : Int32)).toNatClampNeg))), some (.ref q2)], [.int l2, .ref q2, .ref l1, .ref 187], (223, kc, ks, pd_H g v))) rfl ?_
      obtain ⟨q8, hq8, h⟩ := pd_bind h
      refine ev_callv pp_Ap_afterStep rfl rfl (pd_isa (c_cr crw_187)) rfl (s_Cr_decide crw_187 hl1 (r_Ke_stepAt hl1 hq2) hq8) ?_
      refine ev_gos pp_Ap_afterStep 0 (S' := (47, [some (.ref 186), some (.ref l1), some (.int l2), some (.int (v 197 ((l2 &&& (7 : Int32)).toNatClampNeg))), some (.ref q2)], [.int q8.1], (223, kc, ks, pd_H g q8.2))) rfl ?_
      refine ev_gos pp_Ap_afterStep 1 (S' := (bif decide (q8.1 = 0) then 56 else 50, [some (.ref 186), some (.ref l1), some (.int l2), some (.int (v 197 ((l2 &&& (7 : Int32)).toNatClampNeg))), some (.ref q2)], [], (223, kc, ks, pd_H g q8.2))) rfl ?_
      rcases pd_cases h with ⟨hb9, h⟩ | ⟨hb9, h⟩
      · rw [hb9]
        refine ev_gos pp_Ap_afterStep 1 (S' := (58, [some (.ref 186), some (.ref l1), some (.int l2), some (.int (v 197 ((l2 &&& (7 : Int32)).toNatClampNeg))), some (.ref q2)], [.ref q2], (223, kc, ks, pd_H g q8.2))) rfl ?_
        refine ev_get pp_Ap_afterStep rfl (c_st (r_Ke_stepAt hl1 hq2)) rfl ?_
        refine ev_gos pp_Ap_afterStep 2 (S' := (63, [some (.ref 186), some (.ref l1), some (.int l2), some (.int (v 197 ((l2 &&& (7 : Int32)).toNatClampNeg))), some (.ref q2)], [.int ((q8.2 q2 4) + (1 : Int32))], (223, kc, ks, pd_H g q8.2))) rfl ?_
        cases h
        exact ev_fin pp_Ap_afterStep rfl
      · rw [hb9]
        refine ev_gos pp_Ap_afterStep 4 (S' := (63, [some (.ref 186), some (.ref l1), some (.int l2), some (.int (v 197 ((l2 &&& (7 : Int32)).toNatClampNeg))), some (.ref q2)], [.int ((v 197 ((l2 &&& (7 : Int32)).toNatClampNeg)) + (1 : Int32))], (223, kc, ks, pd_H g q8.2))) rfl ?_
        cases h
        exact ev_fin pp_Ap_afterStep rfl
theorem pp_Ap_behindBraces {xs : Nat → Int32} {L : Nat} : (pj_P xs L 87).1 = fun S => pm_look tb_Ap_behindBraces S.1 S := rfl
def d_Ap_behindBraces_4 (w : Nat) (f : Nat) (l0 : Nat) (l2 : Int32) (l3 : Int32) (v : pd_V) : Option Int32 := match f with
  | 0 => none
  | f + 1 =>
    bif decide ((80 : Int32) < l3) then
      some l2
    else
      bif decide ((v l0 3) ≤ l2) then
        some l2
      else
        (d_Ke_stepAt l0 l2 v).bind fun q3 =>
        bif decide ((d_St_isIssued q3 v) = 0) then
          bif !(decide ((v q3 0) = (9 : Int32))) then
            bif !(decide ((v q3 0) = (7 : Int32))) then
              d_Ap_behindBraces_4 w f l0 (l2 + (1 : Int32)) (l3 + (1 : Int32)) v
            else
              d_Ap_behindBraces_4 w f l0 ((v q3 3) + (1 : Int32)) (l3 + (1 : Int32)) v
          else
            d_Ap_behindBraces_4 w f l0 (v q3 4) (l3 + (1 : Int32)) v
        else
          some l2
theorem s_Ap_behindBraces_4 {w : Nat} : ∀ (f : Nat) (l0 : Nat) (l2 : Int32) (l3 : Int32) (v : pd_V) (y1 : Int32) (y4 : Option Value) (q : Int32) (hl0 : ker l0), d_Ap_behindBraces_4 w f l0 l2 l3 v = some q → pm_ev (pj_P xs L) (d + 1) 87 (4, [some (.ref l0), some (.int y1), some (.int l2), some (.int l3), y4], [], (223, kc, ks, pd_H g v)) (.inl (some (.int q)), (223, kc, ks, pd_H g v)) := by
  intro f
  induction f with
  | zero => intro l0 l2 l3 v y1 y4 q hl0 h; exact nomatch (show (none : Option Int32) = some q from h)
  | succ f ih =>
    intro l0 l2 l3 v y1 y4 q hl0 h
    rw [d_Ap_behindBraces_4] at h
    refine ev_gos pp_Ap_behindBraces 2 (S' := (7, [some (.ref l0), some (.int y1), some (.int l2), some (.int l3), y4], [.int (80 : Int32), .int l3], (223, kc, ks, pd_H g v))) rfl ?_
    refine ev_gos pp_Ap_behindBraces 1 (S' := (bif decide ((80 : Int32) < l3) then 85 else 10, [some (.ref l0), some (.int y1), some (.int l2), some (.int l3), y4], [], (223, kc, ks, pd_H g v))) rfl ?_
    rcases pd_cases h with ⟨hb1, h⟩ | ⟨hb1, h⟩
    · rw [hb1]
      refine ev_gos pp_Ap_behindBraces 1 (S' := (86, [some (.ref l0), some (.int y1), some (.int l2), some (.int l3), y4], [.int l2], (223, kc, ks, pd_H g v))) rfl ?_
      cases h
      exact ev_fin pp_Ap_behindBraces rfl
    · rw [hb1]
      refine ev_gos pp_Ap_behindBraces 2 (S' := (12, [some (.ref l0), some (.int y1), some (.int l2), some (.int l3), y4], [.ref l0, .int l2], (223, kc, ks, pd_H g v))) rfl ?_
      refine ev_get pp_Ap_behindBraces rfl (c_ke hl0) rfl ?_
      refine ev_gos pp_Ap_behindBraces 0 (S' := (15, [some (.ref l0), some (.int y1), some (.int l2), some (.int l3), y4], [.int (v l0 3), .int l2], (223, kc, ks, pd_H g v))) rfl ?_
      refine ev_gos pp_Ap_behindBraces 1 (S' := (bif decide ((v l0 3) ≤ l2) then 85 else 18, [some (.ref l0), some (.int y1), some (.int l2), some (.int l3), y4], [], (223, kc, ks, pd_H g v))) rfl ?_
      rcases pd_cases h with ⟨hb2, h⟩ | ⟨hb2, h⟩
      · rw [hb2]
        refine ev_gos pp_Ap_behindBraces 1 (S' := (86, [some (.ref l0), some (.int y1), some (.int l2), some (.int l3), y4], [.int l2], (223, kc, ks, pd_H g v))) rfl ?_
        cases h
        exact ev_fin pp_Ap_behindBraces rfl
      · rw [hb2]
        refine ev_gos pp_Ap_behindBraces 2 (S' := (20, [some (.ref l0), some (.int y1), some (.int l2), some (.int l3), y4], [.int l2, .ref l0], (223, kc, ks, pd_H g v))) rfl ?_
        obtain ⟨q3, hq3, h⟩ := pd_bind h
        refine ev_callv pp_Ap_behindBraces rfl rfl (pd_isa (c_ke hl0)) rfl (s_Ke_stepAt hl0 hq3) ?_
        refine ev_gos pp_Ap_behindBraces 2 (S' := (27, [some (.ref l0), some (.int y1), some (.int l2), some (.int l3), some (.ref q3)], [.ref q3], (223, kc, ks, pd_H g v))) rfl ?_
        refine ev_callv pp_Ap_behindBraces rfl rfl (pd_isa (c_st (r_Ke_stepAt hl0 hq3))) rfl (s_St_isIssued (r_Ke_stepAt hl0 hq3)) ?_
        refine ev_gos pp_Ap_behindBraces 0 (S' := (30, [some (.ref l0), some (.int y1), some (.int l2), some (.int l3), some (.ref q3)], [.int (d_St_isIssued q3 v)], (223, kc, ks, pd_H g v))) rfl ?_
        refine ev_gos pp_Ap_behindBraces 1 (S' := (bif decide ((d_St_isIssued q3 v) = 0) then 36 else 33, [some (.ref l0), some (.int y1), some (.int l2), some (.int l3), some (.ref q3)], [], (223, kc, ks, pd_H g v))) rfl ?_
        rcases pd_cases h with ⟨hb5, h⟩ | ⟨hb5, h⟩
        · rw [hb5]
          refine ev_gos pp_Ap_behindBraces 1 (S' := (38, [some (.ref l0), some (.int y1), some (.int l2), some (.int l3), some (.ref q3)], [.ref q3], (223, kc, ks, pd_H g v))) rfl ?_
          refine ev_get pp_Ap_behindBraces rfl (c_st (r_Ke_stepAt hl0 hq3)) rfl ?_
          refine ev_gos pp_Ap_behindBraces 1 (S' := (43, [some (.ref l0), some (.int y1), some (.int l2), some (.int l3), some (.ref q3)], [.int (9 : Int32), .int (v q3 0)], (223, kc, ks, pd_H g v))) rfl ?_
          refine ev_gos pp_Ap_behindBraces 1 (S' := (bif !(decide ((v q3 0) = (9 : Int32))) then 55 else 46, [some (.ref l0), some (.int y1), some (.int l2), some (.int l3), some (.ref q3)], [], (223, kc, ks, pd_H g v))) rfl ?_
          rcases pd_cases h with ⟨hb6, h⟩ | ⟨hb6, h⟩
          · rw [hb6]
            refine ev_gos pp_Ap_behindBraces 1 (S' := (57, [some (.ref l0), some (.int y1), some (.int l2), some (.int l3), some (.ref q3)], [.ref q3], (223, kc, ks, pd_H g v))) rfl ?_
            refine ev_get pp_Ap_behindBraces rfl (c_st (r_Ke_stepAt hl0 hq3)) rfl ?_
            refine ev_gos pp_Ap_behindBraces 1 (S' := (62, [some (.ref l0), some (.int y1), some (.int l2), some (.int l3), some (.ref q3)], [.int (7 : Int32), .int (v q3 0)], (223, kc, ks, pd_H g v))) rfl ?_
            refine ev_gos pp_Ap_behindBraces 1 (S' := (bif !(decide ((v q3 0) = (7 : Int32))) then 75 else 65, [some (.ref l0), some (.int y1), some (.int l2), some (.int l3), some (.ref q3)], [], (223, kc, ks, pd_H g v))) rfl ?_
            rcases pd_cases h with ⟨hb7, h⟩ | ⟨hb7, h⟩
            · rw [hb7]
              refine ev_gos pp_Ap_behindBraces 6 (S' := (4, [some (.ref l0), some (.int y1), some (.int (l2 + (1 : Int32))), some (.int (l3 + (1 : Int32))), some (.ref q3)], [], (223, kc, ks, pd_H g v))) rfl ?_
              exact ih _ _ _ _ _ _ _ hl0 h
            · rw [hb7]
              refine ev_gos pp_Ap_behindBraces 1 (S' := (67, [some (.ref l0), some (.int y1), some (.int l2), some (.int l3), some (.ref q3)], [.ref q3], (223, kc, ks, pd_H g v))) rfl ?_
              refine ev_get pp_Ap_behindBraces rfl (c_st (r_Ke_stepAt hl0 hq3)) rfl ?_
              refine ev_gos pp_Ap_behindBraces 6 (S' := (4, [some (.ref l0), some (.int y1), some (.int ((v q3 3) + (1 : Int32))), some (.int (l3 + (1 : Int32))), some (.ref q3)], [], (223, kc, ks, pd_H g v))) rfl ?_
              exact ih _ _ _ _ _ _ _ hl0 h
          · rw [hb6]
            refine ev_gos pp_Ap_behindBraces 1 (S' := (48, [some (.ref l0), some (.int y1), some (.int l2), some (.int l3), some (.ref q3)], [.ref q3], (223, kc, ks, pd_H g v))) rfl ?_
            refine ev_get pp_Ap_behindBraces rfl (c_st (r_Ke_stepAt hl0 hq3)) rfl ?_
            refine ev_gos pp_Ap_behindBraces 4 (S' := (4, [some (.ref l0), some (.int y1), some (.int (v q3 4)), some (.int (l3 + (1 : Int32))), some (.ref q3)], [], (223, kc, ks, pd_H g v))) rfl ?_
            exact ih _ _ _ _ _ _ _ hl0 h
        · rw [hb5]
          refine ev_gos pp_Ap_behindBraces 2 (S' := (86, [some (.ref l0), some (.int y1), some (.int l2), some (.int l3), some (.ref q3)], [.int l2], (223, kc, ks, pd_H g v))) rfl ?_
          cases h
          exact ev_fin pp_Ap_behindBraces rfl
def d_Ap_behindBraces (w : Nat) (l0 : Nat) (l1 : Int32) (v : pd_V) : Option Int32 :=
  d_Ap_behindBraces_4 w w l0 l1 (0 : Int32) v
theorem s_Ap_behindBraces {w : Nat} {l0 : Nat} {l1 : Int32} {v : pd_V} {q : Int32} (hl0 : ker l0) (h : d_Ap_behindBraces w l0 l1 v = some q) : pm_ev (pj_P xs L) (d + 1) 87 (0, [some (.ref l0), some (.int l1), none, none, none], [], (223, kc, ks, pd_H g v)) (.inl (some (.int q)), (223, kc, ks, pd_H g v)) := by
  unfold d_Ap_behindBraces at h
  refine ev_gos pp_Ap_behindBraces 4 (S' := (4, [some (.ref l0), some (.int l1), some (.int l1), some (.int (0 : Int32)), none], [], (223, kc, ks, pd_H g v))) rfl ?_
  exact s_Ap_behindBraces_4 _ _ _ _ _ _ _ _ hl0 h
theorem pp_Ap_goesOn {xs : Nat → Int32} {L : Nat} : (pj_P xs L 84).1 = fun S => pm_look tb_Ap_goesOn S.1 S := rfl
def d_Ap_goesOn_0 (w : Nat) (f : Nat) (l1 : Nat) (l2 : Int32) (v : pd_V) : Option (Int32 × pd_V) := match f with
  | 0 => none
  | f + 1 =>
    bif decide ((v 186 3) ≤ 0) then
      (d_Ap_isHeld l1 l2 v).bind fun q2 =>
      some (q2, v)
    else
      (d_Ap_isHeld l1 l2 v).bind fun q3 =>
      bif decide (q3 = 0) then
        (d_Ap_afterStep w l1 l2 v).bind fun q5 =>
        (d_Ap_behindBraces w l1 q5.1 q5.2).bind fun q6 =>
        bif pm_in (l2 &&& (7 : Int32)) 8 then
        d_Ap_goesOn_0 w f l1 l2 (pd_w (pd_w q5.2 197 ((l2 &&& (7 : Int32)).toNatClampNeg) q6) 186 3 ((q5.2 186 3) - (1 : Int32)))
        else none
      else
        some ((1 : Int32), v)
theorem s_Ap_goesOn_0 {w : Nat} : ∀ (f : Nat) (l1 : Nat) (l2 : Int32) (v : pd_V)  (q : (Int32 × pd_V)) (hl1 : ker l1), d_Ap_goesOn_0 w f l1 l2 v = some q → pm_ev (pj_P xs L) (d + 5) 84 (0, [some (.ref 186), some (.ref l1), some (.int l2)], [], (223, kc, ks, pd_H g v)) (.inl (some (.int q.1)), (223, kc, ks, pd_H g q.2)) := by
  intro f
  induction f with
  | zero => intro l1 l2 v q hl1 h; exact nomatch (show (none : Option (Int32 × pd_V)) = some q from h)
  | succ f ih =>
    intro l1 l2 v q hl1 h
    rw [d_Ap_goesOn_0] at h
    refine ev_gos pp_Ap_goesOn 2 (S' := (4, [some (.ref 186), some (.ref l1), some (.int l2)], [.int (v 186 3)], (223, kc, ks, pd_H g v))) rfl ?_
    refine ev_gos pp_Ap_goesOn 1 (S' := (bif decide ((v 186 3) ≤ 0) then 50 else 7, [some (.ref 186), some (.ref l1), some (.int l2)], [], (223, kc, ks, pd_H g v))) rfl ?_
    rcases pd_cases h with ⟨hb1, h⟩ | ⟨hb1, h⟩
    · rw [hb1]
      refine ev_gos pp_Ap_goesOn 3 (S' := (53, [some (.ref 186), some (.ref l1), some (.int l2)], [.int l2, .ref l1, .ref 186], (223, kc, ks, pd_H g v))) rfl ?_
      obtain ⟨q2, hq2, h⟩ := pd_bind h
      refine ev_callv pp_Ap_goesOn rfl rfl rfl rfl (s_Ap_isHeld hl1 hq2) ?_
      refine ev_gos pp_Ap_goesOn 0 (S' := (56, [some (.ref 186), some (.ref l1), some (.int l2)], [.int q2], (223, kc, ks, pd_H g v))) rfl ?_
      cases h
      exact ev_zret pp_Ap_goesOn rfl (z_Ap_isHeld hl1 hq2)
    · rw [hb1]
      refine ev_gos pp_Ap_goesOn 3 (S' := (10, [some (.ref 186), some (.ref l1), some (.int l2)], [.int l2, .ref l1, .ref 186], (223, kc, ks, pd_H g v))) rfl ?_
      obtain ⟨q3, hq3, h⟩ := pd_bind h
      refine ev_callv pp_Ap_goesOn rfl rfl rfl rfl (s_Ap_isHeld hl1 hq3) ?_
      refine ev_gos pp_Ap_goesOn 0 (S' := (13, [some (.ref 186), some (.ref l1), some (.int l2)], [.int q3], (223, kc, ks, pd_H g v))) rfl ?_
      refine ev_gos pp_Ap_goesOn 1 (S' := (bif decide (q3 = 0) then 18 else 16, [some (.ref 186), some (.ref l1), some (.int l2)], [], (223, kc, ks, pd_H g v))) rfl ?_
      rcases pd_cases h with ⟨hb4, h⟩ | ⟨hb4, h⟩
      · rw [hb4]
        refine ev_gos pp_Ap_goesOn 9 (S' := (30, [some (.ref 186), some (.ref l1), some (.int l2)], [.int l2, .ref l1, .ref 186, .ref l1, .int (l2 &&& (7 : Int32)), .ref 197], (223, kc, ks, pd_H g v))) rfl ?_
        obtain ⟨q5, hq5, h⟩ := pd_bind h
        refine ev_callv pp_Ap_goesOn rfl rfl rfl rfl (s_Ap_afterStep hl1 hq5) ?_
        refine ev_gos pp_Ap_goesOn 0 (S' := (33, [some (.ref 186), some (.ref l1), some (.int l2)], [.int q5.1, .ref l1, .int (l2 &&& (7 : Int32)), .ref 197], (223, kc, ks, pd_H g q5.2))) rfl ?_
        obtain ⟨q6, hq6, h⟩ := pd_bind h
        refine ev_call pp_Ap_goesOn rfl rfl rfl (s_Ap_behindBraces hl1 hq6) ?_
        refine ev_gos pp_Ap_goesOn 0 (S' := (36, [some (.ref 186), some (.ref l1), some (.int l2)], [.int q6, .int (l2 &&& (7 : Int32)), .ref 197], (223, kc, ks, pd_H g q5.2))) rfl ?_
        obtain ⟨hc7, h⟩ := pd_chk h
        refine ev_iast pp_Ap_goesOn rfl (fun _ => rfl) hc7 ?_
        refine ev_gos pp_Ap_goesOn 5 (S' := (44, [some (.ref 186), some (.ref l1), some (.int l2)], [.int ((q5.2 186 3) - (1 : Int32)), .ref 186], (223, kc, ks, pd_H g (pd_w q5.2 197 ((l2 &&& (7 : Int32)).toNatClampNeg) q6)))) rfl ?_
        refine ev_put pp_Ap_goesOn rfl (fun _ => rfl) rfl rfl rfl ?_
        refine ev_gos pp_Ap_goesOn 1 (S' := (0, [some (.ref 186), some (.ref l1), some (.int l2)], [], (223, kc, ks, pd_H g (pd_w (pd_w q5.2 197 ((l2 &&& (7 : Int32)).toNatClampNeg) q6) 186 3 ((q5.2 186 3) - (1 : Int32)))))) rfl ?_
        exact ih _ _ _ _ hl1 h
      · rw [hb4]
        refine ev_gos pp_Ap_goesOn 1 (S' := (17, [some (.ref 186), some (.ref l1), some (.int l2)], [.int (1 : Int32)], (223, kc, ks, pd_H g v))) rfl ?_
        cases h
        exact ev_zret pp_Ap_goesOn rfl pd_b1
theorem s_Ap_goesOn_0z {w : Nat} : ∀ (f : Nat) (l1 : Nat) (l2 : Int32) (v : pd_V)  (q : (Int32 × pd_V)) (hl1 : ker l1), d_Ap_goesOn_0 w f l1 l2 v = some q → (q.1 == 0 || q.1 == 1) = true := by
  intro f
  induction f with
  | zero => intro l1 l2 v q hl1 h; exact nomatch (show (none : Option (Int32 × pd_V)) = some q from h)
  | succ f ih =>
    intro l1 l2 v q hl1 h
    rw [d_Ap_goesOn_0] at h
    rcases pd_cases h with ⟨hb1, h⟩ | ⟨hb1, h⟩
    · obtain ⟨q2, hq2, h⟩ := pd_bind h
      cases h
      exact (z_Ap_isHeld hl1 hq2)
    · obtain ⟨q3, hq3, h⟩ := pd_bind h
      rcases pd_cases h with ⟨hb4, h⟩ | ⟨hb4, h⟩
      · obtain ⟨q5, hq5, h⟩ := pd_bind h
        obtain ⟨q6, hq6, h⟩ := pd_bind h
        obtain ⟨hc7, h⟩ := pd_chk h
        exact ih _ _ _ _ hl1 h
      · cases h
        exact pd_b1
def d_Ap_goesOn (w : Nat) (l1 : Nat) (l2 : Int32) (v : pd_V) : Option (Int32 × pd_V) :=
  d_Ap_goesOn_0 w w l1 l2 v
theorem s_Ap_goesOn {w : Nat} {l1 : Nat} {l2 : Int32} {v : pd_V} {q : (Int32 × pd_V)} (hl1 : ker l1) (h : d_Ap_goesOn w l1 l2 v = some q) : pm_ev (pj_P xs L) (d + 5) 84 (0, [some (.ref 186), some (.ref l1), some (.int l2)], [], (223, kc, ks, pd_H g v)) (.inl (some (.int q.1)), (223, kc, ks, pd_H g q.2)) := by
  unfold d_Ap_goesOn at h
  refine ev_gos pp_Ap_goesOn 0 (S' := (0, [some (.ref 186), some (.ref l1), some (.int l2)], [], (223, kc, ks, pd_H g v))) rfl ?_
  exact s_Ap_goesOn_0 _ _ _ _ _ hl1 h
theorem z_Ap_goesOn {w : Nat} {l1 : Nat} {l2 : Int32} {v : pd_V} {q : (Int32 × pd_V)} (hl1 : ker l1) (h : d_Ap_goesOn w l1 l2 v = some q) : (q.1 == 0 || q.1 == 1) = true := by
  unfold d_Ap_goesOn at h
  exact s_Ap_goesOn_0z _ _ _ _ _ hl1 h
theorem pp_Ap_lanesAtX {xs : Nat → Int32} {L : Nat} : (pj_P xs L 88).1 = fun S => pm_look tb_Ap_lanesAtX S.1 S := rfl
def d_Ap_lanesAtX_4 (w : Nat) (f : Nat) (l1 : Nat) (l2 : Int32) (l3 : Int32) (v : pd_V) : Option Int32 := match f with
  | 0 => none
  | f + 1 =>
    bif decide ((8 : Int32) ≤ l3) then
      some l2
    else
      bif !(decide ((d_De_isIn (v 187 10) l3) = 0)) then
        d_Ap_lanesAtX_4 w f l1 l2 (l3 + (1 : Int32)) v
      else
        bif pm_in l3 8 then
        bif decide ((v l1 3) ≤ (v 197 l3.toNatClampNeg)) then
          d_Ap_lanesAtX_4 w f l1 l2 (l3 + (1 : Int32)) v
        else
          d_Ap_lanesAtX_4 w f l1 (l2 ||| ((1 : Int32) <<< (l3 &&& 31))) (l3 + (1 : Int32)) v
        else none
theorem s_Ap_lanesAtX_4 {w : Nat} : ∀ (f : Nat) (l1 : Nat) (l2 : Int32) (l3 : Int32) (v : pd_V)  (q : Int32) (hl1 : ker l1), d_Ap_lanesAtX_4 w f l1 l2 l3 v = some q → pm_ev (pj_P xs L) (d + 1) 88 (4, [some (.ref 186), some (.ref l1), some (.int l2), some (.int l3)], [], (223, kc, ks, pd_H g v)) (.inl (some (.int q)), (223, kc, ks, pd_H g v)) := by
  intro f
  induction f with
  | zero => intro l1 l2 l3 v q hl1 h; exact nomatch (show (none : Option Int32) = some q from h)
  | succ f ih =>
    intro l1 l2 l3 v q hl1 h
    rw [d_Ap_lanesAtX_4] at h
    refine ev_gos pp_Ap_lanesAtX 2 (S' := (7, [some (.ref 186), some (.ref l1), some (.int l2), some (.int l3)], [.int (8 : Int32), .int l3], (223, kc, ks, pd_H g v))) rfl ?_
    refine ev_gos pp_Ap_lanesAtX 1 (S' := (bif decide ((8 : Int32) ≤ l3) then 49 else 10, [some (.ref 186), some (.ref l1), some (.int l2), some (.int l3)], [], (223, kc, ks, pd_H g v))) rfl ?_
    rcases pd_cases h with ⟨hb1, h⟩ | ⟨hb1, h⟩
    · rw [hb1]
      refine ev_gos pp_Ap_lanesAtX 1 (S' := (50, [some (.ref 186), some (.ref l1), some (.int l2), some (.int l3)], [.int l2], (223, kc, ks, pd_H g v))) rfl ?_
      cases h
      exact ev_fin pp_Ap_lanesAtX rfl
    · rw [hb1]
      refine ev_gos pp_Ap_lanesAtX 2 (S' := (14, [some (.ref 186), some (.ref l1), some (.int l2), some (.int l3)], [.ref 187], (223, kc, ks, pd_H g v))) rfl ?_
      refine ev_get pp_Ap_lanesAtX rfl (c_cr crw_187) rfl ?_
      refine ev_gos pp_Ap_lanesAtX 1 (S' := (18, [some (.ref 186), some (.ref l1), some (.int l2), some (.int l3)], [.int l3, .int (v 187 10)], (223, kc, ks, pd_H g v))) rfl ?_
      refine ev_call pp_Ap_lanesAtX rfl rfl rfl (s_De_isIn) ?_
      refine ev_gos pp_Ap_lanesAtX 0 (S' := (21, [some (.ref 186), some (.ref l1), some (.int l2), some (.int l3)], [.int (d_De_isIn (v 187 10) l3)], (223, kc, ks, pd_H g v))) rfl ?_
      refine ev_gos pp_Ap_lanesAtX 1 (S' := (bif !(decide ((d_De_isIn (v 187 10) l3) = 0)) then 43 else 24, [some (.ref 186), some (.ref l1), some (.int l2), some (.int l3)], [], (223, kc, ks, pd_H g v))) rfl ?_
      rcases pd_cases h with ⟨hb3, h⟩ | ⟨hb3, h⟩
      · rw [hb3]
        refine ev_gos pp_Ap_lanesAtX 2 (S' := (4, [some (.ref 186), some (.ref l1), some (.int l2), some (.int (l3 + (1 : Int32)))], [], (223, kc, ks, pd_H g v))) rfl ?_
        exact ih _ _ _ _ _ hl1 h
      · rw [hb3]
        refine ev_gos pp_Ap_lanesAtX 3 (S' := (29, [some (.ref 186), some (.ref l1), some (.int l2), some (.int l3)], [.int l3, .ref 197], (223, kc, ks, pd_H g v))) rfl ?_
        obtain ⟨hc4, h⟩ := pd_chk h
        refine ev_iald pp_Ap_lanesAtX rfl (fun _ => rfl) hc4 ?_
        refine ev_gos pp_Ap_lanesAtX 1 (S' := (31, [some (.ref 186), some (.ref l1), some (.int l2), some (.int l3)], [.ref l1, .int (v 197 l3.toNatClampNeg)], (223, kc, ks, pd_H g v))) rfl ?_
        refine ev_get pp_Ap_lanesAtX rfl (c_ke hl1) rfl ?_
        refine ev_gos pp_Ap_lanesAtX 0 (S' := (34, [some (.ref 186), some (.ref l1), some (.int l2), some (.int l3)], [.int (v l1 3), .int (v 197 l3.toNatClampNeg)], (223, kc, ks, pd_H g v))) rfl ?_
        refine ev_gos pp_Ap_lanesAtX 1 (S' := (bif decide ((v l1 3) ≤ (v 197 l3.toNatClampNeg)) then 43 else 37, [some (.ref 186), some (.ref l1), some (.int l2), some (.int l3)], [], (223, kc, ks, pd_H g v))) rfl ?_
        rcases pd_cases h with ⟨hb5, h⟩ | ⟨hb5, h⟩
        · rw [hb5]
          refine ev_gos pp_Ap_lanesAtX 2 (S' := (4, [some (.ref 186), some (.ref l1), some (.int l2), some (.int (l3 + (1 : Int32)))], [], (223, kc, ks, pd_H g v))) rfl ?_
          exact ih _ _ _ _ _ hl1 h
        · rw [hb5]
          refine ev_gos pp_Ap_lanesAtX 8 (S' := (4, [some (.ref 186), some (.ref l1), some (.int (l2 ||| ((1 : Int32) <<< (l3 &&& 31)))), some (.int (l3 + (1 : Int32)))], [], (223, kc, ks, pd_H g v))) rfl ?_
          exact ih _ _ _ _ _ hl1 h
def d_Ap_lanesAtX (w : Nat) (l1 : Nat) (v : pd_V) : Option Int32 :=
  d_Ap_lanesAtX_4 w w l1 (0 : Int32) (0 : Int32) v
theorem s_Ap_lanesAtX {w : Nat} {l1 : Nat} {v : pd_V} {q : Int32} (hl1 : ker l1) (h : d_Ap_lanesAtX w l1 v = some q) : pm_ev (pj_P xs L) (d + 1) 88 (0, [some (.ref 186), some (.ref l1), none, none], [], (223, kc, ks, pd_H g v)) (.inl (some (.int q)), (223, kc, ks, pd_H g v)) := by
  unfold d_Ap_lanesAtX at h
  refine ev_gos pp_Ap_lanesAtX 4 (S' := (4, [some (.ref 186), some (.ref l1), some (.int (0 : Int32)), some (.int (0 : Int32))], [], (223, kc, ks, pd_H g v))) rfl ?_
  exact s_Ap_lanesAtX_4 _ _ _ _ _ _ hl1 h
theorem pp_Ap_exchange {xs : Nat → Int32} {L : Nat} : (pj_P xs L 89).1 = fun S => pm_look tb_Ap_exchange S.1 S := rfl
def d_Ap_exchange_5 (w : Nat) (f : Nat) (l1 : Nat) (l2 : Int32) (l3 : Int32) (l4 : Int32) (v : pd_V) : Option pd_V := match f with
  | 0 => none
  | f + 1 =>
    bif decide ((8 : Int32) ≤ l4) then
      (d_Ke_stepAt l1 l3 v).bind fun q2 =>
      (d_Cr_exchange w 187 l1 q2 l2 v).bind fun q3 =>
      some q3
    else
      bif decide ((d_De_isIn l2 l4) = 0) then
        d_Ap_exchange_5 w f l1 l2 l3 (l4 + (1 : Int32)) v
      else
        bif pm_in l4 8 then
        (d_Ap_behindBraces w l1 ((v 197 l4.toNatClampNeg) + (1 : Int32)) v).bind fun q7 =>
        bif pm_in l4 8 then
        d_Ap_exchange_5 w f l1 l2 (v 197 l4.toNatClampNeg) (l4 + (1 : Int32)) (pd_w v 197 l4.toNatClampNeg q7)
        else none
        else none
theorem s_Ap_exchange_5 {w : Nat} : ∀ (f : Nat) (l1 : Nat) (l2 : Int32) (l3 : Int32) (l4 : Int32) (v : pd_V)  (q : pd_V) (hl1 : ker l1), d_Ap_exchange_5 w f l1 l2 l3 l4 v = some q → pm_ev (pj_P xs L) (d + 5) 89 (5, [some (.ref 186), some (.ref l1), some (.int l2), some (.int l3), some (.int l4)], [], (223, kc, ks, pd_H g v)) (.inl none, (223, kc, ks, pd_H g q)) := by
  intro f
  induction f with
  | zero => intro l1 l2 l3 l4 v q hl1 h; exact nomatch (show (none : Option pd_V) = some q from h)
  | succ f ih =>
    intro l1 l2 l3 l4 v q hl1 h
    rw [d_Ap_exchange_5] at h
    refine ev_gos pp_Ap_exchange 2 (S' := (9, [some (.ref 186), some (.ref l1), some (.int l2), some (.int l3), some (.int l4)], [.int (8 : Int32), .int l4], (223, kc, ks, pd_H g v))) rfl ?_
    refine ev_gos pp_Ap_exchange 1 (S' := (bif decide ((8 : Int32) ≤ l4) then 49 else 12, [some (.ref 186), some (.ref l1), some (.int l2), some (.int l3), some (.int l4)], [], (223, kc, ks, pd_H g v))) rfl ?_
    rcases pd_cases h with ⟨hb1, h⟩ | ⟨hb1, h⟩
    · rw [hb1]
      refine ev_gos pp_Ap_exchange 5 (S' := (56, [some (.ref 186), some (.ref l1), some (.int l2), some (.int l3), some (.int l4)], [.int l3, .ref l1, .ref l1, .ref 187], (223, kc, ks, pd_H g v))) rfl ?_
      obtain ⟨q2, hq2, h⟩ := pd_bind h
      refine ev_callv pp_Ap_exchange rfl rfl (pd_isa (c_ke hl1)) rfl (s_Ke_stepAt hl1 hq2) ?_
      refine ev_gos pp_Ap_exchange 1 (S' := (60, [some (.ref 186), some (.ref l1), some (.int l2), some (.int l3), some (.int l4)], [.int l2, .ref q2, .ref l1, .ref 187], (223, kc, ks, pd_H g v))) rfl ?_
      obtain ⟨q3, hq3, h⟩ := pd_bind h
      refine ev_callv pp_Ap_exchange rfl rfl (pd_isa (c_cr crw_187)) rfl (s_Cr_exchange crw_187 hl1 (r_Ke_stepAt hl1 hq2) hq3) ?_
      refine ev_gos pp_Ap_exchange 0 (S' := (63, [some (.ref 186), some (.ref l1), some (.int l2), some (.int l3), some (.int l4)], [], (223, kc, ks, pd_H g q3))) rfl ?_
      cases h
      exact ev_fin pp_Ap_exchange rfl
    · rw [hb1]
      refine ev_gos pp_Ap_exchange 2 (S' := (15, [some (.ref 186), some (.ref l1), some (.int l2), some (.int l3), some (.int l4)], [.int l4, .int l2], (223, kc, ks, pd_H g v))) rfl ?_
      refine ev_call pp_Ap_exchange rfl rfl rfl (s_De_isIn) ?_
      refine ev_gos pp_Ap_exchange 0 (S' := (18, [some (.ref 186), some (.ref l1), some (.int l2), some (.int l3), some (.int l4)], [.int (d_De_isIn l2 l4)], (223, kc, ks, pd_H g v))) rfl ?_
      refine ev_gos pp_Ap_exchange 1 (S' := (bif decide ((d_De_isIn l2 l4) = 0) then 43 else 21, [some (.ref 186), some (.ref l1), some (.int l2), some (.int l3), some (.int l4)], [], (223, kc, ks, pd_H g v))) rfl ?_
      rcases pd_cases h with ⟨hb5, h⟩ | ⟨hb5, h⟩
      · rw [hb5]
        refine ev_gos pp_Ap_exchange 2 (S' := (5, [some (.ref 186), some (.ref l1), some (.int l2), some (.int l3), some (.int (l4 + (1 : Int32)))], [], (223, kc, ks, pd_H g v))) rfl ?_
        exact ih _ _ _ _ _ _ hl1 h
      · rw [hb5]
        refine ev_gos pp_Ap_exchange 3 (S' := (27, [some (.ref 186), some (.ref l1), some (.int l2), some (.int l3), some (.int l4)], [.int l4, .ref 197], (223, kc, ks, pd_H g v))) rfl ?_
        obtain ⟨hc6, h⟩ := pd_chk h
        refine ev_iald pp_Ap_exchange rfl (fun _ => rfl) hc6 ?_
        refine ev_gos pp_Ap_exchange 8 (S' := (39, [some (.ref 186), some (.ref l1), some (.int l2), some (.int (v 197 l4.toNatClampNeg)), some (.int l4)], [.int ((v 197 l4.toNatClampNeg) + (1 : Int32)), .ref l1, .int l4, .ref 197], (223, kc, ks, pd_H g v))) rfl ?_
        obtain ⟨q7, hq7, h⟩ := pd_bind h
        refine ev_call pp_Ap_exchange rfl rfl rfl (s_Ap_behindBraces hl1 hq7) ?_
        refine ev_gos pp_Ap_exchange 0 (S' := (42, [some (.ref 186), some (.ref l1), some (.int l2), some (.int (v 197 l4.toNatClampNeg)), some (.int l4)], [.int q7, .int l4, .ref 197], (223, kc, ks, pd_H g v))) rfl ?_
        obtain ⟨hc8, h⟩ := pd_chk h
        refine ev_iast pp_Ap_exchange rfl (fun _ => rfl) hc8 ?_
        refine ev_gos pp_Ap_exchange 2 (S' := (5, [some (.ref 186), some (.ref l1), some (.int l2), some (.int (v 197 l4.toNatClampNeg)), some (.int (l4 + (1 : Int32)))], [], (223, kc, ks, pd_H g (pd_w v 197 l4.toNatClampNeg q7)))) rfl ?_
        exact ih _ _ _ _ _ _ hl1 h
def d_Ap_exchange (w : Nat) (l1 : Nat) (l2 : Int32) (v : pd_V) : Option pd_V :=
  d_Ap_exchange_5 w w l1 l2 (0 : Int32) (0 : Int32) v
theorem s_Ap_exchange {w : Nat} {l1 : Nat} {l2 : Int32} {v : pd_V} {q : pd_V} (hl1 : ker l1) (h : d_Ap_exchange w l1 l2 v = some q) : pm_ev (pj_P xs L) (d + 5) 89 (0, [some (.ref 186), some (.ref l1), some (.int l2), none, none], [], (223, kc, ks, pd_H g v)) (.inl none, (223, kc, ks, pd_H g q)) := by
  unfold d_Ap_exchange at h
  refine ev_gos pp_Ap_exchange 4 (S' := (5, [some (.ref 186), some (.ref l1), some (.int l2), some (.int (0 : Int32)), some (.int (0 : Int32))], [], (223, kc, ks, pd_H g v))) rfl ?_
  exact s_Ap_exchange_5 _ _ _ _ _ _ _ hl1 h
theorem pp_Ap_goThrough {xs : Nat → Int32} {L : Nat} : (pj_P xs L 83).1 = fun S => pm_look tb_Ap_goThrough S.1 S := rfl
def d_Ap_goThrough_11 (K : Nat → Int32 → pd_V → Option pd_V) (w : Nat) (f : Nat) (l1 : Nat) (l2 : Int32) (l3 : Int32) (v : pd_V) : Option pd_V := match f with
  | 0 => none
  | f + 1 =>
    bif decide ((8 : Int32) ≤ l3) then
      K l1 l2 v
    else
      (d_Ap_goesOn w l1 l3 v).bind fun q2 =>
      bif !(decide (q2.1 = 0)) then
        d_Ap_goThrough_11 K w f l1 l2 (l3 + (1 : Int32)) q2.2
      else
        some q2.2
theorem s_Ap_goThrough_11 {w : Nat} {K : Nat → Int32 → pd_V → Option pd_V} (hK : ∀ (l1 : Nat) (l2 : Int32) (v : pd_V) (y3 : Int32) (q : pd_V) (hl1 : ker l1), K l1 l2 v = some q → pm_ev (pj_P xs L) (d + 6) 83 (33, [some (.ref 186), some (.ref l1), some (.int l2), some (.int y3)], [], (223, kc, ks, pd_H g v)) (.inl none, (223, kc, ks, pd_H g q))) : ∀ (f : Nat) (l1 : Nat) (l2 : Int32) (l3 : Int32) (v : pd_V)  (q : pd_V) (hl1 : ker l1), d_Ap_goThrough_11 K w f l1 l2 l3 v = some q → pm_ev (pj_P xs L) (d + 6) 83 (11, [some (.ref 186), some (.ref l1), some (.int l2), some (.int l3)], [], (223, kc, ks, pd_H g v)) (.inl none, (223, kc, ks, pd_H g q)) := by
  intro f
  induction f with
  | zero => intro l1 l2 l3 v q hl1 h; exact nomatch (show (none : Option pd_V) = some q from h)
  | succ f ih =>
    intro l1 l2 l3 v q hl1 h
    rw [d_Ap_goThrough_11] at h
    refine ev_gos pp_Ap_goThrough 2 (S' := (14, [some (.ref 186), some (.ref l1), some (.int l2), some (.int l3)], [.int (8 : Int32), .int l3], (223, kc, ks, pd_H g v))) rfl ?_
    refine ev_gos pp_Ap_goThrough 1 (S' := (bif decide ((8 : Int32) ≤ l3) then 33 else 17, [some (.ref 186), some (.ref l1), some (.int l2), some (.int l3)], [], (223, kc, ks, pd_H g v))) rfl ?_
    rcases pd_cases h with ⟨hb1, h⟩ | ⟨hb1, h⟩
    · rw [hb1]
      refine ev_gos pp_Ap_goThrough 0 (S' := (33, [some (.ref 186), some (.ref l1), some (.int l2), some (.int l3)], [], (223, kc, ks, pd_H g v))) rfl ?_
      exact hK _ _ _ _ _ hl1 h
    · rw [hb1]
      refine ev_gos pp_Ap_goThrough 3 (S' := (20, [some (.ref 186), some (.ref l1), some (.int l2), some (.int l3)], [.int l3, .ref l1, .ref 186], (223, kc, ks, pd_H g v))) rfl ?_
      obtain ⟨q2, hq2, h⟩ := pd_bind h
      refine ev_callv pp_Ap_goThrough rfl rfl rfl rfl (s_Ap_goesOn hl1 hq2) ?_
      refine ev_gos pp_Ap_goThrough 0 (S' := (23, [some (.ref 186), some (.ref l1), some (.int l2), some (.int l3)], [.int q2.1], (223, kc, ks, pd_H g q2.2))) rfl ?_
      refine ev_gos pp_Ap_goThrough 1 (S' := (bif !(decide (q2.1 = 0)) then 27 else 26, [some (.ref 186), some (.ref l1), some (.int l2), some (.int l3)], [], (223, kc, ks, pd_H g q2.2))) rfl ?_
      rcases pd_cases h with ⟨hb3, h⟩ | ⟨hb3, h⟩
      · rw [hb3]
        refine ev_gos pp_Ap_goThrough 2 (S' := (11, [some (.ref 186), some (.ref l1), some (.int l2), some (.int (l3 + (1 : Int32)))], [], (223, kc, ks, pd_H g q2.2))) rfl ?_
        exact ih _ _ _ _ _ hl1 h
      · rw [hb3]
        refine ev_gos pp_Ap_goThrough 0 (S' := (26, [some (.ref 186), some (.ref l1), some (.int l2), some (.int l3)], [], (223, kc, ks, pd_H g q2.2))) rfl ?_
        cases h
        exact ev_fin pp_Ap_goThrough rfl
def d_Ap_goThrough_2 (w : Nat) (f : Nat) (l1 : Nat) (l2 : Int32) (v : pd_V) : Option pd_V := match f with
  | 0 => none
  | f + 1 =>
    bif decide ((4000 : Int32) < l2) then
      some v
    else
      d_Ap_goThrough_11 (fun l1_1 l2_1 v_1 =>
        (d_Ap_lanesAtX w l1_1 v_1).bind fun q2 =>
        bif !(decide (q2 = 0)) then
          bif decide (0 ≤ ((v_1 186 3) - (d_Int_bitCount q2))) then
            (d_Ap_exchange w l1_1 q2 (pd_w v_1 186 3 ((v_1 186 3) - (d_Int_bitCount q2)))).bind fun q6 =>
            d_Ap_goThrough_2 w f l1_1 (l2_1 + (1 : Int32)) q6
          else
            some (pd_w v_1 186 3 ((v_1 186 3) - (d_Int_bitCount q2)))
        else
          some (pd_w v_1 186 1 (1 : Int32))) w w l1 l2 (0 : Int32) v
theorem s_Ap_goThrough_2 {w : Nat} : ∀ (f : Nat) (l1 : Nat) (l2 : Int32) (v : pd_V) (y3 : Option Value) (q : pd_V) (hl1 : ker l1), d_Ap_goThrough_2 w f l1 l2 v = some q → pm_ev (pj_P xs L) (d + 6) 83 (2, [some (.ref 186), some (.ref l1), some (.int l2), y3], [], (223, kc, ks, pd_H g v)) (.inl none, (223, kc, ks, pd_H g q)) := by
  intro f
  induction f with
  | zero => intro l1 l2 v y3 q hl1 h; exact nomatch (show (none : Option pd_V) = some q from h)
  | succ f ih =>
    intro l1 l2 v y3 q hl1 h
    rw [d_Ap_goThrough_2] at h
    refine ev_gos pp_Ap_goThrough 2 (S' := (6, [some (.ref 186), some (.ref l1), some (.int l2), y3], [.int (4000 : Int32), .int l2], (223, kc, ks, pd_H g v))) rfl ?_
    refine ev_gos pp_Ap_goThrough 1 (S' := (bif decide ((4000 : Int32) < l2) then 82 else 9, [some (.ref 186), some (.ref l1), some (.int l2), y3], [], (223, kc, ks, pd_H g v))) rfl ?_
    rcases pd_cases h with ⟨hb1, h⟩ | ⟨hb1, h⟩
    · rw [hb1]
      refine ev_gos pp_Ap_goThrough 0 (S' := (82, [some (.ref 186), some (.ref l1), some (.int l2), y3], [], (223, kc, ks, pd_H g v))) rfl ?_
      cases h
      exact ev_fin pp_Ap_goThrough rfl
    · rw [hb1]
      refine ev_gos pp_Ap_goThrough 2 (S' := (11, [some (.ref 186), some (.ref l1), some (.int l2), some (.int (0 : Int32))], [], (223, kc, ks, pd_H g v))) rfl ?_
      refine s_Ap_goThrough_11 (fun l1_1 l2_1 v_1 y3_1 q9 hl1_1 h => ?_) _ _ _ _ _ _ hl1 h
      refine ev_gos pp_Ap_goThrough 2 (S' := (35, [some (.ref 186), some (.ref l1_1), some (.int l2_1), some (.int y3_1)], [.ref l1_1, .ref 186], (223, kc, ks, pd_H g v_1))) rfl ?_
      obtain ⟨q2, hq2, h⟩ := pd_bind h
      refine ev_callv pp_Ap_goThrough rfl rfl rfl rfl (s_Ap_lanesAtX hl1_1 hq2) ?_
      refine ev_gos pp_Ap_goThrough 2 (S' := (40, [some (.ref 186), some (.ref l1_1), some (.int l2_1), some (.int q2)], [.int q2], (223, kc, ks, pd_H g v_1))) rfl ?_
      refine ev_gos pp_Ap_goThrough 1 (S' := (bif !(decide (q2 = 0)) then 49 else 43, [some (.ref 186), some (.ref l1_1), some (.int l2_1), some (.int q2)], [], (223, kc, ks, pd_H g v_1))) rfl ?_
      rcases pd_cases h with ⟨hb3, h⟩ | ⟨hb3, h⟩
      · rw [hb3]
        refine ev_gos pp_Ap_goThrough 4 (S' := (55, [some (.ref 186), some (.ref l1_1), some (.int l2_1), some (.int q2)], [.int q2, .int (v_1 186 3), .ref 186], (223, kc, ks, pd_H g v_1))) rfl ?_
        refine ev_call pp_Ap_goThrough rfl rfl rfl (s_Int_bitCount) ?_
        refine ev_gos pp_Ap_goThrough 1 (S' := (59, [some (.ref 186), some (.ref l1_1), some (.int l2_1), some (.int q2)], [.int ((v_1 186 3) - (d_Int_bitCount q2)), .ref 186], (223, kc, ks, pd_H g v_1))) rfl ?_
        refine ev_put pp_Ap_goThrough rfl (fun _ => rfl) rfl rfl rfl ?_
        refine ev_gos pp_Ap_goThrough 2 (S' := (66, [some (.ref 186), some (.ref l1_1), some (.int l2_1), some (.int q2)], [.int ((v_1 186 3) - (d_Int_bitCount q2))], (223, kc, ks, pd_H g (pd_w v_1 186 3 ((v_1 186 3) - (d_Int_bitCount q2)))))) rfl ?_
        refine ev_gos pp_Ap_goThrough 1 (S' := (bif decide (0 ≤ ((v_1 186 3) - (d_Int_bitCount q2))) then 70 else 69, [some (.ref 186), some (.ref l1_1), some (.int l2_1), some (.int q2)], [], (223, kc, ks, pd_H g (pd_w v_1 186 3 ((v_1 186 3) - (d_Int_bitCount q2)))))) rfl ?_
        rcases pd_cases h with ⟨hb5, h⟩ | ⟨hb5, h⟩
        · rw [hb5]
          refine ev_gos pp_Ap_goThrough 3 (S' := (73, [some (.ref 186), some (.ref l1_1), some (.int l2_1), some (.int q2)], [.int q2, .ref l1_1, .ref 186], (223, kc, ks, pd_H g (pd_w v_1 186 3 ((v_1 186 3) - (d_Int_bitCount q2)))))) rfl ?_
          obtain ⟨q6, hq6, h⟩ := pd_bind h
          refine ev_callv pp_Ap_goThrough rfl rfl rfl rfl (s_Ap_exchange hl1_1 hq6) ?_
          refine ev_gos pp_Ap_goThrough 2 (S' := (2, [some (.ref 186), some (.ref l1_1), some (.int (l2_1 + (1 : Int32))), some (.int q2)], [], (223, kc, ks, pd_H g q6))) rfl ?_
          exact ih _ _ _ _ _ hl1_1 h
        · rw [hb5]
          refine ev_gos pp_Ap_goThrough 0 (S' := (69, [some (.ref 186), some (.ref l1_1), some (.int l2_1), some (.int q2)], [], (223, kc, ks, pd_H g (pd_w v_1 186 3 ((v_1 186 3) - (d_Int_bitCount q2)))))) rfl ?_
          cases h
          exact ev_fin pp_Ap_goThrough rfl
      · rw [hb3]
        refine ev_gos pp_Ap_goThrough 2 (S' := (45, [some (.ref 186), some (.ref l1_1), some (.int l2_1), some (.int q2)], [.int (1 : Int32), .ref 186], (223, kc, ks, pd_H g v_1))) rfl ?_
        refine ev_put pp_Ap_goThrough rfl (fun _ => rfl) rfl rfl (pd_fit pd_b1) ?_
        refine ev_gos pp_Ap_goThrough 0 (S' := (48, [some (.ref 186), some (.ref l1_1), some (.int l2_1), some (.int q2)], [], (223, kc, ks, pd_H g (pd_w v_1 186 1 (1 : Int32))))) rfl ?_
        cases h
        exact ev_fin pp_Ap_goThrough rfl
def d_Ap_goThrough (w : Nat) (l1 : Nat) (v : pd_V) : Option pd_V :=
  d_Ap_goThrough_2 w w l1 (0 : Int32) v
theorem s_Ap_goThrough {w : Nat} {l1 : Nat} {v : pd_V} {q : pd_V} (hl1 : ker l1) (h : d_Ap_goThrough w l1 v = some q) : pm_ev (pj_P xs L) (d + 6) 83 (0, [some (.ref 186), some (.ref l1), none, none], [], (223, kc, ks, pd_H g v)) (.inl none, (223, kc, ks, pd_H g q)) := by
  unfold d_Ap_goThrough at h
  refine ev_gos pp_Ap_goThrough 2 (S' := (2, [some (.ref 186), some (.ref l1), some (.int (0 : Int32)), none], [], (223, kc, ks, pd_H g v))) rfl ?_
  exact s_Ap_goThrough_2 _ _ _ _ _ _ hl1 h
theorem pp_De_alone {xs : Nat → Int32} {L : Nat} : (pj_P xs L 81).1 = fun S => pm_look tb_De_alone S.1 S := rfl
def d_De_alone (w : Nat) (l1 : Int32) (v : pd_V) : Option ((Int32 ⊕ Nat) × pd_V) :=
  (d_De_needKernel v).bind fun q1 => Option.elim q1 (
  (d_De_needFuel l1 (4000 : Int32) v).bind fun q2 => Option.elim q2 (
  (d_Ap_begin w 172 16 (v 0 5) l1 v).bind fun q3 =>
  (d_Ap_goThrough w (kerOf (q3 0 1)) q3).bind fun q4 =>
  bif decide ((q4 186 1) = 0) then
    some (Sum.inl (0 : Int32), q4)
  else
    some (Sum.inl (1 : Int32), q4)) (fun xq2 => some (Sum.inr xq2, v))) (fun xq1 => some (Sum.inr xq1, v))
theorem s_De_alone {w : Nat} {l1 : Int32} {v : pd_V} {q : ((Int32 ⊕ Nat) × pd_V)}  (h : d_De_alone w l1 v = some q) : pm_ev (pj_P xs L) (d + 7) 81 (0, [some (.ref 0), some (.int l1)], [], (223, kc, ks, pd_H g v)) (pd_oi q.1 kc ks g q.2) := by
  unfold d_De_alone at h
  refine ev_gos pp_De_alone 1 (S' := (1, [some (.ref 0), some (.int l1)], [.ref 0], (223, kc, ks, pd_H g v))) rfl ?_
  obtain ⟨q1, hq1, h⟩ := pd_bind h
  have evq1 := s_De_needKernel (xs := xs) (L := L) (g := g) (d := d + 6) (kc := kc) (ks := ks) hq1
  rcases pd_elimv h with ⟨eq1, h⟩ | ⟨xq1, eq1, h⟩
  · rw [eq1] at evq1
    refine ev_callv pp_De_alone rfl rfl rfl rfl evq1 ?_
    refine ev_gos pp_De_alone 2 (S' := (8, [some (.ref 0), some (.int l1)], [.int (4000 : Int32), .int l1], (223, kc, ks, pd_H g v))) rfl ?_
    obtain ⟨q2, hq2, h⟩ := pd_bind h
    have evq2 := s_De_needFuel (xs := xs) (L := L) (g := g) (d := d + 6) (kc := kc) (ks := ks) hq2
    rcases pd_elimv h with ⟨eq2, h⟩ | ⟨xq2, eq2, h⟩
    · rw [eq2] at evq2
      refine ev_call pp_De_alone rfl rfl rfl evq2 ?_
      refine ev_gos pp_De_alone 7 (S' := (24, [some (.ref 0), some (.int l1)], [.int l1, .int (v 0 5), .ref 172, .ref 186], (223, kc, ks, pd_H g v))) rfl ?_
      obtain ⟨q3, hq3, h⟩ := pd_bind h
      refine ev_callv pp_De_alone rfl rfl rfl rfl (s_Ap_begin (fun _ => rfl) hq3) ?_
      refine ev_gos pp_De_alone 4 (S' := (35, [some (.ref 0), some (.int l1)], [.ref (kerOf (q3 0 1)), .ref 186], (223, kc, ks, pd_H g q3))) rfl ?_
      obtain ⟨q4, hq4, h⟩ := pd_bind h
      refine ev_callv pp_De_alone rfl rfl rfl rfl (s_Ap_goThrough (ker_of _) hq4) ?_
      refine ev_gos pp_De_alone 3 (S' := (45, [some (.ref 0), some (.int l1)], [.int (q4 186 1)], (223, kc, ks, pd_H g q4))) rfl ?_
      refine ev_gos pp_De_alone 1 (S' := (bif decide ((q4 186 1) = 0) then 52 else 48, [some (.ref 0), some (.int l1)], [], (223, kc, ks, pd_H g q4))) rfl ?_
      rcases pd_cases h with ⟨hb5, h⟩ | ⟨hb5, h⟩
      · rw [hb5]
        refine ev_gos pp_De_alone 1 (S' := (53, [some (.ref 0), some (.int l1)], [.int (0 : Int32)], (223, kc, ks, pd_H g q4))) rfl ?_
        cases h
        exact ev_fin pp_De_alone rfl
      · rw [hb5]
        refine ev_gos pp_De_alone 2 (S' := (53, [some (.ref 0), some (.int l1)], [.int (1 : Int32)], (223, kc, ks, pd_H g q4))) rfl ?_
        cases h
        exact ev_fin pp_De_alone rfl
    · cases h
      rw [eq2] at evq2
      exact ev_callX pp_De_alone rfl rfl rfl evq2 rfl
  · cases h
    rw [eq1] at evq1
    exact ev_callvX pp_De_alone rfl rfl rfl rfl evq1 rfl
end FN
