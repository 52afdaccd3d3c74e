section FN
variable {xs : Nat → Int32} {L : Nat} {g : Nat → Int64} {d kc ks : Nat}
theorem pp_Ke_spread {xs : Nat → Int32} {L : Nat} : (pj_P xs L 36).1 = fun S => pm_look tb_Ke_spread S.1 S := rfl
def d_Ke_spread_6 (w : Nat) (f : Nat) (l0 : Nat) (l1 : Int32) (l2 : Int32) (l3 : Int32) (v : pd_V) : Option (Int32 × pd_V) := match f with
  | 0 => none
  | f + 1 =>
    bif decide ((v l0 3) ≤ l3) then
      some (l2, v)
    else
      (d_Ke_stepAt l0 l3 v).bind fun q2 =>
      bif decide (((v q2 10) &&& ((v l0 5) ||| (256 : Int32))) = 0) then
        bif decide ((v q2 0) = (0 : Int32)) then
          bif !(decide ((0 : Int32) = 0)) then
            d_Ke_spread_6 w f l0 l1 l2 (l3 + (1 : Int32)) (pd_w v l0 5 ((v l0 5) ||| ((1 : Int32) <<< ((v q2 5) &&& 31))))
          else
            bif decide (l1 = 0) then
              d_Ke_spread_6 w f l0 l1 l2 (l3 + (1 : Int32)) (pd_w v l0 5 ((v l0 5) ||| (0 : Int32)))
            else
              d_Ke_spread_6 w f l0 l1 l2 (l3 + (1 : Int32)) (pd_w v l0 5 ((v l0 5) ||| ((1 : Int32) <<< ((v q2 5) &&& 31))))
        else
          bif decide ((v q2 0) = (1 : Int32)) then
            d_Ke_spread_6 w f l0 l1 l2 (l3 + (1 : Int32)) v
          else
            bif decide ((v q2 0) = (2 : Int32)) then
              d_Ke_spread_6 w f l0 l1 l2 (l3 + (1 : Int32)) v
            else
              bif decide ((v q2 0) = (3 : Int32)) then
                bif decide (l1 = 0) then
                  d_Ke_spread_6 w f l0 l1 l2 (l3 + (1 : Int32)) (pd_w v l0 5 ((v l0 5) ||| ((1 : Int32) <<< ((v q2 5) &&& 31))))
                else
                  bif !(decide (l2 = (-1 : Int32))) then
                    d_Ke_spread_6 w f l0 l1 l2 (l3 + (1 : Int32)) (pd_w v l0 5 ((v l0 5) ||| ((1 : Int32) <<< ((v q2 5) &&& 31))))
                  else
                    d_Ke_spread_6 w f l0 l1 ((pd_w v l0 5 ((v l0 5) ||| ((1 : Int32) <<< ((v q2 5) &&& 31)))) q2 1) (l3 + (1 : Int32)) (pd_w v l0 5 ((v l0 5) ||| ((1 : Int32) <<< ((v q2 5) &&& 31))))
              else
                bif decide ((v q2 0) = (4 : Int32)) then
                  d_Ke_spread_6 w f l0 l1 l2 (l3 + (1 : Int32)) v
                else
                  bif decide ((v q2 0) = (5 : Int32)) then
                    bif decide ((0 : Int32) = 0) then
                      d_Ke_spread_6 w f l0 (l1 ||| (0 : Int32)) l2 (l3 + (1 : Int32)) v
                    else
                      d_Ke_spread_6 w f l0 (l1 ||| ((1 : Int32) <<< ((v q2 2) &&& 31))) l2 (l3 + (1 : Int32)) v
                  else
                    bif decide ((v q2 0) = (6 : Int32)) then
                      bif decide ((0 : Int32) = 0) then
                        d_Ke_spread_6 w f l0 (l1 ||| (0 : Int32)) l2 (l3 + (1 : Int32)) v
                      else
                        d_Ke_spread_6 w f l0 (l1 ||| ((1 : Int32) <<< ((v q2 2) &&& 31))) l2 (l3 + (1 : Int32)) v
                    else
                      bif decide ((v q2 0) = (7 : Int32)) then
                        d_Ke_spread_6 w f l0 l1 l2 (l3 + (1 : Int32)) v
                      else
                        bif decide ((v q2 0) = (8 : Int32)) then
                          d_Ke_spread_6 w f l0 (l1 &&& (((1 : Int32) <<< ((v q2 2) &&& 31)) ^^^ (-1 : Int32))) l2 (l3 + (1 : Int32)) v
                        else
                          bif decide ((v q2 0) = (9 : Int32)) then
                            d_Ke_spread_6 w f l0 (l1 &&& (((1 : Int32) <<< ((v q2 2) &&& 31)) ^^^ (-1 : Int32))) l2 (l3 + (1 : Int32)) v
                          else
                            d_Ke_spread_6 w f l0 l1 l2 (l3 + (1 : Int32)) v
      else
        bif decide ((v q2 0) = (0 : Int32)) then
          bif !(decide ((1 : Int32) = 0)) then
            d_Ke_spread_6 w f l0 l1 l2 (l3 + (1 : Int32)) (pd_w v l0 5 ((v l0 5) ||| ((1 : Int32) <<< ((v q2 5) &&& 31))))
          else
            bif decide (l1 = 0) then
              d_Ke_spread_6 w f l0 l1 l2 (l3 + (1 : Int32)) (pd_w v l0 5 ((v l0 5) ||| (0 : Int32)))
            else
              d_Ke_spread_6 w f l0 l1 l2 (l3 + (1 : Int32)) (pd_w v l0 5 ((v l0 5) ||| ((1 : Int32) <<< ((v q2 5) &&& 31))))
        else
          bif decide ((v q2 0) = (1 : Int32)) then
            d_Ke_spread_6 w f l0 l1 l2 (l3 + (1 : Int32)) v
          else
            bif decide ((v q2 0) = (2 : Int32)) then
              d_Ke_spread_6 w f l0 l1 l2 (l3 + (1 : Int32)) v
            else
              bif decide ((v q2 0) = (3 : Int32)) then
                bif decide (l1 = 0) then
                  d_Ke_spread_6 w f l0 l1 l2 (l3 + (1 : Int32)) (pd_w v l0 5 ((v l0 5) ||| ((1 : Int32) <<< ((v q2 5) &&& 31))))
                else
                  bif !(decide (l2 = (-1 : Int32))) then
                    d_Ke_spread_6 w f l0 l1 l2 (l3 + (1 : Int32)) (pd_w v l0 5 ((v l0 5) ||| ((1 : Int32) <<< ((v q2 5) &&& 31))))
                  else
                    d_Ke_spread_6 w f l0 l1 ((pd_w v l0 5 ((v l0 5) ||| ((1 : Int32) <<< ((v q2 5) &&& 31)))) q2 1) (l3 + (1 : Int32)) (pd_w v l0 5 ((v l0 5) ||| ((1 : Int32) <<< ((v q2 5) &&& 31))))
              else
                bif decide ((v q2 0) = (4 : Int32)) then
                  d_Ke_spread_6 w f l0 l1 l2 (l3 + (1 : Int32)) v
                else
                  bif decide ((v q2 0) = (5 : Int32)) then
                    bif decide ((1 : Int32) = 0) then
                      d_Ke_spread_6 w f l0 (l1 ||| (0 : Int32)) l2 (l3 + (1 : Int32)) v
                    else
                      d_Ke_spread_6 w f l0 (l1 ||| ((1 : Int32) <<< ((v q2 2) &&& 31))) l2 (l3 + (1 : Int32)) v
                  else
                    bif decide ((v q2 0) = (6 : Int32)) then
                      bif decide ((1 : Int32) = 0) then
                        d_Ke_spread_6 w f l0 (l1 ||| (0 : Int32)) l2 (l3 + (1 : Int32)) v
                      else
                        d_Ke_spread_6 w f l0 (l1 ||| ((1 : Int32) <<< ((v q2 2) &&& 31))) l2 (l3 + (1 : Int32)) v
                    else
                      bif decide ((v q2 0) = (7 : Int32)) then
                        d_Ke_spread_6 w f l0 l1 l2 (l3 + (1 : Int32)) v
                      else
                        bif decide ((v q2 0) = (8 : Int32)) then
                          d_Ke_spread_6 w f l0 (l1 &&& (((1 : Int32) <<< ((v q2 2) &&& 31)) ^^^ (-1 : Int32))) l2 (l3 + (1 : Int32)) v
                        else
                          bif decide ((v q2 0) = (9 : Int32)) then
                            d_Ke_spread_6 w f l0 (l1 &&& (((1 : Int32) <<< ((v q2 2) &&& 31)) ^^^ (-1 : Int32))) l2 (l3 + (1 : Int32)) v
                          else
                            d_Ke_spread_6 w f l0 l1 l2 (l3 + (1 : Int32)) v
theorem s_Ke_spread_6 {w : Nat} : ∀ (f : Nat) (l0 : Nat) (l1 : Int32) (l2 : Int32) (l3 : Int32) (v : pd_V) (y4 : Option Value) (y5 : Option Value) (q : (Int32 × pd_V)) (hl0 : ker l0), d_Ke_spread_6 w f l0 l1 l2 l3 v = some q → pm_ev (pj_P xs L) (d + 1) 36 (6, [some (.ref l0), some (.int l1), some (.int l2), some (.int l3), y4, y5], [], (223, kc, ks, pd_H g v)) (.inl (some (.int q.1)), (223, kc, ks, pd_H g q.2)) := by
  intro f
  induction f with
  | zero => intro l0 l1 l2 l3 v y4 y5 q hl0 h; exact nomatch (show (none : Option (Int32 × pd_V)) = some q from h)
  | succ f ih =>
    intro l0 l1 l2 l3 v y4 y5 q hl0 h
    rw [d_Ke_spread_6] at h
    refine ev_gos pp_Ke_spread 2 (S' := (8, [some (.ref l0), some (.int l1), some (.int l2), some (.int l3), y4, y5], [.ref l0, .int l3], (223, kc, ks, pd_H g v))) rfl ?_
    refine ev_get pp_Ke_spread rfl (c_ke hl0) rfl ?_
    refine ev_gos pp_Ke_spread 0 (S' := (11, [some (.ref l0), some (.int l1), some (.int l2), some (.int l3), y4, y5], [.int (v l0 3), .int l3], (223, kc, ks, pd_H g v))) rfl ?_
    refine ev_gos pp_Ke_spread 1 (S' := (bif decide ((v l0 3) ≤ l3) then 213 else 14, [some (.ref l0), some (.int l1), some (.int l2), some (.int l3), y4, y5], [], (223, kc, ks, pd_H g v))) rfl ?_
    rcases pd_cases h with ⟨hb1, h⟩ | ⟨hb1, h⟩
    · rw [hb1]
      refine ev_gos pp_Ke_spread 1 (S' := (214, [some (.ref l0), some (.int l1), some (.int l2), some (.int l3), y4, y5], [.int l2], (223, kc, ks, pd_H g v))) rfl ?_
      cases h
      exact ev_fin pp_Ke_spread rfl
    · rw [hb1]
      refine ev_gos pp_Ke_spread 2 (S' := (16, [some (.ref l0), some (.int l1), some (.int l2), some (.int l3), y4, y5], [.int l3, .ref l0], (223, kc, ks, pd_H g v))) rfl ?_
      obtain ⟨q2, hq2, h⟩ := pd_bind h
      refine ev_callv pp_Ke_spread rfl rfl (pd_isa (c_ke hl0)) rfl (s_Ke_stepAt hl0 hq2) ?_
      refine ev_gos pp_Ke_spread 2 (S' := (23, [some (.ref l0), some (.int l1), some (.int l2), some (.int l3), some (.ref q2), y5], [.ref q2], (223, kc, ks, pd_H g v))) rfl ?_
      refine ev_get pp_Ke_spread rfl (c_st (r_Ke_stepAt hl0 hq2)) rfl ?_
      refine ev_gos pp_Ke_spread 1 (S' := (27, [some (.ref l0), some (.int l1), some (.int l2), some (.int l3), some (.ref q2), y5], [.ref l0, .int (v q2 10)], (223, kc, ks, pd_H g v))) rfl ?_
      refine ev_get pp_Ke_spread rfl (c_ke hl0) rfl ?_
      refine ev_gos pp_Ke_spread 3 (S' := (35, [some (.ref l0), some (.int l1), some (.int l2), some (.int l3), some (.ref q2), y5], [.int ((v q2 10) &&& ((v l0 5) ||| (256 : Int32)))], (223, kc, ks, pd_H g v))) rfl ?_
      refine ev_gos pp_Ke_spread 1 (S' := (bif decide (((v q2 10) &&& ((v l0 5) ||| (256 : Int32))) = 0) then 42 else 38, [some (.ref l0), some (.int l1), some (.int l2), some (.int l3), some (.ref q2), y5], [], (223, kc, ks, pd_H g v))) rfl ?_
      rcases pd_cases h with ⟨hb3, h⟩ | ⟨hb3, h⟩
      · rw [hb3]
        refine ev_gos pp_Ke_spread 3 (S' := (47, [some (.ref l0), some (.int l1), some (.int l2), some (.int l3), some (.ref q2), some (.int (0 : Int32))], [.ref q2], (223, kc, ks, pd_H g v))) rfl ?_
        refine ev_get pp_Ke_spread rfl (c_st (r_Ke_stepAt hl0 hq2)) rfl ?_
        refine ev_gos pp_Ke_spread 0 (S' := (50, [some (.ref l0), some (.int l1), some (.int l2), some (.int l3), some (.ref q2), some (.int (0 : Int32))], [.int (v q2 0)], (223, kc, ks, pd_H g v))) rfl ?_
        refine ev_gos pp_Ke_spread 1 (S' := (bif decide ((v q2 0) = (0 : Int32)) then 141 else bif decide ((v q2 0) = (1 : Int32)) then 207 else bif decide ((v q2 0) = (2 : Int32)) then 207 else bif decide ((v q2 0) = (3 : Int32)) then 173 else bif decide ((v q2 0) = (4 : Int32)) then 207 else bif decide ((v q2 0) = (5 : Int32)) then 104 else bif decide ((v q2 0) = (6 : Int32)) then 104 else bif decide ((v q2 0) = (7 : Int32)) then 207 else bif decide ((v q2 0) = (8 : Int32)) then 126 else bif decide ((v q2 0) = (9 : Int32)) then 126 else 207, [some (.ref l0), some (.int l1), some (.int l2), some (.int l3), some (.ref q2), some (.int (0 : Int32))], [], (223, kc, ks, pd_H g v))) rfl ?_
        rcases pd_cases h with ⟨hb4, h⟩ | ⟨hb4, h⟩
        · rw [hb4]
          refine ev_gos pp_Ke_spread 2 (S' := (143, [some (.ref l0), some (.int l1), some (.int l2), some (.int l3), some (.ref q2), some (.int (0 : Int32))], [.ref l0, .ref l0], (223, kc, ks, pd_H g v))) rfl ?_
          refine ev_get pp_Ke_spread rfl (c_ke hl0) rfl ?_
          refine ev_gos pp_Ke_spread 1 (S' := (148, [some (.ref l0), some (.int l1), some (.int l2), some (.int l3), some (.ref q2), some (.int (0 : Int32))], [.int (0 : Int32), .int (v l0 5), .ref l0], (223, kc, ks, pd_H g v))) rfl ?_
          refine ev_gos pp_Ke_spread 1 (S' := (bif !(decide ((0 : Int32) = 0)) then 155 else 151, [some (.ref l0), some (.int l1), some (.int l2), some (.int l3), some (.ref q2), some (.int (0 : Int32))], [.int (v l0 5), .ref l0], (223, kc, ks, pd_H g v))) rfl ?_
          rcases pd_cases h with ⟨hb5, h⟩ | ⟨hb5, h⟩
          · rw [hb5]
            refine ev_gos pp_Ke_spread 2 (S' := (158, [some (.ref l0), some (.int l1), some (.int l2), some (.int l3), some (.ref q2), some (.int (0 : Int32))], [.ref q2, .int (1 : Int32), .int (v l0 5), .ref l0], (223, kc, ks, pd_H g v))) rfl ?_
            refine ev_get pp_Ke_spread rfl (c_st (r_Ke_stepAt hl0 hq2)) rfl ?_
            refine ev_gos pp_Ke_spread 3 (S' := (167, [some (.ref l0), some (.int l1), some (.int l2), some (.int l3), some (.ref q2), some (.int (0 : Int32))], [.int ((v l0 5) ||| ((1 : Int32) <<< ((v q2 5) &&& 31))), .ref l0], (223, kc, ks, pd_H g v))) rfl ?_
            refine ev_put pp_Ke_spread rfl (c_ke hl0) rfl rfl rfl ?_
            refine ev_gos pp_Ke_spread 3 (S' := (6, [some (.ref l0), some (.int l1), some (.int l2), some (.int (l3 + (1 : Int32))), some (.ref q2), some (.int (0 : Int32))], [], (223, kc, ks, pd_H g (pd_w v l0 5 ((v l0 5) ||| ((1 : Int32) <<< ((v q2 5) &&& 31))))))) rfl ?_
            exact ih _ _ _ _ _ _ _ _ hl0 h
          · rw [hb5]
            refine ev_gos pp_Ke_spread 1 (S' := (152, [some (.ref l0), some (.int l1), some (.int l2), some (.int l3), some (.ref q2), some (.int (0 : Int32))], [.int l1, .int (v l0 5), .ref l0], (223, kc, ks, pd_H g v))) rfl ?_
            refine ev_gos pp_Ke_spread 1 (S' := (bif decide (l1 = 0) then 165 else 155, [some (.ref l0), some (.int l1), some (.int l2), some (.int l3), some (.ref q2), some (.int (0 : Int32))], [.int (v l0 5), .ref l0], (223, kc, ks, pd_H g v))) rfl ?_
            rcases pd_cases h with ⟨hb6, h⟩ | ⟨hb6, h⟩
            · rw [hb6]
              refine ev_gos pp_Ke_spread 2 (S' := (167, [some (.ref l0), some (.int l1), some (.int l2), some (.int l3), some (.ref q2), some (.int (0 : Int32))], [.int ((v l0 5) ||| (0 : Int32)), .ref l0], (223, kc, ks, pd_H g v))) rfl ?_
              refine ev_put pp_Ke_spread rfl (c_ke hl0) rfl rfl rfl ?_
              refine ev_gos pp_Ke_spread 3 (S' := (6, [some (.ref l0), some (.int l1), some (.int l2), some (.int (l3 + (1 : Int32))), some (.ref q2), some (.int (0 : Int32))], [], (223, kc, ks, pd_H g (pd_w v l0 5 ((v l0 5) ||| (0 : Int32)))))) rfl ?_
              exact ih _ _ _ _ _ _ _ _ hl0 h
            · rw [hb6]
              refine ev_gos pp_Ke_spread 2 (S' := (158, [some (.ref l0), some (.int l1), some (.int l2), some (.int l3), some (.ref q2), some (.int (0 : Int32))], [.ref q2, .int (1 : Int32), .int (v l0 5), .ref l0], (223, kc, ks, pd_H g v))) rfl ?_
              refine ev_get pp_Ke_spread rfl (c_st (r_Ke_stepAt hl0 hq2)) rfl ?_
              refine ev_gos pp_Ke_spread 3 (S' := (167, [some (.ref l0), some (.int l1), some (.int l2), some (.int l3), some (.ref q2), some (.int (0 : Int32))], [.int ((v l0 5) ||| ((1 : Int32) <<< ((v q2 5) &&& 31))), .ref l0], (223, kc, ks, pd_H g v))) rfl ?_
              refine ev_put pp_Ke_spread rfl (c_ke hl0) rfl rfl rfl ?_
              refine ev_gos pp_Ke_spread 3 (S' := (6, [some (.ref l0), some (.int l1), some (.int l2), some (.int (l3 + (1 : Int32))), some (.ref q2), some (.int (0 : Int32))], [], (223, kc, ks, pd_H g (pd_w v l0 5 ((v l0 5) ||| ((1 : Int32) <<< ((v q2 5) &&& 31))))))) rfl ?_
              exact ih _ _ _ _ _ _ _ _ hl0 h
        · rw [hb4]
          rcases pd_cases h with ⟨hb7, h⟩ | ⟨hb7, h⟩
          · rw [hb7]
            refine ev_gos pp_Ke_spread 2 (S' := (6, [some (.ref l0), some (.int l1), some (.int l2), some (.int (l3 + (1 : Int32))), some (.ref q2), some (.int (0 : Int32))], [], (223, kc, ks, pd_H g v))) rfl ?_
            exact ih _ _ _ _ _ _ _ _ hl0 h
          · rw [hb7]
            rcases pd_cases h with ⟨hb8, h⟩ | ⟨hb8, h⟩
            · rw [hb8]
              refine ev_gos pp_Ke_spread 2 (S' := (6, [some (.ref l0), some (.int l1), some (.int l2), some (.int (l3 + (1 : Int32))), some (.ref q2), some (.int (0 : Int32))], [], (223, kc, ks, pd_H g v))) rfl ?_
              exact ih _ _ _ _ _ _ _ _ hl0 h
            · rw [hb8]
              rcases pd_cases h with ⟨hb9, h⟩ | ⟨hb9, h⟩
              · rw [hb9]
                refine ev_gos pp_Ke_spread 2 (S' := (175, [some (.ref l0), some (.int l1), some (.int l2), some (.int l3), some (.ref q2), some (.int (0 : Int32))], [.ref l0, .ref l0], (223, kc, ks, pd_H g v))) rfl ?_
                refine ev_get pp_Ke_spread rfl (c_ke hl0) rfl ?_
                refine ev_gos pp_Ke_spread 2 (S' := (181, [some (.ref l0), some (.int l1), some (.int l2), some (.int l3), some (.ref q2), some (.int (0 : Int32))], [.ref q2, .int (1 : Int32), .int (v l0 5), .ref l0], (223, kc, ks, pd_H g v))) rfl ?_
                refine ev_get pp_Ke_spread rfl (c_st (r_Ke_stepAt hl0 hq2)) rfl ?_
                refine ev_gos pp_Ke_spread 2 (S' := (186, [some (.ref l0), some (.int l1), some (.int l2), some (.int l3), some (.ref q2), some (.int (0 : Int32))], [.int ((v l0 5) ||| ((1 : Int32) <<< ((v q2 5) &&& 31))), .ref l0], (223, kc, ks, pd_H g v))) rfl ?_
                refine ev_put pp_Ke_spread rfl (c_ke hl0) rfl rfl rfl ?_
                refine ev_gos pp_Ke_spread 1 (S' := (190, [some (.ref l0), some (.int l1), some (.int l2), some (.int l3), some (.ref q2), some (.int (0 : Int32))], [.int l1], (223, kc, ks, pd_H g (pd_w v l0 5 ((v l0 5) ||| ((1 : Int32) <<< ((v q2 5) &&& 31))))))) rfl ?_
                refine ev_gos pp_Ke_spread 1 (S' := (bif decide (l1 = 0) then 207 else 193, [some (.ref l0), some (.int l1), some (.int l2), some (.int l3), some (.ref q2), some (.int (0 : Int32))], [], (223, kc, ks, pd_H g (pd_w v l0 5 ((v l0 5) ||| ((1 : Int32) <<< ((v q2 5) &&& 31))))))) rfl ?_
                rcases pd_cases h with ⟨hb10, h⟩ | ⟨hb10, h⟩
                · rw [hb10]
                  refine ev_gos pp_Ke_spread 2 (S' := (6, [some (.ref l0), some (.int l1), some (.int l2), some (.int (l3 + (1 : Int32))), some (.ref q2), some (.int (0 : Int32))], [], (223, kc, ks, pd_H g (pd_w v l0 5 ((v l0 5) ||| ((1 : Int32) <<< ((v q2 5) &&& 31))))))) rfl ?_
                  exact ih _ _ _ _ _ _ _ _ hl0 h
                · rw [hb10]
                  refine ev_gos pp_Ke_spread 2 (S' := (195, [some (.ref l0), some (.int l1), some (.int l2), some (.int l3), some (.ref q2), some (.int (0 : Int32))], [.int (-1 : Int32), .int l2], (223, kc, ks, pd_H g (pd_w v l0 5 ((v l0 5) ||| ((1 : Int32) <<< ((v q2 5) &&& 31))))))) rfl ?_
                  refine ev_gos pp_Ke_spread 1 (S' := (bif !(decide (l2 = (-1 : Int32))) then 207 else 198, [some (.ref l0), some (.int l1), some (.int l2), some (.int l3), some (.ref q2), some (.int (0 : Int32))], [], (223, kc, ks, pd_H g (pd_w v l0 5 ((v l0 5) ||| ((1 : Int32) <<< ((v q2 5) &&& 31))))))) rfl ?_
                  rcases pd_cases h with ⟨hb11, h⟩ | ⟨hb11, h⟩
                  · rw [hb11]
                    refine ev_gos pp_Ke_spread 2 (S' := (6, [some (.ref l0), some (.int l1), some (.int l2), some (.int (l3 + (1 : Int32))), some (.ref q2), some (.int (0 : Int32))], [], (223, kc, ks, pd_H g (pd_w v l0 5 ((v l0 5) ||| ((1 : Int32) <<< ((v q2 5) &&& 31))))))) rfl ?_
                    exact ih _ _ _ _ _ _ _ _ hl0 h
                  · rw [hb11]
                    refine ev_gos pp_Ke_spread 1 (S' := (200, [some (.ref l0), some (.int l1), some (.int l2), some (.int l3), some (.ref q2), some (.int (0 : Int32))], [.ref q2], (223, kc, ks, pd_H g (pd_w v l0 5 ((v l0 5) ||| ((1 : Int32) <<< ((v q2 5) &&& 31))))))) rfl ?_
                    refine ev_get pp_Ke_spread rfl (c_st (r_Ke_stepAt hl0 hq2)) rfl ?_
                    refine ev_gos pp_Ke_spread 4 (S' := (6, [some (.ref l0), some (.int l1), some (.int ((pd_w v l0 5 ((v l0 5) ||| ((1 : Int32) <<< ((v q2 5) &&& 31)))) q2 1)), some (.int (l3 + (1 : Int32))), some (.ref q2), some (.int (0 : Int32))], [], (223, kc, ks, pd_H g (pd_w v l0 5 ((v l0 5) ||| ((1 : Int32) <<< ((v q2 5) &&& 31))))))) rfl ?_
                    exact ih _ _ _ _ _ _ _ _ hl0 h
              · rw [hb9]
                rcases pd_cases h with ⟨hb12, h⟩ | ⟨hb12, h⟩
                · rw [hb12]
                  refine ev_gos pp_Ke_spread 2 (S' := (6, [some (.ref l0), some (.int l1), some (.int l2), some (.int (l3 + (1 : Int32))), some (.ref q2), some (.int (0 : Int32))], [], (223, kc, ks, pd_H g v))) rfl ?_
                  exact ih _ _ _ _ _ _ _ _ hl0 h
                · rw [hb12]
                  rcases pd_cases h with ⟨hb13, h⟩ | ⟨hb13, h⟩
                  · rw [hb13]
                    refine ev_gos pp_Ke_spread 2 (S' := (107, [some (.ref l0), some (.int l1), some (.int l2), some (.int l3), some (.ref q2), some (.int (0 : Int32))], [.int (0 : Int32), .int l1], (223, kc, ks, pd_H g v))) rfl ?_
                    refine ev_gos pp_Ke_spread 1 (S' := (bif decide ((0 : Int32) = 0) then 120 else 110, [some (.ref l0), some (.int l1), some (.int l2), some (.int l3), some (.ref q2), some (.int (0 : Int32))], [.int l1], (223, kc, ks, pd_H g v))) rfl ?_
                    rcases pd_cases h with ⟨hb14, h⟩ | ⟨hb14, h⟩
                    · rw [hb14]
                      refine ev_gos pp_Ke_spread 6 (S' := (6, [some (.ref l0), some (.int (l1 ||| (0 : Int32))), some (.int l2), some (.int (l3 + (1 : Int32))), some (.ref q2), some (.int (0 : Int32))], [], (223, kc, ks, pd_H g v))) rfl ?_
                      exact ih _ _ _ _ _ _ _ _ hl0 h
                    · rw [hb14]
                      refine ev_gos pp_Ke_spread 2 (S' := (113, [some (.ref l0), some (.int l1), some (.int l2), some (.int l3), some (.ref q2), some (.int (0 : Int32))], [.ref q2, .int (1 : Int32), .int l1], (223, kc, ks, pd_H g v))) rfl ?_
                      refine ev_get pp_Ke_spread rfl (c_st (r_Ke_stepAt hl0 hq2)) rfl ?_
                      refine ev_gos pp_Ke_spread 7 (S' := (6, [some (.ref l0), some (.int (l1 ||| ((1 : Int32) <<< ((v q2 2) &&& 31)))), some (.int l2), some (.int (l3 + (1 : Int32))), some (.ref q2), some (.int (0 : Int32))], [], (223, kc, ks, pd_H g v))) rfl ?_
                      exact ih _ _ _ _ _ _ _ _ hl0 h
                  · rw [hb13]
                    rcases pd_cases h with ⟨hb15, h⟩ | ⟨hb15, h⟩
                    · rw [hb15]
                      refine ev_gos pp_Ke_spread 2 (S' := (107, [some (.ref l0), some (.int l1), some (.int l2), some (.int l3), some (.ref q2), some (.int (0 : Int32))], [.int (0 : Int32), .int l1], (223, kc, ks, pd_H g v))) rfl ?_
                      refine ev_gos pp_Ke_spread 1 (S' := (bif decide ((0 : Int32) = 0) then 120 else 110, [some (.ref l0), some (.int l1), some (.int l2), some (.int l3), some (.ref q2), some (.int (0 : Int32))], [.int l1], (223, kc, ks, pd_H g v))) rfl ?_
                      rcases pd_cases h with ⟨hb16, h⟩ | ⟨hb16, h⟩
                      · rw [hb16]
                        refine ev_gos pp_Ke_spread 6 (S' := (6, [some (.ref l0), some (.int (l1 ||| (0 : Int32))), some (.int l2), some (.int (l3 + (1 : Int32))), some (.ref q2), some (.int (0 : Int32))], [], (223, kc, ks, pd_H g v))) rfl ?_
                        exact ih _ _ _ _ _ _ _ _ hl0 h
                      · rw [hb16]
                        refine ev_gos pp_Ke_spread 2 (S' := (113, [some (.ref l0), some (.int l1), some (.int l2), some (.int l3), some (.ref q2), some (.int (0 : Int32))], [.ref q2, .int (1 : Int32), .int l1], (223, kc, ks, pd_H g v))) rfl ?_
                        refine ev_get pp_Ke_spread rfl (c_st (r_Ke_stepAt hl0 hq2)) rfl ?_
                        refine ev_gos pp_Ke_spread 7 (S' := (6, [some (.ref l0), some (.int (l1 ||| ((1 : Int32) <<< ((v q2 2) &&& 31)))), some (.int l2), some (.int (l3 + (1 : Int32))), some (.ref q2), some (.int (0 : Int32))], [], (223, kc, ks, pd_H g v))) rfl ?_
                        exact ih _ _ _ _ _ _ _ _ hl0 h
                    · rw [hb15]
                      rcases pd_cases h with ⟨hb17, h⟩ | ⟨hb17, h⟩
                      · rw [hb17]
                        refine ev_gos pp_Ke_spread 2 (S' := (6, [some (.ref l0), some (.int l1), some (.int l2), some (.int (l3 + (1 : Int32))), some (.ref q2), some (.int (0 : Int32))], [], (223, kc, ks, pd_H g v))) rfl ?_
                        exact ih _ _ _ _ _ _ _ _ hl0 h
                      · rw [hb17]
                        rcases pd_cases h with ⟨hb18, h⟩ | ⟨hb18, h⟩
                        · rw [hb18]
                          refine ev_gos pp_Ke_spread 3 (S' := (130, [some (.ref l0), some (.int l1), some (.int l2), some (.int l3), some (.ref q2), some (.int (0 : Int32))], [.ref q2, .int (1 : Int32), .int l1], (223, kc, ks, pd_H g v))) rfl ?_
                          refine ev_get pp_Ke_spread rfl (c_st (r_Ke_stepAt hl0 hq2)) rfl ?_
                          refine ev_gos pp_Ke_spread 8 (S' := (6, [some (.ref l0), some (.int (l1 &&& (((1 : Int32) <<< ((v q2 2) &&& 31)) ^^^ (-1 : Int32)))), some (.int l2), some (.int (l3 + (1 : Int32))), some (.ref q2), some (.int (0 : Int32))], [], (223, kc, ks, pd_H g v))) rfl ?_
                          exact ih _ _ _ _ _ _ _ _ hl0 h
                        · rw [hb18]
                          rcases pd_cases h with ⟨hb19, h⟩ | ⟨hb19, h⟩
                          · rw [hb19]
                            refine ev_gos pp_Ke_spread 3 (S' := (130, [some (.ref l0), some (.int l1), some (.int l2), some (.int l3), some (.ref q2), some (.int (0 : Int32))], [.ref q2, .int (1 : Int32), .int l1], (223, kc, ks, pd_H g v))) rfl ?_
                            refine ev_get pp_Ke_spread rfl (c_st (r_Ke_stepAt hl0 hq2)) rfl ?_
                            refine ev_gos pp_Ke_spread 8 (S' := (6, [some (.ref l0), some (.int (l1 &&& (((1 : Int32) <<< ((v q2 2) &&& 31)) ^^^ (-1 : Int32)))), some (.int l2), some (.int (l3 + (1 : Int32))), some (.ref q2), some (.int (0 : Int32))], [], (223, kc, ks, pd_H g v))) rfl ?_
                            exact ih _ _ _ _ _ _ _ _ hl0 h
                          · rw [hb19]
                            refine ev_gos pp_Ke_spread 2 (S' := (6, [some (.ref l0), some (.int l1), some (.int l2), some (.int (l3 + (1 : Int32))), some (.ref q2), some (.int (0 : Int32))], [], (223, kc, ks, pd_H g v))) rfl ?_
                            exact ih _ _ _ _ _ _ _ _ hl0 h
      · rw [hb3]
        refine ev_gos pp_Ke_spread 4 (S' := (47, [some (.ref l0), some (.int l1), some (.int l2), some (.int l3), some (.ref q2), some (.int (1 : Int32))], [.ref q2], (223, kc, ks, pd_H g v))) rfl ?_
        refine ev_get pp_Ke_spread rfl (c_st (r_Ke_stepAt hl0 hq2)) rfl ?_
        refine ev_gos pp_Ke_spread 0 (S' := (50, [some (.ref l0), some (.int l1), some (.int l2), some (.int l3), some (.ref q2), some (.int (1 : Int32))], [.int (v q2 0)], (223, kc, ks, pd_H g v))) rfl ?_
        refine ev_gos pp_Ke_spread 1 (S' := (bif decide ((v q2 0) = (0 : Int32)) then 141 else bif decide ((v q2 0) = (1 : Int32)) then 207 else bif decide ((v q2 0) = (2 : Int32)) then 207 else bif decide ((v q2 0) = (3 : Int32)) then 173 else bif decide ((v q2 0) = (4 : Int32)) then 207 else bif decide ((v q2 0) = (5 : Int32)) then 104 else bif decide ((v q2 0) = (6 : Int32)) then 104 else bif decide ((v q2 0) = (7 : Int32)) then 207 else bif decide ((v q2 0) = (8 : Int32)) then 126 else bif decide ((v q2 0) = (9 : Int32)) then 126 else 207, [some (.ref l0), some (.int l1), some (.int l2), some (.int l3), some (.ref q2), some (.int (1 : Int32))], [], (223, kc, ks, pd_H g v))) rfl ?_
        rcases pd_cases h with ⟨hb20, h⟩ | ⟨hb20, h⟩
        · rw [hb20]
          refine ev_gos pp_Ke_spread 2 (S' := (143, [some (.ref l0), some (.int l1), some (.int l2), some (.int l3), some (.ref q2), some (.int (1 : Int32))], [.ref l0, .ref l0], (223, kc, ks, pd_H g v))) rfl ?_
          refine ev_get pp_Ke_spread rfl (c_ke hl0) rfl ?_
          refine ev_gos pp_Ke_spread 1 (S' := (148, [some (.ref l0), some (.int l1), some (.int l2), some (.int l3), some (.ref q2), some (.int (1 : Int32))], [.int (1 : Int32), .int (v l0 5), .ref l0], (223, kc, ks, pd_H g v))) rfl ?_
          refine ev_gos pp_Ke_spread 1 (S' := (bif !(decide ((1 : Int32) = 0)) then 155 else 151, [some (.ref l0), some (.int l1), some (.int l2), some (.int l3), some (.ref q2), some (.int (1 : Int32))], [.int (v l0 5), .ref l0], (223, kc, ks, pd_H g v))) rfl ?_
          rcases pd_cases h with ⟨hb21, h⟩ | ⟨hb21, h⟩
          · rw [hb21]
            refine ev_gos pp_Ke_spread 2 (S' := (158, [some (.ref l0), some (.int l1), some (.int l2), some (.int l3), some (.ref q2), some (.int (1 : Int32))], [.ref q2, .int (1 : Int32), .int (v l0 5), .ref l0], (223, kc, ks, pd_H g v))) rfl ?_
            refine ev_get pp_Ke_spread rfl (c_st (r_Ke_stepAt hl0 hq2)) rfl ?_
            refine ev_gos pp_Ke_spread 3 (S' := (167, [some (.ref l0), some (.int l1), some (.int l2), some (.int l3), some (.ref q2), some (.int (1 : Int32))], [.int ((v l0 5) ||| ((1 : Int32) <<< ((v q2 5) &&& 31))), .ref l0], (223, kc, ks, pd_H g v))) rfl ?_
            refine ev_put pp_Ke_spread rfl (c_ke hl0) rfl rfl rfl ?_
            refine ev_gos pp_Ke_spread 3 (S' := (6, [some (.ref l0), some (.int l1), some (.int l2), some (.int (l3 + (1 : Int32))), some (.ref q2), some (.int (1 : Int32))], [], (223, kc, ks, pd_H g (pd_w v l0 5 ((v l0 5) ||| ((1 : Int32) <<< ((v q2 5) &&& 31))))))) rfl ?_
            exact ih _ _ _ _ _ _ _ _ hl0 h
          · rw [hb21]
            refine ev_gos pp_Ke_spread 1 (S' := (152, [some (.ref l0), some (.int l1), some (.int l2), some (.int l3), some (.ref q2), some (.int (1 : Int32))], [.int l1, .int (v l0 5), .ref l0], (223, kc, ks, pd_H g v))) rfl ?_
            refine ev_gos pp_Ke_spread 1 (S' := (bif decide (l1 = 0) then 165 else 155, [some (.ref l0), some (.int l1), some (.int l2), some (.int l3), some (.ref q2), some (.int (1 : Int32))], [.int (v l0 5), .ref l0], (223, kc, ks, pd_H g v))) rfl ?_
            rcases pd_cases h with ⟨hb22, h⟩ | ⟨hb22, h⟩
            · rw [hb22]
              refine ev_gos pp_Ke_spread 2 (S' := (167, [some (.ref l0), some (.int l1), some (.int l2), some (.int l3), some (.ref q2), some (.int (1 : Int32))], [.int ((v l0 5) ||| (0 : Int32)), .ref l0], (223, kc, ks, pd_H g v))) rfl ?_
              refine ev_put pp_Ke_spread rfl (c_ke hl0) rfl rfl rfl ?_
              refine ev_gos pp_Ke_spread 3 (S' := (6, [some (.ref l0), some (.int l1), some (.int l2), some (.int (l3 + (1 : Int32))), some (.ref q2), some (.int (1 : Int32))], [], (223, kc, ks, pd_H g (pd_w v l0 5 ((v l0 5) ||| (0 : Int32)))))) rfl ?_
              exact ih _ _ _ _ _ _ _ _ hl0 h
            · rw [hb22]
              refine ev_gos pp_Ke_spread 2 (S' := (158, [some (.ref l0), some (.int l1), some (.int l2), some (.int l3), some (.ref q2), some (.int (1 : Int32))], [.ref q2, .int (1 : Int32), .int (v l0 5), .ref l0], (223, kc, ks, pd_H g v))) rfl ?_
              refine ev_get pp_Ke_spread rfl (c_st (r_Ke_stepAt hl0 hq2)) rfl ?_
              refine ev_gos pp_Ke_spread 3 (S' := (167, [some (.ref l0), some (.int l1), some (.int l2), some (.int l3), some (.ref q2), some (.int (1 : Int32))], [.int ((v l0 5) ||| ((1 : Int32) <<< ((v q2 5) &&& 31))), .ref l0], (223, kc, ks, pd_H g v))) rfl ?_
              refine ev_put pp_Ke_spread rfl (c_ke hl0) rfl rfl rfl ?_
              refine ev_gos pp_Ke_spread 3 (S' := (6, [some (.ref l0), some (.int l1), some (.int l2), some (.int (l3 + (1 : Int32))), some (.ref q2), some (.int (1 : Int32))], [], (223, kc, ks, pd_H g (pd_w v l0 5 ((v l0 5) ||| ((1 : Int32) <<< ((v q2 5) &&& 31))))))) rfl ?_
              exact ih _ _ _ _ _ _ _ _ hl0 h
        · rw [hb20]
          rcases pd_cases h with ⟨hb23, h⟩ | ⟨hb23, h⟩
          · rw [hb23]
            refine ev_gos pp_Ke_spread 2 (S' := (6, [some (.ref l0), some (.int l1), some (.int l2), some (.int (l3 + (1 : Int32))), some (.ref q2), some (.int (1 : Int32))], [], (223, kc, ks, pd_H g v))) rfl ?_
            exact ih _ _ _ _ _ _ _ _ hl0 h
          · rw [hb23]
            rcases pd_cases h with ⟨hb24, h⟩ | ⟨hb24, h⟩
            · rw [hb24]
              refine ev_gos pp_Ke_spread 2 (S' := (6, [some (.ref l0), some (.int l1), some (.int l2), some (.int (l3 + (1 : Int32))), some (.ref q2), some (.int (1 : Int32))], [], (223, kc, ks, pd_H g v))) rfl ?_
              exact ih _ _ _ _ _ _ _ _ hl0 h
            · rw [hb24]
              rcases pd_cases h with ⟨hb25, h⟩ | ⟨hb25, h⟩
              · rw [hb25]
                refine ev_gos pp_Ke_spread 2 (S' := (175, [some (.ref l0), some (.int l1), some (.int l2), some (.int l3), some (.ref q2), some (.int (1 : Int32))], [.ref l0, .ref l0], (223, kc, ks, pd_H g v))) rfl ?_
                refine ev_get pp_Ke_spread rfl (c_ke hl0) rfl ?_
                refine ev_gos pp_Ke_spread 2 (S' := (181, [some (.ref l0), some (.int l1), some (.int l2), some (.int l3), some (.ref q2), some (.int (1 : Int32))], [.ref q2, .int (1 : Int32), .int (v l0 5), .ref l0], (223, kc, ks, pd_H g v))) rfl ?_
                refine ev_get pp_Ke_spread rfl (c_st (r_Ke_stepAt hl0 hq2)) rfl ?_
                refine ev_gos pp_Ke_spread 2 (S' := (186, [some (.ref l0), some (.int l1), some (.int l2), some (.int l3), some (.ref q2), some (.int (1 : Int32))], [.int ((v l0 5) ||| ((1 : Int32) <<< ((v q2 5) &&& 31))), .ref l0], (223, kc, ks, pd_H g v))) rfl ?_
                refine ev_put pp_Ke_spread rfl (c_ke hl0) rfl rfl rfl ?_
                refine ev_gos pp_Ke_spread 1 (S' := (190, [some (.ref l0), some (.int l1), some (.int l2), some (.int l3), some (.ref q2), some (.int (1 : Int32))], [.int l1], (223, kc, ks, pd_H g (pd_w v l0 5 ((v l0 5) ||| ((1 : Int32) <<< ((v q2 5) &&& 31))))))) rfl ?_
                refine ev_gos pp_Ke_spread 1 (S' := (bif decide (l1 = 0) then 207 else 193, [some (.ref l0), some (.int l1), some (.int l2), some (.int l3), some (.ref q2), some (.int (1 : Int32))], [], (223, kc, ks, pd_H g (pd_w v l0 5 ((v l0 5) ||| ((1 : Int32) <<< ((v q2 5) &&& 31))))))) rfl ?_
                rcases pd_cases h with ⟨hb26, h⟩ | ⟨hb26, h⟩
                · rw [hb26]
                  refine ev_gos pp_Ke_spread 2 (S' := (6, [some (.ref l0), some (.int l1), some (.int l2), some (.int (l3 + (1 : Int32))), some (.ref q2), some (.int (1 : Int32))], [], (223, kc, ks, pd_H g (pd_w v l0 5 ((v l0 5) ||| ((1 : Int32) <<< ((v q2 5) &&& 31))))))) rfl ?_
                  exact ih _ _ _ _ _ _ _ _ hl0 h
                · rw [hb26]
                  refine ev_gos pp_Ke_spread 2 (S' := (195, [some (.ref l0), some (.int l1), some (.int l2), some (.int l3), some (.ref q2), some (.int (1 : Int32))], [.int (-1 : Int32), .int l2], (223, kc, ks, pd_H g (pd_w v l0 5 ((v l0 5) ||| ((1 : Int32) <<< ((v q2 5) &&& 31))))))) rfl ?_
                  refine ev_gos pp_Ke_spread 1 (S' := (bif !(decide (l2 = (-1 : Int32))) then 207 else 198, [some (.ref l0), some (.int l1), some (.int l2), some (.int l3), some (.ref q2), some (.int (1 : Int32))], [], (223, kc, ks, pd_H g (pd_w v l0 5 ((v l0 5) ||| ((1 : Int32) <<< ((v q2 5) &&& 31))))))) rfl ?_
                  rcases pd_cases h with ⟨hb27, h⟩ | ⟨hb27, h⟩
                  · rw [hb27]
                    refine ev_gos pp_Ke_spread 2 (S' := (6, [some (.ref l0), some (.int l1), some (.int l2), some (.int (l3 + (1 : Int32))), some (.ref q2), some (.int (1 : Int32))], [], (223, kc, ks, pd_H g (pd_w v l0 5 ((v l0 5) ||| ((1 : Int32) <<< ((v q2 5) &&& 31))))))) rfl ?_
                    exact ih _ _ _ _ _ _ _ _ hl0 h
                  · rw [hb27]
                    refine ev_gos pp_Ke_spread 1 (S' := (200, [some (.ref l0), some (.int l1), some (.int l2), some (.int l3), some (.ref q2), some (.int (1 : Int32))], [.ref q2], (223, kc, ks, pd_H g (pd_w v l0 5 ((v l0 5) ||| ((1 : Int32) <<< ((v q2 5) &&& 31))))))) rfl ?_
                    refine ev_get pp_Ke_spread rfl (c_st (r_Ke_stepAt hl0 hq2)) rfl ?_
                    refine ev_gos pp_Ke_spread 4 (S' := (6, [some (.ref l0), some (.int l1), some (.int ((pd_w v l0 5 ((v l0 5) ||| ((1 : Int32) <<< ((v q2 5) &&& 31)))) q2 1)), some (.int (l3 + (1 : Int32))), some (.ref q2), some (.int (1 : Int32))], [], (223, kc, ks, pd_H g (pd_w v l0 5 ((v l0 5) ||| ((1 : Int32) <<< ((v q2 5) &&& 31))))))) rfl ?_
                    exact ih _ _ _ _ _ _ _ _ hl0 h
              · rw [hb25]
                rcases pd_cases h with ⟨hb28, h⟩ | ⟨hb28, h⟩
                · rw [hb28]
                  refine ev_gos pp_Ke_spread 2 (S' := (6, [some (.ref l0), some (.int l1), some (.int l2), some (.int (l3 + (1 : Int32))), some (.ref q2), some (.int (1 : Int32))], [], (223, kc, ks, pd_H g v))) rfl ?_
                  exact ih _ _ _ _ _ _ _ _ hl0 h
                · rw [hb28]
                  rcases pd_cases h with ⟨hb29, h⟩ | ⟨hb29, h⟩
                  · rw [hb29]
                    refine ev_gos pp_Ke_spread 2 (S' := (107, [some (.ref l0), some (.int l1), some (.int l2), some (.int l3), some (.ref q2), some (.int (1 : Int32))], [.int (1 : Int32), .int l1], (223, kc, ks, pd_H g v))) rfl ?_
                    refine ev_gos pp_Ke_spread 1 (S' := (bif decide ((1 : Int32) = 0) then 120 else 110, [some (.ref l0), some (.int l1), some (.int l2), some (.int l3), some (.ref q2), some (.int (1 : Int32))], [.int l1], (223, kc, ks, pd_H g v))) rfl ?_
                    rcases pd_cases h with ⟨hb30, h⟩ | ⟨hb30, h⟩
                    · rw [hb30]
                      refine ev_gos pp_Ke_spread 6 (S' := (6, [some (.ref l0), some (.int (l1 ||| (0 : Int32))), some (.int l2), some (.int (l3 + (1 : Int32))), some (.ref q2), some (.int (1 : Int32))], [], (223, kc, ks, pd_H g v))) rfl ?_
                      exact ih _ _ _ _ _ _ _ _ hl0 h
                    · rw [hb30]
                      refine ev_gos pp_Ke_spread 2 (S' := (113, [some (.ref l0), some (.int l1), some (.int l2), some (.int l3), some (.ref q2), some (.int (1 : Int32))], [.ref q2, .int (1 : Int32), .int l1], (223, kc, ks, pd_H g v))) rfl ?_
                      refine ev_get pp_Ke_spread rfl (c_st (r_Ke_stepAt hl0 hq2)) rfl ?_
                      refine ev_gos pp_Ke_spread 7 (S' := (6, [some (.ref l0), some (.int (l1 ||| ((1 : Int32) <<< ((v q2 2) &&& 31)))), some (.int l2), some (.int (l3 + (1 : Int32))), some (.ref q2), some (.int (1 : Int32))], [], (223, kc, ks, pd_H g v))) rfl ?_
                      exact ih _ _ _ _ _ _ _ _ hl0 h
                  · rw [hb29]
                    rcases pd_cases h with ⟨hb31, h⟩ | ⟨hb31, h⟩
                    · rw [hb31]
                      refine ev_gos pp_Ke_spread 2 (S' := (107, [some (.ref l0), some (.int l1), some (.int l2), some (.int l3), some (.ref q2), some (.int (1 : Int32))], [.int (1 : Int32), .int l1], (223, kc, ks, pd_H g v))) rfl ?_
                      refine ev_gos pp_Ke_spread 1 (S' := (bif decide ((1 : Int32) = 0) then 120 else 110, [some (.ref l0), some (.int l1), some (.int l2), some (.int l3), some (.ref q2), some (.int (1 : Int32))], [.int l1], (223, kc, ks, pd_H g v))) rfl ?_
                      rcases pd_cases h with ⟨hb32, h⟩ | ⟨hb32, h⟩
                      · rw [hb32]
                        refine ev_gos pp_Ke_spread 6 (S' := (6, [some (.ref l0), some (.int (l1 ||| (0 : Int32))), some (.int l2), some (.int (l3 + (1 : Int32))), some (.ref q2), some (.int (1 : Int32))], [], (223, kc, ks, pd_H g v))) rfl ?_
                        exact ih _ _ _ _ _ _ _ _ hl0 h
                      · rw [hb32]
                        refine ev_gos pp_Ke_spread 2 (S' := (113, [some (.ref l0), some (.int l1), some (.int l2), some (.int l3), some (.ref q2), some (.int (1 : Int32))], [.ref q2, .int (1 : Int32), .int l1], (223, kc, ks, pd_H g v))) rfl ?_
                        refine ev_get pp_Ke_spread rfl (c_st (r_Ke_stepAt hl0 hq2)) rfl ?_
                        refine ev_gos pp_Ke_spread 7 (S' := (6, [some (.ref l0), some (.int (l1 ||| ((1 : Int32) <<< ((v q2 2) &&& 31)))), some (.int l2), some (.int (l3 + (1 : Int32))), some (.ref q2), some (.int (1 : Int32))], [], (223, kc, ks, pd_H g v))) rfl ?_
                        exact ih _ _ _ _ _ _ _ _ hl0 h
                    · rw [hb31]
                      rcases pd_cases h with ⟨hb33, h⟩ | ⟨hb33, h⟩
                      · rw [hb33]
                        refine ev_gos pp_Ke_spread 2 (S' := (6, [some (.ref l0), some (.int l1), some (.int l2), some (.int (l3 + (1 : Int32))), some (.ref q2), some (.int (1 : Int32))], [], (223, kc, ks, pd_H g v))) rfl ?_
                        exact ih _ _ _ _ _ _ _ _ hl0 h
                      · rw [hb33]
                        rcases pd_cases h with ⟨hb34, h⟩ | ⟨hb34, h⟩
                        · rw [hb34]
                          refine ev_gos pp_Ke_spread 3 (S' := (130, [some (.ref l0), some (.int l1), some (.int l2), some (.int l3), some (.ref q2), some (.int (1 : Int32))], [.ref q2, .int (1 : Int32), .int l1], (223, kc, ks, pd_H g v))) rfl ?_
                          refine ev_get pp_Ke_spread rfl (c_st (r_Ke_stepAt hl0 hq2)) rfl ?_
                          refine ev_gos pp_Ke_spread 8 (S' := (6, [some (.ref l0), some (.int (l1 &&& (((1 : Int32) <<< ((v q2 2) &&& 31)) ^^^ (-1 : Int32)))), some (.int l2), some (.int (l3 + (1 : Int32))), some (.ref q2), some (.int (1 : Int32))], [], (223, kc, ks, pd_H g v))) rfl ?_
                          exact ih _ _ _ _ _ _ _ _ hl0 h
                        · rw [hb34]
                          rcases pd_cases h with ⟨hb35, h⟩ | ⟨hb35, h⟩
                          · rw [hb35]
                            refine ev_gos pp_Ke_spread 3 (S' := (130, [some (.ref l0), some (.int l1), some (.int l2), some (.int l3), some (.ref q2), some (.int (1 : Int32))], [.ref q2, .int (1 : Int32), .int l1], (223, kc, ks, pd_H g v))) rfl ?_
                            refine ev_get pp_Ke_spread rfl (c_st (r_Ke_stepAt hl0 hq2)) rfl ?_
                            refine ev_gos pp_Ke_spread 8 (S' := (6, [some (.ref l0), some (.int (l1 &&& (((1 : Int32) <<< ((v q2 2) &&& 31)) ^^^ (-1 : Int32)))), some (.int l2), some (.int (l3 + (1 : Int32))), some (.ref q2), some (.int (1 : Int32))], [], (223, kc, ks, pd_H g v))) rfl ?_
                            exact ih _ _ _ _ _ _ _ _ hl0 h
                          · rw [hb35]
                            refine ev_gos pp_Ke_spread 2 (S' := (6, [some (.ref l0), some (.int l1), some (.int l2), some (.int (l3 + (1 : Int32))), some (.ref q2), some (.int (1 : Int32))], [], (223, kc, ks, pd_H g v))) rfl ?_
                            exact ih _ _ _ _ _ _ _ _ hl0 h
def d_Ke_spread (w : Nat) (l0 : Nat) (v : pd_V) : Option (Int32 × pd_V) :=
  d_Ke_spread_6 w w l0 (0 : Int32) (-1 : Int32) (0 : Int32) v
theorem s_Ke_spread {w : Nat} {l0 : Nat} {v : pd_V} {q : (Int32 × pd_V)} (hl0 : ker l0) (h : d_Ke_spread w l0 v = some q) : pm_ev (pj_P xs L) (d + 1) 36 (0, [some (.ref l0), none, none, none, none, none], [], (223, kc, ks, pd_H g v)) (.inl (some (.int q.1)), (223, kc, ks, pd_H g q.2)) := by
  unfold d_Ke_spread at h
  refine ev_gos pp_Ke_spread 6 (S' := (6, [some (.ref l0), some (.int (0 : Int32)), some (.int (-1 : Int32)), some (.int (0 : Int32)), none, none], [], (223, kc, ks, pd_H g v))) rfl ?_
  exact s_Ke_spread_6 _ _ _ _ _ _ _ _ _ hl0 h
theorem pp_Ke_findVarying {xs : Nat → Int32} {L : Nat} : (pj_P xs L 35).1 = fun S => pm_look tb_Ke_findVarying S.1 S := rfl
def d_Ke_findVarying_9 (w : Nat) (f : Nat) (l0 : Nat) (l1 : Int32) (l2 : Int32) (v : pd_V) : Option (Int32 × pd_V) := match f with
  | 0 => none
  | f + 1 =>
    bif decide ((8 : Int32) < l2) then
      some (l1, v)
    else
      (d_Ke_spread w l0 v).bind fun q2 =>
      bif !(decide ((q2.2 l0 5) = (v l0 5))) then
        d_Ke_findVarying_9 w f l0 q2.1 (l2 + (1 : Int32)) q2.2
      else
        some (q2.1, q2.2)
theorem s_Ke_findVarying_9 {w : Nat} : ∀ (f : Nat) (l0 : Nat) (l1 : Int32) (l2 : Int32) (v : pd_V) (y3 : Option Value) (q : (Int32 × pd_V)) (hl0 : ker l0), d_Ke_findVarying_9 w f l0 l1 l2 v = some q → pm_ev (pj_P xs L) (d + 2) 35 (9, [some (.ref l0), some (.int l1), some (.int l2), y3], [], (223, kc, ks, pd_H g v)) (.inl (some (.int q.1)), (223, kc, ks, pd_H g q.2)) := by
  intro f
  induction f with
  | zero => intro l0 l1 l2 v y3 q hl0 h; exact nomatch (show (none : Option (Int32 × pd_V)) = some q from h)
  | succ f ih =>
    intro l0 l1 l2 v y3 q hl0 h
    rw [d_Ke_findVarying_9] at h
    refine ev_gos pp_Ke_findVarying 2 (S' := (12, [some (.ref l0), some (.int l1), some (.int l2), y3], [.int (8 : Int32), .int l2], (223, kc, ks, pd_H g v))) rfl ?_
    refine ev_gos pp_Ke_findVarying 1 (S' := (bif decide ((8 : Int32) < l2) then 42 else 15, [some (.ref l0), some (.int l1), some (.int l2), y3], [], (223, kc, ks, pd_H g v))) rfl ?_
    rcases pd_cases h with ⟨hb1, h⟩ | ⟨hb1, h⟩
    · rw [hb1]
      refine ev_gos pp_Ke_findVarying 1 (S' := (43, [some (.ref l0), some (.int l1), some (.int l2), y3], [.int l1], (223, kc, ks, pd_H g v))) rfl ?_
      cases h
      exact ev_fin pp_Ke_findVarying rfl
    · rw [hb1]
      refine ev_gos pp_Ke_findVarying 1 (S' := (16, [some (.ref l0), some (.int l1), some (.int l2), y3], [.ref l0], (223, kc, ks, pd_H g v))) rfl ?_
      refine ev_get pp_Ke_findVarying rfl (c_ke hl0) rfl ?_
      refine ev_gos pp_Ke_findVarying 2 (S' := (21, [some (.ref l0), some (.int l1), some (.int l2), some (.int (v l0 5))], [.ref l0], (223, kc, ks, pd_H g v))) rfl ?_
      obtain ⟨q2, hq2, h⟩ := pd_bind h
      refine ev_callv pp_Ke_findVarying rfl rfl (pd_isa (c_ke hl0)) rfl (s_Ke_spread hl0 hq2) ?_
      refine ev_gos pp_Ke_findVarying 2 (S' := (26, [some (.ref l0), some (.int q2.1), some (.int l2), some (.int (v l0 5))], [.ref l0], (223, kc, ks, pd_H g q2.2))) rfl ?_
      refine ev_get pp_Ke_findVarying rfl (c_ke hl0) rfl ?_
      refine ev_gos pp_Ke_findVarying 1 (S' := (30, [some (.ref l0), some (.int q2.1), some (.int l2), some (.int (v l0 5))], [.int (v l0 5), .int (q2.2 l0 5)], (223, kc, ks, pd_H g q2.2))) rfl ?_
      refine ev_gos pp_Ke_findVarying 1 (S' := (bif !(decide ((q2.2 l0 5) = (v l0 5))) then 36 else 33, [some (.ref l0), some (.int q2.1), some (.int l2), some (.int (v l0 5))], [], (223, kc, ks, pd_H g q2.2))) rfl ?_
      rcases pd_cases h with ⟨hb3, h⟩ | ⟨hb3, h⟩
      · rw [hb3]
        refine ev_gos pp_Ke_findVarying 2 (S' := (9, [some (.ref l0), some (.int q2.1), some (.int (l2 + (1 : Int32))), some (.int (v l0 5))], [], (223, kc, ks, pd_H g q2.2))) rfl ?_
        exact ih _ _ _ _ _ _ hl0 h
      · rw [hb3]
        refine ev_gos pp_Ke_findVarying 2 (S' := (43, [some (.ref l0), some (.int q2.1), some (.int l2), some (.int (v l0 5))], [.int q2.1], (223, kc, ks, pd_H g q2.2))) rfl ?_
        cases h
        exact ev_fin pp_Ke_findVarying rfl
def d_Ke_findVarying (w : Nat) (l0 : Nat) (v : pd_V) : Option (Int32 × pd_V) :=
  d_Ke_findVarying_9 w w l0 (-1 : Int32) (0 : Int32) (pd_w v l0 5 (0 : Int32))
theorem s_Ke_findVarying {w : Nat} {l0 : Nat} {v : pd_V} {q : (Int32 × pd_V)} (hl0 : ker l0) (h : d_Ke_findVarying w l0 v = some q) : pm_ev (pj_P xs L) (d + 2) 35 (0, [some (.ref l0), none, none, none], [], (223, kc, ks, pd_H g v)) (.inl (some (.int q.1)), (223, kc, ks, pd_H g q.2)) := by
  unfold d_Ke_findVarying at h
  refine ev_gos pp_Ke_findVarying 2 (S' := (2, [some (.ref l0), none, none, none], [.int (0 : Int32), .ref l0], (223, kc, ks, pd_H g v))) rfl ?_
  refine ev_put pp_Ke_findVarying rfl (c_ke hl0) rfl rfl rfl ?_
  refine ev_gos pp_Ke_findVarying 4 (S' := (9, [some (.ref l0), some (.int (-1 : Int32)), some (.int (0 : Int32)), none], [], (223, kc, ks, pd_H g (pd_w v l0 5 (0 : Int32))))) rfl ?_
  exact s_Ke_findVarying_9 _ _ _ _ _ _ _ hl0 h
theorem pp_Re_handOver {xs : Nat → Int32} {L : Nat} : (pj_P xs L 37).1 = fun S => pm_look tb_Re_handOver S.1 S := rfl
def d_Re_handOver (l1 : Nat) (v : pd_V) : Option (Nat × pd_V) :=
  some ((kerOf (v 1 3)), (pd_w v 1 3 (kerNo l1)))
theorem s_Re_handOver {l1 : Nat} {v : pd_V} {q : (Nat × pd_V)} (hl1 : ker l1) (h : d_Re_handOver l1 v = some q) : pm_ev (pj_P xs L) d 37 (0, [some (.ref 1), some (.ref l1), none], [], (223, kc, ks, pd_H g v)) (.inl (some (.ref q.1)), (223, kc, ks, pd_H g q.2)) := by
  unfold d_Re_handOver at h
  refine ev_gos pp_Re_handOver 5 (S' := (7, [some (.ref 1), some (.ref l1), some (.ref (kerOf (v 1 3)))], [.ref l1, .ref 1], (223, kc, ks, pd_H g v))) rfl ?_
  refine ev_put pp_Re_handOver rfl (fun _ => rfl) (hs_Re hl1) rfl rfl ?_
  refine ev_gos pp_Re_handOver 1 (S' := (11, [some (.ref 1), some (.ref l1), some (.ref (kerOf (v 1 3)))], [.ref (kerOf (v 1 3))], (223, kc, ks, pd_H g (pd_w v 1 3 (kerNo l1))))) rfl ?_
  cases h
  exact ev_fin pp_Re_handOver rfl
theorem r_Re_handOver {l1 : Nat} {v : pd_V} {q : (Nat × pd_V)} (hl1 : ker l1) (h : d_Re_handOver l1 v = some q) : ker q.1 := by
  unfold d_Re_handOver at h
  cases h
  exact (ker_of _)
theorem pp_De_compile {xs : Nat → Int32} {L : Nat} : (pj_P xs L 10).1 = fun S => pm_look tb_De_compile S.1 S := rfl
def d_De_compile (w : Nat)  (v : pd_V) : Option (Int32 × pd_V) :=
  (d_Re_read w v).bind fun q1 =>
  bif !(decide (q1.1 = 0)) then
    (d_Ke_findVarying w (kerOf (q1.2 1 3)) q1.2).bind fun q3 =>
    bif decide (q3.1 = (-1 : Int32)) then
      (d_Re_handOver (kerOf (q3.2 0 1)) (pd_w q3.2 0 3 q3.1)).bind fun q5 =>
      some ((0 : Int32), (pd_w (pd_w (pd_w (pd_w q5.2 0 1 (kerNo q5.1)) 0 2 (1 : Int32)) 173 1 (0 : Int32)) 186 1 (0 : Int32)))
    else
      some ((2 : Int32), (pd_w q3.2 0 3 q3.1))
  else
    some ((1 : Int32), (pd_w q1.2 0 3 (q1.2 1 2)))
theorem s_De_compile {w : Nat}  {v : pd_V} {q : (Int32 × pd_V)}  (h : d_De_compile w v = some q) : pm_ev (pj_P xs L) (d + 22) 10 (0, [some (.ref 0)], [], (223, kc, ks, pd_H g v)) (.inl (some (.int q.1)), (223, kc, ks, pd_H g q.2)) := by
  unfold d_De_compile at h
  refine ev_gos pp_De_compile 2 (S' := (4, [some (.ref 0)], [.ref 1], (223, kc, ks, pd_H g v))) rfl ?_
  obtain ⟨q1, hq1, h⟩ := pd_bind h
  refine ev_callv pp_De_compile rfl rfl rfl rfl (s_Re_read hq1) ?_
  refine ev_gos pp_De_compile 0 (S' := (7, [some (.ref 0)], [.int q1.1], (223, kc, ks, pd_H g q1.2))) rfl ?_
  refine ev_gos pp_De_compile 1 (S' := (bif !(decide (q1.1 = 0)) then 23 else 10, [some (.ref 0)], [], (223, kc, ks, pd_H g q1.2))) rfl ?_
  rcases pd_cases h with ⟨hb2, h⟩ | ⟨hb2, h⟩
  · rw [hb2]
    refine ev_gos pp_De_compile 4 (S' := (31, [some (.ref 0)], [.ref (kerOf (q1.2 1 3)), .ref 0], (223, kc, ks, pd_H g q1.2))) rfl ?_
    obtain ⟨q3, hq3, h⟩ := pd_bind h
    refine ev_callv pp_De_compile rfl rfl (pd_isa (c_ke (ker_of _))) rfl (s_Ke_findVarying (ker_of _) hq3) ?_
    refine ev_gos pp_De_compile 0 (S' := (34, [some (.ref 0)], [.int q3.1, .ref 0], (223, kc, ks, pd_H g q3.2))) rfl ?_
    refine ev_put pp_De_compile rfl (fun _ => rfl) rfl rfl rfl ?_
    refine ev_gos pp_De_compile 3 (S' := (42, [some (.ref 0)], [.int (-1 : Int32), .int q3.1], (223, kc, ks, pd_H g (pd_w q3.2 0 3 q3.1)))) rfl ?_
    refine ev_gos pp_De_compile 1 (S' := (bif decide (q3.1 = (-1 : Int32)) then 47 else 45, [some (.ref 0)], [], (223, kc, ks, pd_H g (pd_w q3.2 0 3 q3.1)))) rfl ?_
    rcases pd_cases h with ⟨hb4, h⟩ | ⟨hb4, h⟩
    · rw [hb4]
      refine ev_gos pp_De_compile 5 (S' := (56, [some (.ref 0)], [.ref (kerOf (q3.2 0 1)), .ref 1, .ref 0], (223, kc, ks, pd_H g (pd_w q3.2 0 3 q3.1)))) rfl ?_
      obtain ⟨q5, hq5, h⟩ := pd_bind h
      refine ev_callv pp_De_compile rfl rfl rfl rfl (s_Re_handOver (ker_of _) hq5) ?_
      refine ev_gos pp_De_compile 0 (S' := (59, [some (.ref 0)], [.ref q5.1, .ref 0], (223, kc, ks, pd_H g q5.2))) rfl ?_
      refine ev_put pp_De_compile rfl (fun _ => rfl) (hs_De (r_Re_handOver (ker_of _) hq5)) rfl rfl ?_
      refine ev_gos pp_De_compile 2 (S' := (64, [some (.ref 0)], [.int (1 : Int32), .ref 0], (223, kc, ks, pd_H g (pd_w q5.2 0 1 (kerNo q5.1))))) rfl ?_
      refine ev_put pp_De_compile rfl (fun _ => rfl) rfl rfl (pd_fit pd_b1) ?_
      refine ev_gos pp_De_compile 3 (S' := (72, [some (.ref 0)], [.int (0 : Int32), .ref 173], (223, kc, ks, pd_H g (pd_w (pd_w q5.2 0 1 (kerNo q5.1)) 0 2 (1 : Int32))))) rfl ?_
      refine ev_put pp_De_compile rfl (fun _ => rfl) rfl rfl (pd_fit pd_b0) ?_
      refine ev_gos pp_De_compile 3 (S' := (80, [some (.ref 0)], [.int (0 : Int32), .ref 186], (223, kc, ks, pd_H g (pd_w (pd_w (pd_w q5.2 0 1 (kerNo q5.1)) 0 2 (1 : Int32)) 173 1 (0 : Int32))))) rfl ?_
      refine ev_put pp_De_compile rfl (fun _ => rfl) rfl rfl (pd_fit pd_b0) ?_
      refine ev_gos pp_De_compile 1 (S' := (84, [some (.ref 0)], [.int (0 : Int32)], (223, kc, ks, pd_H g (pd_w (pd_w (pd_w (pd_w q5.2 0 1 (kerNo q5.1)) 0 2 (1 : Int32)) 173 1 (0 : Int32)) 186 1 (0 : Int32))))) rfl ?_
      cases h
      exact ev_fin pp_De_compile rfl
    · rw [hb4]
      refine ev_gos pp_De_compile 1 (S' := (46, [some (.ref 0)], [.int (2 : Int32)], (223, kc, ks, pd_H g (pd_w q3.2 0 3 q3.1)))) rfl ?_
      cases h
      exact ev_fin pp_De_compile rfl
  · rw [hb2]
    refine ev_gos pp_De_compile 4 (S' := (18, [some (.ref 0)], [.int (q1.2 1 2), .ref 0], (223, kc, ks, pd_H g q1.2))) rfl ?_
    refine ev_put pp_De_compile rfl (fun _ => rfl) rfl rfl rfl ?_
    refine ev_gos pp_De_compile 1 (S' := (22, [some (.ref 0)], [.int (1 : Int32)], (223, kc, ks, pd_H g (pd_w q1.2 0 3 (q1.2 1 2))))) rfl ?_
    cases h
    exact ev_fin pp_De_compile rfl
theorem pp_De_place {xs : Nat → Int32} {L : Nat} : (pj_P xs L 38).1 = fun S => pm_look tb_De_place S.1 S := rfl
def d_De_place  (v : pd_V) : Int32 :=
  (v 0 3)
theorem s_De_place  {v : pd_V}  : pm_ev (pj_P xs L) d 38 (0, [some (.ref 0)], [], (223, kc, ks, pd_H g v)) (.inl (some (.int (d_De_place v))), (223, kc, ks, pd_H g v)) := by
  unfold d_De_place
  refine ev_gos pp_De_place 2 (S' := (4, [some (.ref 0)], [.int (v 0 3)], (223, kc, ks, pd_H g v))) rfl ?_
  exact ev_fin pp_De_place rfl
theorem pp_De_mask {xs : Nat → Int32} {L : Nat} : (pj_P xs L 39).1 = fun S => pm_look tb_De_mask S.1 S := rfl
def d_De_mask  (v : pd_V) : Int32 :=
  bif decide ((v 173 1) = 0) then
    (0 : Int32)
  else
    (v 173 3)
theorem s_De_mask  {v : pd_V}  : pm_ev (pj_P xs L) d 39 (0, [some (.ref 0)], [], (223, kc, ks, pd_H g v)) (.inl (some (.int (d_De_mask v))), (223, kc, ks, pd_H g v)) := by
  unfold d_De_mask
  refine ev_gos pp_De_mask 3 (S' := (7, [some (.ref 0)], [.int (v 173 1)], (223, kc, ks, pd_H g v))) rfl ?_
  refine ev_gos pp_De_mask 1 (S' := (bif decide ((v 173 1) = 0) then 20 else 10, [some (.ref 0)], [], (223, kc, ks, pd_H g v))) rfl ?_
  cases hb1 : (decide ((v 173 1) = 0))
  · refine ev_gos pp_De_mask 4 (S' := (21, [some (.ref 0)], [.int (v 173 3)], (223, kc, ks, pd_H g v))) rfl ?_
    exact ev_fin pp_De_mask rfl
  · refine ev_gos pp_De_mask 1 (S' := (21, [some (.ref 0)], [.int (0 : Int32)], (223, kc, ks, pd_H g v))) rfl ?_
    exact ev_fin pp_De_mask rfl
theorem pp_De_byteOf {xs : Nat → Int32} {L : Nat} : (pj_P xs L 42).1 = fun S => pm_look tb_De_byteOf S.1 S := rfl
def d_De_byteOf (l0 : Int64) (l2 : Int32)  : Int32 :=
  ((((l0.toUInt64 >>> (((8 : Int32) * l2).toInt64.toUInt64 &&& Int64.toUInt64 63)).toInt64).toInt32) &&& (255 : Int32))
theorem s_De_byteOf {l0 : Int64} {l2 : Int32} {v : pd_V}  : pm_ev (pj_P xs L) d 42 (0, [some (.long l0), none, some (.int l2)], [], (223, kc, ks, pd_H g v)) (.inl (some (.int (d_De_byteOf l0 l2))), (223, kc, ks, pd_H g v)) := by
  unfold d_De_byteOf
  refine ev_gos pp_De_byteOf 8 (S' := (11, [some (.long l0), none, some (.int l2)], [.int ((((l0.toUInt64 >>> (((8 : Int32) * l2).toInt64.toUInt64 &&& Int64.toUInt64 63)).toInt64).toInt32) &&& (255 : Int32))], (223, kc, ks, pd_H g v))) rfl ?_
  exact ev_fin pp_De_byteOf rfl
theorem pp_De_isTypable {xs : Nat → Int32} {L : Nat} : (pj_P xs L 41).1 = fun S => pm_look tb_De_isTypable S.1 S := rfl
def d_De_isTypable_2 (w : Nat) (f : Nat) (l0 : Int64) (l2 : Int32) (l3 : Int32) (v : pd_V) : Option Int32 := match f with
  | 0 => none
  | f + 1 =>
    bif decide (l2 ≤ l3) then
      some (1 : Int32)
    else
      bif decide ((d_De_byteOf l0 l3) < (33 : Int32)) then
        some (0 : Int32)
      else
        bif decide ((d_De_byteOf l0 l3) ≤ (126 : Int32)) then
          d_De_isTypable_2 w f l0 l2 (l3 + (1 : Int32)) v
        else
          some (0 : Int32)
theorem s_De_isTypable_2 {w : Nat} : ∀ (f : Nat) (l0 : Int64) (l2 : Int32) (l3 : Int32) (v : pd_V) (y4 : Option Value) (q : Int32) , d_De_isTypable_2 w f l0 l2 l3 v = some q → pm_ev (pj_P xs L) (d + 1) 41 (2, [some (.long l0), none, some (.int l2), some (.int l3), y4], [], (223, kc, ks, pd_H g v)) (.inl (some (.int q)), (223, kc, ks, pd_H g v)) := by
  intro f
  induction f with
  | zero => intro l0 l2 l3 v y4 q h; exact nomatch (show (none : Option Int32) = some q from h)
  | succ f ih =>
    intro l0 l2 l3 v y4 q h
    rw [d_De_isTypable_2] at h
    refine ev_gos pp_De_isTypable 2 (S' := (4, [some (.long l0), none, some (.int l2), some (.int l3), y4], [.int l2, .int l3], (223, kc, ks, pd_H g v))) rfl ?_
    refine ev_gos pp_De_isTypable 1 (S' := (bif decide (l2 ≤ l3) then 36 else 7, [some (.long l0), none, some (.int l2), some (.int l3), y4], [], (223, kc, ks, pd_H g v))) rfl ?_
    rcases pd_cases h with ⟨hb1, h⟩ | ⟨hb1, h⟩
    · rw [hb1]
      refine ev_gos pp_De_isTypable 1 (S' := (37, [some (.long l0), none, some (.int l2), some (.int l3), y4], [.int (1 : Int32)], (223, kc, ks, pd_H g v))) rfl ?_
      cases h
      exact ev_zret pp_De_isTypable rfl pd_b1
    · rw [hb1]
      refine ev_gos pp_De_isTypable 2 (S' := (9, [some (.long l0), none, some (.int l2), some (.int l3), y4], [.int l3, .long l0], (223, kc, ks, pd_H g v))) rfl ?_
      refine ev_call pp_De_isTypable rfl rfl rfl (s_De_byteOf) ?_
      refine ev_gos pp_De_isTypable 3 (S' := (18, [some (.long l0), none, some (.int l2), some (.int l3), some (.int (d_De_byteOf l0 l3))], [.int (33 : Int32), .int (d_De_byteOf l0 l3)], (223, kc, ks, pd_H g v))) rfl ?_
      refine ev_gos pp_De_isTypable 1 (S' := (bif decide ((d_De_byteOf l0 l3) < (33 : Int32)) then 28 else 21, [some (.long l0), none, some (.int l2), some (.int l3), some (.int (d_De_byteOf l0 l3))], [], (223, kc, ks, pd_H g v))) rfl ?_
      rcases pd_cases h with ⟨hb3, h⟩ | ⟨hb3, h⟩
      · rw [hb3]
        refine ev_gos pp_De_isTypable 1 (S' := (29, [some (.long l0), none, some (.int l2), some (.int l3), some (.int (d_De_byteOf l0 l3))], [.int (0 : Int32)], (223, kc, ks, pd_H g v))) rfl ?_
        cases h
        exact ev_zret pp_De_isTypable rfl pd_b0
      · rw [hb3]
        refine ev_gos pp_De_isTypable 2 (S' := (25, [some (.long l0), none, some (.int l2), some (.int l3), some (.int (d_De_byteOf l0 l3))], [.int (126 : Int32), .int (d_De_byteOf l0 l3)], (223, kc, ks, pd_H g v))) rfl ?_
        refine ev_gos pp_De_isTypable 1 (S' := (bif decide ((d_De_byteOf l0 l3) ≤ (126 : Int32)) then 30 else 28, [some (.long l0), none, some (.int l2), some (.int l3), some (.int (d_De_byteOf l0 l3))], [], (223, kc, ks, pd_H g v))) rfl ?_
        rcases pd_cases h with ⟨hb4, h⟩ | ⟨hb4, h⟩
        · rw [hb4]
          refine ev_gos pp_De_isTypable 2 (S' := (2, [some (.long l0), none, some (.int l2), some (.int (l3 + (1 : Int32))), some (.int (d_De_byteOf l0 l3))], [], (223, kc, ks, pd_H g v))) rfl ?_
          exact ih _ _ _ _ _ _  h
        · rw [hb4]
          refine ev_gos pp_De_isTypable 1 (S' := (29, [some (.long l0), none, some (.int l2), some (.int l3), some (.int (d_De_byteOf l0 l3))], [.int (0 : Int32)], (223, kc, ks, pd_H g v))) rfl ?_
          cases h
          exact ev_zret pp_De_isTypable rfl pd_b0
theorem s_De_isTypable_2z {w : Nat} : ∀ (f : Nat) (l0 : Int64) (l2 : Int32) (l3 : Int32) (v : pd_V)  (q : Int32) , d_De_isTypable_2 w f l0 l2 l3 v = some q → (q == 0 || q == 1) = true := by
  intro f
  induction f with
  | zero => intro l0 l2 l3 v q h; exact nomatch (show (none : Option Int32) = some q from h)
  | succ f ih =>
    intro l0 l2 l3 v q h
    rw [d_De_isTypable_2] at h
    rcases pd_cases h with ⟨hb1, h⟩ | ⟨hb1, h⟩
    · cases h
      exact pd_b1
    · rcases pd_cases h with ⟨hb3, h⟩ | ⟨hb3, h⟩
      · cases h
        exact pd_b0
      · rcases pd_cases h with ⟨hb4, h⟩ | ⟨hb4, h⟩
        · exact ih _ _ _ _ _  h
        · cases h
          exact pd_b0
def d_De_isTypable (w : Nat) (l0 : Int64) (l2 : Int32) (v : pd_V) : Option Int32 :=
  d_De_isTypable_2 w w l0 l2 (0 : Int32) v
theorem s_De_isTypable {w : Nat} {l0 : Int64} {l2 : Int32} {v : pd_V} {q : Int32}  (h : d_De_isTypable w l0 l2 v = some q) : pm_ev (pj_P xs L) (d + 1) 41 (0, [some (.long l0), none, some (.int l2), none, none], [], (223, kc, ks, pd_H g v)) (.inl (some (.int q)), (223, kc, ks, pd_H g v)) := by
  unfold d_De_isTypable at h
  refine ev_gos pp_De_isTypable 2 (S' := (2, [some (.long l0), none, some (.int l2), some (.int (0 : Int32)), none], [], (223, kc, ks, pd_H g v))) rfl ?_
  exact s_De_isTypable_2 _ _ _ _ _ _ _  h
theorem z_De_isTypable {w : Nat} {l0 : Int64} {l2 : Int32} {v : pd_V} {q : Int32}  (h : d_De_isTypable w l0 l2 v = some q) : (q == 0 || q == 1) = true := by
  unfold d_De_isTypable at h
  exact s_De_isTypable_2z _ _ _ _ _ _  h
theorem pp_Re_append {xs : Nat → Int32} {L : Nat} : (pj_P xs L 43).1 = fun S => pm_look tb_Re_append S.1 S := rfl
def d_Re_append_19 (w : Nat) (f : Nat) (l1 : Int64) (l4 : Int32) (v : pd_V) : Option (Int32 × pd_V) := match f with
  | 0 => none
  | f + 1 =>
    bif decide (l4 < 0) then
      some ((1 : Int32), v)
    else
      bif decide ((160 : Int32) ≤ (v 1 1)) then
        some ((1 : Int32), v)
      else
        bif pm_in (v 1 1) 160 then
        d_Re_append_19 w f l1 (l4 + (-1 : Int32)) (pd_w (pd_w v 2 ((v 1 1).toNatClampNeg) (d_De_byteOf l1 l4)) 1 1 ((v 1 1) + (1 : Int32)))
        else none
theorem s_Re_append_19 {w : Nat} : ∀ (f : Nat) (l1 : Int64) (l4 : Int32) (v : pd_V) (y3 : Int32) (q : (Int32 × pd_V)) , d_Re_append_19 w f l1 l4 v = some q → pm_ev (pj_P xs L) (d + 1) 43 (19, [some (.ref 1), some (.long l1), none, some (.int y3), some (.int l4)], [], (223, kc, ks, pd_H g v)) (.inl (some (.int q.1)), (223, kc, ks, pd_H g q.2)) := by
  intro f
  induction f with
  | zero => intro l1 l4 v y3 q h; exact nomatch (show (none : Option (Int32 × pd_V)) = some q from h)
  | succ f ih =>
    intro l1 l4 v y3 q h
    rw [d_Re_append_19] at h
    refine ev_gos pp_Re_append 1 (S' := (21, [some (.ref 1), some (.long l1), none, some (.int y3), some (.int l4)], [.int l4], (223, kc, ks, pd_H g v))) rfl ?_
    refine ev_gos pp_Re_append 1 (S' := (bif decide (l4 < 0) then 65 else 24, [some (.ref 1), some (.long l1), none, some (.int y3), some (.int l4)], [], (223, kc, ks, pd_H g v))) rfl ?_
    rcases pd_cases h with ⟨hb1, h⟩ | ⟨hb1, h⟩
    · rw [hb1]
      refine ev_gos pp_Re_append 1 (S' := (66, [some (.ref 1), some (.long l1), none, some (.int y3), some (.int l4)], [.int (1 : Int32)], (223, kc, ks, pd_H g v))) rfl ?_
      cases h
      exact ev_zret pp_Re_append rfl pd_b1
    · rw [hb1]
      refine ev_gos pp_Re_append 3 (S' := (31, [some (.ref 1), some (.long l1), none, some (.int y3), some (.int l4)], [.int (160 : Int32), .int (v 1 1)], (223, kc, ks, pd_H g v))) rfl ?_
      refine ev_gos pp_Re_append 1 (S' := (bif decide ((160 : Int32) ≤ (v 1 1)) then 65 else 34, [some (.ref 1), some (.long l1), none, some (.int y3), some (.int l4)], [], (223, kc, ks, pd_H g v))) rfl ?_
      rcases pd_cases h with ⟨hb2, h⟩ | ⟨hb2, h⟩
      · rw [hb2]
        refine ev_gos pp_Re_append 1 (S' := (66, [some (.ref 1), some (.long l1), none, some (.int y3), some (.int l4)], [.int (1 : Int32)], (223, kc, ks, pd_H g v))) rfl ?_
        cases h
        exact ev_zret pp_Re_append rfl pd_b1
      · rw [hb2]
        refine ev_gos pp_Re_append 6 (S' := (45, [some (.ref 1), some (.long l1), none, some (.int y3), some (.int l4)], [.int l4, .long l1, .int (v 1 1), .ref 2], (223, kc, ks, pd_H g v))) rfl ?_
        refine ev_call pp_Re_append rfl rfl rfl (s_De_byteOf) ?_
        refine ev_gos pp_Re_append 0 (S' := (48, [some (.ref 1), some (.long l1), none, some (.int y3), some (.int l4)], [.int (d_De_byteOf l1 l4), .int (v 1 1), .ref 2], (223, kc, ks, pd_H g v))) rfl ?_
        obtain ⟨hc4, h⟩ := pd_chk h
        refine ev_iast pp_Re_append rfl (fun _ => rfl) hc4 ?_
        refine ev_gos pp_Re_append 5 (S' := (56, [some (.ref 1), some (.long l1), none, some (.int y3), some (.int l4)], [.int ((v 1 1) + (1 : Int32)), .ref 1], (223, kc, ks, pd_H g (pd_w v 2 ((v 1 1).toNatClampNeg) (d_De_byteOf l1 l4))))) rfl ?_
        refine ev_put pp_Re_append rfl (fun _ => rfl) rfl rfl rfl ?_
        refine ev_gos pp_Re_append 2 (S' := (19, [some (.ref 1), some (.long l1), none, some (.int y3), some (.int (l4 + (-1 : Int32)))], [], (223, kc, ks, pd_H g (pd_w (pd_w v 2 ((v 1 1).toNatClampNeg) (d_De_byteOf l1 l4)) 1 1 ((v 1 1) + (1 : Int32)))))) rfl ?_
        exact ih _ _ _ _ _  h
theorem s_Re_append_19z {w : Nat} : ∀ (f : Nat) (l1 : Int64) (l4 : Int32) (v : pd_V)  (q : (Int32 × pd_V)) , d_Re_append_19 w f l1 l4 v = some q → (q.1 == 0 || q.1 == 1) = true := by
  intro f
  induction f with
  | zero => intro l1 l4 v q h; exact nomatch (show (none : Option (Int32 × pd_V)) = some q from h)
  | succ f ih =>
    intro l1 l4 v q h
    rw [d_Re_append_19] at h
    rcases pd_cases h with ⟨hb1, h⟩ | ⟨hb1, h⟩
    · cases h
      exact pd_b1
    · rcases pd_cases h with ⟨hb2, h⟩ | ⟨hb2, h⟩
      · cases h
        exact pd_b1
      · obtain ⟨hc4, h⟩ := pd_chk h
        exact ih _ _ _ _  h
def d_Re_append (w : Nat) (l1 : Int64) (l3 : Int32) (v : pd_V) : Option (Int32 × pd_V) :=
  bif decide (l3 ≤ ((160 : Int32) - (v 1 1))) then
    d_Re_append_19 w w l1 (l3 - (1 : Int32)) v
  else
    some ((0 : Int32), v)
theorem s_Re_append {w : Nat} {l1 : Int64} {l3 : Int32} {v : pd_V} {q : (Int32 × pd_V)}  (h : d_Re_append w l1 l3 v = some q) : pm_ev (pj_P xs L) (d + 1) 43 (0, [some (.ref 1), some (.long l1), none, some (.int l3), none], [], (223, kc, ks, pd_H g v)) (.inl (some (.int q.1)), (223, kc, ks, pd_H g q.2)) := by
  unfold d_Re_append at h
  refine ev_gos pp_Re_append 5 (S' := (9, [some (.ref 1), some (.long l1), none, some (.int l3), none], [.int ((160 : Int32) - (v 1 1)), .int l3], (223, kc, ks, pd_H g v))) rfl ?_
  refine ev_gos pp_Re_append 1 (S' := (bif decide (l3 ≤ ((160 : Int32) - (v 1 1))) then 14 else 12, [some (.ref 1), some (.long l1), none, some (.int l3), none], [], (223, kc, ks, pd_H g v))) rfl ?_
  rcases pd_cases h with ⟨hb1, h⟩ | ⟨hb1, h⟩
  · rw [hb1]
    refine ev_gos pp_Re_append 4 (S' := (19, [some (.ref 1), some (.long l1), none, some (.int l3), some (.int (l3 - (1 : Int32)))], [], (223, kc, ks, pd_H g v))) rfl ?_
    exact s_Re_append_19 _ _ _ _ _ _  h
  · rw [hb1]
    refine ev_gos pp_Re_append 1 (S' := (13, [some (.ref 1), some (.long l1), none, some (.int l3), none], [.int (0 : Int32)], (223, kc, ks, pd_H g v))) rfl ?_
    cases h
    exact ev_zret pp_Re_append rfl pd_b0
theorem z_Re_append {w : Nat} {l1 : Int64} {l3 : Int32} {v : pd_V} {q : (Int32 × pd_V)}  (h : d_Re_append w l1 l3 v = some q) : (q.1 == 0 || q.1 == 1) = true := by
  unfold d_Re_append at h
  rcases pd_cases h with ⟨hb1, h⟩ | ⟨hb1, h⟩
  · exact s_Re_append_19z _ _ _ _ _  h
  · cases h
    exact pd_b0
theorem pp_De_type {xs : Nat → Int32} {L : Nat} : (pj_P xs L 40).1 = fun S => pm_look tb_De_type S.1 S := rfl
def d_De_type (w : Nat) (l1 : Int64) (l3 : Int32) (v : pd_V) : Option ((Int32 ⊕ Nat) × pd_V) :=
  bif decide (l3 < (1 : Int32)) then
    some (Sum.inr 0, v)
  else
    bif decide ((8 : Int32) < l3) then
      some (Sum.inr 0, v)
    else
      (d_De_isTypable w l1 l3 v).bind fun q3 =>
      bif !(decide (q3 = 0)) then
        (d_Re_append w l1 l3 v).bind fun q5 =>
        bif !(decide (q5.1 = 0)) then
          some (Sum.inl (q5.2 1 1), q5.2)
        else
          some (Sum.inr 1, q5.2)
      else
        some (Sum.inr 0, v)
theorem s_De_type {w : Nat} {l1 : Int64} {l3 : Int32} {v : pd_V} {q : ((Int32 ⊕ Nat) × pd_V)}  (h : d_De_type w l1 l3 v = some q) : pm_ev (pj_P xs L) (d + 2) 40 (0, [some (.ref 0), some (.long l1), none, some (.int l3)], [], (223, kc, ks, pd_H g v)) (pd_oi q.1 kc ks g q.2) := by
  unfold d_De_type at h
  refine ev_gos pp_De_type 2 (S' := (2, [some (.ref 0), some (.long l1), none, some (.int l3)], [.int (1 : Int32), .int l3], (223, kc, ks, pd_H g v))) rfl ?_
  refine ev_gos pp_De_type 1 (S' := (bif decide (l3 < (1 : Int32)) then 19 else 5, [some (.ref 0), some (.long l1), none, some (.int l3)], [], (223, kc, ks, pd_H g v))) rfl ?_
  rcases pd_cases h with ⟨hb1, h⟩ | ⟨hb1, h⟩
  · rw [hb1]
    refine ev_gos pp_De_type 0 (S' := (19, [some (.ref 0), some (.long l1), none, some (.int l3)], [], (223, kc, ks, pd_H g v))) rfl ?_
    cases h
    exact ev_fin pp_De_type rfl
  · rw [hb1]
    refine ev_gos pp_De_type 2 (S' := (8, [some (.ref 0), some (.long l1), none, some (.int l3)], [.int (8 : Int32), .int l3], (223, kc, ks, pd_H g v))) rfl ?_
    refine ev_gos pp_De_type 1 (S' := (bif decide ((8 : Int32) < l3) then 19 else 11, [some (.ref 0), some (.long l1), none, some (.int l3)], [], (223, kc, ks, pd_H g v))) rfl ?_
    rcases pd_cases h with ⟨hb2, h⟩ | ⟨hb2, h⟩
    · rw [hb2]
      refine ev_gos pp_De_type 0 (S' := (19, [some (.ref 0), some (.long l1), none, some (.int l3)], [], (223, kc, ks, pd_H g v))) rfl ?_
      cases h
      exact ev_fin pp_De_type rfl
    · rw [hb2]
      refine ev_gos pp_De_type 2 (S' := (13, [some (.ref 0), some (.long l1), none, some (.int l3)], [.int l3, .long l1], (223, kc, ks, pd_H g v))) rfl ?_
      obtain ⟨q3, hq3, h⟩ := pd_bind h
      refine ev_call pp_De_type rfl rfl rfl (s_De_isTypable hq3) ?_
      refine ev_gos pp_De_type 0 (S' := (16, [some (.ref 0), some (.long l1), none, some (.int l3)], [.int q3], (223, kc, ks, pd_H g v))) rfl ?_
      refine ev_gos pp_De_type 1 (S' := (bif !(decide (q3 = 0)) then 29 else 19, [some (.ref 0), some (.long l1), none, some (.int l3)], [], (223, kc, ks, pd_H g v))) rfl ?_
      rcases pd_cases h with ⟨hb4, h⟩ | ⟨hb4, h⟩
      · rw [hb4]
        refine ev_gos pp_De_type 4 (S' := (35, [some (.ref 0), some (.long l1), none, some (.int l3)], [.int l3, .long l1, .ref 1], (223, kc, ks, pd_H g v))) rfl ?_
        obtain ⟨q5, hq5, h⟩ := pd_bind h
        refine ev_callv pp_De_type rfl rfl rfl rfl (s_Re_append hq5) ?_
        refine ev_gos pp_De_type 0 (S' := (38, [some (.ref 0), some (.long l1), none, some (.int l3)], [.int q5.1], (223, kc, ks, pd_H g q5.2))) rfl ?_
        refine ev_gos pp_De_type 1 (S' := (bif !(decide (q5.1 = 0)) then 51 else 41, [some (.ref 0), some (.long l1), none, some (.int l3)], [], (223, kc, ks, pd_H g q5.2))) rfl ?_
        rcases pd_cases h with ⟨hb6, h⟩ | ⟨hb6, h⟩
        · rw [hb6]
          refine ev_gos pp_De_type 3 (S' := (58, [some (.ref 0), some (.long l1), none, some (.int l3)], [.int (q5.2 1 1)], (223, kc, ks, pd_H g q5.2))) rfl ?_
          cases h
          exact ev_fin pp_De_type rfl
        · rw [hb6]
          refine ev_gos pp_De_type 0 (S' := (41, [some (.ref 0), some (.long l1), none, some (.int l3)], [], (223, kc, ks, pd_H g q5.2))) rfl ?_
          cases h
          exact ev_fin pp_De_type rfl
      · rw [hb4]
        refine ev_gos pp_De_type 0 (S' := (19, [some (.ref 0), some (.long l1), none, some (.int l3)], [], (223, kc, ks, pd_H g v))) rfl ?_
        cases h
        exact ev_fin pp_De_type rfl
theorem pp_De_needKernel {xs : Nat → Int32} {L : Nat} : (pj_P xs L 45).1 = fun S => pm_look tb_De_needKernel S.1 S := rfl
def d_De_needKernel  (v : pd_V) : Option (Option Nat) :=
  bif !(decide ((v 0 2) = 0)) then
    some none
  else
    some (some 1)
theorem s_De_needKernel  {v : pd_V} {q : Option Nat}  (h : d_De_needKernel v = some q) : pm_ev (pj_P xs L) d 45 (0, [some (.ref 0)], [], (223, kc, ks, pd_H g v)) (pd_ov q kc ks g v) := by
  unfold d_De_needKernel at h
  refine ev_gos pp_De_needKernel 2 (S' := (4, [some (.ref 0)], [.int (v 0 2)], (223, kc, ks, pd_H g v))) rfl ?_
  refine ev_gos pp_De_needKernel 1 (S' := (bif !(decide ((v 0 2) = 0)) then 17 else 7, [some (.ref 0)], [], (223, kc, ks, pd_H g v))) rfl ?_
  rcases pd_cases h with ⟨hb1, h⟩ | ⟨hb1, h⟩
  · rw [hb1]
    refine ev_gos pp_De_needKernel 0 (S' := (17, [some (.ref 0)], [], (223, kc, ks, pd_H g v))) rfl ?_
    cases h
    exact ev_fin pp_De_needKernel rfl
  · rw [hb1]
    refine ev_gos pp_De_needKernel 0 (S' := (7, [some (.ref 0)], [], (223, kc, ks, pd_H g v))) rfl ?_
    cases h
    exact ev_fin pp_De_needKernel rfl
theorem pp_De_isIn {xs : Nat → Int32} {L : Nat} : (pj_P xs L 46).1 = fun S => pm_look tb_De_isIn S.1 S := rfl
def d_De_isIn (l0 : Int32) (l1 : Int32)  : Int32 :=
  bif decide (((l0 >>> (l1 &&& 31)) &&& (1 : Int32)) = 0) then
    (0 : Int32)
  else
    (1 : Int32)
theorem s_De_isIn {l0 : Int32} {l1 : Int32} {v : pd_V}  : pm_ev (pj_P xs L) d 46 (0, [some (.int l0), some (.int l1)], [], (223, kc, ks, pd_H g v)) (.inl (some (.int (d_De_isIn l0 l1))), (223, kc, ks, pd_H g v)) := by
  unfold d_De_isIn
  refine ev_gos pp_De_isIn 5 (S' := (5, [some (.int l0), some (.int l1)], [.int ((l0 >>> (l1 &&& 31)) &&& (1 : Int32))], (223, kc, ks, pd_H g v))) rfl ?_
  refine ev_gos pp_De_isIn 1 (S' := (bif decide (((l0 >>> (l1 &&& 31)) &&& (1 : Int32)) = 0) then 12 else 8, [some (.int l0), some (.int l1)], [], (223, kc, ks, pd_H g v))) rfl ?_
  cases hb1 : (decide (((l0 >>> (l1 &&& 31)) &&& (1 : Int32)) = 0))
  · refine ev_gos pp_De_isIn 2 (S' := (13, [some (.int l0), some (.int l1)], [.int (1 : Int32)], (223, kc, ks, pd_H g v))) rfl ?_
    exact ev_zret pp_De_isIn rfl pd_b1
  · refine ev_gos pp_De_isIn 1 (S' := (13, [some (.int l0), some (.int l1)], [.int (0 : Int32)], (223, kc, ks, pd_H g v))) rfl ?_
    exact ev_zret pp_De_isIn rfl pd_b0
theorem z_De_isIn {l0 : Int32} {l1 : Int32}   : (d_De_isIn l0 l1 == 0 || d_De_isIn l0 l1 == 1) = true := by
  unfold d_De_isIn
  cases hb1 : (decide (((l0 >>> (l1 &&& 31)) &&& (1 : Int32)) = 0))
  · exact pd_b1
  · exact pd_b0
theorem pp_De_varies {xs : Nat → Int32} {L : Nat} : (pj_P xs L 44).1 = fun S => pm_look tb_De_varies S.1 S := rfl
def d_De_varies (l1 : Int32) (v : pd_V) : Option (Int32 ⊕ Nat) :=
  (d_De_needKernel v).bind fun q1 => Option.elim q1 (
  bif decide (l1 < 0) then
    some (Sum.inr 0)
  else
    bif decide (l1 < (8 : Int32)) then
      some (Sum.inl (d_De_isIn (v (kerOf (v 0 1)) 5) l1))
    else
      some (Sum.inr 0)) (fun xq1 => some (Sum.inr xq1))
theorem s_De_varies {l1 : Int32} {v : pd_V} {q : (Int32 ⊕ Nat)}  (h : d_De_varies l1 v = some q) : pm_ev (pj_P xs L) (d + 1) 44 (0, [some (.ref 0), some (.int l1)], [], (223, kc, ks, pd_H g v)) (pd_oi q kc ks g v) := by
  unfold d_De_varies at h
  refine ev_gos pp_De_varies 1 (S' := (1, [some (.ref 0), some (.int l1)], [.ref 0], (223, kc, ks, pd_H g v))) rfl ?_
  obtain ⟨q1, hq1, h⟩ := pd_bind h
  have evq1 := s_De_needKernel (xs := xs) (L := L) (g := g) (d := d + 0) (kc := kc) (ks := ks) hq1
  rcases pd_elimv h with ⟨eq1, h⟩ | ⟨xq1, eq1, h⟩
  · rw [eq1] at evq1
    refine ev_callv pp_De_varies rfl rfl rfl rfl evq1 ?_
    refine ev_gos pp_De_varies 1 (S' := (5, [some (.ref 0), some (.int l1)], [.int l1], (223, kc, ks, pd_H g v))) rfl ?_
    refine ev_gos pp_De_varies 1 (S' := (bif decide (l1 < 0) then 14 else 8, [some (.ref 0), some (.int l1)], [], (223, kc, ks, pd_H g v))) rfl ?_
    rcases pd_cases h with ⟨hb2, h⟩ | ⟨hb2, h⟩
    · rw [hb2]
      refine ev_gos pp_De_varies 0 (S' := (14, [some (.ref 0), some (.int l1)], [], (223, kc, ks, pd_H g v))) rfl ?_
      cases h
      exact ev_fin pp_De_varies rfl
    · rw [hb2]
      refine ev_gos pp_De_varies 2 (S' := (11, [some (.ref 0), some (.int l1)], [.int (8 : Int32), .int l1], (223, kc, ks, pd_H g v))) rfl ?_
      refine ev_gos pp_De_varies 1 (S' := (bif decide (l1 < (8 : Int32)) then 24 else 14, [some (.ref 0), some (.int l1)], [], (223, kc, ks, pd_H g v))) rfl ?_
      rcases pd_cases h with ⟨hb3, h⟩ | ⟨hb3, h⟩
      · rw [hb3]
        refine ev_gos pp_De_varies 2 (S' := (28, [some (.ref 0), some (.int l1)], [.ref (kerOf (v 0 1))], (223, kc, ks, pd_H g v))) rfl ?_
        refine ev_get pp_De_varies rfl (c_ke (ker_of _)) rfl ?_
        refine ev_gos pp_De_varies 1 (S' := (32, [some (.ref 0), some (.int l1)], [.int l1, .int (v (kerOf (v 0 1)) 5)], (223, kc, ks, pd_H g v))) rfl ?_
        refine ev_call pp_De_varies rfl rfl rfl (s_De_isIn) ?_
        refine ev_gos pp_De_varies 0 (S' := (35, [some (.ref 0), some (.int l1)], [.int (d_De_isIn (v (kerOf (v 0 1)) 5) l1)], (223, kc, ks, pd_H g v))) rfl ?_
        cases h
        exact ev_zret pp_De_varies rfl (z_De_isIn )
      · rw [hb3]
        refine ev_gos pp_De_varies 0 (S' := (14, [some (.ref 0), some (.int l1)], [], (223, kc, ks, pd_H g v))) rfl ?_
        cases h
        exact ev_fin pp_De_varies rfl
  · cases h
    rw [eq1] at evq1
    exact ev_callvX pp_De_varies rfl rfl rfl rfl evq1 rfl
theorem pp_De_needNothingUnderWay {xs : Nat → Int32} {L : Nat} : (pj_P xs L 48).1 = fun S => pm_look tb_De_needNothingUnderWay S.1 S := rfl
def d_De_needNothingUnderWay  (v : pd_V) : Option (Option Nat) :=
  bif decide ((v 173 1) = 0) then
    some none
  else
    bif !(decide ((v 173 2) = 0)) then
      some none
    else
      some (some 1)
theorem s_De_needNothingUnderWay  {v : pd_V} {q : Option Nat}  (h : d_De_needNothingUnderWay v = some q) : pm_ev (pj_P xs L) d 48 (0, [some (.ref 0)], [], (223, kc, ks, pd_H g v)) (pd_ov q kc ks g v) := by
  unfold d_De_needNothingUnderWay at h
  refine ev_gos pp_De_needNothingUnderWay 3 (S' := (7, [some (.ref 0)], [.int (v 173 1)], (223, kc, ks, pd_H g v))) rfl ?_
  refine ev_gos pp_De_needNothingUnderWay 1 (S' := (bif decide ((v 173 1) = 0) then 30 else 10, [some (.ref 0)], [], (223, kc, ks, pd_H g v))) rfl ?_
  rcases pd_cases h with ⟨hb1, h⟩ | ⟨hb1, h⟩
  · rw [hb1]
    refine ev_gos pp_De_needNothingUnderWay 0 (S' := (30, [some (.ref 0)], [], (223, kc, ks, pd_H g v))) rfl ?_
    cases h
    exact ev_fin pp_De_needNothingUnderWay rfl
  · rw [hb1]
    refine ev_gos pp_De_needNothingUnderWay 3 (S' := (17, [some (.ref 0)], [.int (v 173 2)], (223, kc, ks, pd_H g v))) rfl ?_
    refine ev_gos pp_De_needNothingUnderWay 1 (S' := (bif !(decide ((v 173 2) = 0)) then 30 else 20, [some (.ref 0)], [], (223, kc, ks, pd_H g v))) rfl ?_
    rcases pd_cases h with ⟨hb2, h⟩ | ⟨hb2, h⟩
    · rw [hb2]
      refine ev_gos pp_De_needNothingUnderWay 0 (S' := (30, [some (.ref 0)], [], (223, kc, ks, pd_H g v))) rfl ?_
      cases h
      exact ev_fin pp_De_needNothingUnderWay rfl
    · rw [hb2]
      refine ev_gos pp_De_needNothingUnderWay 0 (S' := (20, [some (.ref 0)], [], (223, kc, ks, pd_H g v))) rfl ?_
      cases h
      exact ev_fin pp_De_needNothingUnderWay rfl
theorem pp_De_input {xs : Nat → Int32} {L : Nat} : (pj_P xs L 47).1 = fun S => pm_look tb_De_input S.1 S := rfl
def d_De_input (l1 : Int32) (l2 : Int32) (v : pd_V) : Option (Option Nat × pd_V) :=
  bif decide (l1 < 0) then
    some (some 0, v)
  else
    bif decide (l1 < (16 : Int32)) then
      (d_De_needNothingUnderWay v).bind fun q3 => Option.elim q3 (
      bif pm_in l1 16 then
      some (none, (pd_w v 172 l1.toNatClampNeg l2))
      else none) (fun xq3 => some (some xq3, v))
    else
      some (some 0, v)
theorem s_De_input {l1 : Int32} {l2 : Int32} {v : pd_V} {q : (Option Nat × pd_V)}  (h : d_De_input l1 l2 v = some q) : pm_ev (pj_P xs L) (d + 1) 47 (0, [some (.ref 0), some (.int l1), some (.int l2)], [], (223, kc, ks, pd_H g v)) (pd_ov q.1 kc ks g q.2) := by
  unfold d_De_input at h
  refine ev_gos pp_De_input 1 (S' := (1, [some (.ref 0), some (.int l1), some (.int l2)], [.int l1], (223, kc, ks, pd_H g v))) rfl ?_
  refine ev_gos pp_De_input 1 (S' := (bif decide (l1 < 0) then 10 else 4, [some (.ref 0), some (.int l1), some (.int l2)], [], (223, kc, ks, pd_H g v))) rfl ?_
  rcases pd_cases h with ⟨hb1, h⟩ | ⟨hb1, h⟩
  · rw [hb1]
    refine ev_gos pp_De_input 0 (S' := (10, [some (.ref 0), some (.int l1), some (.int l2)], [], (223, kc, ks, pd_H g v))) rfl ?_
    cases h
    exact ev_fin pp_De_input rfl
  · rw [hb1]
    refine ev_gos pp_De_input 2 (S' := (7, [some (.ref 0), some (.int l1), some (.int l2)], [.int (16 : Int32), .int l1], (223, kc, ks, pd_H g v))) rfl ?_
    refine ev_gos pp_De_input 1 (S' := (bif decide (l1 < (16 : Int32)) then 20 else 10, [some (.ref 0), some (.int l1), some (.int l2)], [], (223, kc, ks, pd_H g v))) rfl ?_
    rcases pd_cases h with ⟨hb2, h⟩ | ⟨hb2, h⟩
    · rw [hb2]
      refine ev_gos pp_De_input 1 (S' := (21, [some (.ref 0), some (.int l1), some (.int l2)], [.ref 0], (223, kc, ks, pd_H g v))) rfl ?_
      obtain ⟨q3, hq3, h⟩ := pd_bind h
      have evq3 := s_De_needNothingUnderWay (xs := xs) (L := L) (g := g) (d := d + 0) (kc := kc) (ks := ks) hq3
      rcases pd_elimv h with ⟨eq3, h⟩ | ⟨xq3, eq3, h⟩
      · rw [eq3] at evq3
        refine ev_callv pp_De_input rfl rfl rfl rfl evq3 ?_
        refine ev_gos pp_De_input 4 (S' := (30, [some (.ref 0), some (.int l1), some (.int l2)], [.int l2, .int l1, .ref 172], (223, kc, ks, pd_H g v))) rfl ?_
        obtain ⟨hc4, h⟩ := pd_chk h
        refine ev_iast pp_De_input rfl (fun _ => rfl) hc4 ?_
        refine ev_gos pp_De_input 0 (S' := (31, [some (.ref 0), some (.int l1), some (.int l2)], [], (223, kc, ks, pd_H g (pd_w v 172 l1.toNatClampNeg l2)))) rfl ?_
        cases h
        exact ev_fin pp_De_input rfl
      · cases h
        rw [eq3] at evq3
        exact ev_callvX pp_De_input rfl rfl rfl rfl evq3 rfl
    · rw [hb2]
      refine ev_gos pp_De_input 0 (S' := (10, [some (.ref 0), some (.int l1), some (.int l2)], [], (223, kc, ks, pd_H g v))) rfl ?_
      cases h
      exact ev_fin pp_De_input rfl
theorem pp_De_lanes {xs : Nat → Int32} {L : Nat} : (pj_P xs L 49).1 = fun S => pm_look tb_De_lanes S.1 S := rfl
def d_De_lanes (l1 : Int32) (v : pd_V) : Option (Option Nat × pd_V) :=
  bif decide (l1 < (1 : Int32)) then
    some (some 0, v)
  else
    bif decide (l1 ≤ (8 : Int32)) then
      (d_De_needNothingUnderWay v).bind fun q3 => Option.elim q3 (
      some (none, (pd_w v 0 5 l1))) (fun xq3 => some (some xq3, v))
    else
      some (some 0, v)
theorem s_De_lanes {l1 : Int32} {v : pd_V} {q : (Option Nat × pd_V)}  (h : d_De_lanes l1 v = some q) : pm_ev (pj_P xs L) (d + 1) 49 (0, [some (.ref 0), some (.int l1)], [], (223, kc, ks, pd_H g v)) (pd_ov q.1 kc ks g q.2) := by
  unfold d_De_lanes at h
  refine ev_gos pp_De_lanes 2 (S' := (2, [some (.ref 0), some (.int l1)], [.int (1 : Int32), .int l1], (223, kc, ks, pd_H g v))) rfl ?_
  refine ev_gos pp_De_lanes 1 (S' := (bif decide (l1 < (1 : Int32)) then 11 else 5, [some (.ref 0), some (.int l1)], [], (223, kc, ks, pd_H g v))) rfl ?_
  rcases pd_cases h with ⟨hb1, h⟩ | ⟨hb1, h⟩
  · rw [hb1]
    refine ev_gos pp_De_lanes 0 (S' := (11, [some (.ref 0), some (.int l1)], [], (223, kc, ks, pd_H g v))) rfl ?_
    cases h
    exact ev_fin pp_De_lanes rfl
  · rw [hb1]
    refine ev_gos pp_De_lanes 2 (S' := (8, [some (.ref 0), some (.int l1)], [.int (8 : Int32), .int l1], (223, kc, ks, pd_H g v))) rfl ?_
    refine ev_gos pp_De_lanes 1 (S' := (bif decide (l1 ≤ (8 : Int32)) then 21 else 11, [some (.ref 0), some (.int l1)], [], (223, kc, ks, pd_H g v))) rfl ?_
    rcases pd_cases h with ⟨hb2, h⟩ | ⟨hb2, h⟩
    · rw [hb2]
      refine ev_gos pp_De_lanes 1 (S' := (22, [some (.ref 0), some (.int l1)], [.ref 0], (223, kc, ks, pd_H g v))) rfl ?_
      obtain ⟨q3, hq3, h⟩ := pd_bind h
      have evq3 := s_De_needNothingUnderWay (xs := xs) (L := L) (g := g) (d := d + 0) (kc := kc) (ks := ks) hq3
      rcases pd_elimv h with ⟨eq3, h⟩ | ⟨xq3, eq3, h⟩
      · rw [eq3] at evq3
        refine ev_callv pp_De_lanes rfl rfl rfl rfl evq3 ?_
        refine ev_gos pp_De_lanes 2 (S' := (27, [some (.ref 0), some (.int l1)], [.int l1, .ref 0], (223, kc, ks, pd_H g v))) rfl ?_
        refine ev_put pp_De_lanes rfl (fun _ => rfl) rfl rfl rfl ?_
        refine ev_gos pp_De_lanes 0 (S' := (30, [some (.ref 0), some (.int l1)], [], (223, kc, ks, pd_H g (pd_w v 0 5 l1)))) rfl ?_
        cases h
        exact ev_fin pp_De_lanes rfl
      · cases h
        rw [eq3] at evq3
        exact ev_callvX pp_De_lanes rfl rfl rfl rfl evq3 rfl
    · rw [hb2]
      refine ev_gos pp_De_lanes 0 (S' := (11, [some (.ref 0), some (.int l1)], [], (223, kc, ks, pd_H g v))) rfl ?_
      cases h
      exact ev_fin pp_De_lanes rfl
theorem pp_Arr_fill {xs : Nat → Int32} {L : Nat} : (pj_P xs L 53).1 = fun S => pm_look tb_Arr_fill S.1 S := rfl
def d_Arr_fill_5 (w : Nat) (f : Nat) (l0 : Nat) (nl0 : Nat) (l1 : Int32) (l2 : Int32) (l3 : Int32) (v : pd_V) : Option pd_V := match f with
  | 0 => none
  | f + 1 =>
    bif decide (l3 ≤ l2) then
      some v
    else
      bif pm_in l2 nl0 then
      d_Arr_fill_5 w f l0 nl0 l1 (l2 + (1 : Int32)) l3 (pd_w v l0 l2.toNatClampNeg l1)
      else none
theorem s_Arr_fill_5 {w : Nat} : ∀ (f : Nat) (l0 : Nat) (nl0 : Nat) (l1 : Int32) (l2 : Int32) (l3 : Int32) (v : pd_V)  (q : pd_V) (hl0 : pd_ai g l0 nl0), d_Arr_fill_5 w f l0 nl0 l1 l2 l3 v = some q → pm_ev (pj_P xs L) d 53 (5, [some (.ref l0), some (.int l1), some (.int l2), some (.int l3)], [], (223, kc, ks, pd_H g v)) (.inl none, (223, kc, ks, pd_H g q)) := by
  intro f
  induction f with
  | zero => intro l0 nl0 l1 l2 l3 v q hl0 h; exact nomatch (show (none : Option pd_V) = some q from h)
  | succ f ih =>
    intro l0 nl0 l1 l2 l3 v q hl0 h
    rw [d_Arr_fill_5] at h
    refine ev_gos pp_Arr_fill 2 (S' := (7, [some (.ref l0), some (.int l1), some (.int l2), some (.int l3)], [.int l3, .int l2], (223, kc, ks, pd_H g v))) rfl ?_
    refine ev_gos pp_Arr_fill 1 (S' := (bif decide (l3 ≤ l2) then 20 else 10, [some (.ref l0), some (.int l1), some (.int l2), some (.int l3)], [], (223, kc, ks, pd_H g v))) rfl ?_
    rcases pd_cases h with ⟨hb1, h⟩ | ⟨hb1, h⟩
    · rw [hb1]
      refine ev_gos pp_Arr_fill 0 (S' := (20, [some (.ref l0), some (.int l1), some (.int l2), some (.int l3)], [], (223, kc, ks, pd_H g v))) rfl ?_
      cases h
      exact ev_fin pp_Arr_fill rfl
    · rw [hb1]
      refine ev_gos pp_Arr_fill 3 (S' := (13, [some (.ref l0), some (.int l1), some (.int l2), some (.int l3)], [.int l1, .int l2, .ref l0], (223, kc, ks, pd_H g v))) rfl ?_
      obtain ⟨hc2, h⟩ := pd_chk h
      refine ev_iast pp_Arr_fill rfl hl0 hc2 ?_
      refine ev_gos pp_Arr_fill 2 (S' := (5, [some (.ref l0), some (.int l1), some (.int (l2 + (1 : Int32))), some (.int l3)], [], (223, kc, ks, pd_H g (pd_w v l0 l2.toNatClampNeg l1)))) rfl ?_
      exact ih _ _ _ _ _ _ _ hl0 h
def d_Arr_fill (w : Nat) (l0 : Nat) (nl0 : Nat) (l1 : Int32) (v : pd_V) : Option pd_V :=
  d_Arr_fill_5 w w l0 nl0 l1 (0 : Int32) (Int32.ofNat nl0) v
theorem s_Arr_fill {w : Nat} {l0 : Nat} {nl0 : Nat} {l1 : Int32} {v : pd_V} {q : pd_V} (hl0 : pd_ai g l0 nl0) (h : d_Arr_fill w l0 nl0 l1 v = some q) : pm_ev (pj_P xs L) d 53 (0, [some (.ref l0), some (.int l1), none, none], [], (223, kc, ks, pd_H g v)) (.inl none, (223, kc, ks, pd_H g q)) := by
  unfold d_Arr_fill at h
  refine ev_gos pp_Arr_fill 3 (S' := (3, [some (.ref l0), some (.int l1), some (.int (0 : Int32)), none], [.ref l0], (223, kc, ks, pd_H g v))) rfl ?_
  refine ev_alen pp_Arr_fill rfl hl0 ?_
  refine ev_gos pp_Arr_fill 1 (S' := (5, [some (.ref l0), some (.int l1), some (.int (0 : Int32)), some (.int (Int32.ofNat nl0))], [], (223, kc, ks, pd_H g v))) rfl ?_
  exact s_Arr_fill_5 _ _ _ _ _ _ _ _ hl0 h
theorem pp_Cr_gather {xs : Nat → Int32} {L : Nat} : (pj_P xs L 52).1 = fun S => pm_look tb_Cr_gather S.1 S := rfl
def d_Cr_gather (w : Nat) (l0 : Nat) (l1 : Nat) (nl1 : Nat) (l2 : Int32) (v : pd_V) : Option pd_V :=
  bif ((!(decide ((0 : Int32) < 0)) && (!(decide ((0 : Int32) < 0)) && !(decide ((d_Mat_min (Int32.ofNat nl1) (16 : Int32)) < 0)))) && (Nat.ble ((0 : Int32).toNatClampNeg + (d_Mat_min (Int32.ofNat nl1) (16 : Int32)).toNatClampNeg) nl1 && Nat.ble ((0 : Int32).toNatClampNeg + (d_Mat_min (Int32.ofNat nl1) (16 : Int32)).toNatClampNeg) 16)) then
  (d_Arr_fill w (l0 + 2) 64 (0 : Int32) (va_up v (l0 + 1) (va_cpy (v l1) (v (l0 + 1)) (0 : Int32).toNatClampNeg (0 : Int32).toNatClampNeg (d_Mat_min (Int32.ofNat nl1) (16 : Int32)).toNatClampNeg))).bind fun q3 =>
  (d_Arr_fill w (l0 + 3) 64 (0 : Int32) q3).bind fun q4 =>
  (d_Arr_fill w (l0 + 5) 8 (0 : Int32) q4).bind fun q5 =>
  (d_Arr_fill w (l0 + 6) 8 (0 : Int32) q5).bind fun q6 =>
  some (pd_w q6 l0 10 ((255 : Int32) &&& ((((1 : Int32) <<< (l2 &&& 31)) - (1 : Int32)) ^^^ (-1 : Int32))))
  else none
theorem s_Cr_gather {w : Nat} {l0 : Nat} {l1 : Nat} {nl1 : Nat} {l2 : Int32} {v : pd_V} {q : pd_V} (hl0 : crw l0) (hl1 : pd_ai g l1 nl1) (h : d_Cr_gather w l0 l1 nl1 l2 v = some q) : pm_ev (pj_P xs L) (d + 1) 52 (0, [some (.ref l0), some (.ref l1), some (.int l2)], [], (223, kc, ks, pd_H g v)) (.inl none, (223, kc, ks, pd_H g q)) := by
  unfold d_Cr_gather at h
  refine ev_gos pp_Cr_gather 3 (S' := (3, [some (.ref l0), some (.ref l1), some (.int l2)], [.ref l0, .int (0 : Int32), .ref l1], (223, kc, ks, pd_H g v))) rfl ?_
  refine ev_get pp_Cr_gather rfl (c_cr hl0) rfl ?_
  refine ev_gos pp_Cr_gather 2 (S' := (8, [some (.ref l0), some (.ref l1), some (.int l2)], [.ref l1, .int (0 : Int32), .ref (l0 + 1), .int (0 : Int32), .ref l1], (223, kc, ks, pd_H g v))) rfl ?_
  refine ev_alen pp_Cr_gather rfl hl1 ?_
  refine ev_gos pp_Cr_gather 1 (S' := (11, [some (.ref l0), some (.ref l1), some (.int l2)], [.int (16 : Int32), .int (Int32.ofNat nl1), .int (0 : Int32), .ref (l0 + 1), .int (0 : Int32), .ref l1], (223, kc, ks, pd_H g v))) rfl ?_
  refine ev_call pp_Cr_gather rfl rfl rfl (s_Mat_min) ?_
  refine ev_gos pp_Cr_gather 0 (S' := (14, [some (.ref l0), some (.ref l1), some (.int l2)], [.int (d_Mat_min (Int32.ofNat nl1) (16 : Int32)), .int (0 : Int32), .ref (l0 + 1), .int (0 : Int32), .ref l1], (223, kc, ks, pd_H g v))) rfl ?_
  obtain ⟨hc2, h⟩ := pd_chk h
  refine ev_copy pp_Cr_gather rfl hl1 (c_cr1 hl0) hc2 rfl ?_
  refine ev_gos pp_Cr_gather 1 (S' := (18, [some (.ref l0), some (.ref l1), some (.int l2)], [.ref l0], (223, kc, ks, pd_H g (va_up v (l0 + 1) (va_cpy (v l1) (v (l0 + 1)) (0 : Int32).toNatClampNeg (0 : Int32).toNatClampNeg (d_Mat_min (Int32.ofNat nl1) (16 : Int32)).toNatClampNeg))))) rfl ?_
  refine ev_get pp_Cr_gather rfl (c_cr hl0) rfl ?_
  refine ev_gos pp_Cr_gather 1 (S' := (22, [some (.ref l0), some (.ref l1), some (.int l2)], [.int (0 : Int32), .ref (l0 + 2)], (223, kc, ks, pd_H g (va_up v (l0 + 1) (va_cpy (v l1) (v (l0 + 1)) (0 : Int32).toNatClampNeg (0 : Int32).toNatClampNeg (d_Mat_min (Int32.ofNat nl1) (16 : Int32)).toNatClampNeg))))) rfl ?_
  obtain ⟨q3, hq3, h⟩ := pd_bind h
  refine ev_call pp_Cr_gather rfl rfl rfl (s_Arr_fill (c_cr2 hl0) hq3) ?_
  refine ev_gos pp_Cr_gather 1 (S' := (26, [some (.ref l0), some (.ref l1), some (.int l2)], [.ref l0], (223, kc, ks, pd_H g q3))) rfl ?_
  refine ev_get pp_Cr_gather rfl (c_cr hl0) rfl ?_
  refine ev_gos pp_Cr_gather 1 (S' := (30, [some (.ref l0), some (.ref l1), some (.int l2)], [.int (0 : Int32), .ref (l0 + 3)], (223, kc, ks, pd_H g q3))) rfl ?_
  obtain ⟨q4, hq4, h⟩ := pd_bind h
  refine ev_call pp_Cr_gather rfl rfl rfl (s_Arr_fill (c_cr3 hl0) hq4) ?_
  refine ev_gos pp_Cr_gather 1 (S' := (34, [some (.ref l0), some (.ref l1), some (.int l2)], [.ref l0], (223, kc, ks, pd_H g q4))) rfl ?_
  refine ev_get pp_Cr_gather rfl (c_cr hl0) rfl ?_
  refine ev_gos pp_Cr_gather 1 (S' := (38, [some (.ref l0), some (.ref l1), some (.int l2)], [.int (0 : Int32), .ref (l0 + 5)], (223, kc, ks, pd_H g q4))) rfl ?_
  obtain ⟨q5, hq5, h⟩ := pd_bind h
  refine ev_call pp_Cr_gather rfl rfl rfl (s_Arr_fill (c_cr5 hl0) hq5) ?_
  refine ev_gos pp_Cr_gather 1 (S' := (42, [some (.ref l0), some (.ref l1), some (.int l2)], [.ref l0], (223, kc, ks, pd_H g q5))) rfl ?_
  refine ev_get pp_Cr_gather rfl (c_cr hl0) rfl ?_
  refine ev_gos pp_Cr_gather 1 (S' := (46, [some (.ref l0), some (.ref l1), some (.int l2)], [.int (0 : Int32), .ref (l0 + 6)], (223, kc, ks, pd_H g q5))) rfl ?_
  obtain ⟨q6, hq6, h⟩ := pd_bind h
  refine ev_call pp_Cr_gather rfl rfl rfl (s_Arr_fill (c_cr6 hl0) hq6) ?_
  refine ev_gos pp_Cr_gather 10 (S' := (61, [some (.ref l0), some (.ref l1), some (.int l2)], [.int ((255 : Int32) &&& ((((1 : Int32) <<< (l2 &&& 31)) - (1 : Int32)) ^^^ (-1 : Int32))), .ref l0], (223, kc, ks, pd_H g q6))) rfl ?_
  refine ev_put pp_Cr_gather rfl (c_cr hl0) rfl rfl rfl ?_
  refine ev_gos pp_Cr_gather 0 (S' := (64, [some (.ref l0), some (.ref l1), some (.int l2)], [], (223, kc, ks, pd_H g (pd_w q6 l0 10 ((255 : Int32) &&& ((((1 : Int32) <<< (l2 &&& 31)) - (1 : Int32)) ^^^ (-1 : Int32))))))) rfl ?_
  cases h
  exact ev_fin pp_Cr_gather rfl
theorem pp_St_isIssued {xs : Nat → Int32} {L : Nat} : (pj_P xs L 55).1 = fun S => pm_look tb_St_isIssued S.1 S := rfl
def d_St_isIssued (l0 : Nat) (v : pd_V) : Int32 :=
  bif decide ((7 : Int32) ≤ (v l0 0)) then
    (0 : Int32)
  else
    (1 : Int32)
theorem s_St_isIssued {l0 : Nat} {v : pd_V} (hl0 : stp l0) : pm_ev (pj_P xs L) d 55 (0, [some (.ref l0)], [], (223, kc, ks, pd_H g v)) (.inl (some (.int (d_St_isIssued l0 v))), (223, kc, ks, pd_H g v)) := by
  unfold d_St_isIssued
  refine ev_gos pp_St_isIssued 1 (S' := (1, [some (.ref l0)], [.ref l0], (223, kc, ks, pd_H g v))) rfl ?_
  refine ev_get pp_St_isIssued rfl (c_st hl0) rfl ?_
  refine ev_gos pp_St_isIssued 1 (S' := (6, [some (.ref l0)], [.int (7 : Int32), .int (v l0 0)], (223, kc, ks, pd_H g v))) rfl ?_
  refine ev_gos pp_St_isIssued 1 (S' := (bif decide ((7 : Int32) ≤ (v l0 0)) then 13 else 9, [some (.ref l0)], [], (223, kc, ks, pd_H g v))) rfl ?_
  cases hb1 : (decide ((7 : Int32) ≤ (v l0 0)))
  · refine ev_gos pp_St_isIssued 2 (S' := (14, [some (.ref l0)], [.int (1 : Int32)], (223, kc, ks, pd_H g v))) rfl ?_
    exact ev_zret pp_St_isIssued rfl pd_b1
  · refine ev_gos pp_St_isIssued 1 (S' := (14, [some (.ref l0)], [.int (0 : Int32)], (223, kc, ks, pd_H g v))) rfl ?_
    exact ev_zret pp_St_isIssued rfl pd_b0
theorem z_St_isIssued {l0 : Nat} {v : pd_V} (hl0 : stp l0) : (d_St_isIssued l0 v == 0 || d_St_isIssued l0 v == 1) = true := by
  unfold d_St_isIssued
  cases hb1 : (decide ((7 : Int32) ≤ (v l0 0)))
  · exact pd_b1
  · exact pd_b0
theorem pp_To_comeTogether {xs : Nat → Int32} {L : Nat} : (pj_P xs L 57).1 = fun S => pm_look tb_To_comeTogether S.1 S := rfl
def d_To_comeTogether (l1 : Int32) (v : pd_V) : Option pd_V :=
  bif pm_in (l1 &&& (3 : Int32)) 4 then
  bif pm_in (l1 &&& (3 : Int32)) 4 then
  some (pd_w (pd_w v 173 3 ((v 184 ((l1 &&& (3 : Int32)).toNatClampNeg)) &&& ((v 174 10) ^^^ (-1 : Int32)))) 184 ((l1 &&& (3 : Int32)).toNatClampNeg) (0 : Int32))
  else none
  else none
theorem s_To_comeTogether {l1 : Int32} {v : pd_V} {q : pd_V}  (h : d_To_comeTogether l1 v = some q) : pm_ev (pj_P xs L) d 57 (0, [some (.ref 173), some (.int l1)], [], (223, kc, ks, pd_H g v)) (.inl none, (223, kc, ks, pd_H g q)) := by
  unfold d_To_comeTogether at h
  refine ev_gos pp_To_comeTogether 6 (S' := (8, [some (.ref 173), some (.int l1)], [.int (l1 &&& (3 : Int32)), .ref 184, .ref 173], (223, kc, ks, pd_H g v))) rfl ?_
  obtain ⟨hc1, h⟩ := pd_chk h
  refine ev_iald pp_To_comeTogether rfl (fun _ => rfl) hc1 ?_
  refine ev_gos pp_To_comeTogether 2 (S' := (13, [some (.ref 173), some (.int l1)], [.ref 174, .int (v 184 ((l1 &&& (3 : Int32)).toNatClampNeg)), .ref 173], (223, kc, ks, pd_H g v))) rfl ?_
  refine ev_get pp_To_comeTogether rfl (c_cr crw_174) rfl ?_
  refine ev_gos pp_To_comeTogether 3 (S' := (19, [some (.ref 173), some (.int l1)], [.int ((v 184 ((l1 &&& (3 : Int32)).toNatClampNeg)) &&& ((v 174 10) ^^^ (-1 : Int32))), .ref 173], (223, kc, ks, pd_H g v))) rfl ?_
  refine ev_put pp_To_comeTogether rfl (fun _ => rfl) rfl rfl rfl ?_
  refine ev_gos pp_To_comeTogether 6 (S' := (30, [some (.ref 173), some (.int l1)], [.int (0 : Int32), .int (l1 &&& (3 : Int32)), .ref 184], (223, kc, ks, pd_H g (pd_w v 173 3 ((v 184 ((l1 &&& (3 : Int32)).toNatClampNeg)) &&& ((v 174 10) ^^^ (-1 : Int32))))))) rfl ?_
  obtain ⟨hc2, h⟩ := pd_chk h
  refine ev_iast pp_To_comeTogether rfl (fun _ => rfl) hc2 ?_
  refine ev_gos pp_To_comeTogether 0 (S' := (31, [some (.ref 173), some (.int l1)], [], (223, kc, ks, pd_H g (pd_w (pd_w v 173 3 ((v 184 ((l1 &&& (3 : Int32)).toNatClampNeg)) &&& ((v 174 10) ^^^ (-1 : Int32)))) 184 ((l1 &&& (3 : Int32)).toNatClampNeg) (0 : Int32))))) rfl ?_
  cases h
  exact ev_fin pp_To_comeTogether rfl
theorem pp_To_passOver {xs : Nat → Int32} {L : Nat} : (pj_P xs L 56).1 = fun S => pm_look tb_To_passOver S.1 S := rfl
def d_To_passOver (l1 : Nat) (v : pd_V) : Option (Int32 × pd_V) :=
  bif decide ((v l1 0) = (5 : Int32)) then
    some (((v l1 3) + (1 : Int32)), v)
  else
    bif decide ((v l1 0) = (6 : Int32)) then
      some (((v l1 3) + (1 : Int32)), v)
    else
      bif decide ((v l1 0) = (7 : Int32)) then
        bif pm_in ((v l1 2) &&& (3 : Int32)) 4 then
        some (((v 173 6) + (1 : Int32)), (pd_w v 173 3 ((v 185 (((v l1 2) &&& (3 : Int32)).toNatClampNeg)) &&& ((v 174 10) ^^^ (-1 : Int32)))))
        else none
      else
        bif decide ((v l1 0) = (8 : Int32)) then
          (d_To_comeTogether ((v l1 2) &&& (3 : Int32)) v).bind fun q6 =>
          some (((q6 173 6) + (1 : Int32)), q6)
        else
          bif decide ((v l1 0) = (9 : Int32)) then
            bif decide ((v 173 3) = 0) then
              (d_To_comeTogether ((v l1 2) &&& (3 : Int32)) v).bind fun q9 =>
              some (((q9 173 6) + (1 : Int32)), q9)
            else
              some ((v l1 4), v)
          else
            some (((v 173 6) + (1 : Int32)), v)
theorem s_To_passOver {l1 : Nat} {v : pd_V} {q : (Int32 × pd_V)} (hl1 : stp l1) (h : d_To_passOver l1 v = some q) : pm_ev (pj_P xs L) (d + 1) 56 (0, [some (.ref 173), some (.ref l1), none], [], (223, kc, ks, pd_H g v)) (.inl (some (.int q.1)), (223, kc, ks, pd_H g q.2)) := by
  unfold d_To_passOver at h
  refine ev_gos pp_To_passOver 1 (S' := (1, [some (.ref 173), some (.ref l1), none], [.ref l1], (223, kc, ks, pd_H g v))) rfl ?_
  refine ev_get pp_To_passOver rfl (c_st hl1) rfl ?_
  refine ev_gos pp_To_passOver 4 (S' := (8, [some (.ref 173), some (.ref l1), some (.int ((v l1 2) &&& (3 : Int32)))], [.ref l1], (223, kc, ks, pd_H g v))) rfl ?_
  refine ev_get pp_To_passOver rfl (c_st hl1) rfl ?_
  refine ev_gos pp_To_passOver 0 (S' := (11, [some (.ref 173), some (.ref l1), some (.int ((v l1 2) &&& (3 : Int32)))], [.int (v l1 0)], (223, kc, ks, pd_H g v))) rfl ?_
  refine ev_gos pp_To_passOver 1 (S' := (bif decide ((v l1 0) = (5 : Int32)) then 44 else bif decide ((v l1 0) = (6 : Int32)) then 44 else bif decide ((v l1 0) = (7 : Int32)) then 51 else bif decide ((v l1 0) = (8 : Int32)) then 78 else bif decide ((v l1 0) = (9 : Int32)) then 90 else 114, [some (.ref 173), some (.ref l1), some (.int ((v l1 2) &&& (3 : Int32)))], [], (223, kc, ks, pd_H g v))) rfl ?_
  rcases pd_cases h with ⟨hb1, h⟩ | ⟨hb1, h⟩
  · rw [hb1]
    refine ev_gos pp_To_passOver 1 (S' := (45, [some (.ref 173), some (.ref l1), some (.int ((v l1 2) &&& (3 : Int32)))], [.ref l1], (223, kc, ks, pd_H g v))) rfl ?_
    refine ev_get pp_To_passOver rfl (c_st hl1) rfl ?_
    refine ev_gos pp_To_passOver 2 (S' := (50, [some (.ref 173), some (.ref l1), some (.int ((v l1 2) &&& (3 : Int32)))], [.int ((v l1 3) + (1 : Int32))], (223, kc, ks, pd_H g v))) rfl ?_
    cases h
    exact ev_fin pp_To_passOver rfl
  · rw [hb1]
    rcases pd_cases h with ⟨hb2, h⟩ | ⟨hb2, h⟩
    · rw [hb2]
      refine ev_gos pp_To_passOver 1 (S' := (45, [some (.ref 173), some (.ref l1), some (.int ((v l1 2) &&& (3 : Int32)))], [.ref l1], (223, kc, ks, pd_H g v))) rfl ?_
      refine ev_get pp_To_passOver rfl (c_st hl1) rfl ?_
      refine ev_gos pp_To_passOver 2 (S' := (50, [some (.ref 173), some (.ref l1), some (.int ((v l1 2) &&& (3 : Int32)))], [.int ((v l1 3) + (1 : Int32))], (223, kc, ks, pd_H g v))) rfl ?_
      cases h
      exact ev_fin pp_To_passOver rfl
    · rw [hb2]
      rcases pd_cases h with ⟨hb3, h⟩ | ⟨hb3, h⟩
      · rw [hb3]
        refine ev_gos pp_To_passOver 4 (S' := (57, [some (.ref 173), some (.ref l1), some (.int ((v l1 2) &&& (3 : Int32)))], [.int ((v l1 2) &&& (3 : Int32)), .ref 185, .ref 173], (223, kc, ks, pd_H g v))) rfl ?_
        obtain ⟨hc4, h⟩ := pd_chk h
        refine ev_iald pp_To_passOver rfl (fun _ => rfl) hc4 ?_
        refine ev_gos pp_To_passOver 2 (S' := (62, [some (.ref 173), some (.ref l1), some (.int ((v l1 2) &&& (3 : Int32)))], [.ref 174, .int (v 185 (((v l1 2) &&& (3 : Int32)).toNatClampNeg)), .ref 173], (223, kc, ks, pd_H g v))) rfl ?_
        refine ev_get pp_To_passOver rfl (c_cr crw_174) rfl ?_
        refine ev_gos pp_To_passOver 3 (S' := (68, [some (.ref 173), some (.ref l1), some (.int ((v l1 2) &&& (3 : Int32)))], [.int ((v 185 (((v l1 2) &&& (3 : Int32)).toNatClampNeg)) &&& ((v 174 10) ^^^ (-1 : Int32))), .ref 173], (223, kc, ks, pd_H g v))) rfl ?_
        refine ev_put pp_To_passOver rfl (fun _ => rfl) rfl rfl rfl ?_
        refine ev_gos pp_To_passOver 4 (S' := (77, [some (.ref 173), some (.ref l1), some (.int ((v l1 2) &&& (3 : Int32)))], [.int ((v 173 6) + (1 : Int32))], (223, kc, ks, pd_H g (pd_w v 173 3 ((v 185 (((v l1 2) &&& (3 : Int32)).toNatClampNeg)) &&& ((v 174 10) ^^^ (-1 : Int32))))))) rfl ?_
        cases h
        exact ev_fin pp_To_passOver rfl
      · rw [hb3]
        rcases pd_cases h with ⟨hb5, h⟩ | ⟨hb5, h⟩
        · rw [hb5]
          refine ev_gos pp_To_passOver 2 (S' := (80, [some (.ref 173), some (.ref l1), some (.int ((v l1 2) &&& (3 : Int32)))], [.int ((v l1 2) &&& (3 : Int32)), .ref 173], (223, kc, ks, pd_H g v))) rfl ?_
          obtain ⟨q6, hq6, h⟩ := pd_bind h
          refine ev_callv pp_To_passOver rfl rfl rfl rfl (s_To_comeTogether hq6) ?_
          refine ev_gos pp_To_passOver 4 (S' := (89, [some (.ref 173), some (.ref l1), some (.int ((v l1 2) &&& (3 : Int32)))], [.int ((q6 173 6) + (1 : Int32))], (223, kc, ks, pd_H g q6))) rfl ?_
          cases h
          exact ev_fin pp_To_passOver rfl
        · rw [hb5]
          rcases pd_cases h with ⟨hb7, h⟩ | ⟨hb7, h⟩
          · rw [hb7]
            refine ev_gos pp_To_passOver 2 (S' := (94, [some (.ref 173), some (.ref l1), some (.int ((v l1 2) &&& (3 : Int32)))], [.int (v 173 3)], (223, kc, ks, pd_H g v))) rfl ?_
            refine ev_gos pp_To_passOver 1 (S' := (bif decide ((v 173 3) = 0) then 102 else 97, [some (.ref 173), some (.ref l1), some (.int ((v l1 2) &&& (3 : Int32)))], [], (223, kc, ks, pd_H g v))) rfl ?_
            rcases pd_cases h with ⟨hb8, h⟩ | ⟨hb8, h⟩
            · rw [hb8]
              refine ev_gos pp_To_passOver 2 (S' := (104, [some (.ref 173), some (.ref l1), some (.int ((v l1 2) &&& (3 : Int32)))], [.int ((v l1 2) &&& (3 : Int32)), .ref 173], (223, kc, ks, pd_H g v))) rfl ?_
              obtain ⟨q9, hq9, h⟩ := pd_bind h
              refine ev_callv pp_To_passOver rfl rfl rfl rfl (s_To_comeTogether hq9) ?_
              refine ev_gos pp_To_passOver 4 (S' := (113, [some (.ref 173), some (.ref l1), some (.int ((v l1 2) &&& (3 : Int32)))], [.int ((q9 173 6) + (1 : Int32))], (223, kc, ks, pd_H g q9))) rfl ?_
              cases h
              exact ev_fin pp_To_passOver rfl
            · rw [hb8]
              refine ev_gos pp_To_passOver 1 (S' := (98, [some (.ref 173), some (.ref l1), some (.int ((v l1 2) &&& (3 : Int32)))], [.ref l1], (223, kc, ks, pd_H g v))) rfl ?_
              refine ev_get pp_To_passOver rfl (c_st hl1) rfl ?_
              refine ev_gos pp_To_passOver 0 (S' := (101, [some (.ref 173), some (.ref l1), some (.int ((v l1 2) &&& (3 : Int32)))], [.int (v l1 4)], (223, kc, ks, pd_H g v))) rfl ?_
              cases h
              exact ev_fin pp_To_passOver rfl
          · rw [hb7]
            refine ev_gos pp_To_passOver 4 (S' := (120, [some (.ref 173), some (.ref l1), some (.int ((v l1 2) &&& (3 : Int32)))], [.int ((v 173 6) + (1 : Int32))], (223, kc, ks, pd_H g v))) rfl ?_
            cases h
            exact ev_fin pp_To_passOver rfl
theorem pp_To_moveToNext {xs : Nat → Int32} {L : Nat} : (pj_P xs L 54).1 = fun S => pm_look tb_To_moveToNext S.1 S := rfl
def d_To_moveToNext_2 (w : Nat) (f : Nat) (l1 : Nat) (l2 : Int32) (v : pd_V) : Option pd_V := match f with
  | 0 => none
  | f + 1 =>
    bif decide ((81 : Int32) < l2) then
      some (pd_w (pd_w v 173 2 (1 : Int32)) 173 3 (0 : Int32))
    else
      bif decide ((v 173 6) < (v l1 3)) then
        (d_Ke_stepAt l1 (v 173 6) v).bind fun q3 =>
        bif decide ((d_St_isIssued q3 v) = 0) then
          (d_To_passOver q3 v).bind fun q6 =>
          d_To_moveToNext_2 w f l1 (l2 + (1 : Int32)) (pd_w q6.2 173 6 q6.1)
        else
          bif decide ((v 173 3) = 0) then
            (d_To_passOver q3 v).bind fun q8 =>
            d_To_moveToNext_2 w f l1 (l2 + (1 : Int32)) (pd_w q8.2 173 6 q8.1)
          else
            some v
      else
        some (pd_w (pd_w v 173 2 (1 : Int32)) 173 3 (0 : Int32))
theorem s_To_moveToNext_2 {w : Nat} : ∀ (f : Nat) (l1 : Nat) (l2 : Int32) (v : pd_V) (y3 : Option Value) (q : pd_V) (hl1 : ker l1), d_To_moveToNext_2 w f l1 l2 v = some q → pm_ev (pj_P xs L) (d + 2) 54 (2, [some (.ref 173), some (.ref l1), some (.int l2), y3], [], (223, kc, ks, pd_H g v)) (.inl none, (223, kc, ks, pd_H g q)) := by
  intro f
  induction f with
  | zero => intro l1 l2 v y3 q hl1 h; exact nomatch (show (none : Option pd_V) = some q from h)
  | succ f ih =>
    intro l1 l2 v y3 q hl1 h
    rw [d_To_moveToNext_2] at h
    refine ev_gos pp_To_moveToNext 2 (S' := (5, [some (.ref 173), some (.ref l1), some (.int l2), y3], [.int (81 : Int32), .int l2], (223, kc, ks, pd_H g v))) rfl ?_
    refine ev_gos pp_To_moveToNext 1 (S' := (bif decide ((81 : Int32) < l2) then 61 else 8, [some (.ref 173), some (.ref l1), some (.int l2), y3], [], (223, kc, ks, pd_H g v))) rfl ?_
    rcases pd_cases h with ⟨hb1, h⟩ | ⟨hb1, h⟩
    · rw [hb1]
      refine ev_gos pp_To_moveToNext 2 (S' := (63, [some (.ref 173), some (.ref l1), some (.int l2), y3], [.int (1 : Int32), .ref 173], (223, kc, ks, pd_H g v))) rfl ?_
      refine ev_put pp_To_moveToNext rfl (fun _ => rfl) rfl rfl (pd_fit pd_b1) ?_
      refine ev_gos pp_To_moveToNext 2 (S' := (68, [some (.ref 173), some (.ref l1), some (.int l2), y3], [.int (0 : Int32), .ref 173], (223, kc, ks, pd_H g (pd_w v 173 2 (1 : Int32))))) rfl ?_
      refine ev_put pp_To_moveToNext rfl (fun _ => rfl) rfl rfl rfl ?_
      refine ev_gos pp_To_moveToNext 0 (S' := (71, [some (.ref 173), some (.ref l1), some (.int l2), y3], [], (223, kc, ks, pd_H g (pd_w (pd_w v 173 2 (1 : Int32)) 173 3 (0 : Int32))))) rfl ?_
      cases h
      exact ev_fin pp_To_moveToNext rfl
    · rw [hb1]
      refine ev_gos pp_To_moveToNext 3 (S' := (13, [some (.ref 173), some (.ref l1), some (.int l2), y3], [.ref l1, .int (v 173 6)], (223, kc, ks, pd_H g v))) rfl ?_
      refine ev_get pp_To_moveToNext rfl (c_ke hl1) rfl ?_
      refine ev_gos pp_To_moveToNext 0 (S' := (16, [some (.ref 173), some (.ref l1), some (.int l2), y3], [.int (v l1 3), .int (v 173 6)], (223, kc, ks, pd_H g v))) rfl ?_
      refine ev_gos pp_To_moveToNext 1 (S' := (bif decide ((v 173 6) < (v l1 3)) then 22 else 19, [some (.ref 173), some (.ref l1), some (.int l2), y3], [], (223, kc, ks, pd_H g v))) rfl ?_
      rcases pd_cases h with ⟨hb2, h⟩ | ⟨hb2, h⟩
      · rw [hb2]
        refine ev_gos pp_To_moveToNext 3 (S' := (27, [some (.ref 173), some (.ref l1), some (.int l2), y3], [.int (v 173 6), .ref l1], (223, kc, ks, pd_H g v))) rfl ?_
        obtain ⟨q3, hq3, h⟩ := pd_bind h
        refine ev_callv pp_To_moveToNext rfl rfl (pd_isa (c_ke hl1)) rfl (s_Ke_stepAt hl1 hq3) ?_
        refine ev_gos pp_To_moveToNext 2 (S' := (32, [some (.ref 173), some (.ref l1), some (.int l2), some (.ref q3)], [.ref q3], (223, kc, ks, pd_H g v))) rfl ?_
        refine ev_callv pp_To_moveToNext rfl rfl (pd_isa (c_st (r_Ke_stepAt hl1 hq3))) rfl (s_St_isIssued (r_Ke_stepAt hl1 hq3)) ?_
        refine ev_gos pp_To_moveToNext 0 (S' := (35, [some (.ref 173), some (.ref l1), some (.int l2), some (.ref q3)], [.int (d_St_isIssued q3 v)], (223, kc, ks, pd_H g v))) rfl ?_
        refine ev_gos pp_To_moveToNext 1 (S' := (bif decide ((d_St_isIssued q3 v) = 0) then 46 else 38, [some (.ref 173), some (.ref l1), some (.int l2), some (.ref q3)], [], (223, kc, ks, pd_H g v))) rfl ?_
        rcases pd_cases h with ⟨hb5, h⟩ | ⟨hb5, h⟩
        · rw [hb5]
          refine ev_gos pp_To_moveToNext 3 (S' := (49, [some (.ref 173), some (.ref l1), some (.int l2), some (.ref q3)], [.ref q3, .ref 173, .ref 173], (223, kc, ks, pd_H g v))) rfl ?_
          obtain ⟨q6, hq6, h⟩ := pd_bind h
          refine ev_callv pp_To_moveToNext rfl rfl rfl rfl (s_To_passOver (r_Ke_stepAt hl1 hq3) hq6) ?_
          refine ev_gos pp_To_moveToNext 0 (S' := (52, [some (.ref 173), some (.ref l1), some (.int l2), some (.ref q3)], [.int q6.1, .ref 173], (223, kc, ks, pd_H g q6.2))) rfl ?_
          refine ev_put pp_To_moveToNext rfl (fun _ => rfl) rfl rfl rfl ?_
          refine ev_gos pp_To_moveToNext 2 (S' := (2, [some (.ref 173), some (.ref l1), some (.int (l2 + (1 : Int32))), some (.ref q3)], [], (223, kc, ks, pd_H g (pd_w q6.2 173 6 q6.1)))) rfl ?_
          exact ih _ _ _ _ _ hl1 h
        · rw [hb5]
          refine ev_gos pp_To_moveToNext 2 (S' := (42, [some (.ref 173), some (.ref l1), some (.int l2), some (.ref q3)], [.int (v 173 3)], (223, kc, ks, pd_H g v))) rfl ?_
          refine ev_gos pp_To_moveToNext 1 (S' := (bif decide ((v 173 3) = 0) then 46 else 45, [some (.ref 173), some (.ref l1), some (.int l2), some (.ref q3)], [], (223, kc, ks, pd_H g v))) rfl ?_
          rcases pd_cases h with ⟨hb7, h⟩ | ⟨hb7, h⟩
          · rw [hb7]
            refine ev_gos pp_To_moveToNext 3 (S' := (49, [some (.ref 173), some (.ref l1), some (.int l2), some (.ref q3)], [.ref q3, .ref 173, .ref 173], (223, kc, ks, pd_H g v))) rfl ?_
            obtain ⟨q8, hq8, h⟩ := pd_bind h
            refine ev_callv pp_To_moveToNext rfl rfl rfl rfl (s_To_passOver (r_Ke_stepAt hl1 hq3) hq8) ?_
            refine ev_gos pp_To_moveToNext 0 (S' := (52, [some (.ref 173), some (.ref l1), some (.int l2), some (.ref q3)], [.int q8.1, .ref 173], (223, kc, ks, pd_H g q8.2))) rfl ?_
            refine ev_put pp_To_moveToNext rfl (fun _ => rfl) rfl rfl rfl ?_
            refine ev_gos pp_To_moveToNext 2 (S' := (2, [some (.ref 173), some (.ref l1), some (.int (l2 + (1 : Int32))), some (.ref q3)], [], (223, kc, ks, pd_H g (pd_w q8.2 173 6 q8.1)))) rfl ?_
            exact ih _ _ _ _ _ hl1 h
          · rw [hb7]
            refine ev_gos pp_To_moveToNext 0 (S' := (45, [some (.ref 173), some (.ref l1), some (.int l2), some (.ref q3)], [], (223, kc, ks, pd_H g v))) rfl ?_
            cases h
            exact ev_fin pp_To_moveToNext rfl
      · rw [hb2]
        refine ev_gos pp_To_moveToNext 3 (S' := (63, [some (.ref 173), some (.ref l1), some (.int l2), y3], [.int (1 : Int32), .ref 173], (223, kc, ks, pd_H g v))) rfl ?_
        refine ev_put pp_To_moveToNext rfl (fun _ => rfl) rfl rfl (pd_fit pd_b1) ?_
        refine ev_gos pp_To_moveToNext 2 (S' := (68, [some (.ref 173), some (.ref l1), some (.int l2), y3], [.int (0 : Int32), .ref 173], (223, kc, ks, pd_H g (pd_w v 173 2 (1 : Int32))))) rfl ?_
        refine ev_put pp_To_moveToNext rfl (fun _ => rfl) rfl rfl rfl ?_
        refine ev_gos pp_To_moveToNext 0 (S' := (71, [some (.ref 173), some (.ref l1), some (.int l2), y3], [], (223, kc, ks, pd_H g (pd_w (pd_w v 173 2 (1 : Int32)) 173 3 (0 : Int32))))) rfl ?_
        cases h
        exact ev_fin pp_To_moveToNext rfl
def d_To_moveToNext (w : Nat) (l1 : Nat) (v : pd_V) : Option pd_V :=
  d_To_moveToNext_2 w w l1 (0 : Int32) v
theorem s_To_moveToNext {w : Nat} {l1 : Nat} {v : pd_V} {q : pd_V} (hl1 : ker l1) (h : d_To_moveToNext w l1 v = some q) : pm_ev (pj_P xs L) (d + 2) 54 (0, [some (.ref 173), some (.ref l1), none, none], [], (223, kc, ks, pd_H g v)) (.inl none, (223, kc, ks, pd_H g q)) := by
  unfold d_To_moveToNext at h
  refine ev_gos pp_To_moveToNext 2 (S' := (2, [some (.ref 173), some (.ref l1), some (.int (0 : Int32)), none], [], (223, kc, ks, pd_H g v))) rfl ?_
  exact s_To_moveToNext_2 _ _ _ _ _ _ hl1 h
theorem pp_To_begin {xs : Nat → Int32} {L : Nat} : (pj_P xs L 51).1 = fun S => pm_look tb_To_begin S.1 S := rfl
def d_To_begin (w : Nat) (l1 : Nat) (l2 : Nat) (nl2 : Nat) (l3 : Int32) (v : pd_V) : Option pd_V :=
  (d_Cr_gather w 174 l2 nl2 l3 v).bind fun q1 =>
  (d_Arr_fill w 184 4 (0 : Int32) q1).bind fun q2 =>
  (d_To_moveToNext w l1 (pd_w (pd_w (pd_w (pd_w (pd_w (pd_w q2 173 1 (1 : Int32)) 173 2 (0 : Int32)) 173 3 ((255 : Int32) &&& ((q2 174 10) ^^^ (-1 : Int32)))) 173 4 (0 : Int32)) 173 5 (0 : Int32)) 173 6 (0 : Int32))).bind fun q3 =>
  some q3
theorem s_To_begin {w : Nat} {l1 : Nat} {l2 : Nat} {nl2 : Nat} {l3 : Int32} {v : pd_V} {q : pd_V} (hl1 : ker l1) (hl2 : pd_ai g l2 nl2) (h : d_To_begin w l1 l2 nl2 l3 v = some q) : pm_ev (pj_P xs L) (d + 3) 51 (0, [some (.ref 173), some (.ref l1), some (.ref l2), some (.int l3)], [], (223, kc, ks, pd_H g v)) (.inl none, (223, kc, ks, pd_H g q)) := by
  unfold d_To_begin at h
  refine ev_gos pp_To_begin 4 (S' := (6, [some (.ref 173), some (.ref l1), some (.ref l2), some (.int l3)], [.int l3, .ref l2, .ref 174], (223, kc, ks, pd_H g v))) rfl ?_
  obtain ⟨q1, hq1, h⟩ := pd_bind h
  refine ev_callv pp_To_begin rfl rfl (pd_isa (c_cr crw_174)) rfl (s_Cr_gather crw_174 hl2 hq1) ?_
  refine ev_gos pp_To_begin 3 (S' := (14, [some (.ref 173), some (.ref l1), some (.ref l2), some (.int l3)], [.int (0 : Int32), .ref 184], (223, kc, ks, pd_H g q1))) rfl ?_
  obtain ⟨q2, hq2, h⟩ := pd_bind h
  refine ev_call pp_To_begin rfl rfl rfl (s_Arr_fill (fun _ => rfl) hq2) ?_
  refine ev_gos pp_To_begin 2 (S' := (19, [some (.ref 173), some (.ref l1), some (.ref l2), some (.int l3)], [.int (1 : Int32), .ref 173], (223, kc, ks, pd_H g q2))) rfl ?_
  refine ev_put pp_To_begin rfl (fun _ => rfl) rfl rfl (pd_fit pd_b1) ?_
  refine ev_gos pp_To_begin 2 (S' := (24, [some (.ref 173), some (.ref l1), some (.ref l2), some (.int l3)], [.int (0 : Int32), .ref 173], (223, kc, ks, pd_H g (pd_w q2 173 1 (1 : Int32))))) rfl ?_
  refine ev_put pp_To_begin rfl (fun _ => rfl) rfl rfl (pd_fit pd_b0) ?_
  refine ev_gos pp_To_begin 4 (S' := (35, [some (.ref 173), some (.ref l1), some (.ref l2), some (.int l3)], [.ref 174, .int (255 : Int32), .ref 173], (223, kc, ks, pd_H g (pd_w (pd_w q2 173 1 (1 : Int32)) 173 2 (0 : Int32))))) rfl ?_
  refine ev_get pp_To_begin rfl (c_cr crw_174) rfl ?_
  refine ev_gos pp_To_begin 3 (S' := (41, [some (.ref 173), some (.ref l1), some (.ref l2), some (.int l3)], [.int ((255 : Int32) &&& ((q2 174 10) ^^^ (-1 : Int32))), .ref 173], (223, kc, ks, pd_H g (pd_w (pd_w q2 173 1 (1 : Int32)) 173 2 (0 : Int32))))) rfl ?_
  refine ev_put pp_To_begin rfl (fun _ => rfl) rfl rfl rfl ?_
  refine ev_gos pp_To_begin 2 (S' := (46, [some (.ref 173), some (.ref l1), some (.ref l2), some (.int l3)], [.int (0 : Int32), .ref 173], (223, kc, ks, pd_H g (pd_w (pd_w (pd_w q2 173 1 (1 : Int32)) 173 2 (0 : Int32)) 173 3 ((255 : Int32) &&& ((q2 174 10) ^^^ (-1 : Int32))))))) rfl ?_
  refine ev_put pp_To_begin rfl (fun _ => rfl) rfl rfl rfl ?_
  refine ev_gos pp_To_begin 2 (S' := (51, [some (.ref 173), some (.ref l1), some (.ref l2), some (.int l3)], [.int (0 : Int32), .ref 173], (223, kc, ks, pd_H g (pd_w (pd_w (pd_w (pd_w q2 173 1 (1 : Int32)) 173 2 (0 : Int32)) 173 3 ((255 : Int32) &&& ((q2 174 10) ^^^ (-1 : Int32)))) 173 4 (0 : Int32))))) rfl ?_
  refine ev_put pp_To_begin rfl (fun _ => rfl) rfl rfl rfl ?_
  refine ev_gos pp_To_begin 2 (S' := (56, [some (.ref 173), some (.ref l1), some (.ref l2), some (.int l3)], [.int (0 : Int32), .ref 173], (223, kc, ks, pd_H g (pd_w (pd_w (pd_w (pd_w (pd_w q2 173 1 (1 : Int32)) 173 2 (0 : Int32)) 173 3 ((255 : Int32) &&& ((q2 174 10) ^^^ (-1 : Int32)))) 173 4 (0 : Int32)) 173 5 (0 : Int32))))) rfl ?_
  refine ev_put pp_To_begin rfl (fun _ => rfl) rfl rfl rfl ?_
  refine ev_gos pp_To_begin 2 (S' := (61, [some (.ref 173), some (.ref l1), some (.ref l2), some (.int l3)], [.ref l1, .ref 173], (223, kc, ks, pd_H g (pd_w (pd_w (pd_w (pd_w (pd_w (pd_w q2 173 1 (1 : Int32)) 173 2 (0 : Int32)) 173 3 ((255 : Int32) &&& ((q2 174 10) ^^^ (-1 : Int32)))) 173 4 (0 : Int32)) 173 5 (0 : Int32)) 173 6 (0 : Int32))))) rfl ?_
  obtain ⟨q3, hq3, h⟩ := pd_bind h
  refine ev_callv pp_To_begin rfl rfl rfl rfl (s_To_moveToNext hl1 hq3) ?_
  refine ev_gos pp_To_begin 0 (S' := (64, [some (.ref 173), some (.ref l1), some (.ref l2), some (.int l3)], [], (223, kc, ks, pd_H g q3))) rfl ?_
  cases h
  exact ev_fin pp_To_begin rfl
theorem pp_De_start {xs : Nat → Int32} {L : Nat} : (pj_P xs L 50).1 = fun S => pm_look tb_De_start S.1 S := rfl
def d_De_start (w : Nat)  (v : pd_V) : Option (Option Nat × pd_V) :=
  (d_De_needKernel v).bind fun q1 => Option.elim q1 (
  (d_To_begin w (kerOf (v 0 1)) 172 16 (v 0 5) v).bind fun q2 =>
  some (none, q2)) (fun xq1 => some (some xq1, v))
theorem s_De_start {w : Nat}  {v : pd_V} {q : (Option Nat × pd_V)}  (h : d_De_start w v = some q) : pm_ev (pj_P xs L) (d + 4) 50 (0, [some (.ref 0)], [], (223, kc, ks, pd_H g v)) (pd_ov q.1 kc ks g q.2) := by
  unfold d_De_start at h
  refine ev_gos pp_De_start 1 (S' := (1, [some (.ref 0)], [.ref 0], (223, kc, ks, pd_H g v))) rfl ?_
  obtain ⟨q1, hq1, h⟩ := pd_bind h
  have evq1 := s_De_needKernel (xs := xs) (L := L) (g := g) (d := d + 3) (kc := kc) (ks := ks) hq1
  rcases pd_elimv h with ⟨eq1, h⟩ | ⟨xq1, eq1, h⟩
  · rw [eq1] at evq1
    refine ev_callv pp_De_start rfl rfl rfl rfl evq1 ?_
    refine ev_gos pp_De_start 8 (S' := (20, [some (.ref 0)], [.int (v 0 5), .ref 172, .ref (kerOf (v 0 1)), .ref 173], (223, kc, ks, pd_H g v))) rfl ?_
    obtain ⟨q2, hq2, h⟩ := pd_bind h
    refine ev_callv pp_De_start rfl rfl rfl rfl (s_To_begin (ker_of _) (fun _ => rfl) hq2) ?_
    refine ev_gos pp_De_start 0 (S' := (23, [some (.ref 0)], [], (223, kc, ks, pd_H g q2))) rfl ?_
    cases h
    exact ev_fin pp_De_start rfl
  · cases h
    rw [eq1] at evq1
    exact ev_callvX pp_De_start rfl rfl rfl rfl evq1 rfl
theorem pp_De_needStarted {xs : Nat → Int32} {L : Nat} : (pj_P xs L 59).1 = fun S => pm_look tb_De_needStarted S.1 S := rfl
def d_De_needStarted  (v : pd_V) : Option (Option Nat) :=
  bif !(decide ((v 173 1) = 0)) then
    some none
  else
    some (some 1)
theorem s_De_needStarted  {v : pd_V} {q : Option Nat}  (h : d_De_needStarted v = some q) : pm_ev (pj_P xs L) d 59 (0, [some (.ref 0)], [], (223, kc, ks, pd_H g v)) (pd_ov q kc ks g v) := by
  unfold d_De_needStarted at h
  refine ev_gos pp_De_needStarted 3 (S' := (7, [some (.ref 0)], [.int (v 173 1)], (223, kc, ks, pd_H g v))) rfl ?_
  refine ev_gos pp_De_needStarted 1 (S' := (bif !(decide ((v 173 1) = 0)) then 20 else 10, [some (.ref 0)], [], (223, kc, ks, pd_H g v))) rfl ?_
  rcases pd_cases h with ⟨hb1, h⟩ | ⟨hb1, h⟩
  · rw [hb1]
    refine ev_gos pp_De_needStarted 0 (S' := (20, [some (.ref 0)], [], (223, kc, ks, pd_H g v))) rfl ?_
    cases h
    exact ev_fin pp_De_needStarted rfl
  · rw [hb1]
    refine ev_gos pp_De_needStarted 0 (S' := (10, [some (.ref 0)], [], (223, kc, ks, pd_H g v))) rfl ?_
    cases h
    exact ev_fin pp_De_needStarted rfl
theorem pp_De_needFuel {xs : Nat → Int32} {L : Nat} : (pj_P xs L 60).1 = fun S => pm_look tb_De_needFuel S.1 S := rfl
def d_De_needFuel (l0 : Int32) (l1 : Int32) (v : pd_V) : Option (Option Nat) :=
  bif decide (l0 < (1 : Int32)) then
    some (some 0)
  else
    bif decide (l0 ≤ l1) then
      some none
    else
      some (some 0)
theorem s_De_needFuel {l0 : Int32} {l1 : Int32} {v : pd_V} {q : Option Nat}  (h : d_De_needFuel l0 l1 v = some q) : pm_ev (pj_P xs L) d 60 (0, [some (.int l0), some (.int l1)], [], (223, kc, ks, pd_H g v)) (pd_ov q kc ks g v) := by
  unfold d_De_needFuel at h
  refine ev_gos pp_De_needFuel 2 (S' := (2, [some (.int l0), some (.int l1)], [.int (1 : Int32), .int l0], (223, kc, ks, pd_H g v))) rfl ?_
  refine ev_gos pp_De_needFuel 1 (S' := (bif decide (l0 < (1 : Int32)) then 10 else 5, [some (.int l0), some (.int l1)], [], (223, kc, ks, pd_H g v))) rfl ?_
  rcases pd_cases h with ⟨hb1, h⟩ | ⟨hb1, h⟩
  · rw [hb1]
    refine ev_gos pp_De_needFuel 0 (S' := (10, [some (.int l0), some (.int l1)], [], (223, kc, ks, pd_H g v))) rfl ?_
    cases h
    exact ev_fin pp_De_needFuel rfl
  · rw [hb1]
    refine ev_gos pp_De_needFuel 2 (S' := (7, [some (.int l0), some (.int l1)], [.int l1, .int l0], (223, kc, ks, pd_H g v))) rfl ?_
    refine ev_gos pp_De_needFuel 1 (S' := (bif decide (l0 ≤ l1) then 20 else 10, [some (.int l0), some (.int l1)], [], (223, kc, ks, pd_H g v))) rfl ?_
    rcases pd_cases h with ⟨hb2, h⟩ | ⟨hb2, h⟩
    · rw [hb2]
      refine ev_gos pp_De_needFuel 0 (S' := (20, [some (.int l0), some (.int l1)], [], (223, kc, ks, pd_H g v))) rfl ?_
      cases h
      exact ev_fin pp_De_needFuel rfl
    · rw [hb2]
      refine ev_gos pp_De_needFuel 0 (S' := (10, [some (.int l0), some (.int l1)], [], (223, kc, ks, pd_H g v))) rfl ?_
      cases h
      exact ev_fin pp_De_needFuel rfl
end FN
