section FN
variable {xs : Nat → Int32} {L : Nat} {g : Nat → Int64} {d kc ks : Nat}
theorem pp_Mo_reckon {xs : Nat → Int32} {L : Nat} : (pj_P xs L 131).1 = fun S => pm_look tb_Mo_reckon S.1 S := rfl
def d_Mo_reckon_137 (K : Int32 → Int32 → pd_V → Option (Int32 × pd_V)) (w : Nat) (f : Nat) (l1 : Int32) (l3 : Int32) (v : pd_V) : Option (Int32 × pd_V) := match f with
  | 0 => none
  | f + 1 =>
    bif decide ((v 198 4) ≤ (v 198 6)) then
      K l1 l3 v
    else
      bif pm_in (v 198 6) 160 then
      bif !(decide ((d_Mo_isSign (v 200 ((v 198 6).toNatClampNeg))) = 0)) then
        K l1 l3 v
      else
        bif decide (l3 ≤ 0) then
          K l1 l3 v
        else
          bif pm_in l3 6 then
          bif pm_in (l3 + (-1 : Int32)) 6 then
          bif decide ((v 219 ((l3 + (-1 : Int32)).toNatClampNeg)) = (40 : Int32)) then
            bif decide ((0 : Int32) = 0) then
              bif !(decide ((v 219 ((l3 + (-1 : Int32)).toNatClampNeg)) = (73 : Int32))) then
                bif !(decide ((v 219 ((l3 + (-1 : Int32)).toNatClampNeg)) = (76 : Int32))) then
                  bif pm_in (l3 + (-1 : Int32)) 6 then
                  bif pm_in (l3 + (-1 : Int32)) 6 then
                  bif pm_in (l3 + (-1 : Int32)) 6 then
                  d_Mo_reckon_137 K w f l1 (l3 + (-1 : Int32)) (pd_w (pd_w (pd_w v 198 6 ((v 198 6) + (1 : Int32))) 198 19 (0 : Int32)) 220 ((l3 + (-1 : Int32)).toNatClampNeg) (d_Mo_joined (v 220 ((l3 + (-1 : Int32)).toNatClampNeg)) (v 221 ((l3 + (-1 : Int32)).toNatClampNeg)) (v 220 l3.toNatClampNeg)))
                  else none
                  else none
                  else none
                else
                  bif pm_in (((8 : Int32) * l1) + (v 220 l3.toNatClampNeg)) 128 then
                  bif pm_in (l3 + (-1 : Int32)) 6 then
                  bif pm_in (l3 + (-1 : Int32)) 6 then
                  bif pm_in (l3 + (-1 : Int32)) 6 then
                  d_Mo_reckon_137 K w f l1 (l3 + (-1 : Int32)) (pd_w (pd_w (pd_w v 198 6 ((v 198 6) + (1 : Int32))) 198 19 (0 : Int32)) 220 ((l3 + (-1 : Int32)).toNatClampNeg) (d_Mo_joined (v 220 ((l3 + (-1 : Int32)).toNatClampNeg)) (v 221 ((l3 + (-1 : Int32)).toNatClampNeg)) (v 205 ((((8 : Int32) * l1) + (v 220 l3.toNatClampNeg)).toNatClampNeg))))
                  else none
                  else none
                  else none
                  else none
              else
                bif pm_in (v 220 l3.toNatClampNeg) 16 then
                bif pm_in (l3 + (-1 : Int32)) 6 then
                bif pm_in (l3 + (-1 : Int32)) 6 then
                bif pm_in (l3 + (-1 : Int32)) 6 then
                d_Mo_reckon_137 K w f l1 (l3 + (-1 : Int32)) (pd_w (pd_w (pd_w v 198 6 ((v 198 6) + (1 : Int32))) 198 19 (0 : Int32)) 220 ((l3 + (-1 : Int32)).toNatClampNeg) (d_Mo_joined (v 220 ((l3 + (-1 : Int32)).toNatClampNeg)) (v 221 ((l3 + (-1 : Int32)).toNatClampNeg)) (v 203 ((v 220 l3.toNatClampNeg).toNatClampNeg))))
                else none
                else none
                else none
                else none
            else
              some ((0 : Int32), (pd_w (pd_w v 198 6 ((v 198 6) + (1 : Int32))) 198 19 (0 : Int32)))
          else
            bif !(decide ((v 219 ((l3 + (-1 : Int32)).toNatClampNeg)) = (73 : Int32))) then
              bif decide ((d_Mo_beyond (v 220 l3.toNatClampNeg) (0 : Int32) (7 : Int32)) = 0) then
                bif decide ((0 : Int32) = 0) then
                  bif !(decide ((v 219 ((l3 + (-1 : Int32)).toNatClampNeg)) = (73 : Int32))) then
                    bif !(decide ((v 219 ((l3 + (-1 : Int32)).toNatClampNeg)) = (76 : Int32))) then
                      bif pm_in (l3 + (-1 : Int32)) 6 then
                      bif pm_in (l3 + (-1 : Int32)) 6 then
                      bif pm_in (l3 + (-1 : Int32)) 6 then
                      d_Mo_reckon_137 K w f l1 (l3 + (-1 : Int32)) (pd_w (pd_w (pd_w v 198 6 ((v 198 6) + (1 : Int32))) 198 19 (0 : Int32)) 220 ((l3 + (-1 : Int32)).toNatClampNeg) (d_Mo_joined (v 220 ((l3 + (-1 : Int32)).toNatClampNeg)) (v 221 ((l3 + (-1 : Int32)).toNatClampNeg)) (v 220 l3.toNatClampNeg)))
                      else none
                      else none
                      else none
                    else
                      bif pm_in (((8 : Int32) * l1) + (v 220 l3.toNatClampNeg)) 128 then
                      bif pm_in (l3 + (-1 : Int32)) 6 then
                      bif pm_in (l3 + (-1 : Int32)) 6 then
                      bif pm_in (l3 + (-1 : Int32)) 6 then
                      d_Mo_reckon_137 K w f l1 (l3 + (-1 : Int32)) (pd_w (pd_w (pd_w v 198 6 ((v 198 6) + (1 : Int32))) 198 19 (0 : Int32)) 220 ((l3 + (-1 : Int32)).toNatClampNeg) (d_Mo_joined (v 220 ((l3 + (-1 : Int32)).toNatClampNeg)) (v 221 ((l3 + (-1 : Int32)).toNatClampNeg)) (v 205 ((((8 : Int32) * l1) + (v 220 l3.toNatClampNeg)).toNatClampNeg))))
                      else none
                      else none
                      else none
                      else none
                  else
                    bif pm_in (v 220 l3.toNatClampNeg) 16 then
                    bif pm_in (l3 + (-1 : Int32)) 6 then
                    bif pm_in (l3 + (-1 : Int32)) 6 then
                    bif pm_in (l3 + (-1 : Int32)) 6 then
                    d_Mo_reckon_137 K w f l1 (l3 + (-1 : Int32)) (pd_w (pd_w (pd_w v 198 6 ((v 198 6) + (1 : Int32))) 198 19 (0 : Int32)) 220 ((l3 + (-1 : Int32)).toNatClampNeg) (d_Mo_joined (v 220 ((l3 + (-1 : Int32)).toNatClampNeg)) (v 221 ((l3 + (-1 : Int32)).toNatClampNeg)) (v 203 ((v 220 l3.toNatClampNeg).toNatClampNeg))))
                    else none
                    else none
                    else none
                    else none
                else
                  some ((0 : Int32), (pd_w (pd_w v 198 6 ((v 198 6) + (1 : Int32))) 198 19 (0 : Int32)))
              else
                bif decide ((1 : Int32) = 0) then
                  bif !(decide ((v 219 ((l3 + (-1 : Int32)).toNatClampNeg)) = (73 : Int32))) then
                    bif !(decide ((v 219 ((l3 + (-1 : Int32)).toNatClampNeg)) = (76 : Int32))) then
                      bif pm_in (l3 + (-1 : Int32)) 6 then
                      bif pm_in (l3 + (-1 : Int32)) 6 then
                      bif pm_in (l3 + (-1 : Int32)) 6 then
                      d_Mo_reckon_137 K w f l1 (l3 + (-1 : Int32)) (pd_w (pd_w (pd_w v 198 6 ((v 198 6) + (1 : Int32))) 198 19 (1 : Int32)) 220 ((l3 + (-1 : Int32)).toNatClampNeg) (d_Mo_joined (v 220 ((l3 + (-1 : Int32)).toNatClampNeg)) (v 221 ((l3 + (-1 : Int32)).toNatClampNeg)) (v 220 l3.toNatClampNeg)))
                      else none
                      else none
                      else none
                    else
                      bif pm_in (((8 : Int32) * l1) + (v 220 l3.toNatClampNeg)) 128 then
                      bif pm_in (l3 + (-1 : Int32)) 6 then
                      bif pm_in (l3 + (-1 : Int32)) 6 then
                      bif pm_in (l3 + (-1 : Int32)) 6 then
                      d_Mo_reckon_137 K w f l1 (l3 + (-1 : Int32)) (pd_w (pd_w (pd_w v 198 6 ((v 198 6) + (1 : Int32))) 198 19 (1 : Int32)) 220 ((l3 + (-1 : Int32)).toNatClampNeg) (d_Mo_joined (v 220 ((l3 + (-1 : Int32)).toNatClampNeg)) (v 221 ((l3 + (-1 : Int32)).toNatClampNeg)) (v 205 ((((8 : Int32) * l1) + (v 220 l3.toNatClampNeg)).toNatClampNeg))))
                      else none
                      else none
                      else none
                      else none
                  else
                    bif pm_in (v 220 l3.toNatClampNeg) 16 then
                    bif pm_in (l3 + (-1 : Int32)) 6 then
                    bif pm_in (l3 + (-1 : Int32)) 6 then
                    bif pm_in (l3 + (-1 : Int32)) 6 then
                    d_Mo_reckon_137 K w f l1 (l3 + (-1 : Int32)) (pd_w (pd_w (pd_w v 198 6 ((v 198 6) + (1 : Int32))) 198 19 (1 : Int32)) 220 ((l3 + (-1 : Int32)).toNatClampNeg) (d_Mo_joined (v 220 ((l3 + (-1 : Int32)).toNatClampNeg)) (v 221 ((l3 + (-1 : Int32)).toNatClampNeg)) (v 203 ((v 220 l3.toNatClampNeg).toNatClampNeg))))
                    else none
                    else none
                    else none
                    else none
                else
                  some ((0 : Int32), (pd_w (pd_w v 198 6 ((v 198 6) + (1 : Int32))) 198 19 (1 : Int32)))
            else
              bif decide ((d_Mo_beyond (v 220 l3.toNatClampNeg) (0 : Int32) (15 : Int32)) = 0) then
                bif decide ((0 : Int32) = 0) then
                  bif !(decide ((v 219 ((l3 + (-1 : Int32)).toNatClampNeg)) = (73 : Int32))) then
                    bif !(decide ((v 219 ((l3 + (-1 : Int32)).toNatClampNeg)) = (76 : Int32))) then
                      bif pm_in (l3 + (-1 : Int32)) 6 then
                      bif pm_in (l3 + (-1 : Int32)) 6 then
                      bif pm_in (l3 + (-1 : Int32)) 6 then
                      d_Mo_reckon_137 K w f l1 (l3 + (-1 : Int32)) (pd_w (pd_w (pd_w v 198 6 ((v 198 6) + (1 : Int32))) 198 19 (0 : Int32)) 220 ((l3 + (-1 : Int32)).toNatClampNeg) (d_Mo_joined (v 220 ((l3 + (-1 : Int32)).toNatClampNeg)) (v 221 ((l3 + (-1 : Int32)).toNatClampNeg)) (v 220 l3.toNatClampNeg)))
                      else none
                      else none
                      else none
                    else
                      bif pm_in (((8 : Int32) * l1) + (v 220 l3.toNatClampNeg)) 128 then
                      bif pm_in (l3 + (-1 : Int32)) 6 then
                      bif pm_in (l3 + (-1 : Int32)) 6 then
                      bif pm_in (l3 + (-1 : Int32)) 6 then
                      d_Mo_reckon_137 K w f l1 (l3 + (-1 : Int32)) (pd_w (pd_w (pd_w v 198 6 ((v 198 6) + (1 : Int32))) 198 19 (0 : Int32)) 220 ((l3 + (-1 : Int32)).toNatClampNeg) (d_Mo_joined (v 220 ((l3 + (-1 : Int32)).toNatClampNeg)) (v 221 ((l3 + (-1 : Int32)).toNatClampNeg)) (v 205 ((((8 : Int32) * l1) + (v 220 l3.toNatClampNeg)).toNatClampNeg))))
                      else none
                      else none
                      else none
                      else none
                  else
                    bif pm_in (v 220 l3.toNatClampNeg) 16 then
                    bif pm_in (l3 + (-1 : Int32)) 6 then
                    bif pm_in (l3 + (-1 : Int32)) 6 then
                    bif pm_in (l3 + (-1 : Int32)) 6 then
                    d_Mo_reckon_137 K w f l1 (l3 + (-1 : Int32)) (pd_w (pd_w (pd_w v 198 6 ((v 198 6) + (1 : Int32))) 198 19 (0 : Int32)) 220 ((l3 + (-1 : Int32)).toNatClampNeg) (d_Mo_joined (v 220 ((l3 + (-1 : Int32)).toNatClampNeg)) (v 221 ((l3 + (-1 : Int32)).toNatClampNeg)) (v 203 ((v 220 l3.toNatClampNeg).toNatClampNeg))))
                    else none
                    else none
                    else none
                    else none
                else
                  some ((0 : Int32), (pd_w (pd_w v 198 6 ((v 198 6) + (1 : Int32))) 198 19 (0 : Int32)))
              else
                bif decide ((1 : Int32) = 0) then
                  bif !(decide ((v 219 ((l3 + (-1 : Int32)).toNatClampNeg)) = (73 : Int32))) then
                    bif !(decide ((v 219 ((l3 + (-1 : Int32)).toNatClampNeg)) = (76 : Int32))) then
                      bif pm_in (l3 + (-1 : Int32)) 6 then
                      bif pm_in (l3 + (-1 : Int32)) 6 then
                      bif pm_in (l3 + (-1 : Int32)) 6 then
                      d_Mo_reckon_137 K w f l1 (l3 + (-1 : Int32)) (pd_w (pd_w (pd_w v 198 6 ((v 198 6) + (1 : Int32))) 198 19 (1 : Int32)) 220 ((l3 + (-1 : Int32)).toNatClampNeg) (d_Mo_joined (v 220 ((l3 + (-1 : Int32)).toNatClampNeg)) (v 221 ((l3 + (-1 : Int32)).toNatClampNeg)) (v 220 l3.toNatClampNeg)))
                      else none
                      else none
                      else none
                    else
                      bif pm_in (((8 : Int32) * l1) + (v 220 l3.toNatClampNeg)) 128 then
                      bif pm_in (l3 + (-1 : Int32)) 6 then
                      bif pm_in (l3 + (-1 : Int32)) 6 then
                      bif pm_in (l3 + (-1 : Int32)) 6 then
                      d_Mo_reckon_137 K w f l1 (l3 + (-1 : Int32)) (pd_w (pd_w (pd_w v 198 6 ((v 198 6) + (1 : Int32))) 198 19 (1 : Int32)) 220 ((l3 + (-1 : Int32)).toNatClampNeg) (d_Mo_joined (v 220 ((l3 + (-1 : Int32)).toNatClampNeg)) (v 221 ((l3 + (-1 : Int32)).toNatClampNeg)) (v 205 ((((8 : Int32) * l1) + (v 220 l3.toNatClampNeg)).toNatClampNeg))))
                      else none
                      else none
                      else none
                      else none
                  else
                    bif pm_in (v 220 l3.toNatClampNeg) 16 then
                    bif pm_in (l3 + (-1 : Int32)) 6 then
                    bif pm_in (l3 + (-1 : Int32)) 6 then
                    bif pm_in (l3 + (-1 : Int32)) 6 then
                    d_Mo_reckon_137 K w f l1 (l3 + (-1 : Int32)) (pd_w (pd_w (pd_w v 198 6 ((v 198 6) + (1 : Int32))) 198 19 (1 : Int32)) 220 ((l3 + (-1 : Int32)).toNatClampNeg) (d_Mo_joined (v 220 ((l3 + (-1 : Int32)).toNatClampNeg)) (v 221 ((l3 + (-1 : Int32)).toNatClampNeg)) (v 203 ((v 220 l3.toNatClampNeg).toNatClampNeg))))
                    else none
                    else none
                    else none
                    else none
                else
                  some ((0 : Int32), (pd_w (pd_w v 198 6 ((v 198 6) + (1 : Int32))) 198 19 (1 : Int32)))
          else none
          else none
      else none
set_option maxRecDepth 100000 in
set_option maxHeartbeats 4000000 in
theorem s_Mo_reckon_137 {w : Nat} {K : Int32 → Int32 → pd_V → Option (Int32 × pd_V)} (hK : ∀ (l1 : Int32) (l3 : Int32) (v : pd_V) (y2 : Int32) (y4 : Int32) (y5 : Option Value) (y6 : Option Value) (q : (Int32 × pd_V)) , K l1 l3 v = some q → pm_ev (pj_P xs L) (d + 2) 131 (313, [some (.ref 198), some (.int l1), some (.int y2), some (.int l3), some (.int y4), y5, y6], [], (223, kc, ks, pd_H g v)) (.inl (some (.int q.1)), (223, kc, ks, pd_H g q.2))) : ∀ (f : Nat) (l1 : Int32) (l3 : Int32) (v : pd_V) (y2 : Int32) (y4 : Int32) (y5 : Option Value) (y6 : Option Value) (q : (Int32 × pd_V)) , d_Mo_reckon_137 K w f l1 l3 v = some q → pm_ev (pj_P xs L) (d + 2) 131 (137, [some (.ref 198), some (.int l1), some (.int y2), some (.int l3), some (.int y4), y5, y6], [], (223, kc, ks, pd_H g v)) (.inl (some (.int q.1)), (223, kc, ks, pd_H g q.2)) := by
  intro f
  induction f with
  | zero => intro l1 l3 v y2 y4 y5 y6 q h; exact nomatch (show (none : Option (Int32 × pd_V)) = some q from h)
  | succ f ih =>
    intro l1 l3 v y2 y4 y5 y6 q h
    rw [d_Mo_reckon_137] at h
    refine ev_gos pp_Mo_reckon 4 (S' := (145, [some (.ref 198), some (.int l1), some (.int y2), some (.int l3), some (.int y4), y5, y6], [.int (v 198 4), .int (v 198 6)], (223, kc, ks, pd_H g v))) rfl ?_
    refine ev_gos pp_Mo_reckon 1 (S' := (bif decide ((v 198 4) ≤ (v 198 6)) then 313 else 148, [some (.ref 198), some (.int l1), some (.int y2), some (.int l3), some (.int y4), y5, y6], [], (223, kc, ks, pd_H g v))) rfl ?_
    rcases pd_cases h with ⟨hb1, h⟩ | ⟨hb1, h⟩
    · rw [hb1]
      refine ev_gos pp_Mo_reckon 0 (S' := (313, [some (.ref 198), some (.int l1), some (.int y2), some (.int l3), some (.int y4), y5, y6], [], (223, kc, ks, pd_H g v))) rfl ?_
      exact hK _ _ _ _ _ _ _ _  h
    · rw [hb1]
      refine ev_gos pp_Mo_reckon 4 (S' := (156, [some (.ref 198), some (.int l1), some (.int y2), some (.int l3), some (.int y4), y5, y6], [.int (v 198 6), .ref 200], (223, kc, ks, pd_H g v))) rfl ?_
      obtain ⟨hc2, h⟩ := pd_chk h
      refine ev_iald pp_Mo_reckon rfl (fun _ => rfl) hc2 ?_
      refine ev_gos pp_Mo_reckon 0 (S' := (157, [some (.ref 198), some (.int l1), some (.int y2), some (.int l3), some (.int y4), y5, y6], [.int (v 200 ((v 198 6).toNatClampNeg))], (223, kc, ks, pd_H g v))) rfl ?_
      refine ev_call pp_Mo_reckon rfl rfl rfl (s_Mo_isSign) ?_
      refine ev_gos pp_Mo_reckon 0 (S' := (160, [some (.ref 198), some (.int l1), some (.int y2), some (.int l3), some (.int y4), y5, y6], [.int (d_Mo_isSign (v 200 ((v 198 6).toNatClampNeg)))], (223, kc, ks, pd_H g v))) rfl ?_
      refine ev_gos pp_Mo_reckon 1 (S' := (bif !(decide ((d_Mo_isSign (v 200 ((v 198 6).toNatClampNeg))) = 0)) then 313 else 163, [some (.ref 198), some (.int l1), some (.int y2), some (.int l3), some (.int y4), y5, y6], [], (223, kc, ks, pd_H g v))) rfl ?_
      rcases pd_cases h with ⟨hb4, h⟩ | ⟨hb4, h⟩
      · rw [hb4]
        refine ev_gos pp_Mo_reckon 0 (S' := (313, [some (.ref 198), some (.int l1), some (.int y2), some (.int l3), some (.int y4), y5, y6], [], (223, kc, ks, pd_H g v))) rfl ?_
        exact hK _ _ _ _ _ _ _ _  h
      · rw [hb4]
        refine ev_gos pp_Mo_reckon 1 (S' := (164, [some (.ref 198), some (.int l1), some (.int y2), some (.int l3), some (.int y4), y5, y6], [.int l3], (223, kc, ks, pd_H g v))) rfl ?_
        refine ev_gos pp_Mo_reckon 1 (S' := (bif decide (l3 ≤ 0) then 313 else 167, [some (.ref 198), some (.int l1), some (.int y2), some (.int l3), some (.int y4), y5, y6], [], (223, kc, ks, pd_H g v))) rfl ?_
        rcases pd_cases h with ⟨hb5, h⟩ | ⟨hb5, h⟩
        · rw [hb5]
          refine ev_gos pp_Mo_reckon 0 (S' := (313, [some (.ref 198), some (.int l1), some (.int y2), some (.int l3), some (.int y4), y5, y6], [], (223, kc, ks, pd_H g v))) rfl ?_
          exact hK _ _ _ _ _ _ _ _  h
        · rw [hb5]
          refine ev_gos pp_Mo_reckon 3 (S' := (172, [some (.ref 198), some (.int l1), some (.int y2), some (.int l3), some (.int y4), y5, y6], [.int l3, .ref 220], (223, kc, ks, pd_H g v))) rfl ?_
          obtain ⟨hc6, h⟩ := pd_chk h
          refine ev_iald pp_Mo_reckon rfl (fun _ => rfl) hc6 ?_
          refine ev_gos pp_Mo_reckon 6 (S' := (182, [some (.ref 198), some (.int l1), some (.int y2), some (.int l3), some (.int y4), some (.int (v 220 l3.toNatClampNeg)), y6], [.int ((v 198 6) + (1 : Int32)), .ref 198], (223, kc, ks, pd_H g v))) rfl ?_
          refine ev_put pp_Mo_reckon rfl (fun _ => rfl) rfl rfl rfl ?_
          refine ev_gos pp_Mo_reckon 4 (S' := (193, [some (.ref 198), some (.int l1), some (.int y2), some (.int (l3 + (-1 : Int32))), some (.int y4), some (.int (v 220 l3.toNatClampNeg)), y6], [.int (l3 + (-1 : Int32)), .ref 219], (223, kc, ks, pd_H g (pd_w v 198 6 ((v 198 6) + (1 : Int32)))))) rfl ?_
          obtain ⟨hc7, h⟩ := pd_chk h
          refine ev_iald pp_Mo_reckon rfl (fun _ => rfl) hc7 ?_
          refine ev_gos pp_Mo_reckon 4 (S' := (201, [some (.ref 198), some (.int l1), some (.int y2), some (.int (l3 + (-1 : Int32))), some (.int y4), some (.int (v 220 l3.toNatClampNeg)), some (.int (v 219 ((l3 + (-1 : Int32)).toNatClampNeg)))], [.int (40 : Int32), .int (v 219 ((l3 + (-1 : Int32)).toNatClampNeg)), .ref 198], (223, kc, ks, pd_H g (pd_w v 198 6 ((v 198 6) + (1 : Int32)))))) rfl ?_
          refine ev_gos pp_Mo_reckon 1 (S' := (bif decide ((v 219 ((l3 + (-1 : Int32)).toNatClampNeg)) = (40 : Int32)) then 231 else 204, [some (.ref 198), some (.int l1), some (.int y2), some (.int (l3 + (-1 : Int32))), some (.int y4), some (.int (v 220 l3.toNatClampNeg)), some (.int (v 219 ((l3 + (-1 : Int32)).toNatClampNeg)))], [.ref 198], (223, kc, ks, pd_H g (pd_w v 198 6 ((v 198 6) + (1 : Int32)))))) rfl ?_
          rcases pd_cases h with ⟨hb8, h⟩ | ⟨hb8, h⟩
          · rw [hb8]
            refine ev_gos pp_Mo_reckon 1 (S' := (232, [some (.ref 198), some (.int l1), some (.int y2), some (.int (l3 + (-1 : Int32))), some (.int y4), some (.int (v 220 l3.toNatClampNeg)), some (.int (v 219 ((l3 + (-1 : Int32)).toNatClampNeg)))], [.int (0 : Int32), .ref 198], (223, kc, ks, pd_H g (pd_w v 198 6 ((v 198 6) + (1 : Int32)))))) rfl ?_
            refine ev_put pp_Mo_reckon rfl (fun _ => rfl) rfl rfl (pd_fit pd_b0) ?_
            refine ev_gos pp_Mo_reckon 2 (S' := (239, [some (.ref 198), some (.int l1), some (.int y2), some (.int (l3 + (-1 : Int32))), some (.int y4), some (.int (v 220 l3.toNatClampNeg)), some (.int (v 219 ((l3 + (-1 : Int32)).toNatClampNeg)))], [.int (0 : Int32)], (223, kc, ks, pd_H g (pd_w (pd_w v 198 6 ((v 198 6) + (1 : Int32))) 198 19 (0 : Int32))))) rfl ?_
            refine ev_gos pp_Mo_reckon 1 (S' := (bif decide ((0 : Int32) = 0) then 244 else 242, [some (.ref 198), some (.int l1), some (.int y2), some (.int (l3 + (-1 : Int32))), some (.int y4), some (.int (v 220 l3.toNatClampNeg)), some (.int (v 219 ((l3 + (-1 : Int32)).toNatClampNeg)))], [], (223, kc, ks, pd_H g (pd_w (pd_w v 198 6 ((v 198 6) + (1 : Int32))) 198 19 (0 : Int32))))) rfl ?_
            rcases pd_cases h with ⟨hb9, h⟩ | ⟨hb9, h⟩
            · rw [hb9]
              refine ev_gos pp_Mo_reckon 2 (S' := (248, [some (.ref 198), some (.int l1), some (.int y2), some (.int (l3 + (-1 : Int32))), some (.int y4), some (.int (v 220 l3.toNatClampNeg)), some (.int (v 219 ((l3 + (-1 : Int32)).toNatClampNeg)))], [.int (73 : Int32), .int (v 219 ((l3 + (-1 : Int32)).toNatClampNeg))], (223, kc, ks, pd_H g (pd_w (pd_w v 198 6 ((v 198 6) + (1 : Int32))) 198 19 (0 : Int32))))) rfl ?_
              refine ev_gos pp_Mo_reckon 1 (S' := (bif !(decide ((v 219 ((l3 + (-1 : Int32)).toNatClampNeg)) = (73 : Int32))) then 261 else 251, [some (.ref 198), some (.int l1), some (.int y2), some (.int (l3 + (-1 : Int32))), some (.int y4), some (.int (v 220 l3.toNatClampNeg)), some (.int (v 219 ((l3 + (-1 : Int32)).toNatClampNeg)))], [], (223, kc, ks, pd_H g (pd_w (pd_w v 198 6 ((v 198 6) + (1 : Int32))) 198 19 (0 : Int32))))) rfl ?_
              rcases pd_cases h with ⟨hb10, h⟩ | ⟨hb10, h⟩
              · rw [hb10]
                refine ev_gos pp_Mo_reckon 2 (S' := (265, [some (.ref 198), some (.int l1), some (.int y2), some (.int (l3 + (-1 : Int32))), some (.int y4), some (.int (v 220 l3.toNatClampNeg)), some (.int (v 219 ((l3 + (-1 : Int32)).toNatClampNeg)))], [.int (76 : Int32), .int (v 219 ((l3 + (-1 : Int32)).toNatClampNeg))], (223, kc, ks, pd_H g (pd_w (pd_w v 198 6 ((v 198 6) + (1 : Int32))) 198 19 (0 : Int32))))) rfl ?_
                refine ev_gos pp_Mo_reckon 1 (S' := (bif !(decide ((v 219 ((l3 + (-1 : Int32)).toNatClampNeg)) = (76 : Int32))) then 283 else 268, [some (.ref 198), some (.int l1), some (.int y2), some (.int (l3 + (-1 : Int32))), some (.int y4), some (.int (v 220 l3.toNatClampNeg)), some (.int (v 219 ((l3 + (-1 : Int32)).toNatClampNeg)))], [], (223, kc, ks, pd_H g (pd_w (pd_w v 198 6 ((v 198 6) + (1 : Int32))) 198 19 (0 : Int32))))) rfl ?_
                rcases pd_cases h with ⟨hb11, h⟩ | ⟨hb11, h⟩
                · rw [hb11]
                  refine ev_gos pp_Mo_reckon 8 (S' := (297, [some (.ref 198), some (.int l1), some (.int y2), some (.int (l3 + (-1 : Int32))), some (.int y4), some (.int (v 220 l3.toNatClampNeg)), some (.int (v 219 ((l3 + (-1 : Int32)).toNatClampNeg)))], [.int (l3 + (-1 : Int32)), .ref 220, .int (l3 + (-1 : Int32)), .ref 220], (223, kc, ks, pd_H g (pd_w (pd_w v 198 6 ((v 198 6) + (1 : Int32))) 198 19 (0 : Int32))))) rfl ?_
                  obtain ⟨hc12, h⟩ := pd_chk h
                  refine ev_iald pp_Mo_reckon rfl (fun _ => rfl) hc12 ?_
                  refine ev_gos pp_Mo_reckon 3 (S' := (303, [some (.ref 198), some (.int l1), some (.int y2), some (.int (l3 + (-1 : Int32))), some (.int y4), some (.int (v 220 l3.toNatClampNeg)), some (.int (v 219 ((l3 + (-1 : Int32)).toNatClampNeg)))], [.int (l3 + (-1 : Int32)), .ref 221, .int (v 220 ((l3 + (-1 : Int32)).toNatClampNeg)), .int (l3 + (-1 : Int32)), .ref 220], (223, kc, ks, pd_H g (pd_w (pd_w v 198 6 ((v 198 6) + (1 : Int32))) 198 19 (0 : Int32))))) rfl ?_
                  obtain ⟨hc13, h⟩ := pd_chk h
                  refine ev_iald pp_Mo_reckon rfl (fun _ => rfl) hc13 ?_
                  refine ev_gos pp_Mo_reckon 1 (S' := (306, [some (.ref 198), some (.int l1), some (.int y2), some (.int (l3 + (-1 : Int32))), some (.int y4), some (.int (v 220 l3.toNatClampNeg)), some (.int (v 219 ((l3 + (-1 : Int32)).toNatClampNeg)))], [.int (v 220 l3.toNatClampNeg), .int (v 221 ((l3 + (-1 : Int32)).toNatClampNeg)), .int (v 220 ((l3 + (-1 : Int32)).toNatClampNeg)), .int (l3 + (-1 : Int32)), .ref 220], (223, kc, ks, pd_H g (pd_w (pd_w v 198 6 ((v 198 6) + (1 : Int32))) 198 19 (0 : Int32))))) rfl ?_
                  refine ev_call pp_Mo_reckon rfl rfl rfl (s_Mo_joined) ?_
                  refine ev_gos pp_Mo_reckon 0 (S' := (309, [some (.ref 198), some (.int l1), some (.int y2), some (.int (l3 + (-1 : Int32))), some (.int y4), some (.int (v 220 l3.toNatClampNeg)), some (.int (v 219 ((l3 + (-1 : Int32)).toNatClampNeg)))], [.int (d_Mo_joined (v 220 ((l3 + (-1 : Int32)).toNatClampNeg)) (v 221 ((l3 + (-1 : Int32)).toNatClampNeg)) (v 220 l3.toNatClampNeg)), .int (l3 + (-1 : Int32)), .ref 220], (223, kc, ks, pd_H g (pd_w (pd_w v 198 6 ((v 198 6) + (1 : Int32))) 198 19 (0 : Int32))))) rfl ?_
                  obtain ⟨hc15, h⟩ := pd_chk h
                  refine ev_iast pp_Mo_reckon rfl (fun _ => rfl) hc15 ?_
                  refine ev_gos pp_Mo_reckon 1 (S' := (137, [some (.ref 198), some (.int l1), some (.int y2), some (.int (l3 + (-1 : Int32))), some (.int y4), some (.int (v 220 l3.toNatClampNeg)), some (.int (v 219 ((l3 + (-1 : Int32)).toNatClampNeg)))], [], (223, kc, ks, pd_H g (pd_w (pd_w (pd_w v 198 6 ((v 198 6) + (1 : Int32))) 198 19 (0 : Int32)) 220 ((l3 + (-1 : Int32)).toNatClampNeg) (d_Mo_joined (v 220 ((l3 + (-1 : Int32)).toNatClampNeg)) (v 221 ((l3 + (-1 : Int32)).toNatClampNeg)) (v 220 l3.toNatClampNeg)))))) rfl ?_
                  exact ih _ _ _ _ _ _ _ _  h
                · rw [hb11]
                  refine ev_gos pp_Mo_reckon 7 (S' := (279, [some (.ref 198), some (.int l1), some (.int y2), some (.int (l3 + (-1 : Int32))), some (.int y4), some (.int (v 220 l3.toNatClampNeg)), some (.int (v 219 ((l3 + (-1 : Int32)).toNatClampNeg)))], [.int (((8 : Int32) * l1) + (v 220 l3.toNatClampNeg)), .ref 205], (223, kc, ks, pd_H g (pd_w (pd_w v 198 6 ((v 198 6) + (1 : Int32))) 198 19 (0 : Int32))))) rfl ?_
                  obtain ⟨hc16, h⟩ := pd_chk h
                  refine ev_iald pp_Mo_reckon rfl (fun _ => rfl) hc16 ?_
                  refine ev_gos pp_Mo_reckon 8 (S' := (297, [some (.ref 198), some (.int l1), some (.int y2), some (.int (l3 + (-1 : Int32))), some (.int y4), some (.int (v 205 ((((8 : Int32) * l1) + (v 220 l3.toNatClampNeg)).toNatClampNeg))), some (.int (v 219 ((l3 + (-1 : Int32)).toNatClampNeg)))], [.int (l3 + (-1 : Int32)), .ref 220, .int (l3 + (-1 : Int32)), .ref 220], (223, kc, ks, pd_H g (pd_w (pd_w v 198 6 ((v 198 6) + (1 : Int32))) 198 19 (0 : Int32))))) rfl ?_
                  obtain ⟨hc17, h⟩ := pd_chk h
                  refine ev_iald pp_Mo_reckon rfl (fun _ => rfl) hc17 ?_
                  refine ev_gos pp_Mo_reckon 3 (S' := (303, [some (.ref 198), some (.int l1), some (.int y2), some (.int (l3 + (-1 : Int32))), some (.int y4), some (.int (v 205 ((((8 : Int32) * l1) + (v 220 l3.toNatClampNeg)).toNatClampNeg))), some (.int (v 219 ((l3 + (-1 : Int32)).toNatClampNeg)))], [.int (l3 + (-1 : Int32)), .ref 221, .int (v 220 ((l3 + (-1 : Int32)).toNatClampNeg)), .int (l3 + (-1 : Int32)), .ref 220], (223, kc, ks, pd_H g (pd_w (pd_w v 198 6 ((v 198 6) + (1 : Int32))) 198 19 (0 : Int32))))) rfl ?_
                  obtain ⟨hc18, h⟩ := pd_chk h
                  refine ev_iald pp_Mo_reckon rfl (fun _ => rfl) hc18 ?_
                  refine ev_gos pp_Mo_reckon 1 (S' := (306, [some (.ref 198), some (.int l1), some (.int y2), some (.int (l3 + (-1 : Int32))), some (.int y4), some (.int (v 205 ((((8 : Int32) * l1) + (v 220 l3.toNatClampNeg)).toNatClampNeg))), some (.int (v 219 ((l3 + (-1 : Int32)).toNatClampNeg)))], [.int (v 205 ((((8 : Int32) * l1) + (v 220 l3.toNatClampNeg)).toNatClampNeg)), .int (v 221 ((l3 + (-1 : Int32)).toNatClampNeg)), .int (v 220 ((l3 + (-1 : Int32)).toNatClampNeg)), .int (l3 + (-1 : Int32)), .ref 220], (223, kc, ks, pd_H g (pd_w (pd_w v 198 6 ((v 198 6) + (1 : Int32))) 198 19 (0 : Int32))))) rfl ?_
                  refine ev_call pp_Mo_reckon rfl rfl rfl (s_Mo_joined) ?_
                  refine ev_gos pp_Mo_reckon 0 (S' := (309, [some (.ref 198), some (.int l1), some (.int y2), some (.int (l3 + (-1 : Int32))), some (.int y4), some (.int (v 205 ((((8 : Int32) * l1) + (v 220 l3.toNatClampNeg)).toNatClampNeg))), some (.int (v 219 ((l3 + (-1 : Int32)).toNatClampNeg)))], [.int (d_Mo_joined (v 220 ((l3 + (-1 : Int32)).toNatClampNeg)) (v 221 ((l3 + (-1 : Int32)).toNatClampNeg)) (v 205 ((((8 : Int32) * l1) + (v 220 l3.toNatClampNeg)).toNatClampNeg))), .int (l3 + (-1 : Int32)), .ref 220], (223, kc, ks, pd_H g (pd_w (pd_w v 198 6 ((v 198 6) + (1 : Int32))) 198 19 (0 : Int32))))) rfl ?_
                  obtain ⟨hc20, h⟩ := pd_chk h
                  refine ev_iast pp_Mo_reckon rfl (fun _ => rfl) hc20 ?_
                  refine ev_gos pp_Mo_reckon 1 (S' := (137, [some (.ref 198), some (.int l1), some (.int y2), some (.int (l3 + (-1 : Int32))), some (.int y4), some (.int (v 205 ((((8 : Int32) * l1) + (v 220 l3.toNatClampNeg)).toNatClampNeg))), some (.int (v 219 ((l3 + (-1 : Int32)).toNatClampNeg)))], [], (223, kc, ks, pd_H g (pd_w (pd_w (pd_w v 198 6 ((v 198 6) + (1 : Int32))) 198 19 (0 : Int32)) 220 ((l3 + (-1 : Int32)).toNatClampNeg) (d_Mo_joined (v 220 ((l3 + (-1 : Int32)).toNatClampNeg)) (v 221 ((l3 + (-1 : Int32)).toNatClampNeg)) (v 205 ((((8 : Int32) * l1) + (v 220 l3.toNatClampNeg)).toNatClampNeg))))))) rfl ?_
                  exact ih _ _ _ _ _ _ _ _  h
              · rw [hb10]
                refine ev_gos pp_Mo_reckon 3 (S' := (257, [some (.ref 198), some (.int l1), some (.int y2), some (.int (l3 + (-1 : Int32))), some (.int y4), some (.int (v 220 l3.toNatClampNeg)), some (.int (v 219 ((l3 + (-1 : Int32)).toNatClampNeg)))], [.int (v 220 l3.toNatClampNeg), .ref 203], (223, kc, ks, pd_H g (pd_w (pd_w v 198 6 ((v 198 6) + (1 : Int32))) 198 19 (0 : Int32))))) rfl ?_
                obtain ⟨hc21, h⟩ := pd_chk h
                refine ev_iald pp_Mo_reckon rfl (fun _ => rfl) hc21 ?_
                refine ev_gos pp_Mo_reckon 8 (S' := (297, [some (.ref 198), some (.int l1), some (.int y2), some (.int (l3 + (-1 : Int32))), some (.int y4), some (.int (v 203 ((v 220 l3.toNatClampNeg).toNatClampNeg))), some (.int (v 219 ((l3 + (-1 : Int32)).toNatClampNeg)))], [.int (l3 + (-1 : Int32)), .ref 220, .int (l3 + (-1 : Int32)), .ref 220], (223, kc, ks, pd_H g (pd_w (pd_w v 198 6 ((v 198 6) + (1 : Int32))) 198 19 (0 : Int32))))) rfl ?_
                obtain ⟨hc22, h⟩ := pd_chk h
                refine ev_iald pp_Mo_reckon rfl (fun _ => rfl) hc22 ?_
                refine ev_gos pp_Mo_reckon 3 (S' := (303, [some (.ref 198), some (.int l1), some (.int y2), some (.int (l3 + (-1 : Int32))), some (.int y4), some (.int (v 203 ((v 220 l3.toNatClampNeg).toNatClampNeg))), some (.int (v 219 ((l3 + (-1 : Int32)).toNatClampNeg)))], [.int (l3 + (-1 : Int32)), .ref 221, .int (v 220 ((l3 + (-1 : Int32)).toNatClampNeg)), .int (l3 + (-1 : Int32)), .ref 220], (223, kc, ks, pd_H g (pd_w (pd_w v 198 6 ((v 198 6) + (1 : Int32))) 198 19 (0 : Int32))))) rfl ?_
                obtain ⟨hc23, h⟩ := pd_chk h
                refine ev_iald pp_Mo_reckon rfl (fun _ => rfl) hc23 ?_
                refine ev_gos pp_Mo_reckon 1 (S' := (306, [some (.ref 198), some (.int l1), some (.int y2), some (.int (l3 + (-1 : Int32))), some (.int y4), some (.int (v 203 ((v 220 l3.toNatClampNeg).toNatClampNeg))), some (.int (v 219 ((l3 + (-1 : Int32)).toNatClampNeg)))], [.int (v 203 ((v 220 l3.toNatClampNeg).toNatClampNeg)), .int (v 221 ((l3 + (-1 : Int32)).toNatClampNeg)), .int (v 220 ((l3 + (-1 : Int32)).toNatClampNeg)), .int (l3 + (-1 : Int32)), .ref 220], (223, kc, ks, pd_H g (pd_w (pd_w v 198 6 ((v 198 6) + (1 : Int32))) 198 19 (0 : Int32))))) rfl ?_
                refine ev_call pp_Mo_reckon rfl rfl rfl (s_Mo_joined) ?_
                refine ev_gos pp_Mo_reckon 0 (S' := (309, [some (.ref 198), some (.int l1), some (.int y2), some (.int (l3 + (-1 : Int32))), some (.int y4), some (.int (v 203 ((v 220 l3.toNatClampNeg).toNatClampNeg))), some (.int (v 219 ((l3 + (-1 : Int32)).toNatClampNeg)))], [.int (d_Mo_joined (v 220 ((l3 + (-1 : Int32)).toNatClampNeg)) (v 221 ((l3 + (-1 : Int32)).toNatClampNeg)) (v 203 ((v 220 l3.toNatClampNeg).toNatClampNeg))), .int (l3 + (-1 : Int32)), .ref 220], (223, kc, ks, pd_H g (pd_w (pd_w v 198 6 ((v 198 6) + (1 : Int32))) 198 19 (0 : Int32))))) rfl ?_
                obtain ⟨hc25, h⟩ := pd_chk h
                refine ev_iast pp_Mo_reckon rfl (fun _ => rfl) hc25 ?_
                refine ev_gos pp_Mo_reckon 1 (S' := (137, [some (.ref 198), some (.int l1), some (.int y2), some (.int (l3 + (-1 : Int32))), some (.int y4), some (.int (v 203 ((v 220 l3.toNatClampNeg).toNatClampNeg))), some (.int (v 219 ((l3 + (-1 : Int32)).toNatClampNeg)))], [], (223, kc, ks, pd_H g (pd_w (pd_w (pd_w v 198 6 ((v 198 6) + (1 : Int32))) 198 19 (0 : Int32)) 220 ((l3 + (-1 : Int32)).toNatClampNeg) (d_Mo_joined (v 220 ((l3 + (-1 : Int32)).toNatClampNeg)) (v 221 ((l3 + (-1 : Int32)).toNatClampNeg)) (v 203 ((v 220 l3.toNatClampNeg).toNatClampNeg))))))) rfl ?_
                exact ih _ _ _ _ _ _ _ _  h
            · rw [hb9]
              refine ev_gos pp_Mo_reckon 1 (S' := (243, [some (.ref 198), some (.int l1), some (.int y2), some (.int (l3 + (-1 : Int32))), some (.int y4), some (.int (v 220 l3.toNatClampNeg)), some (.int (v 219 ((l3 + (-1 : Int32)).toNatClampNeg)))], [.int (0 : Int32)], (223, kc, ks, pd_H g (pd_w (pd_w v 198 6 ((v 198 6) + (1 : Int32))) 198 19 (0 : Int32))))) rfl ?_
              cases h
              exact ev_fin pp_Mo_reckon rfl
          · rw [hb8]
            refine ev_gos pp_Mo_reckon 4 (S' := (211, [some (.ref 198), some (.int l1), some (.int y2), some (.int (l3 + (-1 : Int32))), some (.int y4), some (.int (v 220 l3.toNatClampNeg)), some (.int (v 219 ((l3 + (-1 : Int32)).toNatClampNeg)))], [.int (73 : Int32), .int (v 219 ((l3 + (-1 : Int32)).toNatClampNeg)), .int (0 : Int32), .int (v 220 l3.toNatClampNeg), .ref 198], (223, kc, ks, pd_H g (pd_w v 198 6 ((v 198 6) + (1 : Int32)))))) rfl ?_
            refine ev_gos pp_Mo_reckon 1 (S' := (bif !(decide ((v 219 ((l3 + (-1 : Int32)).toNatClampNeg)) = (73 : Int32))) then 219 else 214, [some (.ref 198), some (.int l1), some (.int y2), some (.int (l3 + (-1 : Int32))), some (.int y4), some (.int (v 220 l3.toNatClampNeg)), some (.int (v 219 ((l3 + (-1 : Int32)).toNatClampNeg)))], [.int (0 : Int32), .int (v 220 l3.toNatClampNeg), .ref 198], (223, kc, ks, pd_H g (pd_w v 198 6 ((v 198 6) + (1 : Int32)))))) rfl ?_
            rcases pd_cases h with ⟨hb26, h⟩ | ⟨hb26, h⟩
            · rw [hb26]
              refine ev_gos pp_Mo_reckon 1 (S' := (221, [some (.ref 198), some (.int l1), some (.int y2), some (.int (l3 + (-1 : Int32))), some (.int y4), some (.int (v 220 l3.toNatClampNeg)), some (.int (v 219 ((l3 + (-1 : Int32)).toNatClampNeg)))], [.int (7 : Int32), .int (0 : Int32), .int (v 220 l3.toNatClampNeg), .ref 198], (223, kc, ks, pd_H g (pd_w v 198 6 ((v 198 6) + (1 : Int32)))))) rfl ?_
              refine ev_call pp_Mo_reckon rfl rfl rfl (s_Mo_beyond) ?_
              refine ev_gos pp_Mo_reckon 0 (S' := (224, [some (.ref 198), some (.int l1), some (.int y2), some (.int (l3 + (-1 : Int32))), some (.int y4), some (.int (v 220 l3.toNatClampNeg)), some (.int (v 219 ((l3 + (-1 : Int32)).toNatClampNeg)))], [.int (d_Mo_beyond (v 220 l3.toNatClampNeg) (0 : Int32) (7 : Int32)), .ref 198], (223, kc, ks, pd_H g (pd_w v 198 6 ((v 198 6) + (1 : Int32)))))) rfl ?_
              refine ev_gos pp_Mo_reckon 1 (S' := (bif decide ((d_Mo_beyond (v 220 l3.toNatClampNeg) (0 : Int32) (7 : Int32)) = 0) then 231 else 227, [some (.ref 198), some (.int l1), some (.int y2), some (.int (l3 + (-1 : Int32))), some (.int y4), some (.int (v 220 l3.toNatClampNeg)), some (.int (v 219 ((l3 + (-1 : Int32)).toNatClampNeg)))], [.ref 198], (223, kc, ks, pd_H g (pd_w v 198 6 ((v 198 6) + (1 : Int32)))))) rfl ?_
              rcases pd_cases h with ⟨hb28, h⟩ | ⟨hb28, h⟩
              · rw [hb28]
                refine ev_gos pp_Mo_reckon 1 (S' := (232, [some (.ref 198), some (.int l1), some (.int y2), some (.int (l3 + (-1 : Int32))), some (.int y4), some (.int (v 220 l3.toNatClampNeg)), some (.int (v 219 ((l3 + (-1 : Int32)).toNatClampNeg)))], [.int (0 : Int32), .ref 198], (223, kc, ks, pd_H g (pd_w v 198 6 ((v 198 6) + (1 : Int32)))))) rfl ?_
                refine ev_put pp_Mo_reckon rfl (fun _ => rfl) rfl rfl (pd_fit pd_b0) ?_
                refine ev_gos pp_Mo_reckon 2 (S' := (239, [some (.ref 198), some (.int l1), some (.int y2), some (.int (l3 + (-1 : Int32))), some (.int y4), some (.int (v 220 l3.toNatClampNeg)), some (.int (v 219 ((l3 + (-1 : Int32)).toNatClampNeg)))], [.int (0 : Int32)], (223, kc, ks, pd_H g (pd_w (pd_w v 198 6 ((v 198 6) + (1 : Int32))) 198 19 (0 : Int32))))) rfl ?_
                refine ev_gos pp_Mo_reckon 1 (S' := (bif decide ((0 : Int32) = 0) then 244 else 242, [some (.ref 198), some (.int l1), some (.int y2), some (.int (l3 + (-1 : Int32))), some (.int y4), some (.int (v 220 l3.toNatClampNeg)), some (.int (v 219 ((l3 + (-1 : Int32)).toNatClampNeg)))], [], (223, kc, ks, pd_H g (pd_w (pd_w v 198 6 ((v 198 6) + (1 : Int32))) 198 19 (0 : Int32))))) rfl ?_
                rcases pd_cases h with ⟨hb29, h⟩ | ⟨hb29, h⟩
                · rw [hb29]
                  refine ev_gos pp_Mo_reckon 2 (S' := (248, [some (.ref 198), some (.int l1), some (.int y2), some (.int (l3 + (-1 : Int32))), some (.int y4), some (.int (v 220 l3.toNatClampNeg)), some (.int (v 219 ((l3 + (-1 : Int32)).toNatClampNeg)))], [.int (73 : Int32), .int (v 219 ((l3 + (-1 : Int32)).toNatClampNeg))], (223, kc, ks, pd_H g (pd_w (pd_w v 198 6 ((v 198 6) + (1 : Int32))) 198 19 (0 : Int32))))) rfl ?_
                  refine ev_gos pp_Mo_reckon 1 (S' := (bif !(decide ((v 219 ((l3 + (-1 : Int32)).toNatClampNeg)) = (73 : Int32))) then 261 else 251, [some (.ref 198), some (.int l1), some (.int y2), some (.int (l3 + (-1 : Int32))), some (.int y4), some (.int (v 220 l3.toNatClampNeg)), some (.int (v 219 ((l3 + (-1 : Int32)).toNatClampNeg)))], [], (223, kc, ks, pd_H g (pd_w (pd_w v 198 6 ((v 198 6) + (1 : Int32))) 198 19 (0 : Int32))))) rfl ?_
                  rcases pd_cases h with ⟨hb30, h⟩ | ⟨hb30, h⟩
                  · rw [hb30]
                    refine ev_gos pp_Mo_reckon 2 (S' := (265, [some (.ref 198), some (.int l1), some (.int y2), some (.int (l3 + (-1 : Int32))), some (.int y4), some (.int (v 220 l3.toNatClampNeg)), some (.int (v 219 ((l3 + (-1 : Int32)).toNatClampNeg)))], [.int (76 : Int32), .int (v 219 ((l3 + (-1 : Int32)).toNatClampNeg))], (223, kc, ks, pd_H g (pd_w (pd_w v 198 6 ((v 198 6) + (1 : Int32))) 198 19 (0 : Int32))))) rfl ?_
                    refine ev_gos pp_Mo_reckon 1 (S' := (bif !(decide ((v 219 ((l3 + (-1 : Int32)).toNatClampNeg)) = (76 : Int32))) then 283 else 268, [some (.ref 198), some (.int l1), some (.int y2), some (.int (l3 + (-1 : Int32))), some (.int y4), some (.int (v 220 l3.toNatClampNeg)), some (.int (v 219 ((l3 + (-1 : Int32)).toNatClampNeg)))], [], (223, kc, ks, pd_H g (pd_w (pd_w v 198 6 ((v 198 6) + (1 : Int32))) 198 19 (0 : Int32))))) rfl ?_
                    rcases pd_cases h with ⟨hb31, h⟩ | ⟨hb31, h⟩
                    · rw [hb31]
                      refine ev_gos pp_Mo_reckon 8 (S' := (297, [some (.ref 198), some (.int l1), some (.int y2), some (.int (l3 + (-1 : Int32))), some (.int y4), some (.int (v 220 l3.toNatClampNeg)), some (.int (v 219 ((l3 + (-1 : Int32)).toNatClampNeg)))], [.int (l3 + (-1 : Int32)), .ref 220, .int (l3 + (-1 : Int32)), .ref 220], (223, kc, ks, pd_H g (pd_w (pd_w v 198 6 ((v 198 6) + (1 : Int32))) 198 19 (0 : Int32))))) rfl ?_
                      obtain ⟨hc32, h⟩ := pd_chk h
                      refine ev_iald pp_Mo_reckon rfl (fun _ => rfl) hc32 ?_
                      refine ev_gos pp_Mo_reckon 3 (S' := (303, [some (.ref 198), some (.int l1), some (.int y2), some (.int (l3 + (-1 : Int32))), some (.int y4), some (.int (v 220 l3.toNatClampNeg)), some (.int (v 219 ((l3 + (-1 : Int32)).toNatClampNeg)))], [.int (l3 + (-1 : Int32)), .ref 221, .int (v 220 ((l3 + (-1 : Int32)).toNatClampNeg)), .int (l3 + (-1 : Int32)), .ref 220], (223, kc, ks, pd_H g (pd_w (pd_w v 198 6 ((v 198 6) + (1 : Int32))) 198 19 (0 : Int32))))) rfl ?_
                      obtain ⟨hc33, h⟩ := pd_chk h
                      refine ev_iald pp_Mo_reckon rfl (fun _ => rfl) hc33 ?_
                      refine ev_gos pp_Mo_reckon 1 (S' := (306, [some (.ref 198), some (.int l1), some (.int y2), some (.int (l3 + (-1 : Int32))), some (.int y4), some (.int (v 220 l3.toNatClampNeg)), some (.int (v 219 ((l3 + (-1 : Int32)).toNatClampNeg)))], [.int (v 220 l3.toNatClampNeg), .int (v 221 ((l3 + (-1 : Int32)).toNatClampNeg)), .int (v 220 ((l3 + (-1 : Int32)).toNatClampNeg)), .int (l3 + (-1 : Int32)), .ref 220], (223, kc, ks, pd_H g (pd_w (pd_w v 198 6 ((v 198 6) + (1 : Int32))) 198 19 (0 : Int32))))) rfl ?_
                      refine ev_call pp_Mo_reckon rfl rfl rfl (s_Mo_joined) ?_
                      refine ev_gos pp_Mo_reckon 0 (S' := (309, [some (.ref 198), some (.int l1), some (.int y2), some (.int (l3 + (-1 : Int32))), some (.int y4), some (.int (v 220 l3.toNatClampNeg)), some (.int (v 219 ((l3 + (-1 : Int32)).toNatClampNeg)))], [.int (d_Mo_joined (v 220 ((l3 + (-1 : Int32)).toNatClampNeg)) (v 221 ((l3 + (-1 : Int32)).toNatClampNeg)) (v 220 l3.toNatClampNeg)), .int (l3 + (-1 : Int32)), .ref 220], (223, kc, ks, pd_H g (pd_w (pd_w v 198 6 ((v 198 6) + (1 : Int32))) 198 19 (0 : Int32))))) rfl ?_
                      obtain ⟨hc35, h⟩ := pd_chk h
                      refine ev_iast pp_Mo_reckon rfl (fun _ => rfl) hc35 ?_
                      refine ev_gos pp_Mo_reckon 1 (S' := (137, [some (.ref 198), some (.int l1), some (.int y2), some (.int (l3 + (-1 : Int32))), some (.int y4), some (.int (v 220 l3.toNatClampNeg)), some (.int (v 219 ((l3 + (-1 : Int32)).toNatClampNeg)))], [], (223, kc, ks, pd_H g (pd_w (pd_w (pd_w v 198 6 ((v 198 6) + (1 : Int32))) 198 19 (0 : Int32)) 220 ((l3 + (-1 : Int32)).toNatClampNeg) (d_Mo_joined (v 220 ((l3 + (-1 : Int32)).toNatClampNeg)) (v 221 ((l3 + (-1 : Int32)).toNatClampNeg)) (v 220 l3.toNatClampNeg)))))) rfl ?_
                      exact ih _ _ _ _ _ _ _ _  h
                    · rw [hb31]
                      refine ev_gos pp_Mo_reckon 7 (S' := (279, [some (.ref 198), some (.int l1), some (.int y2), some (.int (l3 + (-1 : Int32))), some (.int y4), some (.int (v 220 l3.toNatClampNeg)), some (.int (v 219 ((l3 + (-1 : Int32)).toNatClampNeg)))], [.int (((8 : Int32) * l1) + (v 220 l3.toNatClampNeg)), .ref 205], (223, kc, ks, pd_H g (pd_w (pd_w v 198 6 ((v 198 6) + (1 : Int32))) 198 19 (0 : Int32))))) rfl ?_
                      obtain ⟨hc36, h⟩ := pd_chk h
                      refine ev_iald pp_Mo_reckon rfl (fun _ => rfl) hc36 ?_
                      refine ev_gos pp_Mo_reckon 8 (S' := (297, [some (.ref 198), some (.int l1), some (.int y2), some (.int (l3 + (-1 : Int32))), some (.int y4), some (.int (v 205 ((((8 : Int32) * l1) + (v 220 l3.toNatClampNeg)).toNatClampNeg))), some (.int (v 219 ((l3 + (-1 : Int32)).toNatClampNeg)))], [.int (l3 + (-1 : Int32)), .ref 220, .int (l3 + (-1 : Int32)), .ref 220], (223, kc, ks, pd_H g (pd_w (pd_w v 198 6 ((v 198 6) + (1 : Int32))) 198 19 (0 : Int32))))) rfl ?_
                      obtain ⟨hc37, h⟩ := pd_chk h
                      refine ev_iald pp_Mo_reckon rfl (fun _ => rfl) hc37 ?_
                      refine ev_gos pp_Mo_reckon 3 (S' := (303, [some (.ref 198), some (.int l1), some (.int y2), some (.int (l3 + (-1 : Int32))), some (.int y4), some (.int (v 205 ((((8 : Int32) * l1) + (v 220 l3.toNatClampNeg)).toNatClampNeg))), some (.int (v 219 ((l3 + (-1 : Int32)).toNatClampNeg)))], [.int (l3 + (-1 : Int32)), .ref 221, .int (v 220 ((l3 + (-1 : Int32)).toNatClampNeg)), .int (l3 + (-1 : Int32)), .ref 220], (223, kc, ks, pd_H g (pd_w (pd_w v 198 6 ((v 198 6) + (1 : Int32))) 198 19 (0 : Int32))))) rfl ?_
                      obtain ⟨hc38, h⟩ := pd_chk h
                      refine ev_iald pp_Mo_reckon rfl (fun _ => rfl) hc38 ?_
                      refine ev_gos pp_Mo_reckon 1 (S' := (306, [some (.ref 198), some (.int l1), some (.int y2), some (.int (l3 + (-1 : Int32))), some (.int y4), some (.int (v 205 ((((8 : Int32) * l1) + (v 220 l3.toNatClampNeg)).toNatClampNeg))), some (.int (v 219 ((l3 + (-1 : Int32)).toNatClampNeg)))], [.int (v 205 ((((8 : Int32) * l1) + (v 220 l3.toNatClampNeg)).toNatClampNeg)), .int (v 221 ((l3 + (-1 : Int32)).toNatClampNeg)), .int (v 220 ((l3 + (-1 : Int32)).toNatClampNeg)), .int (l3 + (-1 : Int32)), .ref 220], (223, kc, ks, pd_H g (pd_w (pd_w v 198 6 ((v 198 6) + (1 : Int32))) 198 19 (0 : Int32))))) rfl ?_
                      refine ev_call pp_Mo_reckon rfl rfl rfl (s_Mo_joined) ?_
                      refine ev_gos pp_Mo_reckon 0 (S' := (309, [some (.ref 198), some (.int l1), some (.int y2), some (.int (l3 + (-1 : Int32))), some (.int y4), some (.int (v 205 ((((8 : Int32) * l1) + (v 220 l3.toNatClampNeg)).toNatClampNeg))), some (.int (v 219 ((l3 + (-1 : Int32)).toNatClampNeg)))], [.int (d_Mo_joined (v 220 ((l3 + (-1 : Int32)).toNatClampNeg)) (v 221 ((l3 + (-1 : Int32)).toNatClampNeg)) (v 205 ((((8 : Int32) * l1) + (v 220 l3.toNatClampNeg)).toNatClampNeg))), .int (l3 + (-1 : Int32)), .ref 220], (223, kc, ks, pd_H g (pd_w (pd_w v 198 6 ((v 198 6) + (1 : Int32))) 198 19 (0 : Int32))))) rfl ?_
                      obtain ⟨hc40, h⟩ := pd_chk h
                      refine ev_iast pp_Mo_reckon rfl (fun _ => rfl) hc40 ?_
                      refine ev_gos pp_Mo_reckon 1 (S' := (137, [some (.ref 198), some (.int l1), some (.int y2), some (.int (l3 + (-1 : Int32))), some (.int y4), some (.int (v 205 ((((8 : Int32) * l1) + (v 220 l3.toNatClampNeg)).toNatClampNeg))), some (.int (v 219 ((l3 + (-1 : Int32)).toNatClampNeg)))], [], (223, kc, ks, pd_H g (pd_w (pd_w (pd_w v 198 6 ((v 198 6) + (1 : Int32))) 198 19 (0 : Int32)) 220 ((l3 + (-1 : Int32)).toNatClampNeg) (d_Mo_joined (v 220 ((l3 + (-1 : Int32)).toNatClampNeg)) (v 221 ((l3 + (-1 : Int32)).toNatClampNeg)) (v 205 ((((8 : Int32) * l1) + (v 220 l3.toNatClampNeg)).toNatClampNeg))))))) rfl ?_
                      exact ih _ _ _ _ _ _ _ _  h
                  · rw [hb30]
                    refine ev_gos pp_Mo_reckon 3 (S' := (257, [some (.ref 198), some (.int l1), some (.int y2), some (.int (l3 + (-1 : Int32))), some (.int y4), some (.int (v 220 l3.toNatClampNeg)), some (.int (v 219 ((l3 + (-1 : Int32)).toNatClampNeg)))], [.int (v 220 l3.toNatClampNeg), .ref 203], (223, kc, ks, pd_H g (pd_w (pd_w v 198 6 ((v 198 6) + (1 : Int32))) 198 19 (0 : Int32))))) rfl ?_
                    obtain ⟨hc41, h⟩ := pd_chk h
                    refine ev_iald pp_Mo_reckon rfl (fun _ => rfl) hc41 ?_
                    refine ev_gos pp_Mo_reckon 8 (S' := (297, [some (.ref 198), some (.int l1), some (.int y2), some (.int (l3 + (-1 : Int32))), some (.int y4), some (.int (v 203 ((v 220 l3.toNatClampNeg).toNatClampNeg))), some (.int (v 219 ((l3 + (-1 : Int32)).toNatClampNeg)))], [.int (l3 + (-1 : Int32)), .ref 220, .int (l3 + (-1 : Int32)), .ref 220], (223, kc, ks, pd_H g (pd_w (pd_w v 198 6 ((v 198 6) + (1 : Int32))) 198 19 (0 : Int32))))) rfl ?_
                    obtain ⟨hc42, h⟩ := pd_chk h
                    refine ev_iald pp_Mo_reckon rfl (fun _ => rfl) hc42 ?_
                    refine ev_gos pp_Mo_reckon 3 (S' := (303, [some (.ref 198), some (.int l1), some (.int y2), some (.int (l3 + (-1 : Int32))), some (.int y4), some (.int (v 203 ((v 220 l3.toNatClampNeg).toNatClampNeg))), some (.int (v 219 ((l3 + (-1 : Int32)).toNatClampNeg)))], [.int (l3 + (-1 : Int32)), .ref 221, .int (v 220 ((l3 + (-1 : Int32)).toNatClampNeg)), .int (l3 + (-1 : Int32)), .ref 220], (223, kc, ks, pd_H g (pd_w (pd_w v 198 6 ((v 198 6) + (1 : Int32))) 198 19 (0 : Int32))))) rfl ?_
                    obtain ⟨hc43, h⟩ := pd_chk h
                    refine ev_iald pp_Mo_reckon rfl (fun _ => rfl) hc43 ?_
                    refine ev_gos pp_Mo_reckon 1 (S' := (306, [some (.ref 198), some (.int l1), some (.int y2), some (.int (l3 + (-1 : Int32))), some (.int y4), some (.int (v 203 ((v 220 l3.toNatClampNeg).toNatClampNeg))), some (.int (v 219 ((l3 + (-1 : Int32)).toNatClampNeg)))], [.int (v 203 ((v 220 l3.toNatClampNeg).toNatClampNeg)), .int (v 221 ((l3 + (-1 : Int32)).toNatClampNeg)), .int (v 220 ((l3 + (-1 : Int32)).toNatClampNeg)), .int (l3 + (-1 : Int32)), .ref 220], (223, kc, ks, pd_H g (pd_w (pd_w v 198 6 ((v 198 6) + (1 : Int32))) 198 19 (0 : Int32))))) rfl ?_
                    refine ev_call pp_Mo_reckon rfl rfl rfl (s_Mo_joined) ?_
                    refine ev_gos pp_Mo_reckon 0 (S' := (309, [some (.ref 198), some (.int l1), some (.int y2), some (.int (l3 + (-1 : Int32))), some (.int y4), some (.int (v 203 ((v 220 l3.toNatClampNeg).toNatClampNeg))), some (.int (v 219 ((l3 + (-1 : Int32)).toNatClampNeg)))], [.int (d_Mo_joined (v 220 ((l3 + (-1 : Int32)).toNatClampNeg)) (v 221 ((l3 + (-1 : Int32)).toNatClampNeg)) (v 203 ((v 220 l3.toNatClampNeg).toNatClampNeg))), .int (l3 + (-1 : Int32)), .ref 220], (223, kc, ks, pd_H g (pd_w (pd_w v 198 6 ((v 198 6) + (1 : Int32))) 198 19 (0 : Int32))))) rfl ?_
                    obtain ⟨hc45, h⟩ := pd_chk h
                    refine ev_iast pp_Mo_reckon rfl (fun _ => rfl) hc45 ?_
                    refine ev_gos pp_Mo_reckon 1 (S' := (137, [some (.ref 198), some (.int l1), some (.int y2), some (.int (l3 + (-1 : Int32))), some (.int y4), some (.int (v 203 ((v 220 l3.toNatClampNeg).toNatClampNeg))), some (.int (v 219 ((l3 + (-1 : Int32)).toNatClampNeg)))], [], (223, kc, ks, pd_H g (pd_w (pd_w (pd_w v 198 6 ((v 198 6) + (1 : Int32))) 198 19 (0 : Int32)) 220 ((l3 + (-1 : Int32)).toNatClampNeg) (d_Mo_joined (v 220 ((l3 + (-1 : Int32)).toNatClampNeg)) (v 221 ((l3 + (-1 : Int32)).toNatClampNeg)) (v 203 ((v 220 l3.toNatClampNeg).toNatClampNeg))))))) rfl ?_
                    exact ih _ _ _ _ _ _ _ _  h
                · rw [hb29]
                  refine ev_gos pp_Mo_reckon 1 (S' := (243, [some (.ref 198), some (.int l1), some (.int y2), some (.int (l3 + (-1 : Int32))), some (.int y4), some (.int (v 220 l3.toNatClampNeg)), some (.int (v 219 ((l3 + (-1 : Int32)).toNatClampNeg)))], [.int (0 : Int32)], (223, kc, ks, pd_H g (pd_w (pd_w v 198 6 ((v 198 6) + (1 : Int32))) 198 19 (0 : Int32))))) rfl ?_
                  cases h
                  exact ev_fin pp_Mo_reckon rfl
              · rw [hb28]
                refine ev_gos pp_Mo_reckon 2 (S' := (232, [some (.ref 198), some (.int l1), some (.int y2), some (.int (l3 + (-1 : Int32))), some (.int y4), some (.int (v 220 l3.toNatClampNeg)), some (.int (v 219 ((l3 + (-1 : Int32)).toNatClampNeg)))], [.int (1 : Int32), .ref 198], (223, kc, ks, pd_H g (pd_w v 198 6 ((v 198 6) + (1 : Int32)))))) rfl ?_
                refine ev_put pp_Mo_reckon rfl (fun _ => rfl) rfl rfl (pd_fit pd_b1) ?_
                refine ev_gos pp_Mo_reckon 2 (S' := (239, [some (.ref 198), some (.int l1), some (.int y2), some (.int (l3 + (-1 : Int32))), some (.int y4), some (.int (v 220 l3.toNatClampNeg)), some (.int (v 219 ((l3 + (-1 : Int32)).toNatClampNeg)))], [.int (1 : Int32)], (223, kc, ks, pd_H g (pd_w (pd_w v 198 6 ((v 198 6) + (1 : Int32))) 198 19 (1 : Int32))))) rfl ?_
                refine ev_gos pp_Mo_reckon 1 (S' := (bif decide ((1 : Int32) = 0) then 244 else 242, [some (.ref 198), some (.int l1), some (.int y2), some (.int (l3 + (-1 : Int32))), some (.int y4), some (.int (v 220 l3.toNatClampNeg)), some (.int (v 219 ((l3 + (-1 : Int32)).toNatClampNeg)))], [], (223, kc, ks, pd_H g (pd_w (pd_w v 198 6 ((v 198 6) + (1 : Int32))) 198 19 (1 : Int32))))) rfl ?_
                rcases pd_cases h with ⟨hb46, h⟩ | ⟨hb46, h⟩
                · rw [hb46]
                  refine ev_gos pp_Mo_reckon 2 (S' := (248, [some (.ref 198), some (.int l1), some (.int y2), some (.int (l3 + (-1 : Int32))), some (.int y4), some (.int (v 220 l3.toNatClampNeg)), some (.int (v 219 ((l3 + (-1 : Int32)).toNatClampNeg)))], [.int (73 : Int32), .int (v 219 ((l3 + (-1 : Int32)).toNatClampNeg))], (223, kc, ks, pd_H g (pd_w (pd_w v 198 6 ((v 198 6) + (1 : Int32))) 198 19 (1 : Int32))))) rfl ?_
                  refine ev_gos pp_Mo_reckon 1 (S' := (bif !(decide ((v 219 ((l3 + (-1 : Int32)).toNatClampNeg)) = (73 : Int32))) then 261 else 251, [some (.ref 198), some (.int l1), some (.int y2), some (.int (l3 + (-1 : Int32))), some (.int y4), some (.int (v 220 l3.toNatClampNeg)), some (.int (v 219 ((l3 + (-1 : Int32)).toNatClampNeg)))], [], (223, kc, ks, pd_H g (pd_w (pd_w v 198 6 ((v 198 6) + (1 : Int32))) 198 19 (1 : Int32))))) rfl ?_
                  rcases pd_cases h with ⟨hb47, h⟩ | ⟨hb47, h⟩
                  · rw [hb47]
                    refine ev_gos pp_Mo_reckon 2 (S' := (265, [some (.ref 198), some (.int l1), some (.int y2), some (.int (l3 + (-1 : Int32))), some (.int y4), some (.int (v 220 l3.toNatClampNeg)), some (.int (v 219 ((l3 + (-1 : Int32)).toNatClampNeg)))], [.int (76 : Int32), .int (v 219 ((l3 + (-1 : Int32)).toNatClampNeg))], (223, kc, ks, pd_H g (pd_w (pd_w v 198 6 ((v 198 6) + (1 : Int32))) 198 19 (1 : Int32))))) rfl ?_
                    refine ev_gos pp_Mo_reckon 1 (S' := (bif !(decide ((v 219 ((l3 + (-1 : Int32)).toNatClampNeg)) = (76 : Int32))) then 283 else 268, [some (.ref 198), some (.int l1), some (.int y2), some (.int (l3 + (-1 : Int32))), some (.int y4), some (.int (v 220 l3.toNatClampNeg)), some (.int (v 219 ((l3 + (-1 : Int32)).toNatClampNeg)))], [], (223, kc, ks, pd_H g (pd_w (pd_w v 198 6 ((v 198 6) + (1 : Int32))) 198 19 (1 : Int32))))) rfl ?_
                    rcases pd_cases h with ⟨hb48, h⟩ | ⟨hb48, h⟩
                    · rw [hb48]
                      refine ev_gos pp_Mo_reckon 8 (S' := (297, [some (.ref 198), some (.int l1), some (.int y2), some (.int (l3 + (-1 : Int32))), some (.int y4), some (.int (v 220 l3.toNatClampNeg)), some (.int (v 219 ((l3 + (-1 : Int32)).toNatClampNeg)))], [.int (l3 + (-1 : Int32)), .ref 220, .int (l3 + (-1 : Int32)), .ref 220], (223, kc, ks, pd_H g (pd_w (pd_w v 198 6 ((v 198 6) + (1 : Int32))) 198 19 (1 : Int32))))) rfl ?_
                      obtain ⟨hc49, h⟩ := pd_chk h
                      refine ev_iald pp_Mo_reckon rfl (fun _ => rfl) hc49 ?_
                      refine ev_gos pp_Mo_reckon 3 (S' := (303, [some (.ref 198), some (.int l1), some (.int y2), some (.int (l3 + (-1 : Int32))), some (.int y4), some (.int (v 220 l3.toNatClampNeg)), some (.int (v 219 ((l3 + (-1 : Int32)).toNatClampNeg)))], [.int (l3 + (-1 : Int32)), .ref 221, .int (v 220 ((l3 + (-1 : Int32)).toNatClampNeg)), .int (l3 + (-1 : Int32)), .ref 220], (223, kc, ks, pd_H g (pd_w (pd_w v 198 6 ((v 198 6) + (1 : Int32))) 198 19 (1 : Int32))))) rfl ?_
                      obtain ⟨hc50, h⟩ := pd_chk h
                      refine ev_iald pp_Mo_reckon rfl (fun _ => rfl) hc50 ?_
                      refine ev_gos pp_Mo_reckon 1 (S' := (306, [some (.ref 198), some (.int l1), some (.int y2), some (.int (l3 + (-1 : Int32))), some (.int y4), some (.int (v 220 l3.toNatClampNeg)), some (.int (v 219 ((l3 + (-1 : Int32)).toNatClampNeg)))], [.int (v 220 l3.toNatClampNeg), .int (v 221 ((l3 + (-1 : Int32)).toNatClampNeg)), .int (v 220 ((l3 + (-1 : Int32)).toNatClampNeg)), .int (l3 + (-1 : Int32)), .ref 220], (223, kc, ks, pd_H g (pd_w (pd_w v 198 6 ((v 198 6) + (1 : Int32))) 198 19 (1 : Int32))))) rfl ?_
                      refine ev_call pp_Mo_reckon rfl rfl rfl (s_Mo_joined) ?_
                      refine ev_gos pp_Mo_reckon 0 (S' := (309, [some (.ref 198), some (.int l1), some (.int y2), some (.int (l3 + (-1 : Int32))), some (.int y4), some (.int (v 220 l3.toNatClampNeg)), some (.int (v 219 ((l3 + (-1 : Int32)).toNatClampNeg)))], [.int (d_Mo_joined (v 220 ((l3 + (-1 : Int32)).toNatClampNeg)) (v 221 ((l3 + (-1 : Int32)).toNatClampNeg)) (v 220 l3.toNatClampNeg)), .int (l3 + (-1 : Int32)), .ref 220], (223, kc, ks, pd_H g (pd_w (pd_w v 198 6 ((v 198 6) + (1 : Int32))) 198 19 (1 : Int32))))) rfl ?_
                      obtain ⟨hc52, h⟩ := pd_chk h
                      refine ev_iast pp_Mo_reckon rfl (fun _ => rfl) hc52 ?_
                      refine ev_gos pp_Mo_reckon 1 (S' := (137, [some (.ref 198), some (.int l1), some (.int y2), some (.int (l3 + (-1 : Int32))), some (.int y4), some (.int (v 220 l3.toNatClampNeg)), some (.int (v 219 ((l3 + (-1 : Int32)).toNatClampNeg)))], [], (223, kc, ks, pd_H g (pd_w (pd_w (pd_w v 198 6 ((v 198 6) + (1 : Int32))) 198 19 (1 : Int32)) 220 ((l3 + (-1 : Int32)).toNatClampNeg) (d_Mo_joined (v 220 ((l3 + (-1 : Int32)).toNatClampNeg)) (v 221 ((l3 + (-1 : Int32)).toNatClampNeg)) (v 220 l3.toNatClampNeg)))))) rfl ?_
                      exact ih _ _ _ _ _ _ _ _  h
                    · rw [hb48]
                      refine ev_gos pp_Mo_reckon 7 (S' := (279, [some (.ref 198), some (.int l1), some (.int y2), some (.int (l3 + (-1 : Int32))), some (.int y4), some (.int (v 220 l3.toNatClampNeg)), some (.int (v 219 ((l3 + (-1 : Int32)).toNatClampNeg)))], [.int (((8 : Int32) * l1) + (v 220 l3.toNatClampNeg)), .ref 205], (223, kc, ks, pd_H g (pd_w (pd_w v 198 6 ((v 198 6) + (1 : Int32))) 198 19 (1 : Int32))))) rfl ?_
                      obtain ⟨hc53, h⟩ := pd_chk h
                      refine ev_iald pp_Mo_reckon rfl (fun _ => rfl) hc53 ?_
                      refine ev_gos pp_Mo_reckon 8 (S' := (297, [some (.ref 198), some (.int l1), some (.int y2), some (.int (l3 + (-1 : Int32))), some (.int y4), some (.int (v 205 ((((8 : Int32) * l1) + (v 220 l3.toNatClampNeg)).toNatClampNeg))), some (.int (v 219 ((l3 + (-1 : Int32)).toNatClampNeg)))], [.int (l3 + (-1 : Int32)), .ref 220, .int (l3 + (-1 : Int32)), .ref 220], (223, kc, ks, pd_H g (pd_w (pd_w v 198 6 ((v 198 6) + (1 : Int32))) 198 19 (1 : Int32))))) rfl ?_
                      obtain ⟨hc54, h⟩ := pd_chk h
                      refine ev_iald pp_Mo_reckon rfl (fun _ => rfl) hc54 ?_
                      refine ev_gos pp_Mo_reckon 3 (S' := (303, [some (.ref 198), some (.int l1), some (.int y2), some (.int (l3 + (-1 : Int32))), some (.int y4), some (.int (v 205 ((((8 : Int32) * l1) + (v 220 l3.toNatClampNeg)).toNatClampNeg))), some (.int (v 219 ((l3 + (-1 : Int32)).toNatClampNeg)))], [.int (l3 + (-1 : Int32)), .ref 221, .int (v 220 ((l3 + (-1 : Int32)).toNatClampNeg)), .int (l3 + (-1 : Int32)), .ref 220], (223, kc, ks, pd_H g (pd_w (pd_w v 198 6 ((v 198 6) + (1 : Int32))) 198 19 (1 : Int32))))) rfl ?_
                      obtain ⟨hc55, h⟩ := pd_chk h
                      refine ev_iald pp_Mo_reckon rfl (fun _ => rfl) hc55 ?_
                      refine ev_gos pp_Mo_reckon 1 (S' := (306, [some (.ref 198), some (.int l1), some (.int y2), some (.int (l3 + (-1 : Int32))), some (.int y4), some (.int (v 205 ((((8 : Int32) * l1) + (v 220 l3.toNatClampNeg)).toNatClampNeg))), some (.int (v 219 ((l3 + (-1 : Int32)).toNatClampNeg)))], [.int (v 205 ((((8 : Int32) * l1) + (v 220 l3.toNatClampNeg)).toNatClampNeg)), .int (v 221 ((l3 + (-1 : Int32)).toNatClampNeg)), .int (v 220 ((l3 + (-1 : Int32)).toNatClampNeg)), .int (l3 + (-1 : Int32)), .ref 220], (223, kc, ks, pd_H g (pd_w (pd_w v 198 6 ((v 198 6) + (1 : Int32))) 198 19 (1 : Int32))))) rfl ?_
                      refine ev_call pp_Mo_reckon rfl rfl rfl (s_Mo_joined) ?_
                      refine ev_gos pp_Mo_reckon 0 (S' := (309, [some (.ref 198), some (.int l1), some (.int y2), some (.int (l3 + (-1 : Int32))), some (.int y4), some (.int (v 205 ((((8 : Int32) * l1) + (v 220 l3.toNatClampNeg)).toNatClampNeg))), some (.int (v 219 ((l3 + (-1 : Int32)).toNatClampNeg)))], [.int (d_Mo_joined (v 220 ((l3 + (-1 : Int32)).toNatClampNeg)) (v 221 ((l3 + (-1 : Int32)).toNatClampNeg)) (v 205 ((((8 : Int32) * l1) + (v 220 l3.toNatClampNeg)).toNatClampNeg))), .int (l3 + (-1 : Int32)), .ref 220], (223, kc, ks, pd_H g (pd_w (pd_w v 198 6 ((v 198 6) + (1 : Int32))) 198 19 (1 : Int32))))) rfl ?_
                      obtain ⟨hc57, h⟩ := pd_chk h
                      refine ev_iast pp_Mo_reckon rfl (fun _ => rfl) hc57 ?_
                      refine ev_gos pp_Mo_reckon 1 (S' := (137, [some (.ref 198), some (.int l1), some (.int y2), some (.int (l3 + (-1 : Int32))), some (.int y4), some (.int (v 205 ((((8 : Int32) * l1) + (v 220 l3.toNatClampNeg)).toNatClampNeg))), some (.int (v 219 ((l3 + (-1 : Int32)).toNatClampNeg)))], [], (223, kc, ks, pd_H g (pd_w (pd_w (pd_w v 198 6 ((v 198 6) + (1 : Int32))) 198 19 (1 : Int32)) 220 ((l3 + (-1 : Int32)).toNatClampNeg) (d_Mo_joined (v 220 ((l3 + (-1 : Int32)).toNatClampNeg)) (v 221 ((l3 + (-1 : Int32)).toNatClampNeg)) (v 205 ((((8 : Int32) * l1) + (v 220 l3.toNatClampNeg)).toNatClampNeg))))))) rfl ?_
                      exact ih _ _ _ _ _ _ _ _  h
                  · rw [hb47]
                    refine ev_gos pp_Mo_reckon 3 (S' := (257, [some (.ref 198), some (.int l1), some (.int y2), some (.int (l3 + (-1 : Int32))), some (.int y4), some (.int (v 220 l3.toNatClampNeg)), some (.int (v 219 ((l3 + (-1 : Int32)).toNatClampNeg)))], [.int (v 220 l3.toNatClampNeg), .ref 203], (223, kc, ks, pd_H g (pd_w (pd_w v 198 6 ((v 198 6) + (1 : Int32))) 198 19 (1 : Int32))))) rfl ?_
                    obtain ⟨hc58, h⟩ := pd_chk h
                    refine ev_iald pp_Mo_reckon rfl (fun _ => rfl) hc58 ?_
                    refine ev_gos pp_Mo_reckon 8 (S' := (297, [some (.ref 198), some (.int l1), some (.int y2), some (.int (l3 + (-1 : Int32))), some (.int y4), some (.int (v 203 ((v 220 l3.toNatClampNeg).toNatClampNeg))), some (.int (v 219 ((l3 + (-1 : Int32)).toNatClampNeg)))], [.int (l3 + (-1 : Int32)), .ref 220, .int (l3 + (-1 : Int32)), .ref 220], (223, kc, ks, pd_H g (pd_w (pd_w v 198 6 ((v 198 6) + (1 : Int32))) 198 19 (1 : Int32))))) rfl ?_
                    obtain ⟨hc59, h⟩ := pd_chk h
                    refine ev_iald pp_Mo_reckon rfl (fun _ => rfl) hc59 ?_
                    refine ev_gos pp_Mo_reckon 3 (S' := (303, [some (.ref 198), some (.int l1), some (.int y2), some (.int (l3 + (-1 : Int32))), some (.int y4), some (.int (v 203 ((v 220 l3.toNatClampNeg).toNatClampNeg))), some (.int (v 219 ((l3 + (-1 : Int32)).toNatClampNeg)))], [.int (l3 + (-1 : Int32)), .ref 221, .int (v 220 ((l3 + (-1 : Int32)).toNatClampNeg)), .int (l3 + (-1 : Int32)), .ref 220], (223, kc, ks, pd_H g (pd_w (pd_w v 198 6 ((v 198 6) + (1 : Int32))) 198 19 (1 : Int32))))) rfl ?_
                    obtain ⟨hc60, h⟩ := pd_chk h
                    refine ev_iald pp_Mo_reckon rfl (fun _ => rfl) hc60 ?_
                    refine ev_gos pp_Mo_reckon 1 (S' := (306, [some (.ref 198), some (.int l1), some (.int y2), some (.int (l3 + (-1 : Int32))), some (.int y4), some (.int (v 203 ((v 220 l3.toNatClampNeg).toNatClampNeg))), some (.int (v 219 ((l3 + (-1 : Int32)).toNatClampNeg)))], [.int (v 203 ((v 220 l3.toNatClampNeg).toNatClampNeg)), .int (v 221 ((l3 + (-1 : Int32)).toNatClampNeg)), .int (v 220 ((l3 + (-1 : Int32)).toNatClampNeg)), .int (l3 + (-1 : Int32)), .ref 220], (223, kc, ks, pd_H g (pd_w (pd_w v 198 6 ((v 198 6) + (1 : Int32))) 198 19 (1 : Int32))))) rfl ?_
                    refine ev_call pp_Mo_reckon rfl rfl rfl (s_Mo_joined) ?_
                    refine ev_gos pp_Mo_reckon 0 (S' := (309, [some (.ref 198), some (.int l1), some (.int y2), some (.int (l3 + (-1 : Int32))), some (.int y4), some (.int (v 203 ((v 220 l3.toNatClampNeg).toNatClampNeg))), some (.int (v 219 ((l3 + (-1 : Int32)).toNatClampNeg)))], [.int (d_Mo_joined (v 220 ((l3 + (-1 : Int32)).toNatClampNeg)) (v 221 ((l3 + (-1 : Int32)).toNatClampNeg)) (v 203 ((v 220 l3.toNatClampNeg).toNatClampNeg))), .int (l3 + (-1 : Int32)), .ref 220], (223, kc, ks, pd_H g (pd_w (pd_w v 198 6 ((v 198 6) + (1 : Int32))) 198 19 (1 : Int32))))) rfl ?_
                    obtain ⟨hc62, h⟩ := pd_chk h
                    refine ev_iast pp_Mo_reckon rfl (fun _ => rfl) hc62 ?_
                    refine ev_gos pp_Mo_reckon 1 (S' := (137, [some (.ref 198), some (.int l1), some (.int y2), some (.int (l3 + (-1 : Int32))), some (.int y4), some (.int (v 203 ((v 220 l3.toNatClampNeg).toNatClampNeg))), some (.int (v 219 ((l3 + (-1 : Int32)).toNatClampNeg)))], [], (223, kc, ks, pd_H g (pd_w (pd_w (pd_w v 198 6 ((v 198 6) + (1 : Int32))) 198 19 (1 : Int32)) 220 ((l3 + (-1 : Int32)).toNatClampNeg) (d_Mo_joined (v 220 ((l3 + (-1 : Int32)).toNatClampNeg)) (v 221 ((l3 + (-1 : Int32)).toNatClampNeg)) (v 203 ((v 220 l3.toNatClampNeg).toNatClampNeg))))))) rfl ?_
                    exact ih _ _ _ _ _ _ _ _  h
                · rw [hb46]
                  refine ev_gos pp_Mo_reckon 1 (S' := (243, [some (.ref 198), some (.int l1), some (.int y2), some (.int (l3 + (-1 : Int32))), some (.int y4), some (.int (v 220 l3.toNatClampNeg)), some (.int (v 219 ((l3 + (-1 : Int32)).toNatClampNeg)))], [.int (0 : Int32)], (223, kc, ks, pd_H g (pd_w (pd_w v 198 6 ((v 198 6) + (1 : Int32))) 198 19 (1 : Int32))))) rfl ?_
                  cases h
                  exact ev_fin pp_Mo_reckon rfl
            · rw [hb26]
              refine ev_gos pp_Mo_reckon 2 (S' := (221, [some (.ref 198), some (.int l1), some (.int y2), some (.int (l3 + (-1 : Int32))), some (.int y4), some (.int (v 220 l3.toNatClampNeg)), some (.int (v 219 ((l3 + (-1 : Int32)).toNatClampNeg)))], [.int (15 : Int32), .int (0 : Int32), .int (v 220 l3.toNatClampNeg), .ref 198], (223, kc, ks, pd_H g (pd_w v 198 6 ((v 198 6) + (1 : Int32)))))) rfl ?_
              refine ev_call pp_Mo_reckon rfl rfl rfl (s_Mo_beyond) ?_
              refine ev_gos pp_Mo_reckon 0 (S' := (224, [some (.ref 198), some (.int l1), some (.int y2), some (.int (l3 + (-1 : Int32))), some (.int y4), some (.int (v 220 l3.toNatClampNeg)), some (.int (v 219 ((l3 + (-1 : Int32)).toNatClampNeg)))], [.int (d_Mo_beyond (v 220 l3.toNatClampNeg) (0 : Int32) (15 : Int32)), .ref 198], (223, kc, ks, pd_H g (pd_w v 198 6 ((v 198 6) + (1 : Int32)))))) rfl ?_
              refine ev_gos pp_Mo_reckon 1 (S' := (bif decide ((d_Mo_beyond (v 220 l3.toNatClampNeg) (0 : Int32) (15 : Int32)) = 0) then 231 else 227, [some (.ref 198), some (.int l1), some (.int y2), some (.int (l3 + (-1 : Int32))), some (.int y4), some (.int (v 220 l3.toNatClampNeg)), some (.int (v 219 ((l3 + (-1 : Int32)).toNatClampNeg)))], [.ref 198], (223, kc, ks, pd_H g (pd_w v 198 6 ((v 198 6) + (1 : Int32)))))) rfl ?_
              rcases pd_cases h with ⟨hb64, h⟩ | ⟨hb64, h⟩
              · rw [hb64]
                refine ev_gos pp_Mo_reckon 1 (S' := (232, [some (.ref 198), some (.int l1), some (.int y2), some (.int (l3 + (-1 : Int32))), some (.int y4), some (.int (v 220 l3.toNatClampNeg)), some (.int (v 219 ((l3 + (-1 : Int32)).toNatClampNeg)))], [.int (0 : Int32), .ref 198], (223, kc, ks, pd_H g (pd_w v 198 6 ((v 198 6) + (1 : Int32)))))) rfl ?_
                refine ev_put pp_Mo_reckon rfl (fun _ => rfl) rfl rfl (pd_fit pd_b0) ?_
                refine ev_gos pp_Mo_reckon 2 (S' := (239, [some (.ref 198), some (.int l1), some (.int y2), some (.int (l3 + (-1 : Int32))), some (.int y4), some (.int (v 220 l3.toNatClampNeg)), some (.int (v 219 ((l3 + (-1 : Int32)).toNatClampNeg)))], [.int (0 : Int32)], (223, kc, ks, pd_H g (pd_w (pd_w v 198 6 ((v 198 6) + (1 : Int32))) 198 19 (0 : Int32))))) rfl ?_
                refine ev_gos pp_Mo_reckon 1 (S' := (bif decide ((0 : Int32) = 0) then 244 else 242, [some (.ref 198), some (.int l1), some (.int y2), some (.int (l3 + (-1 : Int32))), some (.int y4), some (.int (v 220 l3.toNatClampNeg)), some (.int (v 219 ((l3 + (-1 : Int32)).toNatClampNeg)))], [], (223, kc, ks, pd_H g (pd_w (pd_w v 198 6 ((v 198 6) + (1 : Int32))) 198 19 (0 : Int32))))) rfl ?_
                rcases pd_cases h with ⟨hb65, h⟩ | ⟨hb65, h⟩
                · rw [hb65]
                  refine ev_gos pp_Mo_reckon 2 (S' := (248, [some (.ref 198), some (.int l1), some (.int y2), some (.int (l3 + (-1 : Int32))), some (.int y4), some (.int (v 220 l3.toNatClampNeg)), some (.int (v 219 ((l3 + (-1 : Int32)).toNatClampNeg)))], [.int (73 : Int32), .int (v 219 ((l3 + (-1 : Int32)).toNatClampNeg))], (223, kc, ks, pd_H g (pd_w (pd_w v 198 6 ((v 198 6) + (1 : Int32))) 198 19 (0 : Int32))))) rfl ?_
                  refine ev_gos pp_Mo_reckon 1 (S' := (bif !(decide ((v 219 ((l3 + (-1 : Int32)).toNatClampNeg)) = (73 : Int32))) then 261 else 251, [some (.ref 198), some (.int l1), some (.int y2), some (.int (l3 + (-1 : Int32))), some (.int y4), some (.int (v 220 l3.toNatClampNeg)), some (.int (v 219 ((l3 + (-1 : Int32)).toNatClampNeg)))], [], (223, kc, ks, pd_H g (pd_w (pd_w v 198 6 ((v 198 6) + (1 : Int32))) 198 19 (0 : Int32))))) rfl ?_
                  rcases pd_cases h with ⟨hb66, h⟩ | ⟨hb66, h⟩
                  · rw [hb66]
                    refine ev_gos pp_Mo_reckon 2 (S' := (265, [some (.ref 198), some (.int l1), some (.int y2), some (.int (l3 + (-1 : Int32))), some (.int y4), some (.int (v 220 l3.toNatClampNeg)), some (.int (v 219 ((l3 + (-1 : Int32)).toNatClampNeg)))], [.int (76 : Int32), .int (v 219 ((l3 + (-1 : Int32)).toNatClampNeg))], (223, kc, ks, pd_H g (pd_w (pd_w v 198 6 ((v 198 6) + (1 : Int32))) 198 19 (0 : Int32))))) rfl ?_
                    refine ev_gos pp_Mo_reckon 1 (S' := (bif !(decide ((v 219 ((l3 + (-1 : Int32)).toNatClampNeg)) = (76 : Int32))) then 283 else 268, [some (.ref 198), some (.int l1), some (.int y2), some (.int (l3 + (-1 : Int32))), some (.int y4), some (.int (v 220 l3.toNatClampNeg)), some (.int (v 219 ((l3 + (-1 : Int32)).toNatClampNeg)))], [], (223, kc, ks, pd_H g (pd_w (pd_w v 198 6 ((v 198 6) + (1 : Int32))) 198 19 (0 : Int32))))) rfl ?_
                    rcases pd_cases h with ⟨hb67, h⟩ | ⟨hb67, h⟩
                    · rw [hb67]
                      refine ev_gos pp_Mo_reckon 8 (S' := (297, [some (.ref 198), some (.int l1), some (.int y2), some (.int (l3 + (-1 : Int32))), some (.int y4), some (.int (v 220 l3.toNatClampNeg)), some (.int (v 219 ((l3 + (-1 : Int32)).toNatClampNeg)))], [.int (l3 + (-1 : Int32)), .ref 220, .int (l3 + (-1 : Int32)), .ref 220], (223, kc, ks, pd_H g (pd_w (pd_w v 198 6 ((v 198 6) + (1 : Int32))) 198 19 (0 : Int32))))) rfl ?_
                      obtain ⟨hc68, h⟩ := pd_chk h
                      refine ev_iald pp_Mo_reckon rfl (fun _ => rfl) hc68 ?_
                      refine ev_gos pp_Mo_reckon 3 (S' := (303, [some (.ref 198), some (.int l1), some (.int y2), some (.int (l3 + (-1 : Int32))), some (.int y4), some (.int (v 220 l3.toNatClampNeg)), some (.int (v 219 ((l3 + (-1 : Int32)).toNatClampNeg)))], [.int (l3 + (-1 : Int32)), .ref 221, .int (v 220 ((l3 + (-1 : Int32)).toNatClampNeg)), .int (l3 + (-1 : Int32)), .ref 220], (223, kc, ks, pd_H g (pd_w (pd_w v 198 6 ((v 198 6) + (1 : Int32))) 198 19 (0 : Int32))))) rfl ?_
                      obtain ⟨hc69, h⟩ := pd_chk h
                      refine ev_iald pp_Mo_reckon rfl (fun _ => rfl) hc69 ?_
                      refine ev_gos pp_Mo_reckon 1 (S' := (306, [some (.ref 198), some (.int l1), some (.int y2), some (.int (l3 + (-1 : Int32))), some (.int y4), some (.int (v 220 l3.toNatClampNeg)), some (.int (v 219 ((l3 + (-1 : Int32)).toNatClampNeg)))], [.int (v 220 l3.toNatClampNeg), .int (v 221 ((l3 + (-1 : Int32)).toNatClampNeg)), .int (v 220 ((l3 + (-1 : Int32)).toNatClampNeg)), .int (l3 + (-1 : Int32)), .ref 220], (223, kc, ks, pd_H g (pd_w (pd_w v 198 6 ((v 198 6) + (1 : Int32))) 198 19 (0 : Int32))))) rfl ?_
                      refine ev_call pp_Mo_reckon rfl rfl rfl (s_Mo_joined) ?_
                      refine ev_gos pp_Mo_reckon 0 (S' := (309, [some (.ref 198), some (.int l1), some (.int y2), some (.int (l3 + (-1 : Int32))), some (.int y4), some (.int (v 220 l3.toNatClampNeg)), some (.int (v 219 ((l3 + (-1 : Int32)).toNatClampNeg)))], [.int (d_Mo_joined (v 220 ((l3 + (-1 : Int32)).toNatClampNeg)) (v 221 ((l3 + (-1 : Int32)).toNatClampNeg)) (v 220 l3.toNatClampNeg)), .int (l3 + (-1 : Int32)), .ref 220], (223, kc, ks, pd_H g (pd_w (pd_w v 198 6 ((v 198 6) + (1 : Int32))) 198 19 (0 : Int32))))) rfl ?_
                      obtain ⟨hc71, h⟩ := pd_chk h
                      refine ev_iast pp_Mo_reckon rfl (fun _ => rfl) hc71 ?_
                      refine ev_gos pp_Mo_reckon 1 (S' := (137, [some (.ref 198), some (.int l1), some (.int y2), some (.int (l3 + (-1 : Int32))), some (.int y4), some (.int (v 220 l3.toNatClampNeg)), some (.int (v 219 ((l3 + (-1 : Int32)).toNatClampNeg)))], [], (223, kc, ks, pd_H g (pd_w (pd_w (pd_w v 198 6 ((v 198 6) + (1 : Int32))) 198 19 (0 : Int32)) 220 ((l3 + (-1 : Int32)).toNatClampNeg) (d_Mo_joined (v 220 ((l3 + (-1 : Int32)).toNatClampNeg)) (v 221 ((l3 + (-1 : Int32)).toNatClampNeg)) (v 220 l3.toNatClampNeg)))))) rfl ?_
                      exact ih _ _ _ _ _ _ _ _  h
                    · rw [hb67]
                      refine ev_gos pp_Mo_reckon 7 (S' := (279, [some (.ref 198), some (.int l1), some (.int y2), some (.int (l3 + (-1 : Int32))), some (.int y4), some (.int (v 220 l3.toNatClampNeg)), some (.int (v 219 ((l3 + (-1 : Int32)).toNatClampNeg)))], [.int (((8 : Int32) * l1) + (v 220 l3.toNatClampNeg)), .ref 205], (223, kc, ks, pd_H g (pd_w (pd_w v 198 6 ((v 198 6) + (1 : Int32))) 198 19 (0 : Int32))))) rfl ?_
                      obtain ⟨hc72, h⟩ := pd_chk h
                      refine ev_iald pp_Mo_reckon rfl (fun _ => rfl) hc72 ?_
                      refine ev_gos pp_Mo_reckon 8 (S' := (297, [some (.ref 198), some (.int l1), some (.int y2), some (.int (l3 + (-1 : Int32))), some (.int y4), some (.int (v 205 ((((8 : Int32) * l1) + (v 220 l3.toNatClampNeg)).toNatClampNeg))), some (.int (v 219 ((l3 + (-1 : Int32)).toNatClampNeg)))], [.int (l3 + (-1 : Int32)), .ref 220, .int (l3 + (-1 : Int32)), .ref 220], (223, kc, ks, pd_H g (pd_w (pd_w v 198 6 ((v 198 6) + (1 : Int32))) 198 19 (0 : Int32))))) rfl ?_
                      obtain ⟨hc73, h⟩ := pd_chk h
                      refine ev_iald pp_Mo_reckon rfl (fun _ => rfl) hc73 ?_
                      refine ev_gos pp_Mo_reckon 3 (S' := (303, [some (.ref 198), some (.int l1), some (.int y2), some (.int (l3 + (-1 : Int32))), some (.int y4), some (.int (v 205 ((((8 : Int32) * l1) + (v 220 l3.toNatClampNeg)).toNatClampNeg))), some (.int (v 219 ((l3 + (-1 : Int32)).toNatClampNeg)))], [.int (l3 + (-1 : Int32)), .ref 221, .int (v 220 ((l3 + (-1 : Int32)).toNatClampNeg)), .int (l3 + (-1 : Int32)), .ref 220], (223, kc, ks, pd_H g (pd_w (pd_w v 198 6 ((v 198 6) + (1 : Int32))) 198 19 (0 : Int32))))) rfl ?_
                      obtain ⟨hc74, h⟩ := pd_chk h
                      refine ev_iald pp_Mo_reckon rfl (fun _ => rfl) hc74 ?_
                      refine ev_gos pp_Mo_reckon 1 (S' := (306, [some (.ref 198), some (.int l1), some (.int y2), some (.int (l3 + (-1 : Int32))), some (.int y4), some (.int (v 205 ((((8 : Int32) * l1) + (v 220 l3.toNatClampNeg)).toNatClampNeg))), some (.int (v 219 ((l3 + (-1 : Int32)).toNatClampNeg)))], [.int (v 205 ((((8 : Int32) * l1) + (v 220 l3.toNatClampNeg)).toNatClampNeg)), .int (v 221 ((l3 + (-1 : Int32)).toNatClampNeg)), .int (v 220 ((l3 + (-1 : Int32)).toNatClampNeg)), .int (l3 + (-1 : Int32)), .ref 220], (223, kc, ks, pd_H g (pd_w (pd_w v 198 6 ((v 198 6) + (1 : Int32))) 198 19 (0 : Int32))))) rfl ?_
                      refine ev_call pp_Mo_reckon rfl rfl rfl (s_Mo_joined) ?_
                      refine ev_gos pp_Mo_reckon 0 (S' := (309, [some (.ref 198), some (.int l1), some (.int y2), some (.int (l3 + (-1 : Int32))), some (.int y4), some (.int (v 205 ((((8 : Int32) * l1) + (v 220 l3.toNatClampNeg)).toNatClampNeg))), some (.int (v 219 ((l3 + (-1 : Int32)).toNatClampNeg)))], [.int (d_Mo_joined (v 220 ((l3 + (-1 : Int32)).toNatClampNeg)) (v 221 ((l3 + (-1 : Int32)).toNatClampNeg)) (v 205 ((((8 : Int32) * l1) + (v 220 l3.toNatClampNeg)).toNatClampNeg))), .int (l3 + (-1 : Int32)), .ref 220], (223, kc, ks, pd_H g (pd_w (pd_w v 198 6 ((v 198 6) + (1 : Int32))) 198 19 (0 : Int32))))) rfl ?_
                      obtain ⟨hc76, h⟩ := pd_chk h
                      refine ev_iast pp_Mo_reckon rfl (fun _ => rfl) hc76 ?_
                      refine ev_gos pp_Mo_reckon 1 (S' := (137, [some (.ref 198), some (.int l1), some (.int y2), some (.int (l3 + (-1 : Int32))), some (.int y4), some (.int (v 205 ((((8 : Int32) * l1) + (v 220 l3.toNatClampNeg)).toNatClampNeg))), some (.int (v 219 ((l3 + (-1 : Int32)).toNatClampNeg)))], [], (223, kc, ks, pd_H g (pd_w (pd_w (pd_w v 198 6 ((v 198 6) + (1 : Int32))) 198 19 (0 : Int32)) 220 ((l3 + (-1 : Int32)).toNatClampNeg) (d_Mo_joined (v 220 ((l3 + (-1 : Int32)).toNatClampNeg)) (v 221 ((l3 + (-1 : Int32)).toNatClampNeg)) (v 205 ((((8 : Int32) * l1) + (v 220 l3.toNatClampNeg)).toNatClampNeg))))))) rfl ?_
                      exact ih _ _ _ _ _ _ _ _  h
                  · rw [hb66]
                    refine ev_gos pp_Mo_reckon 3 (S' := (257, [some (.ref 198), some (.int l1), some (.int y2), some (.int (l3 + (-1 : Int32))), some (.int y4), some (.int (v 220 l3.toNatClampNeg)), some (.int (v 219 ((l3 + (-1 : Int32)).toNatClampNeg)))], [.int (v 220 l3.toNatClampNeg), .ref 203], (223, kc, ks, pd_H g (pd_w (pd_w v 198 6 ((v 198 6) + (1 : Int32))) 198 19 (0 : Int32))))) rfl ?_
                    obtain ⟨hc77, h⟩ := pd_chk h
                    refine ev_iald pp_Mo_reckon rfl (fun _ => rfl) hc77 ?_
                    refine ev_gos pp_Mo_reckon 8 (S' := (297, [some (.ref 198), some (.int l1), some (.int y2), some (.int (l3 + (-1 : Int32))), some (.int y4), some (.int (v 203 ((v 220 l3.toNatClampNeg).toNatClampNeg))), some (.int (v 219 ((l3 + (-1 : Int32)).toNatClampNeg)))], [.int (l3 + (-1 : Int32)), .ref 220, .int (l3 + (-1 : Int32)), .ref 220], (223, kc, ks, pd_H g (pd_w (pd_w v 198 6 ((v 198 6) + (1 : Int32))) 198 19 (0 : Int32))))) rfl ?_
                    obtain ⟨hc78, h⟩ := pd_chk h
                    refine ev_iald pp_Mo_reckon rfl (fun _ => rfl) hc78 ?_
                    refine ev_gos pp_Mo_reckon 3 (S' := (303, [some (.ref 198), some (.int l1), some (.int y2), some (.int (l3 + (-1 : Int32))), some (.int y4), some (.int (v 203 ((v 220 l3.toNatClampNeg).toNatClampNeg))), some (.int (v 219 ((l3 + (-1 : Int32)).toNatClampNeg)))], [.int (l3 + (-1 : Int32)), .ref 221, .int (v 220 ((l3 + (-1 : Int32)).toNatClampNeg)), .int (l3 + (-1 : Int32)), .ref 220], (223, kc, ks, pd_H g (pd_w (pd_w v 198 6 ((v 198 6) + (1 : Int32))) 198 19 (0 : Int32))))) rfl ?_
                    obtain ⟨hc79, h⟩ := pd_chk h
                    refine ev_iald pp_Mo_reckon rfl (fun _ => rfl) hc79 ?_
                    refine ev_gos pp_Mo_reckon 1 (S' := (306, [some (.ref 198), some (.int l1), some (.int y2), some (.int (l3 + (-1 : Int32))), some (.int y4), some (.int (v 203 ((v 220 l3.toNatClampNeg).toNatClampNeg))), some (.int (v 219 ((l3 + (-1 : Int32)).toNatClampNeg)))], [.int (v 203 ((v 220 l3.toNatClampNeg).toNatClampNeg)), .int (v 221 ((l3 + (-1 : Int32)).toNatClampNeg)), .int (v 220 ((l3 + (-1 : Int32)).toNatClampNeg)), .int (l3 + (-1 : Int32)), .ref 220], (223, kc, ks, pd_H g (pd_w (pd_w v 198 6 ((v 198 6) + (1 : Int32))) 198 19 (0 : Int32))))) rfl ?_
                    refine ev_call pp_Mo_reckon rfl rfl rfl (s_Mo_joined) ?_
                    refine ev_gos pp_Mo_reckon 0 (S' := (309, [some (.ref 198), some (.int l1), some (.int y2), some (.int (l3 + (-1 : Int32))), some (.int y4), some (.int (v 203 ((v 220 l3.toNatClampNeg).toNatClampNeg))), some (.int (v 219 ((l3 + (-1 : Int32)).toNatClampNeg)))], [.int (d_Mo_joined (v 220 ((l3 + (-1 : Int32)).toNatClampNeg)) (v 221 ((l3 + (-1 : Int32)).toNatClampNeg)) (v 203 ((v 220 l3.toNatClampNeg).toNatClampNeg))), .int (l3 + (-1 : Int32)), .ref 220], (223, kc, ks, pd_H g (pd_w (pd_w v 198 6 ((v 198 6) + (1 : Int32))) 198 19 (0 : Int32))))) rfl ?_
                    obtain ⟨hc81, h⟩ := pd_chk h
                    refine ev_iast pp_Mo_reckon rfl (fun _ => rfl) hc81 ?_
                    refine ev_gos pp_Mo_reckon 1 (S' := (137, [some (.ref 198), some (.int l1), some (.int y2), some (.int (l3 + (-1 : Int32))), some (.int y4), some (.int (v 203 ((v 220 l3.toNatClampNeg).toNatClampNeg))), some (.int (v 219 ((l3 + (-1 : Int32)).toNatClampNeg)))], [], (223, kc, ks, pd_H g (pd_w (pd_w (pd_w v 198 6 ((v 198 6) + (1 : Int32))) 198 19 (0 : Int32)) 220 ((l3 + (-1 : Int32)).toNatClampNeg) (d_Mo_joined (v 220 ((l3 + (-1 : Int32)).toNatClampNeg)) (v 221 ((l3 + (-1 : Int32)).toNatClampNeg)) (v 203 ((v 220 l3.toNatClampNeg).toNatClampNeg))))))) rfl ?_
                    exact ih _ _ _ _ _ _ _ _  h
                · rw [hb65]
                  refine ev_gos pp_Mo_reckon 1 (S' := (243, [some (.ref 198), some (.int l1), some (.int y2), some (.int (l3 + (-1 : Int32))), some (.int y4), some (.int (v 220 l3.toNatClampNeg)), some (.int (v 219 ((l3 + (-1 : Int32)).toNatClampNeg)))], [.int (0 : Int32)], (223, kc, ks, pd_H g (pd_w (pd_w v 198 6 ((v 198 6) + (1 : Int32))) 198 19 (0 : Int32))))) rfl ?_
                  cases h
                  exact ev_fin pp_Mo_reckon rfl
              · rw [hb64]
                refine ev_gos pp_Mo_reckon 2 (S' := (232, [some (.ref 198), some (.int l1), some (.int y2), some (.int (l3 + (-1 : Int32))), some (.int y4), some (.int (v 220 l3.toNatClampNeg)), some (.int (v 219 ((l3 + (-1 : Int32)).toNatClampNeg)))], [.int (1 : Int32), .ref 198], (223, kc, ks, pd_H g (pd_w v 198 6 ((v 198 6) + (1 : Int32)))))) rfl ?_
                refine ev_put pp_Mo_reckon rfl (fun _ => rfl) rfl rfl (pd_fit pd_b1) ?_
                refine ev_gos pp_Mo_reckon 2 (S' := (239, [some (.ref 198), some (.int l1), some (.int y2), some (.int (l3 + (-1 : Int32))), some (.int y4), some (.int (v 220 l3.toNatClampNeg)), some (.int (v 219 ((l3 + (-1 : Int32)).toNatClampNeg)))], [.int (1 : Int32)], (223, kc, ks, pd_H g (pd_w (pd_w v 198 6 ((v 198 6) + (1 : Int32))) 198 19 (1 : Int32))))) rfl ?_
                refine ev_gos pp_Mo_reckon 1 (S' := (bif decide ((1 : Int32) = 0) then 244 else 242, [some (.ref 198), some (.int l1), some (.int y2), some (.int (l3 + (-1 : Int32))), some (.int y4), some (.int (v 220 l3.toNatClampNeg)), some (.int (v 219 ((l3 + (-1 : Int32)).toNatClampNeg)))], [], (223, kc, ks, pd_H g (pd_w (pd_w v 198 6 ((v 198 6) + (1 : Int32))) 198 19 (1 : Int32))))) rfl ?_
                rcases pd_cases h with ⟨hb82, h⟩ | ⟨hb82, h⟩
                · rw [hb82]
                  refine ev_gos pp_Mo_reckon 2 (S' := (248, [some (.ref 198), some (.int l1), some (.int y2), some (.int (l3 + (-1 : Int32))), some (.int y4), some (.int (v 220 l3.toNatClampNeg)), some (.int (v 219 ((l3 + (-1 : Int32)).toNatClampNeg)))], [.int (73 : Int32), .int (v 219 ((l3 + (-1 : Int32)).toNatClampNeg))], (223, kc, ks, pd_H g (pd_w (pd_w v 198 6 ((v 198 6) + (1 : Int32))) 198 19 (1 : Int32))))) rfl ?_
                  refine ev_gos pp_Mo_reckon 1 (S' := (bif !(decide ((v 219 ((l3 + (-1 : Int32)).toNatClampNeg)) = (73 : Int32))) then 261 else 251, [some (.ref 198), some (.int l1), some (.int y2), some (.int (l3 + (-1 : Int32))), some (.int y4), some (.int (v 220 l3.toNatClampNeg)), some (.int (v 219 ((l3 + (-1 : Int32)).toNatClampNeg)))], [], (223, kc, ks, pd_H g (pd_w (pd_w v 198 6 ((v 198 6) + (1 : Int32))) 198 19 (1 : Int32))))) rfl ?_
                  rcases pd_cases h with ⟨hb83, h⟩ | ⟨hb83, h⟩
                  · rw [hb83]
                    refine ev_gos pp_Mo_reckon 2 (S' := (265, [some (.ref 198), some (.int l1), some (.int y2), some (.int (l3 + (-1 : Int32))), some (.int y4), some (.int (v 220 l3.toNatClampNeg)), some (.int (v 219 ((l3 + (-1 : Int32)).toNatClampNeg)))], [.int (76 : Int32), .int (v 219 ((l3 + (-1 : Int32)).toNatClampNeg))], (223, kc, ks, pd_H g (pd_w (pd_w v 198 6 ((v 198 6) + (1 : Int32))) 198 19 (1 : Int32))))) rfl ?_
                    refine ev_gos pp_Mo_reckon 1 (S' := (bif !(decide ((v 219 ((l3 + (-1 : Int32)).toNatClampNeg)) = (76 : Int32))) then 283 else 268, [some (.ref 198), some (.int l1), some (.int y2), some (.int (l3 + (-1 : Int32))), some (.int y4), some (.int (v 220 l3.toNatClampNeg)), some (.int (v 219 ((l3 + (-1 : Int32)).toNatClampNeg)))], [], (223, kc, ks, pd_H g (pd_w (pd_w v 198 6 ((v 198 6) + (1 : Int32))) 198 19 (1 : Int32))))) rfl ?_
                    rcases pd_cases h with ⟨hb84, h⟩ | ⟨hb84, h⟩
                    · rw [hb84]
                      refine ev_gos pp_Mo_reckon 8 (S' := (297, [some (.ref 198), some (.int l1), some (.int y2), some (.int (l3 + (-1 : Int32))), some (.int y4), some (.int (v 220 l3.toNatClampNeg)), some (.int (v 219 ((l3 + (-1 : Int32)).toNatClampNeg)))], [.int (l3 + (-1 : Int32)), .ref 220, .int (l3 + (-1 : Int32)), .ref 220], (223, kc, ks, pd_H g (pd_w (pd_w v 198 6 ((v 198 6) + (1 : Int32))) 198 19 (1 : Int32))))) rfl ?_
                      obtain ⟨hc85, h⟩ := pd_chk h
                      refine ev_iald pp_Mo_reckon rfl (fun _ => rfl) hc85 ?_
                      refine ev_gos pp_Mo_reckon 3 (S' := (303, [some (.ref 198), some (.int l1), some (.int y2), some (.int (l3 + (-1 : Int32))), some (.int y4), some (.int (v 220 l3.toNatClampNeg)), some (.int (v 219 ((l3 + (-1 : Int32)).toNatClampNeg)))], [.int (l3 + (-1 : Int32)), .ref 221, .int (v 220 ((l3 + (-1 : Int32)).toNatClampNeg)), .int (l3 + (-1 : Int32)), .ref 220], (223, kc, ks, pd_H g (pd_w (pd_w v 198 6 ((v 198 6) + (1 : Int32))) 198 19 (1 : Int32))))) rfl ?_
                      obtain ⟨hc86, h⟩ := pd_chk h
                      refine ev_iald pp_Mo_reckon rfl (fun _ => rfl) hc86 ?_
                      refine ev_gos pp_Mo_reckon 1 (S' := (306, [some (.ref 198), some (.int l1), some (.int y2), some (.int (l3 + (-1 : Int32))), some (.int y4), some (.int (v 220 l3.toNatClampNeg)), some (.int (v 219 ((l3 + (-1 : Int32)).toNatClampNeg)))], [.int (v 220 l3.toNatClampNeg), .int (v 221 ((l3 + (-1 : Int32)).toNatClampNeg)), .int (v 220 ((l3 + (-1 : Int32)).toNatClampNeg)), .int (l3 + (-1 : Int32)), .ref 220], (223, kc, ks, pd_H g (pd_w (pd_w v 198 6 ((v 198 6) + (1 : Int32))) 198 19 (1 : Int32))))) rfl ?_
                      refine ev_call pp_Mo_reckon rfl rfl rfl (s_Mo_joined) ?_
                      refine ev_gos pp_Mo_reckon 0 (S' := (309, [some (.ref 198), some (.int l1), some (.int y2), some (.int (l3 + (-1 : Int32))), some (.int y4), some (.int (v 220 l3.toNatClampNeg)), some (.int (v 219 ((l3 + (-1 : Int32)).toNatClampNeg)))], [.int (d_Mo_joined (v 220 ((l3 + (-1 : Int32)).toNatClampNeg)) (v 221 ((l3 + (-1 : Int32)).toNatClampNeg)) (v 220 l3.toNatClampNeg)), .int (l3 + (-1 : Int32)), .ref 220], (223, kc, ks, pd_H g (pd_w (pd_w v 198 6 ((v 198 6) + (1 : Int32))) 198 19 (1 : Int32))))) rfl ?_
                      obtain ⟨hc88, h⟩ := pd_chk h
                      refine ev_iast pp_Mo_reckon rfl (fun _ => rfl) hc88 ?_
                      refine ev_gos pp_Mo_reckon 1 (S' := (137, [some (.ref 198), some (.int l1), some (.int y2), some (.int (l3 + (-1 : Int32))), some (.int y4), some (.int (v 220 l3.toNatClampNeg)), some (.int (v 219 ((l3 + (-1 : Int32)).toNatClampNeg)))], [], (223, kc, ks, pd_H g (pd_w (pd_w (pd_w v 198 6 ((v 198 6) + (1 : Int32))) 198 19 (1 : Int32)) 220 ((l3 + (-1 : Int32)).toNatClampNeg) (d_Mo_joined (v 220 ((l3 + (-1 : Int32)).toNatClampNeg)) (v 221 ((l3 + (-1 : Int32)).toNatClampNeg)) (v 220 l3.toNatClampNeg)))))) rfl ?_
                      exact ih _ _ _ _ _ _ _ _  h
                    · rw [hb84]
                      refine ev_gos pp_Mo_reckon 7 (S' := (279, [some (.ref 198), some (.int l1), some (.int y2), some (.int (l3 + (-1 : Int32))), some (.int y4), some (.int (v 220 l3.toNatClampNeg)), some (.int (v 219 ((l3 + (-1 : Int32)).toNatClampNeg)))], [.int (((8 : Int32) * l1) + (v 220 l3.toNatClampNeg)), .ref 205], (223, kc, ks, pd_H g (pd_w (pd_w v 198 6 ((v 198 6) + (1 : Int32))) 198 19 (1 : Int32))))) rfl ?_
                      obtain ⟨hc89, h⟩ := pd_chk h
                      refine ev_iald pp_Mo_reckon rfl (fun _ => rfl) hc89 ?_
                      refine ev_gos pp_Mo_reckon 8 (S' := (297, [some (.ref 198), some (.int l1), some (.int y2), some (.int (l3 + (-1 : Int32))), some (.int y4), some (.int (v 205 ((((8 : Int32) * l1) + (v 220 l3.toNatClampNeg)).toNatClampNeg))), some (.int (v 219 ((l3 + (-1 : Int32)).toNatClampNeg)))], [.int (l3 + (-1 : Int32)), .ref 220, .int (l3 + (-1 : Int32)), .ref 220], (223, kc, ks, pd_H g (pd_w (pd_w v 198 6 ((v 198 6) + (1 : Int32))) 198 19 (1 : Int32))))) rfl ?_
                      obtain ⟨hc90, h⟩ := pd_chk h
                      refine ev_iald pp_Mo_reckon rfl (fun _ => rfl) hc90 ?_
                      refine ev_gos pp_Mo_reckon 3 (S' := (303, [some (.ref 198), some (.int l1), some (.int y2), some (.int (l3 + (-1 : Int32))), some (.int y4), some (.int (v 205 ((((8 : Int32) * l1) + (v 220 l3.toNatClampNeg)).toNatClampNeg))), some (.int (v 219 ((l3 + (-1 : Int32)).toNatClampNeg)))], [.int (l3 + (-1 : Int32)), .ref 221, .int (v 220 ((l3 + (-1 : Int32)).toNatClampNeg)), .int (l3 + (-1 : Int32)), .ref 220], (223, kc, ks, pd_H g (pd_w (pd_w v 198 6 ((v 198 6) + (1 : Int32))) 198 19 (1 : Int32))))) rfl ?_
                      obtain ⟨hc91, h⟩ := pd_chk h
                      refine ev_iald pp_Mo_reckon rfl (fun _ => rfl) hc91 ?_
                      refine ev_gos pp_Mo_reckon 1 (S' := (306, [some (.ref 198), some (.int l1), some (.int y2), some (.int (l3 + (-1 : Int32))), some (.int y4), some (.int (v 205 ((((8 : Int32) * l1) + (v 220 l3.toNatClampNeg)).toNatClampNeg))), some (.int (v 219 ((l3 + (-1 : Int32)).toNatClampNeg)))], [.int (v 205 ((((8 : Int32) * l1) + (v 220 l3.toNatClampNeg)).toNatClampNeg)), .int (v 221 ((l3 + (-1 : Int32)).toNatClampNeg)), .int (v 220 ((l3 + (-1 : Int32)).toNatClampNeg)), .int (l3 + (-1 : Int32)), .ref 220], (223, kc, ks, pd_H g (pd_w (pd_w v 198 6 ((v 198 6) + (1 : Int32))) 198 19 (1 : Int32))))) rfl ?_
                      refine ev_call pp_Mo_reckon rfl rfl rfl (s_Mo_joined) ?_
                      refine ev_gos pp_Mo_reckon 0 (S' := (309, [some (.ref 198), some (.int l1), some (.int y2), some (.int (l3 + (-1 : Int32))), some (.int y4), some (.int (v 205 ((((8 : Int32) * l1) + (v 220 l3.toNatClampNeg)).toNatClampNeg))), some (.int (v 219 ((l3 + (-1 : Int32)).toNatClampNeg)))], [.int (d_Mo_joined (v 220 ((l3 + (-1 : Int32)).toNatClampNeg)) (v 221 ((l3 + (-1 : Int32)).toNatClampNeg)) (v 205 ((((8 : Int32) * l1) + (v 220 l3.toNatClampNeg)).toNatClampNeg))), .int (l3 + (-1 : Int32)), .ref 220], (223, kc, ks, pd_H g (pd_w (pd_w v 198 6 ((v 198 6) + (1 : Int32))) 198 19 (1 : Int32))))) rfl ?_
                      obtain ⟨hc93, h⟩ := pd_chk h
                      refine ev_iast pp_Mo_reckon rfl (fun _ => rfl) hc93 ?_
                      refine ev_gos pp_Mo_reckon 1 (S' := (137, [some (.ref 198), some (.int l1), some (.int y2), some (.int (l3 + (-1 : Int32))), some (.int y4), some (.int (v 205 ((((8 : Int32) * l1) + (v 220 l3.toNatClampNeg)).toNatClampNeg))), some (.int (v 219 ((l3 + (-1 : Int32)).toNatClampNeg)))], [], (223, kc, ks, pd_H g (pd_w (pd_w (pd_w v 198 6 ((v 198 6) + (1 : Int32))) 198 19 (1 : Int32)) 220 ((l3 + (-1 : Int32)).toNatClampNeg) (d_Mo_joined (v 220 ((l3 + (-1 : Int32)).toNatClampNeg)) (v 221 ((l3 + (-1 : Int32)).toNatClampNeg)) (v 205 ((((8 : Int32) * l1) + (v 220 l3.toNatClampNeg)).toNatClampNeg))))))) rfl ?_
                      exact ih _ _ _ _ _ _ _ _  h
                  · rw [hb83]
                    refine ev_gos pp_Mo_reckon 3 (S' := (257, [some (.ref 198), some (.int l1), some (.int y2), some (.int (l3 + (-1 : Int32))), some (.int y4), some (.int (v 220 l3.toNatClampNeg)), some (.int (v 219 ((l3 + (-1 : Int32)).toNatClampNeg)))], [.int (v 220 l3.toNatClampNeg), .ref 203], (223, kc, ks, pd_H g (pd_w (pd_w v 198 6 ((v 198 6) + (1 : Int32))) 198 19 (1 : Int32))))) rfl ?_
                    obtain ⟨hc94, h⟩ := pd_chk h
                    refine ev_iald pp_Mo_reckon rfl (fun _ => rfl) hc94 ?_
                    refine ev_gos pp_Mo_reckon 8 (S' := (297, [some (.ref 198), some (.int l1), some (.int y2), some (.int (l3 + (-1 : Int32))), some (.int y4), some (.int (v 203 ((v 220 l3.toNatClampNeg).toNatClampNeg))), some (.int (v 219 ((l3 + (-1 : Int32)).toNatClampNeg)))], [.int (l3 + (-1 : Int32)), .ref 220, .int (l3 + (-1 : Int32)), .ref 220], (223, kc, ks, pd_H g (pd_w (pd_w v 198 6 ((v 198 6) + (1 : Int32))) 198 19 (1 : Int32))))) rfl ?_
                    obtain ⟨hc95, h⟩ := pd_chk h
                    refine ev_iald pp_Mo_reckon rfl (fun _ => rfl) hc95 ?_
                    refine ev_gos pp_Mo_reckon 3 (S' := (303, [some (.ref 198), some (.int l1), some (.int y2), some (.int (l3 + (-1 : Int32))), some (.int y4), some (.int (v 203 ((v 220 l3.toNatClampNeg).toNatClampNeg))), some (.int (v 219 ((l3 + (-1 : Int32)).toNatClampNeg)))], [.int (l3 + (-1 : Int32)), .ref 221, .int (v 220 ((l3 + (-1 : Int32)).toNatClampNeg)), .int (l3 + (-1 : Int32)), .ref 220], (223, kc, ks, pd_H g (pd_w (pd_w v 198 6 ((v 198 6) + (1 : Int32))) 198 19 (1 : Int32))))) rfl ?_
                    obtain ⟨hc96, h⟩ := pd_chk h
                    refine ev_iald pp_Mo_reckon rfl (fun _ => rfl) hc96 ?_
                    refine ev_gos pp_Mo_reckon 1 (S' := (306, [some (.ref 198), some (.int l1), some (.int y2), some (.int (l3 + (-1 : Int32))), some (.int y4), some (.int (v 203 ((v 220 l3.toNatClampNeg).toNatClampNeg))), some (.int (v 219 ((l3 + (-1 : Int32)).toNatClampNeg)))], [.int (v 203 ((v 220 l3.toNatClampNeg).toNatClampNeg)), .int (v 221 ((l3 + (-1 : Int32)).toNatClampNeg)), .int (v 220 ((l3 + (-1 : Int32)).toNatClampNeg)), .int (l3 + (-1 : Int32)), .ref 220], (223, kc, ks, pd_H g (pd_w (pd_w v 198 6 ((v 198 6) + (1 : Int32))) 198 19 (1 : Int32))))) rfl ?_
                    refine ev_call pp_Mo_reckon rfl rfl rfl (s_Mo_joined) ?_
                    refine ev_gos pp_Mo_reckon 0 (S' := (309, [some (.ref 198), some (.int l1), some (.int y2), some (.int (l3 + (-1 : Int32))), some (.int y4), some (.int (v 203 ((v 220 l3.toNatClampNeg).toNatClampNeg))), some (.int (v 219 ((l3 + (-1 : Int32)).toNatClampNeg)))], [.int (d_Mo_joined (v 220 ((l3 + (-1 : Int32)).toNatClampNeg)) (v 221 ((l3 + (-1 : Int32)).toNatClampNeg)) (v 203 ((v 220 l3.toNatClampNeg).toNatClampNeg))), .int (l3 + (-1 : Int32)), .ref 220], (223, kc, ks, pd_H g (pd_w (pd_w v 198 6 ((v 198 6) + (1 : Int32))) 198 19 (1 : Int32))))) rfl ?_
                    obtain ⟨hc98, h⟩ := pd_chk h
                    refine ev_iast pp_Mo_reckon rfl (fun _ => rfl) hc98 ?_
                    refine ev_gos pp_Mo_reckon 1 (S' := (137, [some (.ref 198), some (.int l1), some (.int y2), some (.int (l3 + (-1 : Int32))), some (.int y4), some (.int (v 203 ((v 220 l3.toNatClampNeg).toNatClampNeg))), some (.int (v 219 ((l3 + (-1 : Int32)).toNatClampNeg)))], [], (223, kc, ks, pd_H g (pd_w (pd_w (pd_w v 198 6 ((v 198 6) + (1 : Int32))) 198 19 (1 : Int32)) 220 ((l3 + (-1 : Int32)).toNatClampNeg) (d_Mo_joined (v 220 ((l3 + (-1 : Int32)).toNatClampNeg)) (v 221 ((l3 + (-1 : Int32)).toNatClampNeg)) (v 203 ((v 220 l3.toNatClampNeg).toNatClampNeg))))))) rfl ?_
                    exact ih _ _ _ _ _ _ _ _  h
                · rw [hb82]
                  refine ev_gos pp_Mo_reckon 1 (S' := (243, [some (.ref 198), some (.int l1), some (.int y2), some (.int (l3 + (-1 : Int32))), some (.int y4), some (.int (v 220 l3.toNatClampNeg)), some (.int (v 219 ((l3 + (-1 : Int32)).toNatClampNeg)))], [.int (0 : Int32)], (223, kc, ks, pd_H g (pd_w (pd_w v 198 6 ((v 198 6) + (1 : Int32))) 198 19 (1 : Int32))))) rfl ?_
                  cases h
                  exact ev_fin pp_Mo_reckon rfl
def d_Mo_reckon_339 (w : Nat)  (v : pd_V) : Option (Int32 × pd_V) :=
  bif pm_in (0 : Int32) 6 then
  some ((v 220 ((0 : Int32).toNatClampNeg)), v)
  else none
set_option maxRecDepth 100000 in
set_option maxHeartbeats 4000000 in
theorem s_Mo_reckon_339 {w : Nat} : ∀  (v : pd_V) (y1 : Int32) (y2 : Int32) (y3 : Int32) (y4 : Int32) (y5 : Option Value) (y6 : Option Value) (q : (Int32 × pd_V)) , d_Mo_reckon_339 w v = some q → pm_ev (pj_P xs L) (d + 2) 131 (339, [some (.ref 198), some (.int y1), some (.int y2), some (.int y3), some (.int y4), y5, y6], [], (223, kc, ks, pd_H g v)) (.inl (some (.int q.1)), (223, kc, ks, pd_H g q.2)) := by
  intro v y1 y2 y3 y4 y5 y6 q h
  unfold d_Mo_reckon_339 at h
  refine ev_gos pp_Mo_reckon 3 (S' := (344, [some (.ref 198), some (.int y1), some (.int y2), some (.int y3), some (.int y4), y5, y6], [.int (0 : Int32), .ref 220], (223, kc, ks, pd_H g v))) rfl ?_
  obtain ⟨hc1, h⟩ := pd_chk h
  refine ev_iald pp_Mo_reckon rfl (fun _ => rfl) hc1 ?_
  refine ev_gos pp_Mo_reckon 0 (S' := (345, [some (.ref 198), some (.int y1), some (.int y2), some (.int y3), some (.int y4), y5, y6], [.int (v 220 ((0 : Int32).toNatClampNeg))], (223, kc, ks, pd_H g v))) rfl ?_
  cases h
  exact ev_fin pp_Mo_reckon rfl
def d_Mo_reckon_22 (w : Nat) (f : Nat) (l1 : Int32) (l3 : Int32) (v : pd_V) : Option (Int32 × pd_V) := match f with
  | 0 => none
  | f + 1 =>
    bif pm_in (v 198 6) 160 then
    bif decide ((v 200 ((v 198 6).toNatClampNeg)) = (73 : Int32)) then
      bif !(decide ((v 200 ((v 198 6).toNatClampNeg)) = (40 : Int32))) then
        bif pm_in ((l3 + (1 : Int32)) - (1 : Int32)) 6 then
        bif pm_in (l3 + (1 : Int32)) 6 then
        bif pm_in (l3 + (1 : Int32)) 6 then
        d_Mo_reckon_22 w f l1 (l3 + (1 : Int32)) (pd_w (pd_w (pd_w (pd_w v 198 6 ((v 198 6) + (2 : Int32))) 219 (((l3 + (1 : Int32)) - (1 : Int32)).toNatClampNeg) (v 200 ((v 198 6).toNatClampNeg))) 220 ((l3 + (1 : Int32)).toNatClampNeg) (0 : Int32)) 221 ((l3 + (1 : Int32)).toNatClampNeg) (43 : Int32))
        else none
        else none
        else none
      else
        bif pm_in ((l3 + (1 : Int32)) - (1 : Int32)) 6 then
        bif pm_in (l3 + (1 : Int32)) 6 then
        bif pm_in (l3 + (1 : Int32)) 6 then
        d_Mo_reckon_22 w f l1 (l3 + (1 : Int32)) (pd_w (pd_w (pd_w (pd_w v 198 6 ((v 198 6) + (1 : Int32))) 219 (((l3 + (1 : Int32)) - (1 : Int32)).toNatClampNeg) (v 200 ((v 198 6).toNatClampNeg))) 220 ((l3 + (1 : Int32)).toNatClampNeg) (0 : Int32)) 221 ((l3 + (1 : Int32)).toNatClampNeg) (43 : Int32))
        else none
        else none
        else none
    else
      bif decide ((v 200 ((v 198 6).toNatClampNeg)) = (76 : Int32)) then
        bif !(decide ((v 200 ((v 198 6).toNatClampNeg)) = (40 : Int32))) then
          bif pm_in ((l3 + (1 : Int32)) - (1 : Int32)) 6 then
          bif pm_in (l3 + (1 : Int32)) 6 then
          bif pm_in (l3 + (1 : Int32)) 6 then
          d_Mo_reckon_22 w f l1 (l3 + (1 : Int32)) (pd_w (pd_w (pd_w (pd_w v 198 6 ((v 198 6) + (2 : Int32))) 219 (((l3 + (1 : Int32)) - (1 : Int32)).toNatClampNeg) (v 200 ((v 198 6).toNatClampNeg))) 220 ((l3 + (1 : Int32)).toNatClampNeg) (0 : Int32)) 221 ((l3 + (1 : Int32)).toNatClampNeg) (43 : Int32))
          else none
          else none
          else none
        else
          bif pm_in ((l3 + (1 : Int32)) - (1 : Int32)) 6 then
          bif pm_in (l3 + (1 : Int32)) 6 then
          bif pm_in (l3 + (1 : Int32)) 6 then
          d_Mo_reckon_22 w f l1 (l3 + (1 : Int32)) (pd_w (pd_w (pd_w (pd_w v 198 6 ((v 198 6) + (1 : Int32))) 219 (((l3 + (1 : Int32)) - (1 : Int32)).toNatClampNeg) (v 200 ((v 198 6).toNatClampNeg))) 220 ((l3 + (1 : Int32)).toNatClampNeg) (0 : Int32)) 221 ((l3 + (1 : Int32)).toNatClampNeg) (43 : Int32))
          else none
          else none
          else none
      else
        bif !(decide ((v 200 ((v 198 6).toNatClampNeg)) = (40 : Int32))) then
          bif pm_in l3 6 then
          bif pm_in l3 6 then
          (d_Mo_plain w l1 v).bind fun q21 =>
          bif pm_in l3 6 then
          d_Mo_reckon_137 (fun l1_1 l3_1 v_1 =>
            bif decide ((v_1 198 6) = (v_1 198 4)) then
              d_Mo_reckon_339 w v_1
            else
              bif pm_in (v_1 198 6) 160 then
              bif !(decide ((d_Mo_isSign (v_1 200 ((v_1 198 6).toNatClampNeg))) = 0)) then
                bif pm_in (v_1 198 6) 160 then
                bif pm_in l3_1 6 then
                d_Mo_reckon_22 w f l1_1 l3_1 (pd_w (pd_w v_1 221 l3_1.toNatClampNeg (v_1 200 ((v_1 198 6).toNatClampNeg))) 198 6 ((v_1 198 6) + (1 : Int32)))
                else none
                else none
              else
                d_Mo_reckon_339 w v_1
              else none) w w l1 l3 (pd_w q21.2 220 l3.toNatClampNeg (d_Mo_joined (v 220 l3.toNatClampNeg) (v 221 l3.toNatClampNeg) q21.1))
          else none
          else none
          else none
        else
          bif !(decide ((v 200 ((v 198 6).toNatClampNeg)) = (40 : Int32))) then
            bif pm_in ((l3 + (1 : Int32)) - (1 : Int32)) 6 then
            bif pm_in (l3 + (1 : Int32)) 6 then
            bif pm_in (l3 + (1 : Int32)) 6 then
            d_Mo_reckon_22 w f l1 (l3 + (1 : Int32)) (pd_w (pd_w (pd_w (pd_w v 198 6 ((v 198 6) + (2 : Int32))) 219 (((l3 + (1 : Int32)) - (1 : Int32)).toNatClampNeg) (v 200 ((v 198 6).toNatClampNeg))) 220 ((l3 + (1 : Int32)).toNatClampNeg) (0 : Int32)) 221 ((l3 + (1 : Int32)).toNatClampNeg) (43 : Int32))
            else none
            else none
            else none
          else
            bif pm_in ((l3 + (1 : Int32)) - (1 : Int32)) 6 then
            bif pm_in (l3 + (1 : Int32)) 6 then
            bif pm_in (l3 + (1 : Int32)) 6 then
            d_Mo_reckon_22 w f l1 (l3 + (1 : Int32)) (pd_w (pd_w (pd_w (pd_w v 198 6 ((v 198 6) + (1 : Int32))) 219 (((l3 + (1 : Int32)) - (1 : Int32)).toNatClampNeg) (v 200 ((v 198 6).toNatClampNeg))) 220 ((l3 + (1 : Int32)).toNatClampNeg) (0 : Int32)) 221 ((l3 + (1 : Int32)).toNatClampNeg) (43 : Int32))
            else none
            else none
            else none
    else none
set_option maxRecDepth 100000 in
set_option maxHeartbeats 4000000 in
theorem s_Mo_reckon_22 {w : Nat} : ∀ (f : Nat) (l1 : Int32) (l3 : Int32) (v : pd_V) (y2 : Int32) (y4 : Option Value) (y5 : Option Value) (y6 : Option Value) (q : (Int32 × pd_V)) , d_Mo_reckon_22 w f l1 l3 v = some q → pm_ev (pj_P xs L) (d + 2) 131 (22, [some (.ref 198), some (.int l1), some (.int y2), some (.int l3), y4, y5, y6], [], (223, kc, ks, pd_H g v)) (.inl (some (.int q.1)), (223, kc, ks, pd_H g q.2)) := by
  intro f
  induction f with
  | zero => intro l1 l3 v y2 y4 y5 y6 q h; exact nomatch (show (none : Option (Int32 × pd_V)) = some q from h)
  | succ f ih =>
    intro l1 l3 v y2 y4 y5 y6 q h
    rw [d_Mo_reckon_22] at h
    refine ev_gos pp_Mo_reckon 4 (S' := (30, [some (.ref 198), some (.int l1), some (.int y2), some (.int l3), y4, y5, y6], [.int (v 198 6), .ref 200], (223, kc, ks, pd_H g v))) rfl ?_
    obtain ⟨hc1, h⟩ := pd_chk h
    refine ev_iald pp_Mo_reckon rfl (fun _ => rfl) hc1 ?_
    refine ev_gos pp_Mo_reckon 3 (S' := (37, [some (.ref 198), some (.int l1), some (.int y2), some (.int l3), some (.int (v 200 ((v 198 6).toNatClampNeg))), y5, y6], [.int (73 : Int32), .int (v 200 ((v 198 6).toNatClampNeg))], (223, kc, ks, pd_H g v))) rfl ?_
    refine ev_gos pp_Mo_reckon 1 (S' := (bif decide ((v 200 ((v 198 6).toNatClampNeg)) = (73 : Int32)) then 54 else 40, [some (.ref 198), some (.int l1), some (.int y2), some (.int l3), some (.int (v 200 ((v 198 6).toNatClampNeg))), y5, y6], [], (223, kc, ks, pd_H g v))) rfl ?_
    rcases pd_cases h with ⟨hb2, h⟩ | ⟨hb2, h⟩
    · rw [hb2]
      refine ev_gos pp_Mo_reckon 3 (S' := (59, [some (.ref 198), some (.int l1), some (.int y2), some (.int l3), some (.int (v 200 ((v 198 6).toNatClampNeg))), y5, y6], [.int (40 : Int32), .int (v 200 ((v 198 6).toNatClampNeg)), .ref 198], (223, kc, ks, pd_H g v))) rfl ?_
      refine ev_gos pp_Mo_reckon 1 (S' := (bif !(decide ((v 200 ((v 198 6).toNatClampNeg)) = (40 : Int32))) then 71 else 62, [some (.ref 198), some (.int l1), some (.int y2), some (.int l3), some (.int (v 200 ((v 198 6).toNatClampNeg))), y5, y6], [.ref 198], (223, kc, ks, pd_H g v))) rfl ?_
      rcases pd_cases h with ⟨hb3, h⟩ | ⟨hb3, h⟩
      · rw [hb3]
        refine ev_gos pp_Mo_reckon 4 (S' := (77, [some (.ref 198), some (.int l1), some (.int y2), some (.int l3), some (.int (v 200 ((v 198 6).toNatClampNeg))), y5, y6], [.int ((v 198 6) + (2 : Int32)), .ref 198], (223, kc, ks, pd_H g v))) rfl ?_
        refine ev_put pp_Mo_reckon rfl (fun _ => rfl) rfl rfl rfl ?_
        refine ev_gos pp_Mo_reckon 7 (S' := (92, [some (.ref 198), some (.int l1), some (.int y2), some (.int (l3 + (1 : Int32))), some (.int (v 200 ((v 198 6).toNatClampNeg))), y5, y6], [.int (v 200 ((v 198 6).toNatClampNeg)), .int ((l3 + (1 : Int32)) - (1 : Int32)), .ref 219], (223, kc, ks, pd_H g (pd_w v 198 6 ((v 198 6) + (2 : Int32)))))) rfl ?_
        obtain ⟨hc4, h⟩ := pd_chk h
        refine ev_iast pp_Mo_reckon rfl (fun _ => rfl) hc4 ?_
        refine ev_gos pp_Mo_reckon 4 (S' := (99, [some (.ref 198), some (.int l1), some (.int y2), some (.int (l3 + (1 : Int32))), some (.int (v 200 ((v 198 6).toNatClampNeg))), y5, y6], [.int (0 : Int32), .int (l3 + (1 : Int32)), .ref 220], (223, kc, ks, pd_H g (pd_w (pd_w v 198 6 ((v 198 6) + (2 : Int32))) 219 (((l3 + (1 : Int32)) - (1 : Int32)).toNatClampNeg) (v 200 ((v 198 6).toNatClampNeg)))))) rfl ?_
        obtain ⟨hc5, h⟩ := pd_chk h
        refine ev_iast pp_Mo_reckon rfl (fun _ => rfl) hc5 ?_
        refine ev_gos pp_Mo_reckon 4 (S' := (107, [some (.ref 198), some (.int l1), some (.int y2), some (.int (l3 + (1 : Int32))), some (.int (v 200 ((v 198 6).toNatClampNeg))), y5, y6], [.int (43 : Int32), .int (l3 + (1 : Int32)), .ref 221], (223, kc, ks, pd_H g (pd_w (pd_w (pd_w v 198 6 ((v 198 6) + (2 : Int32))) 219 (((l3 + (1 : Int32)) - (1 : Int32)).toNatClampNeg) (v 200 ((v 198 6).toNatClampNeg))) 220 ((l3 + (1 : Int32)).toNatClampNeg) (0 : Int32))))) rfl ?_
        obtain ⟨hc6, h⟩ := pd_chk h
        refine ev_iast pp_Mo_reckon rfl (fun _ => rfl) hc6 ?_
        refine ev_gos pp_Mo_reckon 1 (S' := (22, [some (.ref 198), some (.int l1), some (.int y2), some (.int (l3 + (1 : Int32))), some (.int (v 200 ((v 198 6).toNatClampNeg))), y5, y6], [], (223, kc, ks, pd_H g (pd_w (pd_w (pd_w (pd_w v 198 6 ((v 198 6) + (2 : Int32))) 219 (((l3 + (1 : Int32)) - (1 : Int32)).toNatClampNeg) (v 200 ((v 198 6).toNatClampNeg))) 220 ((l3 + (1 : Int32)).toNatClampNeg) (0 : Int32)) 221 ((l3 + (1 : Int32)).toNatClampNeg) (43 : Int32))))) rfl ?_
        exact ih _ _ _ _ _ _ _ _  h
      · rw [hb3]
        refine ev_gos pp_Mo_reckon 5 (S' := (77, [some (.ref 198), some (.int l1), some (.int y2), some (.int l3), some (.int (v 200 ((v 198 6).toNatClampNeg))), y5, y6], [.int ((v 198 6) + (1 : Int32)), .ref 198], (223, kc, ks, pd_H g v))) rfl ?_
        refine ev_put pp_Mo_reckon rfl (fun _ => rfl) rfl rfl rfl ?_
        refine ev_gos pp_Mo_reckon 7 (S' := (92, [some (.ref 198), some (.int l1), some (.int y2), some (.int (l3 + (1 : Int32))), some (.int (v 200 ((v 198 6).toNatClampNeg))), y5, y6], [.int (v 200 ((v 198 6).toNatClampNeg)), .int ((l3 + (1 : Int32)) - (1 : Int32)), .ref 219], (223, kc, ks, pd_H g (pd_w v 198 6 ((v 198 6) + (1 : Int32)))))) rfl ?_
        obtain ⟨hc7, h⟩ := pd_chk h
        refine ev_iast pp_Mo_reckon rfl (fun _ => rfl) hc7 ?_
        refine ev_gos pp_Mo_reckon 4 (S' := (99, [some (.ref 198), some (.int l1), some (.int y2), some (.int (l3 + (1 : Int32))), some (.int (v 200 ((v 198 6).toNatClampNeg))), y5, y6], [.int (0 : Int32), .int (l3 + (1 : Int32)), .ref 220], (223, kc, ks, pd_H g (pd_w (pd_w v 198 6 ((v 198 6) + (1 : Int32))) 219 (((l3 + (1 : Int32)) - (1 : Int32)).toNatClampNeg) (v 200 ((v 198 6).toNatClampNeg)))))) rfl ?_
        obtain ⟨hc8, h⟩ := pd_chk h
        refine ev_iast pp_Mo_reckon rfl (fun _ => rfl) hc8 ?_
        refine ev_gos pp_Mo_reckon 4 (S' := (107, [some (.ref 198), some (.int l1), some (.int y2), some (.int (l3 + (1 : Int32))), some (.int (v 200 ((v 198 6).toNatClampNeg))), y5, y6], [.int (43 : Int32), .int (l3 + (1 : Int32)), .ref 221], (223, kc, ks, pd_H g (pd_w (pd_w (pd_w v 198 6 ((v 198 6) + (1 : Int32))) 219 (((l3 + (1 : Int32)) - (1 : Int32)).toNatClampNeg) (v 200 ((v 198 6).toNatClampNeg))) 220 ((l3 + (1 : Int32)).toNatClampNeg) (0 : Int32))))) rfl ?_
        obtain ⟨hc9, h⟩ := pd_chk h
        refine ev_iast pp_Mo_reckon rfl (fun _ => rfl) hc9 ?_
        refine ev_gos pp_Mo_reckon 1 (S' := (22, [some (.ref 198), some (.int l1), some (.int y2), some (.int (l3 + (1 : Int32))), some (.int (v 200 ((v 198 6).toNatClampNeg))), y5, y6], [], (223, kc, ks, pd_H g (pd_w (pd_w (pd_w (pd_w v 198 6 ((v 198 6) + (1 : Int32))) 219 (((l3 + (1 : Int32)) - (1 : Int32)).toNatClampNeg) (v 200 ((v 198 6).toNatClampNeg))) 220 ((l3 + (1 : Int32)).toNatClampNeg) (0 : Int32)) 221 ((l3 + (1 : Int32)).toNatClampNeg) (43 : Int32))))) rfl ?_
        exact ih _ _ _ _ _ _ _ _  h
    · rw [hb2]
      refine ev_gos pp_Mo_reckon 2 (S' := (44, [some (.ref 198), some (.int l1), some (.int y2), some (.int l3), some (.int (v 200 ((v 198 6).toNatClampNeg))), y5, y6], [.int (76 : Int32), .int (v 200 ((v 198 6).toNatClampNeg))], (223, kc, ks, pd_H g v))) rfl ?_
      refine ev_gos pp_Mo_reckon 1 (S' := (bif decide ((v 200 ((v 198 6).toNatClampNeg)) = (76 : Int32)) then 54 else 47, [some (.ref 198), some (.int l1), some (.int y2), some (.int l3), some (.int (v 200 ((v 198 6).toNatClampNeg))), y5, y6], [], (223, kc, ks, pd_H g v))) rfl ?_
      rcases pd_cases h with ⟨hb10, h⟩ | ⟨hb10, h⟩
      · rw [hb10]
        refine ev_gos pp_Mo_reckon 3 (S' := (59, [some (.ref 198), some (.int l1), some (.int y2), some (.int l3), some (.int (v 200 ((v 198 6).toNatClampNeg))), y5, y6], [.int (40 : Int32), .int (v 200 ((v 198 6).toNatClampNeg)), .ref 198], (223, kc, ks, pd_H g v))) rfl ?_
        refine ev_gos pp_Mo_reckon 1 (S' := (bif !(decide ((v 200 ((v 198 6).toNatClampNeg)) = (40 : Int32))) then 71 else 62, [some (.ref 198), some (.int l1), some (.int y2), some (.int l3), some (.int (v 200 ((v 198 6).toNatClampNeg))), y5, y6], [.ref 198], (223, kc, ks, pd_H g v))) rfl ?_
        rcases pd_cases h with ⟨hb11, h⟩ | ⟨hb11, h⟩
        · rw [hb11]
          refine ev_gos pp_Mo_reckon 4 (S' := (77, [some (.ref 198), some (.int l1), some (.int y2), some (.int l3), some (.int (v 200 ((v 198 6).toNatClampNeg))), y5, y6], [.int ((v 198 6) + (2 : Int32)), .ref 198], (223, kc, ks, pd_H g v))) rfl ?_
          refine ev_put pp_Mo_reckon rfl (fun _ => rfl) rfl rfl rfl ?_
          refine ev_gos pp_Mo_reckon 7 (S' := (92, [some (.ref 198), some (.int l1), some (.int y2), some (.int (l3 + (1 : Int32))), some (.int (v 200 ((v 198 6).toNatClampNeg))), y5, y6], [.int (v 200 ((v 198 6).toNatClampNeg)), .int ((l3 + (1 : Int32)) - (1 : Int32)), .ref 219], (223, kc, ks, pd_H g (pd_w v 198 6 ((v 198 6) + (2 : Int32)))))) rfl ?_
          obtain ⟨hc12, h⟩ := pd_chk h
          refine ev_iast pp_Mo_reckon rfl (fun _ => rfl) hc12 ?_
          refine ev_gos pp_Mo_reckon 4 (S' := (99, [some (.ref 198), some (.int l1), some (.int y2), some (.int (l3 + (1 : Int32))), some (.int (v 200 ((v 198 6).toNatClampNeg))), y5, y6], [.int (0 : Int32), .int (l3 + (1 : Int32)), .ref 220], (223, kc, ks, pd_H g (pd_w (pd_w v 198 6 ((v 198 6) + (2 : Int32))) 219 (((l3 + (1 : Int32)) - (1 : Int32)).toNatClampNeg) (v 200 ((v 198 6).toNatClampNeg)))))) rfl ?_
          obtain ⟨hc13, h⟩ := pd_chk h
          refine ev_iast pp_Mo_reckon rfl (fun _ => rfl) hc13 ?_
          refine ev_gos pp_Mo_reckon 4 (S' := (107, [some (.ref 198), some (.int l1), some (.int y2), some (.int (l3 + (1 : Int32))), some (.int (v 200 ((v 198 6).toNatClampNeg))), y5, y6], [.int (43 : Int32), .int (l3 + (1 : Int32)), .ref 221], (223, kc, ks, pd_H g (pd_w (pd_w (pd_w v 198 6 ((v 198 6) + (2 : Int32))) 219 (((l3 + (1 : Int32)) - (1 : Int32)).toNatClampNeg) (v 200 ((v 198 6).toNatClampNeg))) 220 ((l3 + (1 : Int32)).toNatClampNeg) (0 : Int32))))) rfl ?_
          obtain ⟨hc14, h⟩ := pd_chk h
          refine ev_iast pp_Mo_reckon rfl (fun _ => rfl) hc14 ?_
          refine ev_gos pp_Mo_reckon 1 (S' := (22, [some (.ref 198), some (.int l1), some (.int y2), some (.int (l3 + (1 : Int32))), some (.int (v 200 ((v 198 6).toNatClampNeg))), y5, y6], [], (223, kc, ks, pd_H g (pd_w (pd_w (pd_w (pd_w v 198 6 ((v 198 6) + (2 : Int32))) 219 (((l3 + (1 : Int32)) - (1 : Int32)).toNatClampNeg) (v 200 ((v 198 6).toNatClampNeg))) 220 ((l3 + (1 : Int32)).toNatClampNeg) (0 : Int32)) 221 ((l3 + (1 : Int32)).toNatClampNeg) (43 : Int32))))) rfl ?_
          exact ih _ _ _ _ _ _ _ _  h
        · rw [hb11]
          refine ev_gos pp_Mo_reckon 5 (S' := (77, [some (.ref 198), some (.int l1), some (.int y2), some (.int l3), some (.int (v 200 ((v 198 6).toNatClampNeg))), y5, y6], [.int ((v 198 6) + (1 : Int32)), .ref 198], (223, kc, ks, pd_H g v))) rfl ?_
          refine ev_put pp_Mo_reckon rfl (fun _ => rfl) rfl rfl rfl ?_
          refine ev_gos pp_Mo_reckon 7 (S' := (92, [some (.ref 198), some (.int l1), some (.int y2), some (.int (l3 + (1 : Int32))), some (.int (v 200 ((v 198 6).toNatClampNeg))), y5, y6], [.int (v 200 ((v 198 6).toNatClampNeg)), .int ((l3 + (1 : Int32)) - (1 : Int32)), .ref 219], (223, kc, ks, pd_H g (pd_w v 198 6 ((v 198 6) + (1 : Int32)))))) rfl ?_
          obtain ⟨hc15, h⟩ := pd_chk h
          refine ev_iast pp_Mo_reckon rfl (fun _ => rfl) hc15 ?_
          refine ev_gos pp_Mo_reckon 4 (S' := (99, [some (.ref 198), some (.int l1), some (.int y2), some (.int (l3 + (1 : Int32))), some (.int (v 200 ((v 198 6).toNatClampNeg))), y5, y6], [.int (0 : Int32), .int (l3 + (1 : Int32)), .ref 220], (223, kc, ks, pd_H g (pd_w (pd_w v 198 6 ((v 198 6) + (1 : Int32))) 219 (((l3 + (1 : Int32)) - (1 : Int32)).toNatClampNeg) (v 200 ((v 198 6).toNatClampNeg)))))) rfl ?_
          obtain ⟨hc16, h⟩ := pd_chk h
          refine ev_iast pp_Mo_reckon rfl (fun _ => rfl) hc16 ?_
          refine ev_gos pp_Mo_reckon 4 (S' := (107, [some (.ref 198), some (.int l1), some (.int y2), some (.int (l3 + (1 : Int32))), some (.int (v 200 ((v 198 6).toNatClampNeg))), y5, y6], [.int (43 : Int32), .int (l3 + (1 : Int32)), .ref 221], (223, kc, ks, pd_H g (pd_w (pd_w (pd_w v 198 6 ((v 198 6) + (1 : Int32))) 219 (((l3 + (1 : Int32)) - (1 : Int32)).toNatClampNeg) (v 200 ((v 198 6).toNatClampNeg))) 220 ((l3 + (1 : Int32)).toNatClampNeg) (0 : Int32))))) rfl ?_
          obtain ⟨hc17, h⟩ := pd_chk h
          refine ev_iast pp_Mo_reckon rfl (fun _ => rfl) hc17 ?_
          refine ev_gos pp_Mo_reckon 1 (S' := (22, [some (.ref 198), some (.int l1), some (.int y2), some (.int (l3 + (1 : Int32))), some (.int (v 200 ((v 198 6).toNatClampNeg))), y5, y6], [], (223, kc, ks, pd_H g (pd_w (pd_w (pd_w (pd_w v 198 6 ((v 198 6) + (1 : Int32))) 219 (((l3 + (1 : Int32)) - (1 : Int32)).toNatClampNeg) (v 200 ((v 198 6).toNatClampNeg))) 220 ((l3 + (1 : Int32)).toNatClampNeg) (0 : Int32)) 221 ((l3 + (1 : Int32)).toNatClampNeg) (43 : Int32))))) rfl ?_
          exact ih _ _ _ _ _ _ _ _  h
      · rw [hb10]
        refine ev_gos pp_Mo_reckon 2 (S' := (51, [some (.ref 198), some (.int l1), some (.int y2), some (.int l3), some (.int (v 200 ((v 198 6).toNatClampNeg))), y5, y6], [.int (40 : Int32), .int (v 200 ((v 198 6).toNatClampNeg))], (223, kc, ks, pd_H g v))) rfl ?_
        refine ev_gos pp_Mo_reckon 1 (S' := (bif !(decide ((v 200 ((v 198 6).toNatClampNeg)) = (40 : Int32))) then 111 else 54, [some (.ref 198), some (.int l1), some (.int y2), some (.int l3), some (.int (v 200 ((v 198 6).toNatClampNeg))), y5, y6], [], (223, kc, ks, pd_H g v))) rfl ?_
        rcases pd_cases h with ⟨hb18, h⟩ | ⟨hb18, h⟩
        · rw [hb18]
          refine ev_gos pp_Mo_reckon 6 (S' := (121, [some (.ref 198), some (.int l1), some (.int y2), some (.int l3), some (.int (v 200 ((v 198 6).toNatClampNeg))), y5, y6], [.int l3, .ref 220, .int l3, .ref 220], (223, kc, ks, pd_H g v))) rfl ?_
          obtain ⟨hc19, h⟩ := pd_chk h
          refine ev_iald pp_Mo_reckon rfl (fun _ => rfl) hc19 ?_
          refine ev_gos pp_Mo_reckon 3 (S' := (127, [some (.ref 198), some (.int l1), some (.int y2), some (.int l3), some (.int (v 200 ((v 198 6).toNatClampNeg))), y5, y6], [.int l3, .ref 221, .int (v 220 l3.toNatClampNeg), .int l3, .ref 220], (223, kc, ks, pd_H g v))) rfl ?_
          obtain ⟨hc20, h⟩ := pd_chk h
          refine ev_iald pp_Mo_reckon rfl (fun _ => rfl) hc20 ?_
          refine ev_gos pp_Mo_reckon 2 (S' := (130, [some (.ref 198), some (.int l1), some (.int y2), some (.int l3), some (.int (v 200 ((v 198 6).toNatClampNeg))), y5, y6], [.int l1, .ref 198, .int (v 221 l3.toNatClampNeg), .int (v 220 l3.toNatClampNeg), .int l3, .ref 220], (223, kc, ks, pd_H g v))) rfl ?_
          obtain ⟨q21, hq21, h⟩ := pd_bind h
          refine ev_callv pp_Mo_reckon rfl rfl rfl rfl (s_Mo_plain hq21) ?_
          refine ev_gos pp_Mo_reckon 0 (S' := (133, [some (.ref 198), some (.int l1), some (.int y2), some (.int l3), some (.int (v 200 ((v 198 6).toNatClampNeg))), y5, y6], [.int q21.1, .int (v 221 l3.toNatClampNeg), .int (v 220 l3.toNatClampNeg), .int l3, .ref 220], (223, kc, ks, pd_H g q21.2))) rfl ?_
          refine ev_call pp_Mo_reckon rfl rfl rfl (s_Mo_joined) ?_
          refine ev_gos pp_Mo_reckon 0 (S' := (136, [some (.ref 198), some (.int l1), some (.int y2), some (.int l3), some (.int (v 200 ((v 198 6).toNatClampNeg))), y5, y6], [.int (d_Mo_joined (v 220 l3.toNatClampNeg) (v 221 l3.toNatClampNeg) q21.1), .int l3, .ref 220], (223, kc, ks, pd_H g q21.2))) rfl ?_
          obtain ⟨hc23, h⟩ := pd_chk h
          refine ev_iast pp_Mo_reckon rfl (fun _ => rfl) hc23 ?_
          refine ev_gos pp_Mo_reckon 0 (S' := (137, [some (.ref 198), some (.int l1), some (.int y2), some (.int l3), some (.int (v 200 ((v 198 6).toNatClampNeg))), y5, y6], [], (223, kc, ks, pd_H g (pd_w q21.2 220 l3.toNatClampNeg (d_Mo_joined (v 220 l3.toNatClampNeg) (v 221 l3.toNatClampNeg) q21.1))))) rfl ?_
          refine s_Mo_reckon_137 (fun l1_1 l3_1 v_1 y2_1 y4_1 y5_1 y6_1 q9  h => ?_) _ _ _ _ _ _ _ _ _  h
          refine ev_gos pp_Mo_reckon 4 (S' := (321, [some (.ref 198), some (.int l1_1), some (.int y2_1), some (.int l3_1), some (.int y4_1), y5_1, y6_1], [.int (v_1 198 4), .int (v_1 198 6)], (223, kc, ks, pd_H g v_1))) rfl ?_
          refine ev_gos pp_Mo_reckon 1 (S' := (bif decide ((v_1 198 6) = (v_1 198 4)) then 339 else 324, [some (.ref 198), some (.int l1_1), some (.int y2_1), some (.int l3_1), some (.int y4_1), y5_1, y6_1], [], (223, kc, ks, pd_H g v_1))) rfl ?_
          rcases pd_cases h with ⟨hb24, h⟩ | ⟨hb24, h⟩
          · rw [hb24]
            refine ev_gos pp_Mo_reckon 0 (S' := (339, [some (.ref 198), some (.int l1_1), some (.int y2_1), some (.int l3_1), some (.int y4_1), y5_1, y6_1], [], (223, kc, ks, pd_H g v_1))) rfl ?_
            exact s_Mo_reckon_339 _ _ _ _ _ _ _ _  h
          · rw [hb24]
            refine ev_gos pp_Mo_reckon 4 (S' := (332, [some (.ref 198), some (.int l1_1), some (.int y2_1), some (.int l3_1), some (.int y4_1), y5_1, y6_1], [.int (v_1 198 6), .ref 200], (223, kc, ks, pd_H g v_1))) rfl ?_
            obtain ⟨hc25, h⟩ := pd_chk h
            refine ev_iald pp_Mo_reckon rfl (fun _ => rfl) hc25 ?_
            refine ev_gos pp_Mo_reckon 0 (S' := (333, [some (.ref 198), some (.int l1_1), some (.int y2_1), some (.int l3_1), some (.int y4_1), y5_1, y6_1], [.int (v_1 200 ((v_1 198 6).toNatClampNeg))], (223, kc, ks, pd_H g v_1))) rfl ?_
            refine ev_call pp_Mo_reckon rfl rfl rfl (s_Mo_isSign) ?_
            refine ev_gos pp_Mo_reckon 0 (S' := (336, [some (.ref 198), some (.int l1_1), some (.int y2_1), some (.int l3_1), some (.int y4_1), y5_1, y6_1], [.int (d_Mo_isSign (v_1 200 ((v_1 198 6).toNatClampNeg)))], (223, kc, ks, pd_H g v_1))) rfl ?_
            refine ev_gos pp_Mo_reckon 1 (S' := (bif !(decide ((d_Mo_isSign (v_1 200 ((v_1 198 6).toNatClampNeg))) = 0)) then 346 else 339, [some (.ref 198), some (.int l1_1), some (.int y2_1), some (.int l3_1), some (.int y4_1), y5_1, y6_1], [], (223, kc, ks, pd_H g v_1))) rfl ?_
            rcases pd_cases h with ⟨hb27, h⟩ | ⟨hb27, h⟩
            · rw [hb27]
              refine ev_gos pp_Mo_reckon 7 (S' := (359, [some (.ref 198), some (.int l1_1), some (.int y2_1), some (.int l3_1), some (.int y4_1), y5_1, y6_1], [.int (v_1 198 6), .ref 200, .int l3_1, .ref 221], (223, kc, ks, pd_H g v_1))) rfl ?_
              obtain ⟨hc28, h⟩ := pd_chk h
              refine ev_iald pp_Mo_reckon rfl (fun _ => rfl) hc28 ?_
              refine ev_gos pp_Mo_reckon 0 (S' := (360, [some (.ref 198), some (.int l1_1), some (.int y2_1), some (.int l3_1), some (.int y4_1), y5_1, y6_1], [.int (v_1 200 ((v_1 198 6).toNatClampNeg)), .int l3_1, .ref 221], (223, kc, ks, pd_H g v_1))) rfl ?_
              obtain ⟨hc29, h⟩ := pd_chk h
              refine ev_iast pp_Mo_reckon rfl (fun _ => rfl) hc29 ?_
              refine ev_gos pp_Mo_reckon 5 (S' := (368, [some (.ref 198), some (.int l1_1), some (.int y2_1), some (.int l3_1), some (.int y4_1), y5_1, y6_1], [.int ((v_1 198 6) + (1 : Int32)), .ref 198], (223, kc, ks, pd_H g (pd_w v_1 221 l3_1.toNatClampNeg (v_1 200 ((v_1 198 6).toNatClampNeg)))))) rfl ?_
              refine ev_put pp_Mo_reckon rfl (fun _ => rfl) rfl rfl rfl ?_
              refine ev_gos pp_Mo_reckon 1 (S' := (22, [some (.ref 198), some (.int l1_1), some (.int y2_1), some (.int l3_1), some (.int y4_1), y5_1, y6_1], [], (223, kc, ks, pd_H g (pd_w (pd_w v_1 221 l3_1.toNatClampNeg (v_1 200 ((v_1 198 6).toNatClampNeg))) 198 6 ((v_1 198 6) + (1 : Int32)))))) rfl ?_
              exact ih _ _ _ _ _ _ _ _  h
            · rw [hb27]
              refine ev_gos pp_Mo_reckon 0 (S' := (339, [some (.ref 198), some (.int l1_1), some (.int y2_1), some (.int l3_1), some (.int y4_1), y5_1, y6_1], [], (223, kc, ks, pd_H g v_1))) rfl ?_
              exact s_Mo_reckon_339 _ _ _ _ _ _ _ _  h
        · rw [hb18]
          refine ev_gos pp_Mo_reckon 3 (S' := (59, [some (.ref 198), some (.int l1), some (.int y2), some (.int l3), some (.int (v 200 ((v 198 6).toNatClampNeg))), y5, y6], [.int (40 : Int32), .int (v 200 ((v 198 6).toNatClampNeg)), .ref 198], (223, kc, ks, pd_H g v))) rfl ?_
          refine ev_gos pp_Mo_reckon 1 (S' := (bif !(decide ((v 200 ((v 198 6).toNatClampNeg)) = (40 : Int32))) then 71 else 62, [some (.ref 198), some (.int l1), some (.int y2), some (.int l3), some (.int (v 200 ((v 198 6).toNatClampNeg))), y5, y6], [.ref 198], (223, kc, ks, pd_H g v))) rfl ?_
          rcases pd_cases h with ⟨hb30, h⟩ | ⟨hb30, h⟩
          · rw [hb30]
            refine ev_gos pp_Mo_reckon 4 (S' := (77, [some (.ref 198), some (.int l1), some (.int y2), some (.int l3), some (.int (v 200 ((v 198 6).toNatClampNeg))), y5, y6], [.int ((v 198 6) + (2 : Int32)), .ref 198], (223, kc, ks, pd_H g v))) rfl ?_
            refine ev_put pp_Mo_reckon rfl (fun _ => rfl) rfl rfl rfl ?_
            refine ev_gos pp_Mo_reckon 7 (S' := (92, [some (.ref 198), some (.int l1), some (.int y2), some (.int (l3 + (1 : Int32))), some (.int (v 200 ((v 198 6).toNatClampNeg))), y5, y6], [.int (v 200 ((v 198 6).toNatClampNeg)), .int ((l3 + (1 : Int32)) - (1 : Int32)), .ref 219], (223, kc, ks, pd_H g (pd_w v 198 6 ((v 198 6) + (2 : Int32)))))) rfl ?_
            obtain ⟨hc31, h⟩ := pd_chk h
            refine ev_iast pp_Mo_reckon rfl (fun _ => rfl) hc31 ?_
            refine ev_gos pp_Mo_reckon 4 (S' := (99, [some (.ref 198), some (.int l1), some (.int y2), some (.int (l3 + (1 : Int32))), some (.int (v 200 ((v 198 6).toNatClampNeg))), y5, y6], [.int (0 : Int32), .int (l3 + (1 : Int32)), .ref 220], (223, kc, ks, pd_H g (pd_w (pd_w v 198 6 ((v 198 6) + (2 : Int32))) 219 (((l3 + (1 : Int32)) - (1 : Int32)).toNatClampNeg) (v 200 ((v 198 6).toNatClampNeg)))))) rfl ?_
            obtain ⟨hc32, h⟩ := pd_chk h
            refine ev_iast pp_Mo_reckon rfl (fun _ => rfl) hc32 ?_
            refine ev_gos pp_Mo_reckon 4 (S' := (107, [some (.ref 198), some (.int l1), some (.int y2), some (.int (l3 + (1 : Int32))), some (.int (v 200 ((v 198 6).toNatClampNeg))), y5, y6], [.int (43 : Int32), .int (l3 + (1 : Int32)), .ref 221], (223, kc, ks, pd_H g (pd_w (pd_w (pd_w v 198 6 ((v 198 6) + (2 : Int32))) 219 (((l3 + (1 : Int32)) - (1 : Int32)).toNatClampNeg) (v 200 ((v 198 6).toNatClampNeg))) 220 ((l3 + (1 : Int32)).toNatClampNeg) (0 : Int32))))) rfl ?_
            obtain ⟨hc33, h⟩ := pd_chk h
            refine ev_iast pp_Mo_reckon rfl (fun _ => rfl) hc33 ?_
            refine ev_gos pp_Mo_reckon 1 (S' := (22, [some (.ref 198), some (.int l1), some (.int y2), some (.int (l3 + (1 : Int32))), some (.int (v 200 ((v 198 6).toNatClampNeg))), y5, y6], [], (223, kc, ks, pd_H g (pd_w (pd_w (pd_w (pd_w v 198 6 ((v 198 6) + (2 : Int32))) 219 (((l3 + (1 : Int32)) - (1 : Int32)).toNatClampNeg) (v 200 ((v 198 6).toNatClampNeg))) 220 ((l3 + (1 : Int32)).toNatClampNeg) (0 : Int32)) 221 ((l3 + (1 : Int32)).toNatClampNeg) (43 : Int32))))) rfl ?_
            exact ih _ _ _ _ _ _ _ _  h
          · rw [hb30]
            refine ev_gos pp_Mo_reckon 5 (S' := (77, [some (.ref 198), some (.int l1), some (.int y2), some (.int l3), some (.int (v 200 ((v 198 6).toNatClampNeg))), y5, y6], [.int ((v 198 6) + (1 : Int32)), .ref 198], (223, kc, ks, pd_H g v))) rfl ?_
            refine ev_put pp_Mo_reckon rfl (fun _ => rfl) rfl rfl rfl ?_
            refine ev_gos pp_Mo_reckon 7 (S' := (92, [some (.ref 198), some (.int l1), some (.int y2), some (.int (l3 + (1 : Int32))), some (.int (v 200 ((v 198 6).toNatClampNeg))), y5, y6], [.int (v 200 ((v 198 6).toNatClampNeg)), .int ((l3 + (1 : Int32)) - (1 : Int32)), .ref 219], (223, kc, ks, pd_H g (pd_w v 198 6 ((v 198 6) + (1 : Int32)))))) rfl ?_
            obtain ⟨hc34, h⟩ := pd_chk h
            refine ev_iast pp_Mo_reckon rfl (fun _ => rfl) hc34 ?_
            refine ev_gos pp_Mo_reckon 4 (S' := (99, [some (.ref 198), some (.int l1), some (.int y2), some (.int (l3 + (1 : Int32))), some (.int (v 200 ((v 198 6).toNatClampNeg))), y5, y6], [.int (0 : Int32), .int (l3 + (1 : Int32)), .ref 220], (223, kc, ks, pd_H g (pd_w (pd_w v 198 6 ((v 198 6) + (1 : Int32))) 219 (((l3 + (1 : Int32)) - (1 : Int32)).toNatClampNeg) (v 200 ((v 198 6).toNatClampNeg)))))) rfl ?_
            obtain ⟨hc35, h⟩ := pd_chk h
            refine ev_iast pp_Mo_reckon rfl (fun _ => rfl) hc35 ?_
            refine ev_gos pp_Mo_reckon 4 (S' := (107, [some (.ref 198), some (.int l1), some (.int y2), some (.int (l3 + (1 : Int32))), some (.int (v 200 ((v 198 6).toNatClampNeg))), y5, y6], [.int (43 : Int32), .int (l3 + (1 : Int32)), .ref 221], (223, kc, ks, pd_H g (pd_w (pd_w (pd_w v 198 6 ((v 198 6) + (1 : Int32))) 219 (((l3 + (1 : Int32)) - (1 : Int32)).toNatClampNeg) (v 200 ((v 198 6).toNatClampNeg))) 220 ((l3 + (1 : Int32)).toNatClampNeg) (0 : Int32))))) rfl ?_
            obtain ⟨hc36, h⟩ := pd_chk h
            refine ev_iast pp_Mo_reckon rfl (fun _ => rfl) hc36 ?_
            refine ev_gos pp_Mo_reckon 1 (S' := (22, [some (.ref 198), some (.int l1), some (.int y2), some (.int (l3 + (1 : Int32))), some (.int (v 200 ((v 198 6).toNatClampNeg))), y5, y6], [], (223, kc, ks, pd_H g (pd_w (pd_w (pd_w (pd_w v 198 6 ((v 198 6) + (1 : Int32))) 219 (((l3 + (1 : Int32)) - (1 : Int32)).toNatClampNeg) (v 200 ((v 198 6).toNatClampNeg))) 220 ((l3 + (1 : Int32)).toNatClampNeg) (0 : Int32)) 221 ((l3 + (1 : Int32)).toNatClampNeg) (43 : Int32))))) rfl ?_
            exact ih _ _ _ _ _ _ _ _  h
def d_Mo_reckon (w : Nat) (l1 : Int32) (l2 : Int32) (v : pd_V) : Option (Int32 × pd_V) :=
  bif pm_in (0 : Int32) 6 then
  bif pm_in (0 : Int32) 6 then
  d_Mo_reckon_22 w w l1 (0 : Int32) (pd_w (pd_w (pd_w v 198 6 l2) 220 ((0 : Int32).toNatClampNeg) (0 : Int32)) 221 ((0 : Int32).toNatClampNeg) (43 : Int32))
  else none
  else none
set_option maxRecDepth 100000 in
set_option maxHeartbeats 4000000 in
theorem s_Mo_reckon {w : Nat} {l1 : Int32} {l2 : Int32} {v : pd_V} {q : (Int32 × pd_V)}  (h : d_Mo_reckon w l1 l2 v = some q) : pm_ev (pj_P xs L) (d + 2) 131 (0, [some (.ref 198), some (.int l1), some (.int l2), none, none, none, none], [], (223, kc, ks, pd_H g v)) (.inl (some (.int q.1)), (223, kc, ks, pd_H g q.2)) := by
  unfold d_Mo_reckon at h
  refine ev_gos pp_Mo_reckon 4 (S' := (4, [some (.ref 198), some (.int l1), some (.int l2), some (.int (0 : Int32)), none, none, none], [.int l2, .ref 198], (223, kc, ks, pd_H g v))) rfl ?_
  refine ev_put pp_Mo_reckon rfl (fun _ => rfl) rfl rfl rfl ?_
  refine ev_gos pp_Mo_reckon 4 (S' := (13, [some (.ref 198), some (.int l1), some (.int l2), some (.int (0 : Int32)), none, none, none], [.int (0 : Int32), .int (0 : Int32), .ref 220], (223, kc, ks, pd_H g (pd_w v 198 6 l2)))) rfl ?_
  obtain ⟨hc1, h⟩ := pd_chk h
  refine ev_iast pp_Mo_reckon rfl (fun _ => rfl) hc1 ?_
  refine ev_gos pp_Mo_reckon 4 (S' := (21, [some (.ref 198), some (.int l1), some (.int l2), some (.int (0 : Int32)), none, none, none], [.int (43 : Int32), .int (0 : Int32), .ref 221], (223, kc, ks, pd_H g (pd_w (pd_w v 198 6 l2) 220 ((0 : Int32).toNatClampNeg) (0 : Int32))))) rfl ?_
  obtain ⟨hc2, h⟩ := pd_chk h
  refine ev_iast pp_Mo_reckon rfl (fun _ => rfl) hc2 ?_
  refine ev_gos pp_Mo_reckon 0 (S' := (22, [some (.ref 198), some (.int l1), some (.int l2), some (.int (0 : Int32)), none, none, none], [], (223, kc, ks, pd_H g (pd_w (pd_w (pd_w v 198 6 l2) 220 ((0 : Int32).toNatClampNeg) (0 : Int32)) 221 ((0 : Int32).toNatClampNeg) (43 : Int32))))) rfl ?_
  exact s_Mo_reckon_22 _ _ _ _ _ _ _ _ _  h
end FN
