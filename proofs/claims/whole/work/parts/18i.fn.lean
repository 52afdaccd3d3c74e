section FN
variable {xs : Nat → Int32} {L : Nat} {g : Nat → Int64} {d kc ks : Nat}
theorem pp_Mo_look {xs : Nat → Int32} {L : Nat} : (pj_P xs L 114).1 = fun S => pm_look tb_Mo_look S.1 S := rfl
def d_Mo_look_4 (w : Nat) (f : Nat) (l1 : Int32) (l2 : Int32) (v : pd_V) : Option pd_V := match f with
  | 0 => none
  | f + 1 =>
    bif decide ((v 198 2) ≤ l2) then
      some v
    else
      bif pm_in l2 160 then
      bif decide (l1 ≤ 0) then
        bif !(decide ((v 199 l2.toNatClampNeg) = (125 : Int32))) then
          bif decide ((v 199 l2.toNatClampNeg) = (63 : Int32)) then
            (d_Mo_upTo w 199 160 l2 (123 : Int32) (123 : Int32) v).bind fun q6 =>
            bif !(decide ((v 199 l2.toNatClampNeg) = (63 : Int32))) then
              bif !(decide ((0 : Int32) = 0)) then
                bif pm_in l1 40 then
                d_Mo_look_4 w f (l1 + (1 : Int32)) (q6 + (1 : Int32)) (pd_w v 212 l1.toNatClampNeg ((0 : Int32) + (2 : Int32)))
                else none
              else
                (d_Mo_isVarying w (l2 + (1 : Int32)) q6 v).bind fun q10 =>
                bif decide (q10 = 0) then
                  bif pm_in l1 40 then
                  d_Mo_look_4 w f (l1 + (1 : Int32)) (q6 + (1 : Int32)) (pd_w v 212 l1.toNatClampNeg ((0 : Int32) + (0 : Int32)))
                  else none
                else
                  bif pm_in l1 40 then
                  d_Mo_look_4 w f (l1 + (1 : Int32)) (q6 + (1 : Int32)) (pd_w v 212 l1.toNatClampNeg ((0 : Int32) + (2 : Int32)))
                  else none
            else
              bif !(decide ((0 : Int32) = 0)) then
                bif pm_in l1 40 then
                d_Mo_look_4 w f (l1 + (1 : Int32)) (q6 + (1 : Int32)) (pd_w v 212 l1.toNatClampNeg ((1 : Int32) + (2 : Int32)))
                else none
              else
                (d_Mo_isVarying w (l2 + (1 : Int32)) q6 v).bind fun q16 =>
                bif decide (q16 = 0) then
                  bif pm_in l1 40 then
                  d_Mo_look_4 w f (l1 + (1 : Int32)) (q6 + (1 : Int32)) (pd_w v 212 l1.toNatClampNeg ((1 : Int32) + (0 : Int32)))
                  else none
                else
                  bif pm_in l1 40 then
                  d_Mo_look_4 w f (l1 + (1 : Int32)) (q6 + (1 : Int32)) (pd_w v 212 l1.toNatClampNeg ((1 : Int32) + (2 : Int32)))
                  else none
          else
            bif !(decide ((v 199 l2.toNatClampNeg) = (42 : Int32))) then
              (d_Mo_upTo w 199 160 l2 (59 : Int32) (59 : Int32) v).bind fun q21 =>
              bif !(decide ((v 199 l2.toNatClampNeg) = (88 : Int32))) then
                bif !(decide ((d_Mo_beyond (v 199 l2.toNatClampNeg) (97 : Int32) (104 : Int32)) = 0)) then
                  d_Mo_look_4 w f l1 (q21 + (1 : Int32)) v
                else
                  bif pm_in ((v 199 l2.toNatClampNeg) - (97 : Int32)) 8 then
                  bif !(decide ((v 201 (((v 199 l2.toNatClampNeg) - (97 : Int32)).toNatClampNeg)) = 0)) then
                    bif pm_in ((v 199 l2.toNatClampNeg) - (97 : Int32)) 8 then
                    d_Mo_look_4 w f l1 (q21 + (1 : Int32)) (pd_w v 201 (((v 199 l2.toNatClampNeg) - (97 : Int32)).toNatClampNeg) (1 : Int32))
                    else none
                  else
                    bif !(decide ((0 : Int32) = 0)) then
                      bif pm_in ((v 199 l2.toNatClampNeg) - (97 : Int32)) 8 then
                      d_Mo_look_4 w f l1 (q21 + (1 : Int32)) (pd_w v 201 (((v 199 l2.toNatClampNeg) - (97 : Int32)).toNatClampNeg) (1 : Int32))
                      else none
                    else
                      (d_Mo_isVarying w (l2 + (2 : Int32)) q21 v).bind fun q30 =>
                      bif decide (q30 = 0) then
                        bif pm_in ((v 199 l2.toNatClampNeg) - (97 : Int32)) 8 then
                        d_Mo_look_4 w f l1 (q21 + (1 : Int32)) (pd_w v 201 (((v 199 l2.toNatClampNeg) - (97 : Int32)).toNatClampNeg) (0 : Int32))
                        else none
                      else
                        bif pm_in ((v 199 l2.toNatClampNeg) - (97 : Int32)) 8 then
                        d_Mo_look_4 w f l1 (q21 + (1 : Int32)) (pd_w v 201 (((v 199 l2.toNatClampNeg) - (97 : Int32)).toNatClampNeg) (1 : Int32))
                        else none
                  else none
              else
                bif pm_in (l2 + (1 : Int32)) 160 then
                bif pm_in ((v 199 ((l2 + (1 : Int32)).toNatClampNeg)) - (97 : Int32)) 8 then
                bif decide ((0 : Int32) = 0) then
                  d_Mo_look_4 w f l1 (q21 + (1 : Int32)) (pd_w v 201 (((v 199 ((l2 + (1 : Int32)).toNatClampNeg)) - (97 : Int32)).toNatClampNeg) (1 : Int32))
                else
                  bif decide (0 ≤ (v 198 10)) then
                    d_Mo_look_4 w f l1 (q21 + (1 : Int32)) (pd_w v 201 (((v 199 ((l2 + (1 : Int32)).toNatClampNeg)) - (97 : Int32)).toNatClampNeg) (1 : Int32))
                  else
                    d_Mo_look_4 w f l1 (q21 + (1 : Int32)) (pd_w (pd_w v 201 (((v 199 ((l2 + (1 : Int32)).toNatClampNeg)) - (97 : Int32)).toNatClampNeg) (1 : Int32)) 198 10 l2)
                else none
                else none
            else
              (d_Mo_upTo w 199 160 l2 (123 : Int32) (123 : Int32) v).bind fun q38 =>
              bif !(decide ((v 199 l2.toNatClampNeg) = (63 : Int32))) then
                bif !(decide ((0 : Int32) = 0)) then
                  bif pm_in l1 40 then
                  d_Mo_look_4 w f (l1 + (1 : Int32)) (q38 + (1 : Int32)) (pd_w v 212 l1.toNatClampNeg ((0 : Int32) + (2 : Int32)))
                  else none
                else
                  (d_Mo_isVarying w (l2 + (1 : Int32)) q38 v).bind fun q42 =>
                  bif decide (q42 = 0) then
                    bif pm_in l1 40 then
                    d_Mo_look_4 w f (l1 + (1 : Int32)) (q38 + (1 : Int32)) (pd_w v 212 l1.toNatClampNeg ((0 : Int32) + (0 : Int32)))
                    else none
                  else
                    bif pm_in l1 40 then
                    d_Mo_look_4 w f (l1 + (1 : Int32)) (q38 + (1 : Int32)) (pd_w v 212 l1.toNatClampNeg ((0 : Int32) + (2 : Int32)))
                    else none
              else
                bif !(decide ((0 : Int32) = 0)) then
                  bif pm_in l1 40 then
                  d_Mo_look_4 w f (l1 + (1 : Int32)) (q38 + (1 : Int32)) (pd_w v 212 l1.toNatClampNeg ((1 : Int32) + (2 : Int32)))
                  else none
                else
                  (d_Mo_isVarying w (l2 + (1 : Int32)) q38 v).bind fun q48 =>
                  bif decide (q48 = 0) then
                    bif pm_in l1 40 then
                    d_Mo_look_4 w f (l1 + (1 : Int32)) (q38 + (1 : Int32)) (pd_w v 212 l1.toNatClampNeg ((1 : Int32) + (0 : Int32)))
                    else none
                  else
                    bif pm_in l1 40 then
                    d_Mo_look_4 w f (l1 + (1 : Int32)) (q38 + (1 : Int32)) (pd_w v 212 l1.toNatClampNeg ((1 : Int32) + (2 : Int32)))
                    else none
        else
          bif decide ((v 198 2) ≤ (l2 + (1 : Int32))) then
            d_Mo_look_4 w f (l1 + (-1 : Int32)) (l2 + (1 : Int32)) v
          else
            bif pm_in (l2 + (1 : Int32)) 160 then
            bif !(decide ((v 199 ((l2 + (1 : Int32)).toNatClampNeg)) = (123 : Int32))) then
              d_Mo_look_4 w f (l1 + (-1 : Int32)) (l2 + (1 : Int32)) v
            else
              bif pm_in (l1 + (-1 : Int32)) 40 then
              bif !(decide ((2 : Int32) = 0)) then
              bif !(decide (((v 212 ((l1 + (-1 : Int32)).toNatClampNeg)) - (v 212 ((l1 + (-1 : Int32)).toNatClampNeg)) / (2 : Int32) * (2 : Int32)) = (1 : Int32))) then
                d_Mo_look_4 w f (l1 + (-1 : Int32)) (l2 + (1 : Int32)) v
              else
                bif pm_in (l1 + (-1 : Int32)) 40 then
                bif pm_in (l1 + (-1 : Int32)) 40 then
                d_Mo_look_4 w f ((l1 + (-1 : Int32)) + (1 : Int32)) ((l2 + (1 : Int32)) + (1 : Int32)) (pd_w v 212 ((l1 + (-1 : Int32)).toNatClampNeg) ((v 212 ((l1 + (-1 : Int32)).toNatClampNeg)) - (1 : Int32)))
                else none
                else none
              else none
              else none
            else none
      else
        bif pm_in (l1 - (1 : Int32)) 40 then
        bif decide ((v 212 ((l1 - (1 : Int32)).toNatClampNeg)) ≤ (1 : Int32)) then
          bif !(decide ((v 199 l2.toNatClampNeg) = (125 : Int32))) then
            bif decide ((v 199 l2.toNatClampNeg) = (63 : Int32)) then
              (d_Mo_upTo w 199 160 l2 (123 : Int32) (123 : Int32) v).bind fun q64 =>
              bif !(decide ((v 199 l2.toNatClampNeg) = (63 : Int32))) then
                bif !(decide ((0 : Int32) = 0)) then
                  bif pm_in l1 40 then
                  d_Mo_look_4 w f (l1 + (1 : Int32)) (q64 + (1 : Int32)) (pd_w v 212 l1.toNatClampNeg ((0 : Int32) + (2 : Int32)))
                  else none
                else
                  (d_Mo_isVarying w (l2 + (1 : Int32)) q64 v).bind fun q68 =>
                  bif decide (q68 = 0) then
                    bif pm_in l1 40 then
                    d_Mo_look_4 w f (l1 + (1 : Int32)) (q64 + (1 : Int32)) (pd_w v 212 l1.toNatClampNeg ((0 : Int32) + (0 : Int32)))
                    else none
                  else
                    bif pm_in l1 40 then
                    d_Mo_look_4 w f (l1 + (1 : Int32)) (q64 + (1 : Int32)) (pd_w v 212 l1.toNatClampNeg ((0 : Int32) + (2 : Int32)))
                    else none
              else
                bif !(decide ((0 : Int32) = 0)) then
                  bif pm_in l1 40 then
                  d_Mo_look_4 w f (l1 + (1 : Int32)) (q64 + (1 : Int32)) (pd_w v 212 l1.toNatClampNeg ((1 : Int32) + (2 : Int32)))
                  else none
                else
                  (d_Mo_isVarying w (l2 + (1 : Int32)) q64 v).bind fun q74 =>
                  bif decide (q74 = 0) then
                    bif pm_in l1 40 then
                    d_Mo_look_4 w f (l1 + (1 : Int32)) (q64 + (1 : Int32)) (pd_w v 212 l1.toNatClampNeg ((1 : Int32) + (0 : Int32)))
                    else none
                  else
                    bif pm_in l1 40 then
                    d_Mo_look_4 w f (l1 + (1 : Int32)) (q64 + (1 : Int32)) (pd_w v 212 l1.toNatClampNeg ((1 : Int32) + (2 : Int32)))
                    else none
            else
              bif !(decide ((v 199 l2.toNatClampNeg) = (42 : Int32))) then
                (d_Mo_upTo w 199 160 l2 (59 : Int32) (59 : Int32) v).bind fun q79 =>
                bif !(decide ((v 199 l2.toNatClampNeg) = (88 : Int32))) then
                  bif !(decide ((d_Mo_beyond (v 199 l2.toNatClampNeg) (97 : Int32) (104 : Int32)) = 0)) then
                    d_Mo_look_4 w f l1 (q79 + (1 : Int32)) v
                  else
                    bif pm_in ((v 199 l2.toNatClampNeg) - (97 : Int32)) 8 then
                    bif !(decide ((v 201 (((v 199 l2.toNatClampNeg) - (97 : Int32)).toNatClampNeg)) = 0)) then
                      bif pm_in ((v 199 l2.toNatClampNeg) - (97 : Int32)) 8 then
                      d_Mo_look_4 w f l1 (q79 + (1 : Int32)) (pd_w v 201 (((v 199 l2.toNatClampNeg) - (97 : Int32)).toNatClampNeg) (1 : Int32))
                      else none
                    else
                      bif !(decide ((0 : Int32) = 0)) then
                        bif pm_in ((v 199 l2.toNatClampNeg) - (97 : Int32)) 8 then
                        d_Mo_look_4 w f l1 (q79 + (1 : Int32)) (pd_w v 201 (((v 199 l2.toNatClampNeg) - (97 : Int32)).toNatClampNeg) (1 : Int32))
                        else none
                      else
                        (d_Mo_isVarying w (l2 + (2 : Int32)) q79 v).bind fun q88 =>
                        bif decide (q88 = 0) then
                          bif pm_in ((v 199 l2.toNatClampNeg) - (97 : Int32)) 8 then
                          d_Mo_look_4 w f l1 (q79 + (1 : Int32)) (pd_w v 201 (((v 199 l2.toNatClampNeg) - (97 : Int32)).toNatClampNeg) (0 : Int32))
                          else none
                        else
                          bif pm_in ((v 199 l2.toNatClampNeg) - (97 : Int32)) 8 then
                          d_Mo_look_4 w f l1 (q79 + (1 : Int32)) (pd_w v 201 (((v 199 l2.toNatClampNeg) - (97 : Int32)).toNatClampNeg) (1 : Int32))
                          else none
                    else none
                else
                  bif pm_in (l2 + (1 : Int32)) 160 then
                  bif pm_in ((v 199 ((l2 + (1 : Int32)).toNatClampNeg)) - (97 : Int32)) 8 then
                  bif decide ((0 : Int32) = 0) then
                    d_Mo_look_4 w f l1 (q79 + (1 : Int32)) (pd_w v 201 (((v 199 ((l2 + (1 : Int32)).toNatClampNeg)) - (97 : Int32)).toNatClampNeg) (1 : Int32))
                  else
                    bif decide (0 ≤ (v 198 10)) then
                      d_Mo_look_4 w f l1 (q79 + (1 : Int32)) (pd_w v 201 (((v 199 ((l2 + (1 : Int32)).toNatClampNeg)) - (97 : Int32)).toNatClampNeg) (1 : Int32))
                    else
                      d_Mo_look_4 w f l1 (q79 + (1 : Int32)) (pd_w (pd_w v 201 (((v 199 ((l2 + (1 : Int32)).toNatClampNeg)) - (97 : Int32)).toNatClampNeg) (1 : Int32)) 198 10 l2)
                  else none
                  else none
              else
                (d_Mo_upTo w 199 160 l2 (123 : Int32) (123 : Int32) v).bind fun q96 =>
                bif !(decide ((v 199 l2.toNatClampNeg) = (63 : Int32))) then
                  bif !(decide ((0 : Int32) = 0)) then
                    bif pm_in l1 40 then
                    d_Mo_look_4 w f (l1 + (1 : Int32)) (q96 + (1 : Int32)) (pd_w v 212 l1.toNatClampNeg ((0 : Int32) + (2 : Int32)))
                    else none
                  else
                    (d_Mo_isVarying w (l2 + (1 : Int32)) q96 v).bind fun q100 =>
                    bif decide (q100 = 0) then
                      bif pm_in l1 40 then
                      d_Mo_look_4 w f (l1 + (1 : Int32)) (q96 + (1 : Int32)) (pd_w v 212 l1.toNatClampNeg ((0 : Int32) + (0 : Int32)))
                      else none
                    else
                      bif pm_in l1 40 then
                      d_Mo_look_4 w f (l1 + (1 : Int32)) (q96 + (1 : Int32)) (pd_w v 212 l1.toNatClampNeg ((0 : Int32) + (2 : Int32)))
                      else none
                else
                  bif !(decide ((0 : Int32) = 0)) then
                    bif pm_in l1 40 then
                    d_Mo_look_4 w f (l1 + (1 : Int32)) (q96 + (1 : Int32)) (pd_w v 212 l1.toNatClampNeg ((1 : Int32) + (2 : Int32)))
                    else none
                  else
                    (d_Mo_isVarying w (l2 + (1 : Int32)) q96 v).bind fun q106 =>
                    bif decide (q106 = 0) then
                      bif pm_in l1 40 then
                      d_Mo_look_4 w f (l1 + (1 : Int32)) (q96 + (1 : Int32)) (pd_w v 212 l1.toNatClampNeg ((1 : Int32) + (0 : Int32)))
                      else none
                    else
                      bif pm_in l1 40 then
                      d_Mo_look_4 w f (l1 + (1 : Int32)) (q96 + (1 : Int32)) (pd_w v 212 l1.toNatClampNeg ((1 : Int32) + (2 : Int32)))
                      else none
          else
            bif decide ((v 198 2) ≤ (l2 + (1 : Int32))) then
              d_Mo_look_4 w f (l1 + (-1 : Int32)) (l2 + (1 : Int32)) v
            else
              bif pm_in (l2 + (1 : Int32)) 160 then
              bif !(decide ((v 199 ((l2 + (1 : Int32)).toNatClampNeg)) = (123 : Int32))) then
                d_Mo_look_4 w f (l1 + (-1 : Int32)) (l2 + (1 : Int32)) v
              else
                bif pm_in (l1 + (-1 : Int32)) 40 then
                bif !(decide ((2 : Int32) = 0)) then
                bif !(decide (((v 212 ((l1 + (-1 : Int32)).toNatClampNeg)) - (v 212 ((l1 + (-1 : Int32)).toNatClampNeg)) / (2 : Int32) * (2 : Int32)) = (1 : Int32))) then
                  d_Mo_look_4 w f (l1 + (-1 : Int32)) (l2 + (1 : Int32)) v
                else
                  bif pm_in (l1 + (-1 : Int32)) 40 then
                  bif pm_in (l1 + (-1 : Int32)) 40 then
                  d_Mo_look_4 w f ((l1 + (-1 : Int32)) + (1 : Int32)) ((l2 + (1 : Int32)) + (1 : Int32)) (pd_w v 212 ((l1 + (-1 : Int32)).toNatClampNeg) ((v 212 ((l1 + (-1 : Int32)).toNatClampNeg)) - (1 : Int32)))
                  else none
                  else none
                else none
                else none
              else none
        else
          bif !(decide ((v 199 l2.toNatClampNeg) = (125 : Int32))) then
            bif decide ((v 199 l2.toNatClampNeg) = (63 : Int32)) then
              (d_Mo_upTo w 199 160 l2 (123 : Int32) (123 : Int32) v).bind fun q120 =>
              bif !(decide ((v 199 l2.toNatClampNeg) = (63 : Int32))) then
                bif !(decide ((1 : Int32) = 0)) then
                  bif pm_in l1 40 then
                  d_Mo_look_4 w f (l1 + (1 : Int32)) (q120 + (1 : Int32)) (pd_w v 212 l1.toNatClampNeg ((0 : Int32) + (2 : Int32)))
                  else none
                else
                  (d_Mo_isVarying w (l2 + (1 : Int32)) q120 v).bind fun q124 =>
                  bif decide (q124 = 0) then
                    bif pm_in l1 40 then
                    d_Mo_look_4 w f (l1 + (1 : Int32)) (q120 + (1 : Int32)) (pd_w v 212 l1.toNatClampNeg ((0 : Int32) + (0 : Int32)))
                    else none
                  else
                    bif pm_in l1 40 then
                    d_Mo_look_4 w f (l1 + (1 : Int32)) (q120 + (1 : Int32)) (pd_w v 212 l1.toNatClampNeg ((0 : Int32) + (2 : Int32)))
                    else none
              else
                bif !(decide ((1 : Int32) = 0)) then
                  bif pm_in l1 40 then
                  d_Mo_look_4 w f (l1 + (1 : Int32)) (q120 + (1 : Int32)) (pd_w v 212 l1.toNatClampNeg ((1 : Int32) + (2 : Int32)))
                  else none
                else
                  (d_Mo_isVarying w (l2 + (1 : Int32)) q120 v).bind fun q130 =>
                  bif decide (q130 = 0) then
                    bif pm_in l1 40 then
                    d_Mo_look_4 w f (l1 + (1 : Int32)) (q120 + (1 : Int32)) (pd_w v 212 l1.toNatClampNeg ((1 : Int32) + (0 : Int32)))
                    else none
                  else
                    bif pm_in l1 40 then
                    d_Mo_look_4 w f (l1 + (1 : Int32)) (q120 + (1 : Int32)) (pd_w v 212 l1.toNatClampNeg ((1 : Int32) + (2 : Int32)))
                    else none
            else
              bif !(decide ((v 199 l2.toNatClampNeg) = (42 : Int32))) then
                (d_Mo_upTo w 199 160 l2 (59 : Int32) (59 : Int32) v).bind fun q135 =>
                bif !(decide ((v 199 l2.toNatClampNeg) = (88 : Int32))) then
                  bif !(decide ((d_Mo_beyond (v 199 l2.toNatClampNeg) (97 : Int32) (104 : Int32)) = 0)) then
                    d_Mo_look_4 w f l1 (q135 + (1 : Int32)) v
                  else
                    bif pm_in ((v 199 l2.toNatClampNeg) - (97 : Int32)) 8 then
                    bif !(decide ((v 201 (((v 199 l2.toNatClampNeg) - (97 : Int32)).toNatClampNeg)) = 0)) then
                      bif pm_in ((v 199 l2.toNatClampNeg) - (97 : Int32)) 8 then
                      d_Mo_look_4 w f l1 (q135 + (1 : Int32)) (pd_w v 201 (((v 199 l2.toNatClampNeg) - (97 : Int32)).toNatClampNeg) (1 : Int32))
                      else none
                    else
                      bif !(decide ((1 : Int32) = 0)) then
                        bif pm_in ((v 199 l2.toNatClampNeg) - (97 : Int32)) 8 then
                        d_Mo_look_4 w f l1 (q135 + (1 : Int32)) (pd_w v 201 (((v 199 l2.toNatClampNeg) - (97 : Int32)).toNatClampNeg) (1 : Int32))
                        else none
                      else
                        (d_Mo_isVarying w (l2 + (2 : Int32)) q135 v).bind fun q144 =>
                        bif decide (q144 = 0) then
                          bif pm_in ((v 199 l2.toNatClampNeg) - (97 : Int32)) 8 then
                          d_Mo_look_4 w f l1 (q135 + (1 : Int32)) (pd_w v 201 (((v 199 l2.toNatClampNeg) - (97 : Int32)).toNatClampNeg) (0 : Int32))
                          else none
                        else
                          bif pm_in ((v 199 l2.toNatClampNeg) - (97 : Int32)) 8 then
                          d_Mo_look_4 w f l1 (q135 + (1 : Int32)) (pd_w v 201 (((v 199 l2.toNatClampNeg) - (97 : Int32)).toNatClampNeg) (1 : Int32))
                          else none
                    else none
                else
                  bif pm_in (l2 + (1 : Int32)) 160 then
                  bif pm_in ((v 199 ((l2 + (1 : Int32)).toNatClampNeg)) - (97 : Int32)) 8 then
                  bif decide ((1 : Int32) = 0) then
                    d_Mo_look_4 w f l1 (q135 + (1 : Int32)) (pd_w v 201 (((v 199 ((l2 + (1 : Int32)).toNatClampNeg)) - (97 : Int32)).toNatClampNeg) (1 : Int32))
                  else
                    bif decide (0 ≤ (v 198 10)) then
                      d_Mo_look_4 w f l1 (q135 + (1 : Int32)) (pd_w v 201 (((v 199 ((l2 + (1 : Int32)).toNatClampNeg)) - (97 : Int32)).toNatClampNeg) (1 : Int32))
                    else
                      d_Mo_look_4 w f l1 (q135 + (1 : Int32)) (pd_w (pd_w v 201 (((v 199 ((l2 + (1 : Int32)).toNatClampNeg)) - (97 : Int32)).toNatClampNeg) (1 : Int32)) 198 10 l2)
                  else none
                  else none
              else
                (d_Mo_upTo w 199 160 l2 (123 : Int32) (123 : Int32) v).bind fun q152 =>
                bif !(decide ((v 199 l2.toNatClampNeg) = (63 : Int32))) then
                  bif !(decide ((1 : Int32) = 0)) then
                    bif pm_in l1 40 then
                    d_Mo_look_4 w f (l1 + (1 : Int32)) (q152 + (1 : Int32)) (pd_w v 212 l1.toNatClampNeg ((0 : Int32) + (2 : Int32)))
                    else none
                  else
                    (d_Mo_isVarying w (l2 + (1 : Int32)) q152 v).bind fun q156 =>
                    bif decide (q156 = 0) then
                      bif pm_in l1 40 then
                      d_Mo_look_4 w f (l1 + (1 : Int32)) (q152 + (1 : Int32)) (pd_w v 212 l1.toNatClampNeg ((0 : Int32) + (0 : Int32)))
                      else none
                    else
                      bif pm_in l1 40 then
                      d_Mo_look_4 w f (l1 + (1 : Int32)) (q152 + (1 : Int32)) (pd_w v 212 l1.toNatClampNeg ((0 : Int32) + (2 : Int32)))
                      else none
                else
                  bif !(decide ((1 : Int32) = 0)) then
                    bif pm_in l1 40 then
                    d_Mo_look_4 w f (l1 + (1 : Int32)) (q152 + (1 : Int32)) (pd_w v 212 l1.toNatClampNeg ((1 : Int32) + (2 : Int32)))
                    else none
                  else
                    (d_Mo_isVarying w (l2 + (1 : Int32)) q152 v).bind fun q162 =>
                    bif decide (q162 = 0) then
                      bif pm_in l1 40 then
                      d_Mo_look_4 w f (l1 + (1 : Int32)) (q152 + (1 : Int32)) (pd_w v 212 l1.toNatClampNeg ((1 : Int32) + (0 : Int32)))
                      else none
                    else
                      bif pm_in l1 40 then
                      d_Mo_look_4 w f (l1 + (1 : Int32)) (q152 + (1 : Int32)) (pd_w v 212 l1.toNatClampNeg ((1 : Int32) + (2 : Int32)))
                      else none
          else
            bif decide ((v 198 2) ≤ (l2 + (1 : Int32))) then
              d_Mo_look_4 w f (l1 + (-1 : Int32)) (l2 + (1 : Int32)) v
            else
              bif pm_in (l2 + (1 : Int32)) 160 then
              bif !(decide ((v 199 ((l2 + (1 : Int32)).toNatClampNeg)) = (123 : Int32))) then
                d_Mo_look_4 w f (l1 + (-1 : Int32)) (l2 + (1 : Int32)) v
              else
                bif pm_in (l1 + (-1 : Int32)) 40 then
                bif !(decide ((2 : Int32) = 0)) then
                bif !(decide (((v 212 ((l1 + (-1 : Int32)).toNatClampNeg)) - (v 212 ((l1 + (-1 : Int32)).toNatClampNeg)) / (2 : Int32) * (2 : Int32)) = (1 : Int32))) then
                  d_Mo_look_4 w f (l1 + (-1 : Int32)) (l2 + (1 : Int32)) v
                else
                  bif pm_in (l1 + (-1 : Int32)) 40 then
                  bif pm_in (l1 + (-1 : Int32)) 40 then
                  d_Mo_look_4 w f ((l1 + (-1 : Int32)) + (1 : Int32)) ((l2 + (1 : Int32)) + (1 : Int32)) (pd_w v 212 ((l1 + (-1 : Int32)).toNatClampNeg) ((v 212 ((l1 + (-1 : Int32)).toNatClampNeg)) - (1 : Int32)))
                  else none
                  else none
                else none
                else none
              else none
        else none
      else none
set_option maxRecDepth 100000 in
set_option maxHeartbeats 4000000 in
theorem s_Mo_look_4 {w : Nat} : ∀ (f : Nat) (l1 : Int32) (l2 : Int32) (v : pd_V) (y3 : Option Value) (y4 : Option Value) (y5 : Option Value) (q : pd_V) , d_Mo_look_4 w f l1 l2 v = some q → pm_ev (pj_P xs L) (d + 2) 114 (4, [some (.ref 198), some (.int l1), some (.int l2), y3, y4, y5], [], (223, kc, ks, pd_H g v)) (.inl none, (223, kc, ks, pd_H g q)) := by
  intro f
  induction f with
  | zero => intro l1 l2 v y3 y4 y5 q h; exact nomatch (show (none : Option pd_V) = some q from h)
  | succ f ih =>
    intro l1 l2 v y3 y4 y5 q h
    rw [d_Mo_look_4] at h
    refine ev_gos pp_Mo_look 3 (S' := (9, [some (.ref 198), some (.int l1), some (.int l2), y3, y4, y5], [.int (v 198 2), .int l2], (223, kc, ks, pd_H g v))) rfl ?_
    refine ev_gos pp_Mo_look 1 (S' := (bif decide ((v 198 2) ≤ l2) then 300 else 12, [some (.ref 198), some (.int l1), some (.int l2), y3, y4, y5], [], (223, kc, ks, pd_H g v))) rfl ?_
    rcases pd_cases h with ⟨hb1, h⟩ | ⟨hb1, h⟩
    · rw [hb1]
      refine ev_gos pp_Mo_look 0 (S' := (300, [some (.ref 198), some (.int l1), some (.int l2), y3, y4, y5], [], (223, kc, ks, pd_H g v))) rfl ?_
      cases h
      exact ev_fin pp_Mo_look rfl
    · rw [hb1]
      refine ev_gos pp_Mo_look 3 (S' := (17, [some (.ref 198), some (.int l1), some (.int l2), y3, y4, y5], [.int l2, .ref 199], (223, kc, ks, pd_H g v))) rfl ?_
      obtain ⟨hc2, h⟩ := pd_chk h
      refine ev_iald pp_Mo_look rfl (fun _ => rfl) hc2 ?_
      refine ev_gos pp_Mo_look 2 (S' := (20, [some (.ref 198), some (.int l1), some (.int l2), some (.int (v 199 l2.toNatClampNeg)), y4, y5], [.int l1], (223, kc, ks, pd_H g v))) rfl ?_
      refine ev_gos pp_Mo_look 1 (S' := (bif decide (l1 ≤ 0) then 39 else 23, [some (.ref 198), some (.int l1), some (.int l2), some (.int (v 199 l2.toNatClampNeg)), y4, y5], [], (223, kc, ks, pd_H g v))) rfl ?_
      rcases pd_cases h with ⟨hb3, h⟩ | ⟨hb3, h⟩
      · rw [hb3]
        refine ev_gos pp_Mo_look 4 (S' := (45, [some (.ref 198), some (.int l1), some (.int l2), some (.int (v 199 l2.toNatClampNeg)), some (.int (0 : Int32)), y5], [.int (125 : Int32), .int (v 199 l2.toNatClampNeg)], (223, kc, ks, pd_H g v))) rfl ?_
        refine ev_gos pp_Mo_look 1 (S' := (bif !(decide ((v 199 l2.toNatClampNeg) = (125 : Int32))) then 104 else 48, [some (.ref 198), some (.int l1), some (.int l2), some (.int (v 199 l2.toNatClampNeg)), some (.int (0 : Int32)), y5], [], (223, kc, ks, pd_H g v))) rfl ?_
        rcases pd_cases h with ⟨hb4, h⟩ | ⟨hb4, h⟩
        · rw [hb4]
          refine ev_gos pp_Mo_look 2 (S' := (107, [some (.ref 198), some (.int l1), some (.int l2), some (.int (v 199 l2.toNatClampNeg)), some (.int (0 : Int32)), y5], [.int (63 : Int32), .int (v 199 l2.toNatClampNeg)], (223, kc, ks, pd_H g v))) rfl ?_
          refine ev_gos pp_Mo_look 1 (S' := (bif decide ((v 199 l2.toNatClampNeg) = (63 : Int32)) then 116 else 110, [some (.ref 198), some (.int l1), some (.int l2), some (.int (v 199 l2.toNatClampNeg)), some (.int (0 : Int32)), y5], [], (223, kc, ks, pd_H g v))) rfl ?_
          rcases pd_cases h with ⟨hb5, h⟩ | ⟨hb5, h⟩
          · rw [hb5]
            refine ev_gos pp_Mo_look 5 (S' := (125, [some (.ref 198), some (.int l1), some (.int l2), some (.int (v 199 l2.toNatClampNeg)), some (.int (0 : Int32)), y5], [.int (123 : Int32), .int (123 : Int32), .int l2, .ref 199], (223, kc, ks, pd_H g v))) rfl ?_
            obtain ⟨q6, hq6, h⟩ := pd_bind h
            refine ev_call pp_Mo_look rfl rfl rfl (s_Mo_upTo (fun _ => rfl) hq6) ?_
            refine ev_gos pp_Mo_look 6 (S' := (138, [some (.ref 198), some (.int l1), some (.int l2), some (.int (v 199 l2.toNatClampNeg)), some (.int (0 : Int32)), some (.int q6)], [.int (63 : Int32), .int (v 199 l2.toNatClampNeg), .int l1, .ref 212], (223, kc, ks, pd_H g v))) rfl ?_
            refine ev_gos pp_Mo_look 1 (S' := (bif !(decide ((v 199 l2.toNatClampNeg) = (63 : Int32))) then 145 else 141, [some (.ref 198), some (.int l1), some (.int l2), some (.int (v 199 l2.toNatClampNeg)), some (.int (0 : Int32)), some (.int q6)], [.int l1, .ref 212], (223, kc, ks, pd_H g v))) rfl ?_
            rcases pd_cases h with ⟨hb7, h⟩ | ⟨hb7, h⟩
            · rw [hb7]
              refine ev_gos pp_Mo_look 2 (S' := (148, [some (.ref 198), some (.int l1), some (.int l2), some (.int (v 199 l2.toNatClampNeg)), some (.int (0 : Int32)), some (.int q6)], [.int (0 : Int32), .int (0 : Int32), .int l1, .ref 212], (223, kc, ks, pd_H g v))) rfl ?_
              refine ev_gos pp_Mo_look 1 (S' := (bif !(decide ((0 : Int32) = 0)) then 163 else 151, [some (.ref 198), some (.int l1), some (.int l2), some (.int (v 199 l2.toNatClampNeg)), some (.int (0 : Int32)), some (.int q6)], [.int (0 : Int32), .int l1, .ref 212], (223, kc, ks, pd_H g v))) rfl ?_
              rcases pd_cases h with ⟨hb8, h⟩ | ⟨hb8, h⟩
              · rw [hb8]
                refine ev_gos pp_Mo_look 3 (S' := (169, [some (.ref 198), some (.int l1), some (.int l2), some (.int (v 199 l2.toNatClampNeg)), some (.int (0 : Int32)), some (.int q6)], [.int ((0 : Int32) + (2 : Int32)), .int l1, .ref 212], (223, kc, ks, pd_H g v))) rfl ?_
                obtain ⟨hc9, h⟩ := pd_chk h
                refine ev_iast pp_Mo_look rfl (fun _ => rfl) hc9 ?_
                refine ev_gos pp_Mo_look 7 (S' := (4, [some (.ref 198), some (.int (l1 + (1 : Int32))), some (.int (q6 + (1 : Int32))), some (.int (v 199 l2.toNatClampNeg)), some (.int (0 : Int32)), some (.int q6)], [], (223, kc, ks, pd_H g (pd_w v 212 l1.toNatClampNeg ((0 : Int32) + (2 : Int32)))))) rfl ?_
                exact ih _ _ _ _ _ _ _  h
              · rw [hb8]
                refine ev_gos pp_Mo_look 5 (S' := (157, [some (.ref 198), some (.int l1), some (.int l2), some (.int (v 199 l2.toNatClampNeg)), some (.int (0 : Int32)), some (.int q6)], [.int q6, .int (l2 + (1 : Int32)), .ref 198, .int (0 : Int32), .int l1, .ref 212], (223, kc, ks, pd_H g v))) rfl ?_
                obtain ⟨q10, hq10, h⟩ := pd_bind h
                refine ev_callv pp_Mo_look rfl rfl rfl rfl (s_Mo_isVarying hq10) ?_
                refine ev_gos pp_Mo_look 0 (S' := (160, [some (.ref 198), some (.int l1), some (.int l2), some (.int (v 199 l2.toNatClampNeg)), some (.int (0 : Int32)), some (.int q6)], [.int q10, .int (0 : Int32), .int l1, .ref 212], (223, kc, ks, pd_H g v))) rfl ?_
                refine ev_gos pp_Mo_look 1 (S' := (bif decide (q10 = 0) then 167 else 163, [some (.ref 198), some (.int l1), some (.int l2), some (.int (v 199 l2.toNatClampNeg)), some (.int (0 : Int32)), some (.int q6)], [.int (0 : Int32), .int l1, .ref 212], (223, kc, ks, pd_H g v))) rfl ?_
                rcases pd_cases h with ⟨hb11, h⟩ | ⟨hb11, h⟩
                · rw [hb11]
                  refine ev_gos pp_Mo_look 2 (S' := (169, [some (.ref 198), some (.int l1), some (.int l2), some (.int (v 199 l2.toNatClampNeg)), some (.int (0 : Int32)), some (.int q6)], [.int ((0 : Int32) + (0 : Int32)), .int l1, .ref 212], (223, kc, ks, pd_H g v))) rfl ?_
                  obtain ⟨hc12, h⟩ := pd_chk h
                  refine ev_iast pp_Mo_look rfl (fun _ => rfl) hc12 ?_
                  refine ev_gos pp_Mo_look 7 (S' := (4, [some (.ref 198), some (.int (l1 + (1 : Int32))), some (.int (q6 + (1 : Int32))), some (.int (v 199 l2.toNatClampNeg)), some (.int (0 : Int32)), some (.int q6)], [], (223, kc, ks, pd_H g (pd_w v 212 l1.toNatClampNeg ((0 : Int32) + (0 : Int32)))))) rfl ?_
                  exact ih _ _ _ _ _ _ _  h
                · rw [hb11]
                  refine ev_gos pp_Mo_look 3 (S' := (169, [some (.ref 198), some (.int l1), some (.int l2), some (.int (v 199 l2.toNatClampNeg)), some (.int (0 : Int32)), some (.int q6)], [.int ((0 : Int32) + (2 : Int32)), .int l1, .ref 212], (223, kc, ks, pd_H g v))) rfl ?_
                  obtain ⟨hc13, h⟩ := pd_chk h
                  refine ev_iast pp_Mo_look rfl (fun _ => rfl) hc13 ?_
                  refine ev_gos pp_Mo_look 7 (S' := (4, [some (.ref 198), some (.int (l1 + (1 : Int32))), some (.int (q6 + (1 : Int32))), some (.int (v 199 l2.toNatClampNeg)), some (.int (0 : Int32)), some (.int q6)], [], (223, kc, ks, pd_H g (pd_w v 212 l1.toNatClampNeg ((0 : Int32) + (2 : Int32)))))) rfl ?_
                  exact ih _ _ _ _ _ _ _  h
            · rw [hb7]
              refine ev_gos pp_Mo_look 3 (S' := (148, [some (.ref 198), some (.int l1), some (.int l2), some (.int (v 199 l2.toNatClampNeg)), some (.int (0 : Int32)), some (.int q6)], [.int (0 : Int32), .int (1 : Int32), .int l1, .ref 212], (223, kc, ks, pd_H g v))) rfl ?_
              refine ev_gos pp_Mo_look 1 (S' := (bif !(decide ((0 : Int32) = 0)) then 163 else 151, [some (.ref 198), some (.int l1), some (.int l2), some (.int (v 199 l2.toNatClampNeg)), some (.int (0 : Int32)), some (.int q6)], [.int (1 : Int32), .int l1, .ref 212], (223, kc, ks, pd_H g v))) rfl ?_
              rcases pd_cases h with ⟨hb14, h⟩ | ⟨hb14, h⟩
              · rw [hb14]
                refine ev_gos pp_Mo_look 3 (S' := (169, [some (.ref 198), some (.int l1), some (.int l2), some (.int (v 199 l2.toNatClampNeg)), some (.int (0 : Int32)), some (.int q6)], [.int ((1 : Int32) + (2 : Int32)), .int l1, .ref 212], (223, kc, ks, pd_H g v))) rfl ?_
                obtain ⟨hc15, h⟩ := pd_chk h
                refine ev_iast pp_Mo_look rfl (fun _ => rfl) hc15 ?_
                refine ev_gos pp_Mo_look 7 (S' := (4, [some (.ref 198), some (.int (l1 + (1 : Int32))), some (.int (q6 + (1 : Int32))), some (.int (v 199 l2.toNatClampNeg)), some (.int (0 : Int32)), some (.int q6)], [], (223, kc, ks, pd_H g (pd_w v 212 l1.toNatClampNeg ((1 : Int32) + (2 : Int32)))))) rfl ?_
                exact ih _ _ _ _ _ _ _  h
              · rw [hb14]
                refine ev_gos pp_Mo_look 5 (S' := (157, [some (.ref 198), some (.int l1), some (.int l2), some (.int (v 199 l2.toNatClampNeg)), some (.int (0 : Int32)), some (.int q6)], [.int q6, .int (l2 + (1 : Int32)), .ref 198, .int (1 : Int32), .int l1, .ref 212], (223, kc, ks, pd_H g v))) rfl ?_
                obtain ⟨q16, hq16, h⟩ := pd_bind h
                refine ev_callv pp_Mo_look rfl rfl rfl rfl (s_Mo_isVarying hq16) ?_
                refine ev_gos pp_Mo_look 0 (S' := (160, [some (.ref 198), some (.int l1), some (.int l2), some (.int (v 199 l2.toNatClampNeg)), some (.int (0 : Int32)), some (.int q6)], [.int q16, .int (1 : Int32), .int l1, .ref 212], (223, kc, ks, pd_H g v))) rfl ?_
                refine ev_gos pp_Mo_look 1 (S' := (bif decide (q16 = 0) then 167 else 163, [some (.ref 198), some (.int l1), some (.int l2), some (.int (v 199 l2.toNatClampNeg)), some (.int (0 : Int32)), some (.int q6)], [.int (1 : Int32), .int l1, .ref 212], (223, kc, ks, pd_H g v))) rfl ?_
                rcases pd_cases h with ⟨hb17, h⟩ | ⟨hb17, h⟩
                · rw [hb17]
                  refine ev_gos pp_Mo_look 2 (S' := (169, [some (.ref 198), some (.int l1), some (.int l2), some (.int (v 199 l2.toNatClampNeg)), some (.int (0 : Int32)), some (.int q6)], [.int ((1 : Int32) + (0 : Int32)), .int l1, .ref 212], (223, kc, ks, pd_H g v))) rfl ?_
                  obtain ⟨hc18, h⟩ := pd_chk h
                  refine ev_iast pp_Mo_look rfl (fun _ => rfl) hc18 ?_
                  refine ev_gos pp_Mo_look 7 (S' := (4, [some (.ref 198), some (.int (l1 + (1 : Int32))), some (.int (q6 + (1 : Int32))), some (.int (v 199 l2.toNatClampNeg)), some (.int (0 : Int32)), some (.int q6)], [], (223, kc, ks, pd_H g (pd_w v 212 l1.toNatClampNeg ((1 : Int32) + (0 : Int32)))))) rfl ?_
                  exact ih _ _ _ _ _ _ _  h
                · rw [hb17]
                  refine ev_gos pp_Mo_look 3 (S' := (169, [some (.ref 198), some (.int l1), some (.int l2), some (.int (v 199 l2.toNatClampNeg)), some (.int (0 : Int32)), some (.int q6)], [.int ((1 : Int32) + (2 : Int32)), .int l1, .ref 212], (223, kc, ks, pd_H g v))) rfl ?_
                  obtain ⟨hc19, h⟩ := pd_chk h
                  refine ev_iast pp_Mo_look rfl (fun _ => rfl) hc19 ?_
                  refine ev_gos pp_Mo_look 7 (S' := (4, [some (.ref 198), some (.int (l1 + (1 : Int32))), some (.int (q6 + (1 : Int32))), some (.int (v 199 l2.toNatClampNeg)), some (.int (0 : Int32)), some (.int q6)], [], (223, kc, ks, pd_H g (pd_w v 212 l1.toNatClampNeg ((1 : Int32) + (2 : Int32)))))) rfl ?_
                  exact ih _ _ _ _ _ _ _  h
          · rw [hb5]
            refine ev_gos pp_Mo_look 2 (S' := (113, [some (.ref 198), some (.int l1), some (.int l2), some (.int (v 199 l2.toNatClampNeg)), some (.int (0 : Int32)), y5], [.int (42 : Int32), .int (v 199 l2.toNatClampNeg)], (223, kc, ks, pd_H g v))) rfl ?_
            refine ev_gos pp_Mo_look 1 (S' := (bif !(decide ((v 199 l2.toNatClampNeg) = (42 : Int32))) then 181 else 116, [some (.ref 198), some (.int l1), some (.int l2), some (.int (v 199 l2.toNatClampNeg)), some (.int (0 : Int32)), y5], [], (223, kc, ks, pd_H g v))) rfl ?_
            rcases pd_cases h with ⟨hb20, h⟩ | ⟨hb20, h⟩
            · rw [hb20]
              refine ev_gos pp_Mo_look 5 (S' := (190, [some (.ref 198), some (.int l1), some (.int l2), some (.int (v 199 l2.toNatClampNeg)), some (.int (0 : Int32)), y5], [.int (59 : Int32), .int (59 : Int32), .int l2, .ref 199], (223, kc, ks, pd_H g v))) rfl ?_
              obtain ⟨q21, hq21, h⟩ := pd_bind h
              refine ev_call pp_Mo_look rfl rfl rfl (s_Mo_upTo (fun _ => rfl) hq21) ?_
              refine ev_gos pp_Mo_look 3 (S' := (198, [some (.ref 198), some (.int l1), some (.int l2), some (.int (v 199 l2.toNatClampNeg)), some (.int (0 : Int32)), some (.int q21)], [.int (88 : Int32), .int (v 199 l2.toNatClampNeg)], (223, kc, ks, pd_H g v))) rfl ?_
              refine ev_gos pp_Mo_look 1 (S' := (bif !(decide ((v 199 l2.toNatClampNeg) = (88 : Int32))) then 238 else 201, [some (.ref 198), some (.int l1), some (.int l2), some (.int (v 199 l2.toNatClampNeg)), some (.int (0 : Int32)), some (.int q21)], [], (223, kc, ks, pd_H g v))) rfl ?_
              rcases pd_cases h with ⟨hb22, h⟩ | ⟨hb22, h⟩
              · rw [hb22]
                refine ev_gos pp_Mo_look 3 (S' := (243, [some (.ref 198), some (.int l1), some (.int l2), some (.int (v 199 l2.toNatClampNeg)), some (.int (0 : Int32)), some (.int q21)], [.int (104 : Int32), .int (97 : Int32), .int (v 199 l2.toNatClampNeg)], (223, kc, ks, pd_H g v))) rfl ?_
                refine ev_call pp_Mo_look rfl rfl rfl (s_Mo_beyond) ?_
                refine ev_gos pp_Mo_look 0 (S' := (246, [some (.ref 198), some (.int l1), some (.int l2), some (.int (v 199 l2.toNatClampNeg)), some (.int (0 : Int32)), some (.int q21)], [.int (d_Mo_beyond (v 199 l2.toNatClampNeg) (97 : Int32) (104 : Int32))], (223, kc, ks, pd_H g v))) rfl ?_
                refine ev_gos pp_Mo_look 1 (S' := (bif !(decide ((d_Mo_beyond (v 199 l2.toNatClampNeg) (97 : Int32) (104 : Int32)) = 0)) then 292 else 249, [some (.ref 198), some (.int l1), some (.int l2), some (.int (v 199 l2.toNatClampNeg)), some (.int (0 : Int32)), some (.int q21)], [], (223, kc, ks, pd_H g v))) rfl ?_
                rcases pd_cases h with ⟨hb24, h⟩ | ⟨hb24, h⟩
                · rw [hb24]
                  refine ev_gos pp_Mo_look 5 (S' := (4, [some (.ref 198), some (.int l1), some (.int (q21 + (1 : Int32))), some (.int (v 199 l2.toNatClampNeg)), some (.int (0 : Int32)), some (.int q21)], [], (223, kc, ks, pd_H g v))) rfl ?_
                  exact ih _ _ _ _ _ _ _  h
                · rw [hb24]
                  refine ev_gos pp_Mo_look 10 (S' := (265, [some (.ref 198), some (.int l1), some (.int l2), some (.int (v 199 l2.toNatClampNeg)), some (.int (0 : Int32)), some (.int q21)], [.int ((v 199 l2.toNatClampNeg) - (97 : Int32)), .ref 201, .int ((v 199 l2.toNatClampNeg) - (97 : Int32)), .ref 201], (223, kc, ks, pd_H g v))) rfl ?_
                  obtain ⟨hc25, h⟩ := pd_chk h
                  refine ev_zald pp_Mo_look rfl (fun _ => rfl) hc25 ?_
                  refine ev_gos pp_Mo_look 0 (S' := (266, [some (.ref 198), some (.int l1), some (.int l2), some (.int (v 199 l2.toNatClampNeg)), some (.int (0 : Int32)), some (.int q21)], [.int (v 201 (((v 199 l2.toNatClampNeg) - (97 : Int32)).toNatClampNeg)), .int ((v 199 l2.toNatClampNeg) - (97 : Int32)), .ref 201], (223, kc, ks, pd_H g v))) rfl ?_
                  refine ev_gos pp_Mo_look 1 (S' := (bif !(decide ((v 201 (((v 199 l2.toNatClampNeg) - (97 : Int32)).toNatClampNeg)) = 0)) then 286 else 269, [some (.ref 198), some (.int l1), some (.int l2), some (.int (v 199 l2.toNatClampNeg)), some (.int (0 : Int32)), some (.int q21)], [.int ((v 199 l2.toNatClampNeg) - (97 : Int32)), .ref 201], (223, kc, ks, pd_H g v))) rfl ?_
                  rcases pd_cases h with ⟨hb26, h⟩ | ⟨hb26, h⟩
                  · rw [hb26]
                    refine ev_gos pp_Mo_look 2 (S' := (291, [some (.ref 198), some (.int l1), some (.int l2), some (.int (v 199 l2.toNatClampNeg)), some (.int (0 : Int32)), some (.int q21)], [.int (1 : Int32), .int ((v 199 l2.toNatClampNeg) - (97 : Int32)), .ref 201], (223, kc, ks, pd_H g v))) rfl ?_
                    obtain ⟨hc27, h⟩ := pd_chk h
                    refine ev_zast pp_Mo_look rfl (fun _ => rfl) hc27 pd_b1 ?_
                    refine ev_gos pp_Mo_look 5 (S' := (4, [some (.ref 198), some (.int l1), some (.int (q21 + (1 : Int32))), some (.int (v 199 l2.toNatClampNeg)), some (.int (0 : Int32)), some (.int q21)], [], (223, kc, ks, pd_H g (pd_w v 201 (((v 199 l2.toNatClampNeg) - (97 : Int32)).toNatClampNeg) (1 : Int32))))) rfl ?_
                    exact ih _ _ _ _ _ _ _  h
                  · rw [hb26]
                    refine ev_gos pp_Mo_look 1 (S' := (271, [some (.ref 198), some (.int l1), some (.int l2), some (.int (v 199 l2.toNatClampNeg)), some (.int (0 : Int32)), some (.int q21)], [.int (0 : Int32), .int ((v 199 l2.toNatClampNeg) - (97 : Int32)), .ref 201], (223, kc, ks, pd_H g v))) rfl ?_
                    refine ev_gos pp_Mo_look 1 (S' := (bif !(decide ((0 : Int32) = 0)) then 286 else 274, [some (.ref 198), some (.int l1), some (.int l2), some (.int (v 199 l2.toNatClampNeg)), some (.int (0 : Int32)), some (.int q21)], [.int ((v 199 l2.toNatClampNeg) - (97 : Int32)), .ref 201], (223, kc, ks, pd_H g v))) rfl ?_
                    rcases pd_cases h with ⟨hb28, h⟩ | ⟨hb28, h⟩
                    · rw [hb28]
                      refine ev_gos pp_Mo_look 2 (S' := (291, [some (.ref 198), some (.int l1), some (.int l2), some (.int (v 199 l2.toNatClampNeg)), some (.int (0 : Int32)), some (.int q21)], [.int (1 : Int32), .int ((v 199 l2.toNatClampNeg) - (97 : Int32)), .ref 201], (223, kc, ks, pd_H g v))) rfl ?_
                      obtain ⟨hc29, h⟩ := pd_chk h
                      refine ev_zast pp_Mo_look rfl (fun _ => rfl) hc29 pd_b1 ?_
                      refine ev_gos pp_Mo_look 5 (S' := (4, [some (.ref 198), some (.int l1), some (.int (q21 + (1 : Int32))), some (.int (v 199 l2.toNatClampNeg)), some (.int (0 : Int32)), some (.int q21)], [], (223, kc, ks, pd_H g (pd_w v 201 (((v 199 l2.toNatClampNeg) - (97 : Int32)).toNatClampNeg) (1 : Int32))))) rfl ?_
                      exact ih _ _ _ _ _ _ _  h
                    · rw [hb28]
                      refine ev_gos pp_Mo_look 5 (S' := (280, [some (.ref 198), some (.int l1), some (.int l2), some (.int (v 199 l2.toNatClampNeg)), some (.int (0 : Int32)), some (.int q21)], [.int q21, .int (l2 + (2 : Int32)), .ref 198, .int ((v 199 l2.toNatClampNeg) - (97 : Int32)), .ref 201], (223, kc, ks, pd_H g v))) rfl ?_
                      obtain ⟨q30, hq30, h⟩ := pd_bind h
                      refine ev_callv pp_Mo_look rfl rfl rfl rfl (s_Mo_isVarying hq30) ?_
                      refine ev_gos pp_Mo_look 0 (S' := (283, [some (.ref 198), some (.int l1), some (.int l2), some (.int (v 199 l2.toNatClampNeg)), some (.int (0 : Int32)), some (.int q21)], [.int q30, .int ((v 199 l2.toNatClampNeg) - (97 : Int32)), .ref 201], (223, kc, ks, pd_H g v))) rfl ?_
                      refine ev_gos pp_Mo_look 1 (S' := (bif decide (q30 = 0) then 290 else 286, [some (.ref 198), some (.int l1), some (.int l2), some (.int (v 199 l2.toNatClampNeg)), some (.int (0 : Int32)), some (.int q21)], [.int ((v 199 l2.toNatClampNeg) - (97 : Int32)), .ref 201], (223, kc, ks, pd_H g v))) rfl ?_
                      rcases pd_cases h with ⟨hb31, h⟩ | ⟨hb31, h⟩
                      · rw [hb31]
                        refine ev_gos pp_Mo_look 1 (S' := (291, [some (.ref 198), some (.int l1), some (.int l2), some (.int (v 199 l2.toNatClampNeg)), some (.int (0 : Int32)), some (.int q21)], [.int (0 : Int32), .int ((v 199 l2.toNatClampNeg) - (97 : Int32)), .ref 201], (223, kc, ks, pd_H g v))) rfl ?_
                        obtain ⟨hc32, h⟩ := pd_chk h
                        refine ev_zast pp_Mo_look rfl (fun _ => rfl) hc32 pd_b0 ?_
                        refine ev_gos pp_Mo_look 5 (S' := (4, [some (.ref 198), some (.int l1), some (.int (q21 + (1 : Int32))), some (.int (v 199 l2.toNatClampNeg)), some (.int (0 : Int32)), some (.int q21)], [], (223, kc, ks, pd_H g (pd_w v 201 (((v 199 l2.toNatClampNeg) - (97 : Int32)).toNatClampNeg) (0 : Int32))))) rfl ?_
                        exact ih _ _ _ _ _ _ _  h
                      · rw [hb31]
                        refine ev_gos pp_Mo_look 2 (S' := (291, [some (.ref 198), some (.int l1), some (.int l2), some (.int (v 199 l2.toNatClampNeg)), some (.int (0 : Int32)), some (.int q21)], [.int (1 : Int32), .int ((v 199 l2.toNatClampNeg) - (97 : Int32)), .ref 201], (223, kc, ks, pd_H g v))) rfl ?_
                        obtain ⟨hc33, h⟩ := pd_chk h
                        refine ev_zast pp_Mo_look rfl (fun _ => rfl) hc33 pd_b1 ?_
                        refine ev_gos pp_Mo_look 5 (S' := (4, [some (.ref 198), some (.int l1), some (.int (q21 + (1 : Int32))), some (.int (v 199 l2.toNatClampNeg)), some (.int (0 : Int32)), some (.int q21)], [], (223, kc, ks, pd_H g (pd_w v 201 (((v 199 l2.toNatClampNeg) - (97 : Int32)).toNatClampNeg) (1 : Int32))))) rfl ?_
                        exact ih _ _ _ _ _ _ _  h
              · rw [hb22]
                refine ev_gos pp_Mo_look 7 (S' := (212, [some (.ref 198), some (.int l1), some (.int l2), some (.int (v 199 l2.toNatClampNeg)), some (.int (0 : Int32)), some (.int q21)], [.int (l2 + (1 : Int32)), .ref 199, .ref 201], (223, kc, ks, pd_H g v))) rfl ?_
                obtain ⟨hc34, h⟩ := pd_chk h
                refine ev_iald pp_Mo_look rfl (fun _ => rfl) hc34 ?_
                refine ev_gos pp_Mo_look 3 (S' := (217, [some (.ref 198), some (.int l1), some (.int l2), some (.int (v 199 l2.toNatClampNeg)), some (.int (0 : Int32)), some (.int q21)], [.int (1 : Int32), .int ((v 199 ((l2 + (1 : Int32)).toNatClampNeg)) - (97 : Int32)), .ref 201], (223, kc, ks, pd_H g v))) rfl ?_
                obtain ⟨hc35, h⟩ := pd_chk h
                refine ev_zast pp_Mo_look rfl (fun _ => rfl) hc35 pd_b1 ?_
                refine ev_gos pp_Mo_look 1 (S' := (220, [some (.ref 198), some (.int l1), some (.int l2), some (.int (v 199 l2.toNatClampNeg)), some (.int (0 : Int32)), some (.int q21)], [.int (0 : Int32)], (223, kc, ks, pd_H g (pd_w v 201 (((v 199 ((l2 + (1 : Int32)).toNatClampNeg)) - (97 : Int32)).toNatClampNeg) (1 : Int32))))) rfl ?_
                refine ev_gos pp_Mo_look 1 (S' := (bif decide ((0 : Int32) = 0) then 292 else 223, [some (.ref 198), some (.int l1), some (.int l2), some (.int (v 199 l2.toNatClampNeg)), some (.int (0 : Int32)), some (.int q21)], [], (223, kc, ks, pd_H g (pd_w v 201 (((v 199 ((l2 + (1 : Int32)).toNatClampNeg)) - (97 : Int32)).toNatClampNeg) (1 : Int32))))) rfl ?_
                rcases pd_cases h with ⟨hb36, h⟩ | ⟨hb36, h⟩
                · rw [hb36]
                  refine ev_gos pp_Mo_look 5 (S' := (4, [some (.ref 198), some (.int l1), some (.int (q21 + (1 : Int32))), some (.int (v 199 l2.toNatClampNeg)), some (.int (0 : Int32)), some (.int q21)], [], (223, kc, ks, pd_H g (pd_w v 201 (((v 199 ((l2 + (1 : Int32)).toNatClampNeg)) - (97 : Int32)).toNatClampNeg) (1 : Int32))))) rfl ?_
                  exact ih _ _ _ _ _ _ _  h
                · rw [hb36]
                  refine ev_gos pp_Mo_look 2 (S' := (227, [some (.ref 198), some (.int l1), some (.int l2), some (.int (v 199 l2.toNatClampNeg)), some (.int (0 : Int32)), some (.int q21)], [.int (v 198 10)], (223, kc, ks, pd_H g (pd_w v 201 (((v 199 ((l2 + (1 : Int32)).toNatClampNeg)) - (97 : Int32)).toNatClampNeg) (1 : Int32))))) rfl ?_
                  refine ev_gos pp_Mo_look 1 (S' := (bif decide (0 ≤ (v 198 10)) then 292 else 230, [some (.ref 198), some (.int l1), some (.int l2), some (.int (v 199 l2.toNatClampNeg)), some (.int (0 : Int32)), some (.int q21)], [], (223, kc, ks, pd_H g (pd_w v 201 (((v 199 ((l2 + (1 : Int32)).toNatClampNeg)) - (97 : Int32)).toNatClampNeg) (1 : Int32))))) rfl ?_
                  rcases pd_cases h with ⟨hb37, h⟩ | ⟨hb37, h⟩
                  · rw [hb37]
                    refine ev_gos pp_Mo_look 5 (S' := (4, [some (.ref 198), some (.int l1), some (.int (q21 + (1 : Int32))), some (.int (v 199 l2.toNatClampNeg)), some (.int (0 : Int32)), some (.int q21)], [], (223, kc, ks, pd_H g (pd_w v 201 (((v 199 ((l2 + (1 : Int32)).toNatClampNeg)) - (97 : Int32)).toNatClampNeg) (1 : Int32))))) rfl ?_
                    exact ih _ _ _ _ _ _ _  h
                  · rw [hb37]
                    refine ev_gos pp_Mo_look 2 (S' := (232, [some (.ref 198), some (.int l1), some (.int l2), some (.int (v 199 l2.toNatClampNeg)), some (.int (0 : Int32)), some (.int q21)], [.int l2, .ref 198], (223, kc, ks, pd_H g (pd_w v 201 (((v 199 ((l2 + (1 : Int32)).toNatClampNeg)) - (97 : Int32)).toNatClampNeg) (1 : Int32))))) rfl ?_
                    refine ev_put pp_Mo_look rfl (fun _ => rfl) rfl rfl rfl ?_
                    refine ev_gos pp_Mo_look 6 (S' := (4, [some (.ref 198), some (.int l1), some (.int (q21 + (1 : Int32))), some (.int (v 199 l2.toNatClampNeg)), some (.int (0 : Int32)), some (.int q21)], [], (223, kc, ks, pd_H g (pd_w (pd_w v 201 (((v 199 ((l2 + (1 : Int32)).toNatClampNeg)) - (97 : Int32)).toNatClampNeg) (1 : Int32)) 198 10 l2)))) rfl ?_
                    exact ih _ _ _ _ _ _ _  h
            · rw [hb20]
              refine ev_gos pp_Mo_look 5 (S' := (125, [some (.ref 198), some (.int l1), some (.int l2), some (.int (v 199 l2.toNatClampNeg)), some (.int (0 : Int32)), y5], [.int (123 : Int32), .int (123 : Int32), .int l2, .ref 199], (223, kc, ks, pd_H g v))) rfl ?_
              obtain ⟨q38, hq38, h⟩ := pd_bind h
              refine ev_call pp_Mo_look rfl rfl rfl (s_Mo_upTo (fun _ => rfl) hq38) ?_
              refine ev_gos pp_Mo_look 6 (S' := (138, [some (.ref 198), some (.int l1), some (.int l2), some (.int (v 199 l2.toNatClampNeg)), some (.int (0 : Int32)), some (.int q38)], [.int (63 : Int32), .int (v 199 l2.toNatClampNeg), .int l1, .ref 212], (223, kc, ks, pd_H g v))) rfl ?_
              refine ev_gos pp_Mo_look 1 (S' := (bif !(decide ((v 199 l2.toNatClampNeg) = (63 : Int32))) then 145 else 141, [some (.ref 198), some (.int l1), some (.int l2), some (.int (v 199 l2.toNatClampNeg)), some (.int (0 : Int32)), some (.int q38)], [.int l1, .ref 212], (223, kc, ks, pd_H g v))) rfl ?_
              rcases pd_cases h with ⟨hb39, h⟩ | ⟨hb39, h⟩
              · rw [hb39]
                refine ev_gos pp_Mo_look 2 (S' := (148, [some (.ref 198), some (.int l1), some (.int l2), some (.int (v 199 l2.toNatClampNeg)), some (.int (0 : Int32)), some (.int q38)], [.int (0 : Int32), .int (0 : Int32), .int l1, .ref 212], (223, kc, ks, pd_H g v))) rfl ?_
                refine ev_gos pp_Mo_look 1 (S' := (bif !(decide ((0 : Int32) = 0)) then 163 else 151, [some (.ref 198), some (.int l1), some (.int l2), some (.int (v 199 l2.toNatClampNeg)), some (.int (0 : Int32)), some (.int q38)], [.int (0 : Int32), .int l1, .ref 212], (223, kc, ks, pd_H g v))) rfl ?_
                rcases pd_cases h with ⟨hb40, h⟩ | ⟨hb40, h⟩
                · rw [hb40]
                  refine ev_gos pp_Mo_look 3 (S' := (169, [some (.ref 198), some (.int l1), some (.int l2), some (.int (v 199 l2.toNatClampNeg)), some (.int (0 : Int32)), some (.int q38)], [.int ((0 : Int32) + (2 : Int32)), .int l1, .ref 212], (223, kc, ks, pd_H g v))) rfl ?_
                  obtain ⟨hc41, h⟩ := pd_chk h
                  refine ev_iast pp_Mo_look rfl (fun _ => rfl) hc41 ?_
                  refine ev_gos pp_Mo_look 7 (S' := (4, [some (.ref 198), some (.int (l1 + (1 : Int32))), some (.int (q38 + (1 : Int32))), some (.int (v 199 l2.toNatClampNeg)), some (.int (0 : Int32)), some (.int q38)], [], (223, kc, ks, pd_H g (pd_w v 212 l1.toNatClampNeg ((0 : Int32) + (2 : Int32)))))) rfl ?_
                  exact ih _ _ _ _ _ _ _  h
                · rw [hb40]
                  refine ev_gos pp_Mo_look 5 (S' := (157, [some (.ref 198), some (.int l1), some (.int l2), some (.int (v 199 l2.toNatClampNeg)), some (.int (0 : Int32)), some (.int q38)], [.int q38, .int (l2 + (1 : Int32)), .ref 198, .int (0 : Int32), .int l1, .ref 212], (223, kc, ks, pd_H g v))) rfl ?_
                  obtain ⟨q42, hq42, h⟩ := pd_bind h
                  refine ev_callv pp_Mo_look rfl rfl rfl rfl (s_Mo_isVarying hq42) ?_
                  refine ev_gos pp_Mo_look 0 (S' := (160, [some (.ref 198), some (.int l1), some (.int l2), some (.int (v 199 l2.toNatClampNeg)), some (.int (0 : Int32)), some (.int q38)], [.int q42, .int (0 : Int32), .int l1, .ref 212], (223, kc, ks, pd_H g v))) rfl ?_
                  refine ev_gos pp_Mo_look 1 (S' := (bif decide (q42 = 0) then 167 else 163, [some (.ref 198), some (.int l1), some (.int l2), some (.int (v 199 l2.toNatClampNeg)), some (.int (0 : Int32)), some (.int q38)], [.int (0 : Int32), .int l1, .ref 212], (223, kc, ks, pd_H g v))) rfl ?_
                  rcases pd_cases h with ⟨hb43, h⟩ | ⟨hb43, h⟩
                  · rw [hb43]
                    refine ev_gos pp_Mo_look 2 (S' := (169, [some (.ref 198), some (.int l1), some (.int l2), some (.int (v 199 l2.toNatClampNeg)), some (.int (0 : Int32)), some (.int q38)], [.int ((0 : Int32) + (0 : Int32)), .int l1, .ref 212], (223, kc, ks, pd_H g v))) rfl ?_
                    obtain ⟨hc44, h⟩ := pd_chk h
                    refine ev_iast pp_Mo_look rfl (fun _ => rfl) hc44 ?_
                    refine ev_gos pp_Mo_look 7 (S' := (4, [some (.ref 198), some (.int (l1 + (1 : Int32))), some (.int (q38 + (1 : Int32))), some (.int (v 199 l2.toNatClampNeg)), some (.int (0 : Int32)), some (.int q38)], [], (223, kc, ks, pd_H g (pd_w v 212 l1.toNatClampNeg ((0 : Int32) + (0 : Int32)))))) rfl ?_
                    exact ih _ _ _ _ _ _ _  h
                  · rw [hb43]
                    refine ev_gos pp_Mo_look 3 (S' := (169, [some (.ref 198), some (.int l1), some (.int l2), some (.int (v 199 l2.toNatClampNeg)), some (.int (0 : Int32)), some (.int q38)], [.int ((0 : Int32) + (2 : Int32)), .int l1, .ref 212], (223, kc, ks, pd_H g v))) rfl ?_
                    obtain ⟨hc45, h⟩ := pd_chk h
                    refine ev_iast pp_Mo_look rfl (fun _ => rfl) hc45 ?_
                    refine ev_gos pp_Mo_look 7 (S' := (4, [some (.ref 198), some (.int (l1 + (1 : Int32))), some (.int (q38 + (1 : Int32))), some (.int (v 199 l2.toNatClampNeg)), some (.int (0 : Int32)), some (.int q38)], [], (223, kc, ks, pd_H g (pd_w v 212 l1.toNatClampNeg ((0 : Int32) + (2 : Int32)))))) rfl ?_
                    exact ih _ _ _ _ _ _ _  h
              · rw [hb39]
                refine ev_gos pp_Mo_look 3 (S' := (148, [some (.ref 198), some (.int l1), some (.int l2), some (.int (v 199 l2.toNatClampNeg)), some (.int (0 : Int32)), some (.int q38)], [.int (0 : Int32), .int (1 : Int32), .int l1, .ref 212], (223, kc, ks, pd_H g v))) rfl ?_
                refine ev_gos pp_Mo_look 1 (S' := (bif !(decide ((0 : Int32) = 0)) then 163 else 151, [some (.ref 198), some (.int l1), some (.int l2), some (.int (v 199 l2.toNatClampNeg)), some (.int (0 : Int32)), some (.int q38)], [.int (1 : Int32), .int l1, .ref 212], (223, kc, ks, pd_H g v))) rfl ?_
                rcases pd_cases h with ⟨hb46, h⟩ | ⟨hb46, h⟩
                · rw [hb46]
                  refine ev_gos pp_Mo_look 3 (S' := (169, [some (.ref 198), some (.int l1), some (.int l2), some (.int (v 199 l2.toNatClampNeg)), some (.int (0 : Int32)), some (.int q38)], [.int ((1 : Int32) + (2 : Int32)), .int l1, .ref 212], (223, kc, ks, pd_H g v))) rfl ?_
                  obtain ⟨hc47, h⟩ := pd_chk h
                  refine ev_iast pp_Mo_look rfl (fun _ => rfl) hc47 ?_
                  refine ev_gos pp_Mo_look 7 (S' := (4, [some (.ref 198), some (.int (l1 + (1 : Int32))), some (.int (q38 + (1 : Int32))), some (.int (v 199 l2.toNatClampNeg)), some (.int (0 : Int32)), some (.int q38)], [], (223, kc, ks, pd_H g (pd_w v 212 l1.toNatClampNeg ((1 : Int32) + (2 : Int32)))))) rfl ?_
                  exact ih _ _ _ _ _ _ _  h
                · rw [hb46]
                  refine ev_gos pp_Mo_look 5 (S' := (157, [some (.ref 198), some (.int l1), some (.int l2), some (.int (v 199 l2.toNatClampNeg)), some (.int (0 : Int32)), some (.int q38)], [.int q38, .int (l2 + (1 : Int32)), .ref 198, .int (1 : Int32), .int l1, .ref 212], (223, kc, ks, pd_H g v))) rfl ?_
                  obtain ⟨q48, hq48, h⟩ := pd_bind h
                  refine ev_callv pp_Mo_look rfl rfl rfl rfl (s_Mo_isVarying hq48) ?_
                  refine ev_gos pp_Mo_look 0 (S' := (160, [some (.ref 198), some (.int l1), some (.int l2), some (.int (v 199 l2.toNatClampNeg)), some (.int (0 : Int32)), some (.int q38)], [.int q48, .int (1 : Int32), .int l1, .ref 212], (223, kc, ks, pd_H g v))) rfl ?_
                  refine ev_gos pp_Mo_look 1 (S' := (bif decide (q48 = 0) then 167 else 163, [some (.ref 198), some (.int l1), some (.int l2), some (.int (v 199 l2.toNatClampNeg)), some (.int (0 : Int32)), some (.int q38)], [.int (1 : Int32), .int l1, .ref 212], (223, kc, ks, pd_H g v))) rfl ?_
                  rcases pd_cases h with ⟨hb49, h⟩ | ⟨hb49, h⟩
                  · rw [hb49]
                    refine ev_gos pp_Mo_look 2 (S' := (169, [some (.ref 198), some (.int l1), some (.int l2), some (.int (v 199 l2.toNatClampNeg)), some (.int (0 : Int32)), some (.int q38)], [.int ((1 : Int32) + (0 : Int32)), .int l1, .ref 212], (223, kc, ks, pd_H g v))) rfl ?_
                    obtain ⟨hc50, h⟩ := pd_chk h
                    refine ev_iast pp_Mo_look rfl (fun _ => rfl) hc50 ?_
                    refine ev_gos pp_Mo_look 7 (S' := (4, [some (.ref 198), some (.int (l1 + (1 : Int32))), some (.int (q38 + (1 : Int32))), some (.int (v 199 l2.toNatClampNeg)), some (.int (0 : Int32)), some (.int q38)], [], (223, kc, ks, pd_H g (pd_w v 212 l1.toNatClampNeg ((1 : Int32) + (0 : Int32)))))) rfl ?_
                    exact ih _ _ _ _ _ _ _  h
                  · rw [hb49]
                    refine ev_gos pp_Mo_look 3 (S' := (169, [some (.ref 198), some (.int l1), some (.int l2), some (.int (v 199 l2.toNatClampNeg)), some (.int (0 : Int32)), some (.int q38)], [.int ((1 : Int32) + (2 : Int32)), .int l1, .ref 212], (223, kc, ks, pd_H g v))) rfl ?_
                    obtain ⟨hc51, h⟩ := pd_chk h
                    refine ev_iast pp_Mo_look rfl (fun _ => rfl) hc51 ?_
                    refine ev_gos pp_Mo_look 7 (S' := (4, [some (.ref 198), some (.int (l1 + (1 : Int32))), some (.int (q38 + (1 : Int32))), some (.int (v 199 l2.toNatClampNeg)), some (.int (0 : Int32)), some (.int q38)], [], (223, kc, ks, pd_H g (pd_w v 212 l1.toNatClampNeg ((1 : Int32) + (2 : Int32)))))) rfl ?_
                    exact ih _ _ _ _ _ _ _  h
        · rw [hb4]
          refine ev_gos pp_Mo_look 5 (S' := (59, [some (.ref 198), some (.int (l1 + (-1 : Int32))), some (.int (l2 + (1 : Int32))), some (.int (v 199 l2.toNatClampNeg)), some (.int (0 : Int32)), y5], [.int (v 198 2), .int (l2 + (1 : Int32))], (223, kc, ks, pd_H g v))) rfl ?_
          refine ev_gos pp_Mo_look 1 (S' := (bif decide ((v 198 2) ≤ (l2 + (1 : Int32))) then 297 else 62, [some (.ref 198), some (.int (l1 + (-1 : Int32))), some (.int (l2 + (1 : Int32))), some (.int (v 199 l2.toNatClampNeg)), some (.int (0 : Int32)), y5], [], (223, kc, ks, pd_H g v))) rfl ?_
          rcases pd_cases h with ⟨hb52, h⟩ | ⟨hb52, h⟩
          · rw [hb52]
            refine ev_gos pp_Mo_look 1 (S' := (4, [some (.ref 198), some (.int (l1 + (-1 : Int32))), some (.int (l2 + (1 : Int32))), some (.int (v 199 l2.toNatClampNeg)), some (.int (0 : Int32)), y5], [], (223, kc, ks, pd_H g v))) rfl ?_
            exact ih _ _ _ _ _ _ _  h
          · rw [hb52]
            refine ev_gos pp_Mo_look 3 (S' := (67, [some (.ref 198), some (.int (l1 + (-1 : Int32))), some (.int (l2 + (1 : Int32))), some (.int (v 199 l2.toNatClampNeg)), some (.int (0 : Int32)), y5], [.int (l2 + (1 : Int32)), .ref 199], (223, kc, ks, pd_H g v))) rfl ?_
            obtain ⟨hc53, h⟩ := pd_chk h
            refine ev_iald pp_Mo_look rfl (fun _ => rfl) hc53 ?_
            refine ev_gos pp_Mo_look 1 (S' := (70, [some (.ref 198), some (.int (l1 + (-1 : Int32))), some (.int (l2 + (1 : Int32))), some (.int (v 199 l2.toNatClampNeg)), some (.int (0 : Int32)), y5], [.int (123 : Int32), .int (v 199 ((l2 + (1 : Int32)).toNatClampNeg))], (223, kc, ks, pd_H g v))) rfl ?_
            refine ev_gos pp_Mo_look 1 (S' := (bif !(decide ((v 199 ((l2 + (1 : Int32)).toNatClampNeg)) = (123 : Int32))) then 297 else 73, [some (.ref 198), some (.int (l1 + (-1 : Int32))), some (.int (l2 + (1 : Int32))), some (.int (v 199 l2.toNatClampNeg)), some (.int (0 : Int32)), y5], [], (223, kc, ks, pd_H g v))) rfl ?_
            rcases pd_cases h with ⟨hb54, h⟩ | ⟨hb54, h⟩
            · rw [hb54]
              refine ev_gos pp_Mo_look 1 (S' := (4, [some (.ref 198), some (.int (l1 + (-1 : Int32))), some (.int (l2 + (1 : Int32))), some (.int (v 199 l2.toNatClampNeg)), some (.int (0 : Int32)), y5], [], (223, kc, ks, pd_H g v))) rfl ?_
              exact ih _ _ _ _ _ _ _  h
            · rw [hb54]
              refine ev_gos pp_Mo_look 3 (S' := (78, [some (.ref 198), some (.int (l1 + (-1 : Int32))), some (.int (l2 + (1 : Int32))), some (.int (v 199 l2.toNatClampNeg)), some (.int (0 : Int32)), y5], [.int (l1 + (-1 : Int32)), .ref 212], (223, kc, ks, pd_H g v))) rfl ?_
              obtain ⟨hc55, h⟩ := pd_chk h
              refine ev_iald pp_Mo_look rfl (fun _ => rfl) hc55 ?_
              refine ev_gos pp_Mo_look 1 (S' := (80, [some (.ref 198), some (.int (l1 + (-1 : Int32))), some (.int (l2 + (1 : Int32))), some (.int (v 199 l2.toNatClampNeg)), some (.int (0 : Int32)), y5], [.int (2 : Int32), .int (v 212 ((l1 + (-1 : Int32)).toNatClampNeg))], (223, kc, ks, pd_H g v))) rfl ?_
              obtain ⟨hc56, h⟩ := pd_chk h
              refine ev_irem pp_Mo_look rfl hc56 ?_
              refine ev_gos pp_Mo_look 1 (S' := (82, [some (.ref 198), some (.int (l1 + (-1 : Int32))), some (.int (l2 + (1 : Int32))), some (.int (v 199 l2.toNatClampNeg)), some (.int (0 : Int32)), y5], [.int (1 : Int32), .int ((v 212 ((l1 + (-1 : Int32)).toNatClampNeg)) - (v 212 ((l1 + (-1 : Int32)).toNatClampNeg)) / (2 : Int32) * (2 : Int32))], (223, kc, ks, pd_H g v))) rfl ?_
              refine ev_gos pp_Mo_look 1 (S' := (bif !(decide (((v 212 ((l1 + (-1 : Int32)).toNatClampNeg)) - (v 212 ((l1 + (-1 : Int32)).toNatClampNeg)) / (2 : Int32) * (2 : Int32)) = (1 : Int32))) then 297 else 85, [some (.ref 198), some (.int (l1 + (-1 : Int32))), some (.int (l2 + (1 : Int32))), some (.int (v 199 l2.toNatClampNeg)), some (.int (0 : Int32)), y5], [], (223, kc, ks, pd_H g v))) rfl ?_
              rcases pd_cases h with ⟨hb57, h⟩ | ⟨hb57, h⟩
              · rw [hb57]
                refine ev_gos pp_Mo_look 1 (S' := (4, [some (.ref 198), some (.int (l1 + (-1 : Int32))), some (.int (l2 + (1 : Int32))), some (.int (v 199 l2.toNatClampNeg)), some (.int (0 : Int32)), y5], [], (223, kc, ks, pd_H g v))) rfl ?_
                exact ih _ _ _ _ _ _ _  h
              · rw [hb57]
                refine ev_gos pp_Mo_look 4 (S' := (91, [some (.ref 198), some (.int (l1 + (-1 : Int32))), some (.int (l2 + (1 : Int32))), some (.int (v 199 l2.toNatClampNeg)), some (.int (0 : Int32)), y5], [.int (l1 + (-1 : Int32)), .ref 212, .int (l1 + (-1 : Int32)), .ref 212], (223, kc, ks, pd_H g v))) rfl ?_
                obtain ⟨hc58, h⟩ := pd_chk h
                refine ev_iald pp_Mo_look rfl (fun _ => rfl) hc58 ?_
                refine ev_gos pp_Mo_look 2 (S' := (94, [some (.ref 198), some (.int (l1 + (-1 : Int32))), some (.int (l2 + (1 : Int32))), some (.int (v 199 l2.toNatClampNeg)), some (.int (0 : Int32)), y5], [.int ((v 212 ((l1 + (-1 : Int32)).toNatClampNeg)) - (1 : Int32)), .int (l1 + (-1 : Int32)), .ref 212], (223, kc, ks, pd_H g v))) rfl ?_
                obtain ⟨hc59, h⟩ := pd_chk h
                refine ev_iast pp_Mo_look rfl (fun _ => rfl) hc59 ?_
                refine ev_gos pp_Mo_look 4 (S' := (4, [some (.ref 198), some (.int ((l1 + (-1 : Int32)) + (1 : Int32))), some (.int ((l2 + (1 : Int32)) + (1 : Int32))), some (.int (v 199 l2.toNatClampNeg)), some (.int (0 : Int32)), y5], [], (223, kc, ks, pd_H g (pd_w v 212 ((l1 + (-1 : Int32)).toNatClampNeg) ((v 212 ((l1 + (-1 : Int32)).toNatClampNeg)) - (1 : Int32)))))) rfl ?_
                exact ih _ _ _ _ _ _ _  h
      · rw [hb3]
        refine ev_gos pp_Mo_look 5 (S' := (30, [some (.ref 198), some (.int l1), some (.int l2), some (.int (v 199 l2.toNatClampNeg)), y4, y5], [.int (l1 - (1 : Int32)), .ref 212], (223, kc, ks, pd_H g v))) rfl ?_
        obtain ⟨hc60, h⟩ := pd_chk h
        refine ev_iald pp_Mo_look rfl (fun _ => rfl) hc60 ?_
        refine ev_gos pp_Mo_look 1 (S' := (32, [some (.ref 198), some (.int l1), some (.int l2), some (.int (v 199 l2.toNatClampNeg)), y4, y5], [.int (1 : Int32), .int (v 212 ((l1 - (1 : Int32)).toNatClampNeg))], (223, kc, ks, pd_H g v))) rfl ?_
        refine ev_gos pp_Mo_look 1 (S' := (bif decide ((v 212 ((l1 - (1 : Int32)).toNatClampNeg)) ≤ (1 : Int32)) then 39 else 35, [some (.ref 198), some (.int l1), some (.int l2), some (.int (v 199 l2.toNatClampNeg)), y4, y5], [], (223, kc, ks, pd_H g v))) rfl ?_
        rcases pd_cases h with ⟨hb61, h⟩ | ⟨hb61, h⟩
        · rw [hb61]
          refine ev_gos pp_Mo_look 4 (S' := (45, [some (.ref 198), some (.int l1), some (.int l2), some (.int (v 199 l2.toNatClampNeg)), some (.int (0 : Int32)), y5], [.int (125 : Int32), .int (v 199 l2.toNatClampNeg)], (223, kc, ks, pd_H g v))) rfl ?_
          refine ev_gos pp_Mo_look 1 (S' := (bif !(decide ((v 199 l2.toNatClampNeg) = (125 : Int32))) then 104 else 48, [some (.ref 198), some (.int l1), some (.int l2), some (.int (v 199 l2.toNatClampNeg)), some (.int (0 : Int32)), y5], [], (223, kc, ks, pd_H g v))) rfl ?_
          rcases pd_cases h with ⟨hb62, h⟩ | ⟨hb62, h⟩
          · rw [hb62]
            refine ev_gos pp_Mo_look 2 (S' := (107, [some (.ref 198), some (.int l1), some (.int l2), some (.int (v 199 l2.toNatClampNeg)), some (.int (0 : Int32)), y5], [.int (63 : Int32), .int (v 199 l2.toNatClampNeg)], (223, kc, ks, pd_H g v))) rfl ?_
            refine ev_gos pp_Mo_look 1 (S' := (bif decide ((v 199 l2.toNatClampNeg) = (63 : Int32)) then 116 else 110, [some (.ref 198), some (.int l1), some (.int l2), some (.int (v 199 l2.toNatClampNeg)), some (.int (0 : Int32)), y5], [], (223, kc, ks, pd_H g v))) rfl ?_
            rcases pd_cases h with ⟨hb63, h⟩ | ⟨hb63, h⟩
            · rw [hb63]
              refine ev_gos pp_Mo_look 5 (S' := (125, [some (.ref 198), some (.int l1), some (.int l2), some (.int (v 199 l2.toNatClampNeg)), some (.int (0 : Int32)), y5], [.int (123 : Int32), .int (123 : Int32), .int l2, .ref 199], (223, kc, ks, pd_H g v))) rfl ?_
              obtain ⟨q64, hq64, h⟩ := pd_bind h
              refine ev_call pp_Mo_look rfl rfl rfl (s_Mo_upTo (fun _ => rfl) hq64) ?_
              refine ev_gos pp_Mo_look 6 (S' := (138, [some (.ref 198), some (.int l1), some (.int l2), some (.int (v 199 l2.toNatClampNeg)), some (.int (0 : Int32)), some (.int q64)], [.int (63 : Int32), .int (v 199 l2.toNatClampNeg), .int l1, .ref 212], (223, kc, ks, pd_H g v))) rfl ?_
              refine ev_gos pp_Mo_look 1 (S' := (bif !(decide ((v 199 l2.toNatClampNeg) = (63 : Int32))) then 145 else 141, [some (.ref 198), some (.int l1), some (.int l2), some (.int (v 199 l2.toNatClampNeg)), some (.int (0 : Int32)), some (.int q64)], [.int l1, .ref 212], (223, kc, ks, pd_H g v))) rfl ?_
              rcases pd_cases h with ⟨hb65, h⟩ | ⟨hb65, h⟩
              · rw [hb65]
                refine ev_gos pp_Mo_look 2 (S' := (148, [some (.ref 198), some (.int l1), some (.int l2), some (.int (v 199 l2.toNatClampNeg)), some (.int (0 : Int32)), some (.int q64)], [.int (0 : Int32), .int (0 : Int32), .int l1, .ref 212], (223, kc, ks, pd_H g v))) rfl ?_
                refine ev_gos pp_Mo_look 1 (S' := (bif !(decide ((0 : Int32) = 0)) then 163 else 151, [some (.ref 198), some (.int l1), some (.int l2), some (.int (v 199 l2.toNatClampNeg)), some (.int (0 : Int32)), some (.int q64)], [.int (0 : Int32), .int l1, .ref 212], (223, kc, ks, pd_H g v))) rfl ?_
                rcases pd_cases h with ⟨hb66, h⟩ | ⟨hb66, h⟩
                · rw [hb66]
                  refine ev_gos pp_Mo_look 3 (S' := (169, [some (.ref 198), some (.int l1), some (.int l2), some (.int (v 199 l2.toNatClampNeg)), some (.int (0 : Int32)), some (.int q64)], [.int ((0 : Int32) + (2 : Int32)), .int l1, .ref 212], (223, kc, ks, pd_H g v))) rfl ?_
                  obtain ⟨hc67, h⟩ := pd_chk h
                  refine ev_iast pp_Mo_look rfl (fun _ => rfl) hc67 ?_
                  refine ev_gos pp_Mo_look 7 (S' := (4, [some (.ref 198), some (.int (l1 + (1 : Int32))), some (.int (q64 + (1 : Int32))), some (.int (v 199 l2.toNatClampNeg)), some (.int (0 : Int32)), some (.int q64)], [], (223, kc, ks, pd_H g (pd_w v 212 l1.toNatClampNeg ((0 : Int32) + (2 : Int32)))))) rfl ?_
                  exact ih _ _ _ _ _ _ _  h
                · rw [hb66]
                  refine ev_gos pp_Mo_look 5 (S' := (157, [some (.ref 198), some (.int l1), some (.int l2), some (.int (v 199 l2.toNatClampNeg)), some (.int (0 : Int32)), some (.int q64)], [.int q64, .int (l2 + (1 : Int32)), .ref 198, .int (0 : Int32), .int l1, .ref 212], (223, kc, ks, pd_H g v))) rfl ?_
                  obtain ⟨q68, hq68, h⟩ := pd_bind h
                  refine ev_callv pp_Mo_look rfl rfl rfl rfl (s_Mo_isVarying hq68) ?_
                  refine ev_gos pp_Mo_look 0 (S' := (160, [some (.ref 198), some (.int l1), some (.int l2), some (.int (v 199 l2.toNatClampNeg)), some (.int (0 : Int32)), some (.int q64)], [.int q68, .int (0 : Int32), .int l1, .ref 212], (223, kc, ks, pd_H g v))) rfl ?_
                  refine ev_gos pp_Mo_look 1 (S' := (bif decide (q68 = 0) then 167 else 163, [some (.ref 198), some (.int l1), some (.int l2), some (.int (v 199 l2.toNatClampNeg)), some (.int (0 : Int32)), some (.int q64)], [.int (0 : Int32), .int l1, .ref 212], (223, kc, ks, pd_H g v))) rfl ?_
                  rcases pd_cases h with ⟨hb69, h⟩ | ⟨hb69, h⟩
                  · rw [hb69]
                    refine ev_gos pp_Mo_look 2 (S' := (169, [some (.ref 198), some (.int l1), some (.int l2), some (.int (v 199 l2.toNatClampNeg)), some (.int (0 : Int32)), some (.int q64)], [.int ((0 : Int32) + (0 : Int32)), .int l1, .ref 212], (223, kc, ks, pd_H g v))) rfl ?_
                    obtain ⟨hc70, h⟩ := pd_chk h
                    refine ev_iast pp_Mo_look rfl (fun _ => rfl) hc70 ?_
                    refine ev_gos pp_Mo_look 7 (S' := (4, [some (.ref 198), some (.int (l1 + (1 : Int32))), some (.int (q64 + (1 : Int32))), some (.int (v 199 l2.toNatClampNeg)), some (.int (0 : Int32)), some (.int q64)], [], (223, kc, ks, pd_H g (pd_w v 212 l1.toNatClampNeg ((0 : Int32) + (0 : Int32)))))) rfl ?_
                    exact ih _ _ _ _ _ _ _  h
                  · rw [hb69]
                    refine ev_gos pp_Mo_look 3 (S' := (169, [some (.ref 198), some (.int l1), some (.int l2), some (.int (v 199 l2.toNatClampNeg)), some (.int (0 : Int32)), some (.int q64)], [.int ((0 : Int32) + (2 : Int32)), .int l1, .ref 212], (223, kc, ks, pd_H g v))) rfl ?_
                    obtain ⟨hc71, h⟩ := pd_chk h
                    refine ev_iast pp_Mo_look rfl (fun _ => rfl) hc71 ?_
                    refine ev_gos pp_Mo_look 7 (S' := (4, [some (.ref 198), some (.int (l1 + (1 : Int32))), some (.int (q64 + (1 : Int32))), some (.int (v 199 l2.toNatClampNeg)), some (.int (0 : Int32)), some (.int q64)], [], (223, kc, ks, pd_H g (pd_w v 212 l1.toNatClampNeg ((0 : Int32) + (2 : Int32)))))) rfl ?_
                    exact ih _ _ _ _ _ _ _  h
              · rw [hb65]
                refine ev_gos pp_Mo_look 3 (S' := (148, [some (.ref 198), some (.int l1), some (.int l2), some (.int (v 199 l2.toNatClampNeg)), some (.int (0 : Int32)), some (.int q64)], [.int (0 : Int32), .int (1 : Int32), .int l1, .ref 212], (223, kc, ks, pd_H g v))) rfl ?_
                refine ev_gos pp_Mo_look 1 (S' := (bif !(decide ((0 : Int32) = 0)) then 163 else 151, [some (.ref 198), some (.int l1), some (.int l2), some (.int (v 199 l2.toNatClampNeg)), some (.int (0 : Int32)), some (.int q64)], [.int (1 : Int32), .int l1, .ref 212], (223, kc, ks, pd_H g v))) rfl ?_
                rcases pd_cases h with ⟨hb72, h⟩ | ⟨hb72, h⟩
                · rw [hb72]
                  refine ev_gos pp_Mo_look 3 (S' := (169, [some (.ref 198), some (.int l1), some (.int l2), some (.int (v 199 l2.toNatClampNeg)), some (.int (0 : Int32)), some (.int q64)], [.int ((1 : Int32) + (2 : Int32)), .int l1, .ref 212], (223, kc, ks, pd_H g v))) rfl ?_
                  obtain ⟨hc73, h⟩ := pd_chk h
                  refine ev_iast pp_Mo_look rfl (fun _ => rfl) hc73 ?_
                  refine ev_gos pp_Mo_look 7 (S' := (4, [some (.ref 198), some (.int (l1 + (1 : Int32))), some (.int (q64 + (1 : Int32))), some (.int (v 199 l2.toNatClampNeg)), some (.int (0 : Int32)), some (.int q64)], [], (223, kc, ks, pd_H g (pd_w v 212 l1.toNatClampNeg ((1 : Int32) + (2 : Int32)))))) rfl ?_
                  exact ih _ _ _ _ _ _ _  h
                · rw [hb72]
                  refine ev_gos pp_Mo_look 5 (S' := (157, [some (.ref 198), some (.int l1), some (.int l2), some (.int (v 199 l2.toNatClampNeg)), some (.int (0 : Int32)), some (.int q64)], [.int q64, .int (l2 + (1 : Int32)), .ref 198, .int (1 : Int32), .int l1, .ref 212], (223, kc, ks, pd_H g v))) rfl ?_
                  obtain ⟨q74, hq74, h⟩ := pd_bind h
                  refine ev_callv pp_Mo_look rfl rfl rfl rfl (s_Mo_isVarying hq74) ?_
                  refine ev_gos pp_Mo_look 0 (S' := (160, [some (.ref 198), some (.int l1), some (.int l2), some (.int (v 199 l2.toNatClampNeg)), some (.int (0 : Int32)), some (.int q64)], [.int q74, .int (1 : Int32), .int l1, .ref 212], (223, kc, ks, pd_H g v))) rfl ?_
                  refine ev_gos pp_Mo_look 1 (S' := (bif decide (q74 = 0) then 167 else 163, [some (.ref 198), some (.int l1), some (.int l2), some (.int (v 199 l2.toNatClampNeg)), some (.int (0 : Int32)), some (.int q64)], [.int (1 : Int32), .int l1, .ref 212], (223, kc, ks, pd_H g v))) rfl ?_
                  rcases pd_cases h with ⟨hb75, h⟩ | ⟨hb75, h⟩
                  · rw [hb75]
                    refine ev_gos pp_Mo_look 2 (S' := (169, [some (.ref 198), some (.int l1), some (.int l2), some (.int (v 199 l2.toNatClampNeg)), some (.int (0 : Int32)), some (.int q64)], [.int ((1 : Int32) + (0 : Int32)), .int l1, .ref 212], (223, kc, ks, pd_H g v))) rfl ?_
                    obtain ⟨hc76, h⟩ := pd_chk h
                    refine ev_iast pp_Mo_look rfl (fun _ => rfl) hc76 ?_
                    refine ev_gos pp_Mo_look 7 (S' := (4, [some (.ref 198), some (.int (l1 + (1 : Int32))), some (.int (q64 + (1 : Int32))), some (.int (v 199 l2.toNatClampNeg)), some (.int (0 : Int32)), some (.int q64)], [], (223, kc, ks, pd_H g (pd_w v 212 l1.toNatClampNeg ((1 : Int32) + (0 : Int32)))))) rfl ?_
                    exact ih _ _ _ _ _ _ _  h
                  · rw [hb75]
                    refine ev_gos pp_Mo_look 3 (S' := (169, [some (.ref 198), some (.int l1), some (.int l2), some (.int (v 199 l2.toNatClampNeg)), some (.int (0 : Int32)), some (.int q64)], [.int ((1 : Int32) + (2 : Int32)), .int l1, .ref 212], (223, kc, ks, pd_H g v))) rfl ?_
                    obtain ⟨hc77, h⟩ := pd_chk h
                    refine ev_iast pp_Mo_look rfl (fun _ => rfl) hc77 ?_
                    refine ev_gos pp_Mo_look 7 (S' := (4, [some (.ref 198), some (.int (l1 + (1 : Int32))), some (.int (q64 + (1 : Int32))), some (.int (v 199 l2.toNatClampNeg)), some (.int (0 : Int32)), some (.int q64)], [], (223, kc, ks, pd_H g (pd_w v 212 l1.toNatClampNeg ((1 : Int32) + (2 : Int32)))))) rfl ?_
                    exact ih _ _ _ _ _ _ _  h
            · rw [hb63]
              refine ev_gos pp_Mo_look 2 (S' := (113, [some (.ref 198), some (.int l1), some (.int l2), some (.int (v 199 l2.toNatClampNeg)), some (.int (0 : Int32)), y5], [.int (42 : Int32), .int (v 199 l2.toNatClampNeg)], (223, kc, ks, pd_H g v))) rfl ?_
              refine ev_gos pp_Mo_look 1 (S' := (bif !(decide ((v 199 l2.toNatClampNeg) = (42 : Int32))) then 181 else 116, [some (.ref 198), some (.int l1), some (.int l2), some (.int (v 199 l2.toNatClampNeg)), some (.int (0 : Int32)), y5], [], (223, kc, ks, pd_H g v))) rfl ?_
              rcases pd_cases h with ⟨hb78, h⟩ | ⟨hb78, h⟩
              · rw [hb78]
                refine ev_gos pp_Mo_look 5 (S' := (190, [some (.ref 198), some (.int l1), some (.int l2), some (.int (v 199 l2.toNatClampNeg)), some (.int (0 : Int32)), y5], [.int (59 : Int32), .int (59 : Int32), .int l2, .ref 199], (223, kc, ks, pd_H g v))) rfl ?_
                obtain ⟨q79, hq79, h⟩ := pd_bind h
                refine ev_call pp_Mo_look rfl rfl rfl (s_Mo_upTo (fun _ => rfl) hq79) ?_
                refine ev_gos pp_Mo_look 3 (S' := (198, [some (.ref 198), some (.int l1), some (.int l2), some (.int (v 199 l2.toNatClampNeg)), some (.int (0 : Int32)), some (.int q79)], [.int (88 : Int32), .int (v 199 l2.toNatClampNeg)], (223, kc, ks, pd_H g v))) rfl ?_
                refine ev_gos pp_Mo_look 1 (S' := (bif !(decide ((v 199 l2.toNatClampNeg) = (88 : Int32))) then 238 else 201, [some (.ref 198), some (.int l1), some (.int l2), some (.int (v 199 l2.toNatClampNeg)), some (.int (0 : Int32)), some (.int q79)], [], (223, kc, ks, pd_H g v))) rfl ?_
                rcases pd_cases h with ⟨hb80, h⟩ | ⟨hb80, h⟩
                · rw [hb80]
                  refine ev_gos pp_Mo_look 3 (S' := (243, [some (.ref 198), some (.int l1), some (.int l2), some (.int (v 199 l2.toNatClampNeg)), some (.int (0 : Int32)), some (.int q79)], [.int (104 : Int32), .int (97 : Int32), .int (v 199 l2.toNatClampNeg)], (223, kc, ks, pd_H g v))) rfl ?_
                  refine ev_call pp_Mo_look rfl rfl rfl (s_Mo_beyond) ?_
                  refine ev_gos pp_Mo_look 0 (S' := (246, [some (.ref 198), some (.int l1), some (.int l2), some (.int (v 199 l2.toNatClampNeg)), some (.int (0 : Int32)), some (.int q79)], [.int (d_Mo_beyond (v 199 l2.toNatClampNeg) (97 : Int32) (104 : Int32))], (223, kc, ks, pd_H g v))) rfl ?_
                  refine ev_gos pp_Mo_look 1 (S' := (bif !(decide ((d_Mo_beyond (v 199 l2.toNatClampNeg) (97 : Int32) (104 : Int32)) = 0)) then 292 else 249, [some (.ref 198), some (.int l1), some (.int l2), some (.int (v 199 l2.toNatClampNeg)), some (.int (0 : Int32)), some (.int q79)], [], (223, kc, ks, pd_H g v))) rfl ?_
                  rcases pd_cases h with ⟨hb82, h⟩ | ⟨hb82, h⟩
                  · rw [hb82]
                    refine ev_gos pp_Mo_look 5 (S' := (4, [some (.ref 198), some (.int l1), some (.int (q79 + (1 : Int32))), some (.int (v 199 l2.toNatClampNeg)), some (.int (0 : Int32)), some (.int q79)], [], (223, kc, ks, pd_H g v))) rfl ?_
                    exact ih _ _ _ _ _ _ _  h
                  · rw [hb82]
                    refine ev_gos pp_Mo_look 10 (S' := (265, [some (.ref 198), some (.int l1), some (.int l2), some (.int (v 199 l2.toNatClampNeg)), some (.int (0 : Int32)), some (.int q79)], [.int ((v 199 l2.toNatClampNeg) - (97 : Int32)), .ref 201, .int ((v 199 l2.toNatClampNeg) - (97 : Int32)), .ref 201], (223, kc, ks, pd_H g v))) rfl ?_
                    obtain ⟨hc83, h⟩ := pd_chk h
                    refine ev_zald pp_Mo_look rfl (fun _ => rfl) hc83 ?_
                    refine ev_gos pp_Mo_look 0 (S' := (266, [some (.ref 198), some (.int l1), some (.int l2), some (.int (v 199 l2.toNatClampNeg)), some (.int (0 : Int32)), some (.int q79)], [.int (v 201 (((v 199 l2.toNatClampNeg) - (97 : Int32)).toNatClampNeg)), .int ((v 199 l2.toNatClampNeg) - (97 : Int32)), .ref 201], (223, kc, ks, pd_H g v))) rfl ?_
                    refine ev_gos pp_Mo_look 1 (S' := (bif !(decide ((v 201 (((v 199 l2.toNatClampNeg) - (97 : Int32)).toNatClampNeg)) = 0)) then 286 else 269, [some (.ref 198), some (.int l1), some (.int l2), some (.int (v 199 l2.toNatClampNeg)), some (.int (0 : Int32)), some (.int q79)], [.int ((v 199 l2.toNatClampNeg) - (97 : Int32)), .ref 201], (223, kc, ks, pd_H g v))) rfl ?_
                    rcases pd_cases h with ⟨hb84, h⟩ | ⟨hb84, h⟩
                    · rw [hb84]
                      refine ev_gos pp_Mo_look 2 (S' := (291, [some (.ref 198), some (.int l1), some (.int l2), some (.int (v 199 l2.toNatClampNeg)), some (.int (0 : Int32)), some (.int q79)], [.int (1 : Int32), .int ((v 199 l2.toNatClampNeg) - (97 : Int32)), .ref 201], (223, kc, ks, pd_H g v))) rfl ?_
                      obtain ⟨hc85, h⟩ := pd_chk h
                      refine ev_zast pp_Mo_look rfl (fun _ => rfl) hc85 pd_b1 ?_
                      refine ev_gos pp_Mo_look 5 (S' := (4, [some (.ref 198), some (.int l1), some (.int (q79 + (1 : Int32))), some (.int (v 199 l2.toNatClampNeg)), some (.int (0 : Int32)), some (.int q79)], [], (223, kc, ks, pd_H g (pd_w v 201 (((v 199 l2.toNatClampNeg) - (97 : Int32)).toNatClampNeg) (1 : Int32))))) rfl ?_
                      exact ih _ _ _ _ _ _ _  h
                    · rw [hb84]
                      refine ev_gos pp_Mo_look 1 (S' := (271, [some (.ref 198), some (.int l1), some (.int l2), some (.int (v 199 l2.toNatClampNeg)), some (.int (0 : Int32)), some (.int q79)], [.int (0 : Int32), .int ((v 199 l2.toNatClampNeg) - (97 : Int32)), .ref 201], (223, kc, ks, pd_H g v))) rfl ?_
                      refine ev_gos pp_Mo_look 1 (S' := (bif !(decide ((0 : Int32) = 0)) then 286 else 274, [some (.ref 198), some (.int l1), some (.int l2), some (.int (v 199 l2.toNatClampNeg)), some (.int (0 : Int32)), some (.int q79)], [.int ((v 199 l2.toNatClampNeg) - (97 : Int32)), .ref 201], (223, kc, ks, pd_H g v))) rfl ?_
                      rcases pd_cases h with ⟨hb86, h⟩ | ⟨hb86, h⟩
                      · rw [hb86]
                        refine ev_gos pp_Mo_look 2 (S' := (291, [some (.ref 198), some (.int l1), some (.int l2), some (.int (v 199 l2.toNatClampNeg)), some (.int (0 : Int32)), some (.int q79)], [.int (1 : Int32), .int ((v 199 l2.toNatClampNeg) - (97 : Int32)), .ref 201], (223, kc, ks, pd_H g v))) rfl ?_
                        obtain ⟨hc87, h⟩ := pd_chk h
                        refine ev_zast pp_Mo_look rfl (fun _ => rfl) hc87 pd_b1 ?_
                        refine ev_gos pp_Mo_look 5 (S' := (4, [some (.ref 198), some (.int l1), some (.int (q79 + (1 : Int32))), some (.int (v 199 l2.toNatClampNeg)), some (.int (0 : Int32)), some (.int q79)], [], (223, kc, ks, pd_H g (pd_w v 201 (((v 199 l2.toNatClampNeg) - (97 : Int32)).toNatClampNeg) (1 : Int32))))) rfl ?_
                        exact ih _ _ _ _ _ _ _  h
                      · rw [hb86]
                        refine ev_gos pp_Mo_look 5 (S' := (280, [some (.ref 198), some (.int l1), some (.int l2), some (.int (v 199 l2.toNatClampNeg)), some (.int (0 : Int32)), some (.int q79)], [.int q79, .int (l2 + (2 : Int32)), .ref 198, .int ((v 199 l2.toNatClampNeg) - (97 : Int32)), .ref 201], (223, kc, ks, pd_H g v))) rfl ?_
                        obtain ⟨q88, hq88, h⟩ := pd_bind h
                        refine ev_callv pp_Mo_look rfl rfl rfl rfl (s_Mo_isVarying hq88) ?_
                        refine ev_gos pp_Mo_look 0 (S' := (283, [some (.ref 198), some (.int l1), some (.int l2), some (.int (v 199 l2.toNatClampNeg)), some (.int (0 : Int32)), some (.int q79)], [.int q88, .int ((v 199 l2.toNatClampNeg) - (97 : Int32)), .ref 201], (223, kc, ks, pd_H g v))) rfl ?_
                        refine ev_gos pp_Mo_look 1 (S' := (bif decide (q88 = 0) then 290 else 286, [some (.ref 198), some (.int l1), some (.int l2), some (.int (v 199 l2.toNatClampNeg)), some (.int (0 : Int32)), some (.int q79)], [.int ((v 199 l2.toNatClampNeg) - (97 : Int32)), .ref 201], (223, kc, ks, pd_H g v))) rfl ?_
                        rcases pd_cases h with ⟨hb89, h⟩ | ⟨hb89, h⟩
                        · rw [hb89]
                          refine ev_gos pp_Mo_look 1 (S' := (291, [some (.ref 198), some (.int l1), some (.int l2), some (.int (v 199 l2.toNatClampNeg)), some (.int (0 : Int32)), some (.int q79)], [.int (0 : Int32), .int ((v 199 l2.toNatClampNeg) - (97 : Int32)), .ref 201], (223, kc, ks, pd_H g v))) rfl ?_
                          obtain ⟨hc90, h⟩ := pd_chk h
                          refine ev_zast pp_Mo_look rfl (fun _ => rfl) hc90 pd_b0 ?_
                          refine ev_gos pp_Mo_look 5 (S' := (4, [some (.ref 198), some (.int l1), some (.int (q79 + (1 : Int32))), some (.int (v 199 l2.toNatClampNeg)), some (.int (0 : Int32)), some (.int q79)], [], (223, kc, ks, pd_H g (pd_w v 201 (((v 199 l2.toNatClampNeg) - (97 : Int32)).toNatClampNeg) (0 : Int32))))) rfl ?_
                          exact ih _ _ _ _ _ _ _  h
                        · rw [hb89]
                          refine ev_gos pp_Mo_look 2 (S' := (291, [some (.ref 198), some (.int l1), some (.int l2), some (.int (v 199 l2.toNatClampNeg)), some (.int (0 : Int32)), some (.int q79)], [.int (1 : Int32), .int ((v 199 l2.toNatClampNeg) - (97 : Int32)), .ref 201], (223, kc, ks, pd_H g v))) rfl ?_
                          obtain ⟨hc91, h⟩ := pd_chk h
                          refine ev_zast pp_Mo_look rfl (fun _ => rfl) hc91 pd_b1 ?_
                          refine ev_gos pp_Mo_look 5 (S' := (4, [some (.ref 198), some (.int l1), some (.int (q79 + (1 : Int32))), some (.int (v 199 l2.toNatClampNeg)), some (.int (0 : Int32)), some (.int q79)], [], (223, kc, ks, pd_H g (pd_w v 201 (((v 199 l2.toNatClampNeg) - (97 : Int32)).toNatClampNeg) (1 : Int32))))) rfl ?_
                          exact ih _ _ _ _ _ _ _  h
                · rw [hb80]
                  refine ev_gos pp_Mo_look 7 (S' := (212, [some (.ref 198), some (.int l1), some (.int l2), some (.int (v 199 l2.toNatClampNeg)), some (.int (0 : Int32)), some (.int q79)], [.int (l2 + (1 : Int32)), .ref 199, .ref 201], (223, kc, ks, pd_H g v))) rfl ?_
                  obtain ⟨hc92, h⟩ := pd_chk h
                  refine ev_iald pp_Mo_look rfl (fun _ => rfl) hc92 ?_
                  refine ev_gos pp_Mo_look 3 (S' := (217, [some (.ref 198), some (.int l1), some (.int l2), some (.int (v 199 l2.toNatClampNeg)), some (.int (0 : Int32)), some (.int q79)], [.int (1 : Int32), .int ((v 199 ((l2 + (1 : Int32)).toNatClampNeg)) - (97 : Int32)), .ref 201], (223, kc, ks, pd_H g v))) rfl ?_
                  obtain ⟨hc93, h⟩ := pd_chk h
                  refine ev_zast pp_Mo_look rfl (fun _ => rfl) hc93 pd_b1 ?_
                  refine ev_gos pp_Mo_look 1 (S' := (220, [some (.ref 198), some (.int l1), some (.int l2), some (.int (v 199 l2.toNatClampNeg)), some (.int (0 : Int32)), some (.int q79)], [.int (0 : Int32)], (223, kc, ks, pd_H g (pd_w v 201 (((v 199 ((l2 + (1 : Int32)).toNatClampNeg)) - (97 : Int32)).toNatClampNeg) (1 : Int32))))) rfl ?_
                  refine ev_gos pp_Mo_look 1 (S' := (bif decide ((0 : Int32) = 0) then 292 else 223, [some (.ref 198), some (.int l1), some (.int l2), some (.int (v 199 l2.toNatClampNeg)), some (.int (0 : Int32)), some (.int q79)], [], (223, kc, ks, pd_H g (pd_w v 201 (((v 199 ((l2 + (1 : Int32)).toNatClampNeg)) - (97 : Int32)).toNatClampNeg) (1 : Int32))))) rfl ?_
                  rcases pd_cases h with ⟨hb94, h⟩ | ⟨hb94, h⟩
                  · rw [hb94]
                    refine ev_gos pp_Mo_look 5 (S' := (4, [some (.ref 198), some (.int l1), some (.int (q79 + (1 : Int32))), some (.int (v 199 l2.toNatClampNeg)), some (.int (0 : Int32)), some (.int q79)], [], (223, kc, ks, pd_H g (pd_w v 201 (((v 199 ((l2 + (1 : Int32)).toNatClampNeg)) - (97 : Int32)).toNatClampNeg) (1 : Int32))))) rfl ?_
                    exact ih _ _ _ _ _ _ _  h
                  · rw [hb94]
                    refine ev_gos pp_Mo_look 2 (S' := (227, [some (.ref 198), some (.int l1), some (.int l2), some (.int (v 199 l2.toNatClampNeg)), some (.int (0 : Int32)), some (.int q79)], [.int (v 198 10)], (223, kc, ks, pd_H g (pd_w v 201 (((v 199 ((l2 + (1 : Int32)).toNatClampNeg)) - (97 : Int32)).toNatClampNeg) (1 : Int32))))) rfl ?_
                    refine ev_gos pp_Mo_look 1 (S' := (bif decide (0 ≤ (v 198 10)) then 292 else 230, [some (.ref 198), some (.int l1), some (.int l2), some (.int (v 199 l2.toNatClampNeg)), some (.int (0 : Int32)), some (.int q79)], [], (223, kc, ks, pd_H g (pd_w v 201 (((v 199 ((l2 + (1 : Int32)).toNatClampNeg)) - (97 : Int32)).toNatClampNeg) (1 : Int32))))) rfl ?_
                    rcases pd_cases h with ⟨hb95, h⟩ | ⟨hb95, h⟩
                    · rw [hb95]
                      refine ev_gos pp_Mo_look 5 (S' := (4, [some (.ref 198), some (.int l1), some (.int (q79 + (1 : Int32))), some (.int (v 199 l2.toNatClampNeg)), some (.int (0 : Int32)), some (.int q79)], [], (223, kc, ks, pd_H g (pd_w v 201 (((v 199 ((l2 + (1 : Int32)).toNatClampNeg)) - (97 : Int32)).toNatClampNeg) (1 : Int32))))) rfl ?_
                      exact ih _ _ _ _ _ _ _  h
                    · rw [hb95]
                      refine ev_gos pp_Mo_look 2 (S' := (232, [some (.ref 198), some (.int l1), some (.int l2), some (.int (v 199 l2.toNatClampNeg)), some (.int (0 : Int32)), some (.int q79)], [.int l2, .ref 198], (223, kc, ks, pd_H g (pd_w v 201 (((v 199 ((l2 + (1 : Int32)).toNatClampNeg)) - (97 : Int32)).toNatClampNeg) (1 : Int32))))) rfl ?_
                      refine ev_put pp_Mo_look rfl (fun _ => rfl) rfl rfl rfl ?_
                      refine ev_gos pp_Mo_look 6 (S' := (4, [some (.ref 198), some (.int l1), some (.int (q79 + (1 : Int32))), some (.int (v 199 l2.toNatClampNeg)), some (.int (0 : Int32)), some (.int q79)], [], (223, kc, ks, pd_H g (pd_w (pd_w v 201 (((v 199 ((l2 + (1 : Int32)).toNatClampNeg)) - (97 : Int32)).toNatClampNeg) (1 : Int32)) 198 10 l2)))) rfl ?_
                      exact ih _ _ _ _ _ _ _  h
              · rw [hb78]
                refine ev_gos pp_Mo_look 5 (S' := (125, [some (.ref 198), some (.int l1), some (.int l2), some (.int (v 199 l2.toNatClampNeg)), some (.int (0 : Int32)), y5], [.int (123 : Int32), .int (123 : Int32), .int l2, .ref 199], (223, kc, ks, pd_H g v))) rfl ?_
                obtain ⟨q96, hq96, h⟩ := pd_bind h
                refine ev_call pp_Mo_look rfl rfl rfl (s_Mo_upTo (fun _ => rfl) hq96) ?_
                refine ev_gos pp_Mo_look 6 (S' := (138, [some (.ref 198), some (.int l1), some (.int l2), some (.int (v 199 l2.toNatClampNeg)), some (.int (0 : Int32)), some (.int q96)], [.int (63 : Int32), .int (v 199 l2.toNatClampNeg), .int l1, .ref 212], (223, kc, ks, pd_H g v))) rfl ?_
                refine ev_gos pp_Mo_look 1 (S' := (bif !(decide ((v 199 l2.toNatClampNeg) = (63 : Int32))) then 145 else 141, [some (.ref 198), some (.int l1), some (.int l2), some (.int (v 199 l2.toNatClampNeg)), some (.int (0 : Int32)), some (.int q96)], [.int l1, .ref 212], (223, kc, ks, pd_H g v))) rfl ?_
                rcases pd_cases h with ⟨hb97, h⟩ | ⟨hb97, h⟩
                · rw [hb97]
                  refine ev_gos pp_Mo_look 2 (S' := (148, [some (.ref 198), some (.int l1), some (.int l2), some (.int (v 199 l2.toNatClampNeg)), some (.int (0 : Int32)), some (.int q96)], [.int (0 : Int32), .int (0 : Int32), .int l1, .ref 212], (223, kc, ks, pd_H g v))) rfl ?_
                  refine ev_gos pp_Mo_look 1 (S' := (bif !(decide ((0 : Int32) = 0)) then 163 else 151, [some (.ref 198), some (.int l1), some (.int l2), some (.int (v 199 l2.toNatClampNeg)), some (.int (0 : Int32)), some (.int q96)], [.int (0 : Int32), .int l1, .ref 212], (223, kc, ks, pd_H g v))) rfl ?_
                  rcases pd_cases h with ⟨hb98, h⟩ | ⟨hb98, h⟩
                  · rw [hb98]
                    refine ev_gos pp_Mo_look 3 (S' := (169, [some (.ref 198), some (.int l1), some (.int l2), some (.int (v 199 l2.toNatClampNeg)), some (.int (0 : Int32)), some (.int q96)], [.int ((0 : Int32) + (2 : Int32)), .int l1, .ref 212], (223, kc, ks, pd_H g v))) rfl ?_
                    obtain ⟨hc99, h⟩ := pd_chk h
                    refine ev_iast pp_Mo_look rfl (fun _ => rfl) hc99 ?_
                    refine ev_gos pp_Mo_look 7 (S' := (4, [some (.ref 198), some (.int (l1 + (1 : Int32))), some (.int (q96 + (1 : Int32))), some (.int (v 199 l2.toNatClampNeg)), some (.int (0 : Int32)), some (.int q96)], [], (223, kc, ks, pd_H g (pd_w v 212 l1.toNatClampNeg ((0 : Int32) + (2 : Int32)))))) rfl ?_
                    exact ih _ _ _ _ _ _ _  h
                  · rw [hb98]
                    refine ev_gos pp_Mo_look 5 (S' := (157, [some (.ref 198), some (.int l1), some (.int l2), some (.int (v 199 l2.toNatClampNeg)), some (.int (0 : Int32)), some (.int q96)], [.int q96, .int (l2 + (1 : Int32)), .ref 198, .int (0 : Int32), .int l1, .ref 212], (223, kc, ks, pd_H g v))) rfl ?_
                    obtain ⟨q100, hq100, h⟩ := pd_bind h
                    refine ev_callv pp_Mo_look rfl rfl rfl rfl (s_Mo_isVarying hq100) ?_
                    refine ev_gos pp_Mo_look 0 (S' := (160, [some (.ref 198), some (.int l1), some (.int l2), some (.int (v 199 l2.toNatClampNeg)), some (.int (0 : Int32)), some (.int q96)], [.int q100, .int (0 : Int32), .int l1, .ref 212], (223, kc, ks, pd_H g v))) rfl ?_
                    refine ev_gos pp_Mo_look 1 (S' := (bif decide (q100 = 0) then 167 else 163, [some (.ref 198), some (.int l1), some (.int l2), some (.int (v 199 l2.toNatClampNeg)), some (.int (0 : Int32)), some (.int q96)], [.int (0 : Int32), .int l1, .ref 212], (223, kc, ks, pd_H g v))) rfl ?_
                    rcases pd_cases h with ⟨hb101, h⟩ | ⟨hb101, h⟩
                    · rw [hb101]
                      refine ev_gos pp_Mo_look 2 (S' := (169, [some (.ref 198), some (.int l1), some (.int l2), some (.int (v 199 l2.toNatClampNeg)), some (.int (0 : Int32)), some (.int q96)], [.int ((0 : Int32) + (0 : Int32)), .int l1, .ref 212], (223, kc, ks, pd_H g v))) rfl ?_
                      obtain ⟨hc102, h⟩ := pd_chk h
                      refine ev_iast pp_Mo_look rfl (fun _ => rfl) hc102 ?_
                      refine ev_gos pp_Mo_look 7 (S' := (4, [some (.ref 198), some (.int (l1 + (1 : Int32))), some (.int (q96 + (1 : Int32))), some (.int (v 199 l2.toNatClampNeg)), some (.int (0 : Int32)), some (.int q96)], [], (223, kc, ks, pd_H g (pd_w v 212 l1.toNatClampNeg ((0 : Int32) + (0 : Int32)))))) rfl ?_
                      exact ih _ _ _ _ _ _ _  h
                    · rw [hb101]
                      refine ev_gos pp_Mo_look 3 (S' := (169, [some (.ref 198), some (.int l1), some (.int l2), some (.int (v 199 l2.toNatClampNeg)), some (.int (0 : Int32)), some (.int q96)], [.int ((0 : Int32) + (2 : Int32)), .int l1, .ref 212], (223, kc, ks, pd_H g v))) rfl ?_
                      obtain ⟨hc103, h⟩ := pd_chk h
                      refine ev_iast pp_Mo_look rfl (fun _ => rfl) hc103 ?_
                      refine ev_gos pp_Mo_look 7 (S' := (4, [some (.ref 198), some (.int (l1 + (1 : Int32))), some (.int (q96 + (1 : Int32))), some (.int (v 199 l2.toNatClampNeg)), some (.int (0 : Int32)), some (.int q96)], [], (223, kc, ks, pd_H g (pd_w v 212 l1.toNatClampNeg ((0 : Int32) + (2 : Int32)))))) rfl ?_
                      exact ih _ _ _ _ _ _ _  h
                · rw [hb97]
                  refine ev_gos pp_Mo_look 3 (S' := (148, [some (.ref 198), some (.int l1), some (.int l2), some (.int (v 199 l2.toNatClampNeg)), some (.int (0 : Int32)), some (.int q96)], [.int (0 : Int32), .int (1 : Int32), .int l1, .ref 212], (223, kc, ks, pd_H g v))) rfl ?_
                  refine ev_gos pp_Mo_look 1 (S' := (bif !(decide ((0 : Int32) = 0)) then 163 else 151, [some (.ref 198), some (.int l1), some (.int l2), some (.int (v 199 l2.toNatClampNeg)), some (.int (0 : Int32)), some (.int q96)], [.int (1 : Int32), .int l1, .ref 212], (223, kc, ks, pd_H g v))) rfl ?_
                  rcases pd_cases h with ⟨hb104, h⟩ | ⟨hb104, h⟩
                  · rw [hb104]
                    refine ev_gos pp_Mo_look 3 (S' := (169, [some (.ref 198), some (.int l1), some (.int l2), some (.int (v 199 l2.toNatClampNeg)), some (.int (0 : Int32)), some (.int q96)], [.int ((1 : Int32) + (2 : Int32)), .int l1, .ref 212], (223, kc, ks, pd_H g v))) rfl ?_
                    obtain ⟨hc105, h⟩ := pd_chk h
                    refine ev_iast pp_Mo_look rfl (fun _ => rfl) hc105 ?_
                    refine ev_gos pp_Mo_look 7 (S' := (4, [some (.ref 198), some (.int (l1 + (1 : Int32))), some (.int (q96 + (1 : Int32))), some (.int (v 199 l2.toNatClampNeg)), some (.int (0 : Int32)), some (.int q96)], [], (223, kc, ks, pd_H g (pd_w v 212 l1.toNatClampNeg ((1 : Int32) + (2 : Int32)))))) rfl ?_
                    exact ih _ _ _ _ _ _ _  h
                  · rw [hb104]
                    refine ev_gos pp_Mo_look 5 (S' := (157, [some (.ref 198), some (.int l1), some (.int l2), some (.int (v 199 l2.toNatClampNeg)), some (.int (0 : Int32)), some (.int q96)], [.int q96, .int (l2 + (1 : Int32)), .ref 198, .int (1 : Int32), .int l1, .ref 212], (223, kc, ks, pd_H g v))) rfl ?_
                    obtain ⟨q106, hq106, h⟩ := pd_bind h
                    refine ev_callv pp_Mo_look rfl rfl rfl rfl (s_Mo_isVarying hq106) ?_
                    refine ev_gos pp_Mo_look 0 (S' := (160, [some (.ref 198), some (.int l1), some (.int l2), some (.int (v 199 l2.toNatClampNeg)), some (.int (0 : Int32)), some (.int q96)], [.int q106, .int (1 : Int32), .int l1, .ref 212], (223, kc, ks, pd_H g v))) rfl ?_
                    refine ev_gos pp_Mo_look 1 (S' := (bif decide (q106 = 0) then 167 else 163, [some (.ref 198), some (.int l1), some (.int l2), some (.int (v 199 l2.toNatClampNeg)), some (.int (0 : Int32)), some (.int q96)], [.int (1 : Int32), .int l1, .ref 212], (223, kc, ks, pd_H g v))) rfl ?_
                    rcases pd_cases h with ⟨hb107, h⟩ | ⟨hb107, h⟩
                    · rw [hb107]
                      refine ev_gos pp_Mo_look 2 (S' := (169, [some (.ref 198), some (.int l1), some (.int l2), some (.int (v 199 l2.toNatClampNeg)), some (.int (0 : Int32)), some (.int q96)], [.int ((1 : Int32) + (0 : Int32)), .int l1, .ref 212], (223, kc, ks, pd_H g v))) rfl ?_
                      obtain ⟨hc108, h⟩ := pd_chk h
                      refine ev_iast pp_Mo_look rfl (fun _ => rfl) hc108 ?_
                      refine ev_gos pp_Mo_look 7 (S' := (4, [some (.ref 198), some (.int (l1 + (1 : Int32))), some (.int (q96 + (1 : Int32))), some (.int (v 199 l2.toNatClampNeg)), some (.int (0 : Int32)), some (.int q96)], [], (223, kc, ks, pd_H g (pd_w v 212 l1.toNatClampNeg ((1 : Int32) + (0 : Int32)))))) rfl ?_
                      exact ih _ _ _ _ _ _ _  h
                    · rw [hb107]
                      refine ev_gos pp_Mo_look 3 (S' := (169, [some (.ref 198), some (.int l1), some (.int l2), some (.int (v 199 l2.toNatClampNeg)), some (.int (0 : Int32)), some (.int q96)], [.int ((1 : Int32) + (2 : Int32)), .int l1, .ref 212], (223, kc, ks, pd_H g v))) rfl ?_
                      obtain ⟨hc109, h⟩ := pd_chk h
                      refine ev_iast pp_Mo_look rfl (fun _ => rfl) hc109 ?_
                      refine ev_gos pp_Mo_look 7 (S' := (4, [some (.ref 198), some (.int (l1 + (1 : Int32))), some (.int (q96 + (1 : Int32))), some (.int (v 199 l2.toNatClampNeg)), some (.int (0 : Int32)), some (.int q96)], [], (223, kc, ks, pd_H g (pd_w v 212 l1.toNatClampNeg ((1 : Int32) + (2 : Int32)))))) rfl ?_
                      exact ih _ _ _ _ _ _ _  h
          · rw [hb62]
            refine ev_gos pp_Mo_look 5 (S' := (59, [some (.ref 198), some (.int (l1 + (-1 : Int32))), some (.int (l2 + (1 : Int32))), some (.int (v 199 l2.toNatClampNeg)), some (.int (0 : Int32)), y5], [.int (v 198 2), .int (l2 + (1 : Int32))], (223, kc, ks, pd_H g v))) rfl ?_
            refine ev_gos pp_Mo_look 1 (S' := (bif decide ((v 198 2) ≤ (l2 + (1 : Int32))) then 297 else 62, [some (.ref 198), some (.int (l1 + (-1 : Int32))), some (.int (l2 + (1 : Int32))), some (.int (v 199 l2.toNatClampNeg)), some (.int (0 : Int32)), y5], [], (223, kc, ks, pd_H g v))) rfl ?_
            rcases pd_cases h with ⟨hb110, h⟩ | ⟨hb110, h⟩
            · rw [hb110]
              refine ev_gos pp_Mo_look 1 (S' := (4, [some (.ref 198), some (.int (l1 + (-1 : Int32))), some (.int (l2 + (1 : Int32))), some (.int (v 199 l2.toNatClampNeg)), some (.int (0 : Int32)), y5], [], (223, kc, ks, pd_H g v))) rfl ?_
              exact ih _ _ _ _ _ _ _  h
            · rw [hb110]
              refine ev_gos pp_Mo_look 3 (S' := (67, [some (.ref 198), some (.int (l1 + (-1 : Int32))), some (.int (l2 + (1 : Int32))), some (.int (v 199 l2.toNatClampNeg)), some (.int (0 : Int32)), y5], [.int (l2 + (1 : Int32)), .ref 199], (223, kc, ks, pd_H g v))) rfl ?_
              obtain ⟨hc111, h⟩ := pd_chk h
              refine ev_iald pp_Mo_look rfl (fun _ => rfl) hc111 ?_
              refine ev_gos pp_Mo_look 1 (S' := (70, [some (.ref 198), some (.int (l1 + (-1 : Int32))), some (.int (l2 + (1 : Int32))), some (.int (v 199 l2.toNatClampNeg)), some (.int (0 : Int32)), y5], [.int (123 : Int32), .int (v 199 ((l2 + (1 : Int32)).toNatClampNeg))], (223, kc, ks, pd_H g v))) rfl ?_
              refine ev_gos pp_Mo_look 1 (S' := (bif !(decide ((v 199 ((l2 + (1 : Int32)).toNatClampNeg)) = (123 : Int32))) then 297 else 73, [some (.ref 198), some (.int (l1 + (-1 : Int32))), some (.int (l2 + (1 : Int32))), some (.int (v 199 l2.toNatClampNeg)), some (.int (0 : Int32)), y5], [], (223, kc, ks, pd_H g v))) rfl ?_
              rcases pd_cases h with ⟨hb112, h⟩ | ⟨hb112, h⟩
              · rw [hb112]
                refine ev_gos pp_Mo_look 1 (S' := (4, [some (.ref 198), some (.int (l1 + (-1 : Int32))), some (.int (l2 + (1 : Int32))), some (.int (v 199 l2.toNatClampNeg)), some (.int (0 : Int32)), y5], [], (223, kc, ks, pd_H g v))) rfl ?_
                exact ih _ _ _ _ _ _ _  h
              · rw [hb112]
                refine ev_gos pp_Mo_look 3 (S' := (78, [some (.ref 198), some (.int (l1 + (-1 : Int32))), some (.int (l2 + (1 : Int32))), some (.int (v 199 l2.toNatClampNeg)), some (.int (0 : Int32)), y5], [.int (l1 + (-1 : Int32)), .ref 212], (223, kc, ks, pd_H g v))) rfl ?_
                obtain ⟨hc113, h⟩ := pd_chk h
                refine ev_iald pp_Mo_look rfl (fun _ => rfl) hc113 ?_
                refine ev_gos pp_Mo_look 1 (S' := (80, [some (.ref 198), some (.int (l1 + (-1 : Int32))), some (.int (l2 + (1 : Int32))), some (.int (v 199 l2.toNatClampNeg)), some (.int (0 : Int32)), y5], [.int (2 : Int32), .int (v 212 ((l1 + (-1 : Int32)).toNatClampNeg))], (223, kc, ks, pd_H g v))) rfl ?_
                obtain ⟨hc114, h⟩ := pd_chk h
                refine ev_irem pp_Mo_look rfl hc114 ?_
                refine ev_gos pp_Mo_look 1 (S' := (82, [some (.ref 198), some (.int (l1 + (-1 : Int32))), some (.int (l2 + (1 : Int32))), some (.int (v 199 l2.toNatClampNeg)), some (.int (0 : Int32)), y5], [.int (1 : Int32), .int ((v 212 ((l1 + (-1 : Int32)).toNatClampNeg)) - (v 212 ((l1 + (-1 : Int32)).toNatClampNeg)) / (2 : Int32) * (2 : Int32))], (223, kc, ks, pd_H g v))) rfl ?_
                refine ev_gos pp_Mo_look 1 (S' := (bif !(decide (((v 212 ((l1 + (-1 : Int32)).toNatClampNeg)) - (v 212 ((l1 + (-1 : Int32)).toNatClampNeg)) / (2 : Int32) * (2 : Int32)) = (1 : Int32))) then 297 else 85, [some (.ref 198), some (.int (l1 + (-1 : Int32))), some (.int (l2 + (1 : Int32))), some (.int (v 199 l2.toNatClampNeg)), some (.int (0 : Int32)), y5], [], (223, kc, ks, pd_H g v))) rfl ?_
                rcases pd_cases h with ⟨hb115, h⟩ | ⟨hb115, h⟩
                · rw [hb115]
                  refine ev_gos pp_Mo_look 1 (S' := (4, [some (.ref 198), some (.int (l1 + (-1 : Int32))), some (.int (l2 + (1 : Int32))), some (.int (v 199 l2.toNatClampNeg)), some (.int (0 : Int32)), y5], [], (223, kc, ks, pd_H g v))) rfl ?_
                  exact ih _ _ _ _ _ _ _  h
                · rw [hb115]
                  refine ev_gos pp_Mo_look 4 (S' := (91, [some (.ref 198), some (.int (l1 + (-1 : Int32))), some (.int (l2 + (1 : Int32))), some (.int (v 199 l2.toNatClampNeg)), some (.int (0 : Int32)), y5], [.int (l1 + (-1 : Int32)), .ref 212, .int (l1 + (-1 : Int32)), .ref 212], (223, kc, ks, pd_H g v))) rfl ?_
                  obtain ⟨hc116, h⟩ := pd_chk h
                  refine ev_iald pp_Mo_look rfl (fun _ => rfl) hc116 ?_
                  refine ev_gos pp_Mo_look 2 (S' := (94, [some (.ref 198), some (.int (l1 + (-1 : Int32))), some (.int (l2 + (1 : Int32))), some (.int (v 199 l2.toNatClampNeg)), some (.int (0 : Int32)), y5], [.int ((v 212 ((l1 + (-1 : Int32)).toNatClampNeg)) - (1 : Int32)), .int (l1 + (-1 : Int32)), .ref 212], (223, kc, ks, pd_H g v))) rfl ?_
                  obtain ⟨hc117, h⟩ := pd_chk h
                  refine ev_iast pp_Mo_look rfl (fun _ => rfl) hc117 ?_
                  refine ev_gos pp_Mo_look 4 (S' := (4, [some (.ref 198), some (.int ((l1 + (-1 : Int32)) + (1 : Int32))), some (.int ((l2 + (1 : Int32)) + (1 : Int32))), some (.int (v 199 l2.toNatClampNeg)), some (.int (0 : Int32)), y5], [], (223, kc, ks, pd_H g (pd_w v 212 ((l1 + (-1 : Int32)).toNatClampNeg) ((v 212 ((l1 + (-1 : Int32)).toNatClampNeg)) - (1 : Int32)))))) rfl ?_
                  exact ih _ _ _ _ _ _ _  h
        · rw [hb61]
          refine ev_gos pp_Mo_look 5 (S' := (45, [some (.ref 198), some (.int l1), some (.int l2), some (.int (v 199 l2.toNatClampNeg)), some (.int (1 : Int32)), y5], [.int (125 : Int32), .int (v 199 l2.toNatClampNeg)], (223, kc, ks, pd_H g v))) rfl ?_
          refine ev_gos pp_Mo_look 1 (S' := (bif !(decide ((v 199 l2.toNatClampNeg) = (125 : Int32))) then 104 else 48, [some (.ref 198), some (.int l1), some (.int l2), some (.int (v 199 l2.toNatClampNeg)), some (.int (1 : Int32)), y5], [], (223, kc, ks, pd_H g v))) rfl ?_
          rcases pd_cases h with ⟨hb118, h⟩ | ⟨hb118, h⟩
          · rw [hb118]
            refine ev_gos pp_Mo_look 2 (S' := (107, [some (.ref 198), some (.int l1), some (.int l2), some (.int (v 199 l2.toNatClampNeg)), some (.int (1 : Int32)), y5], [.int (63 : Int32), .int (v 199 l2.toNatClampNeg)], (223, kc, ks, pd_H g v))) rfl ?_
            refine ev_gos pp_Mo_look 1 (S' := (bif decide ((v 199 l2.toNatClampNeg) = (63 : Int32)) then 116 else 110, [some (.ref 198), some (.int l1), some (.int l2), some (.int (v 199 l2.toNatClampNeg)), some (.int (1 : Int32)), y5], [], (223, kc, ks, pd_H g v))) rfl ?_
            rcases pd_cases h with ⟨hb119, h⟩ | ⟨hb119, h⟩
            · rw [hb119]
              refine ev_gos pp_Mo_look 5 (S' := (125, [some (.ref 198), some (.int l1), some (.int l2), some (.int (v 199 l2.toNatClampNeg)), some (.int (1 : Int32)), y5], [.int (123 : Int32), .int (123 : Int32), .int l2, .ref 199], (223, kc, ks, pd_H g v))) rfl ?_
              obtain ⟨q120, hq120, h⟩ := pd_bind h
              refine ev_call pp_Mo_look rfl rfl rfl (s_Mo_upTo (fun _ => rfl) hq120) ?_
              refine ev_gos pp_Mo_look 6 (S' := (138, [some (.ref 198), some (.int l1), some (.int l2), some (.int (v 199 l2.toNatClampNeg)), some (.int (1 : Int32)), some (.int q120)], [.int (63 : Int32), .int (v 199 l2.toNatClampNeg), .int l1, .ref 212], (223, kc, ks, pd_H g v))) rfl ?_
              refine ev_gos pp_Mo_look 1 (S' := (bif !(decide ((v 199 l2.toNatClampNeg) = (63 : Int32))) then 145 else 141, [some (.ref 198), some (.int l1), some (.int l2), some (.int (v 199 l2.toNatClampNeg)), some (.int (1 : Int32)), some (.int q120)], [.int l1, .ref 212], (223, kc, ks, pd_H g v))) rfl ?_
              rcases pd_cases h with ⟨hb121, h⟩ | ⟨hb121, h⟩
              · rw [hb121]
                refine ev_gos pp_Mo_look 2 (S' := (148, [some (.ref 198), some (.int l1), some (.int l2), some (.int (v 199 l2.toNatClampNeg)), some (.int (1 : Int32)), some (.int q120)], [.int (1 : Int32), .int (0 : Int32), .int l1, .ref 212], (223, kc, ks, pd_H g v))) rfl ?_
                refine ev_gos pp_Mo_look 1 (S' := (bif !(decide ((1 : Int32) = 0)) then 163 else 151, [some (.ref 198), some (.int l1), some (.int l2), some (.int (v 199 l2.toNatClampNeg)), some (.int (1 : Int32)), some (.int q120)], [.int (0 : Int32), .int l1, .ref 212], (223, kc, ks, pd_H g v))) rfl ?_
                rcases pd_cases h with ⟨hb122, h⟩ | ⟨hb122, h⟩
                · rw [hb122]
                  refine ev_gos pp_Mo_look 3 (S' := (169, [some (.ref 198), some (.int l1), some (.int l2), some (.int (v 199 l2.toNatClampNeg)), some (.int (1 : Int32)), some (.int q120)], [.int ((0 : Int32) + (2 : Int32)), .int l1, .ref 212], (223, kc, ks, pd_H g v))) rfl ?_
                  obtain ⟨hc123, h⟩ := pd_chk h
                  refine ev_iast pp_Mo_look rfl (fun _ => rfl) hc123 ?_
                  refine ev_gos pp_Mo_look 7 (S' := (4, [some (.ref 198), some (.int (l1 + (1 : Int32))), some (.int (q120 + (1 : Int32))), some (.int (v 199 l2.toNatClampNeg)), some (.int (1 : Int32)), some (.int q120)], [], (223, kc, ks, pd_H g (pd_w v 212 l1.toNatClampNeg ((0 : Int32) + (2 : Int32)))))) rfl ?_
                  exact ih _ _ _ _ _ _ _  h
                · rw [hb122]
                  refine ev_gos pp_Mo_look 5 (S' := (157, [some (.ref 198), some (.int l1), some (.int l2), some (.int (v 199 l2.toNatClampNeg)), some (.int (1 : Int32)), some (.int q120)], [.int q120, .int (l2 + (1 : Int32)), .ref 198, .int (0 : Int32), .int l1, .ref 212], (223, kc, ks, pd_H g v))) rfl ?_
                  obtain ⟨q124, hq124, h⟩ := pd_bind h
                  refine ev_callv pp_Mo_look rfl rfl rfl rfl (s_Mo_isVarying hq124) ?_
                  refine ev_gos pp_Mo_look 0 (S' := (160, [some (.ref 198), some (.int l1), some (.int l2), some (.int (v 199 l2.toNatClampNeg)), some (.int (1 : Int32)), some (.int q120)], [.int q124, .int (0 : Int32), .int l1, .ref 212], (223, kc, ks, pd_H g v))) rfl ?_
                  refine ev_gos pp_Mo_look 1 (S' := (bif decide (q124 = 0) then 167 else 163, [some (.ref 198), some (.int l1), some (.int l2), some (.int (v 199 l2.toNatClampNeg)), some (.int (1 : Int32)), some (.int q120)], [.int (0 : Int32), .int l1, .ref 212], (223, kc, ks, pd_H g v))) rfl ?_
                  rcases pd_cases h with ⟨hb125, h⟩ | ⟨hb125, h⟩
                  · rw [hb125]
                    refine ev_gos pp_Mo_look 2 (S' := (169, [some (.ref 198), some (.int l1), some (.int l2), some (.int (v 199 l2.toNatClampNeg)), some (.int (1 : Int32)), some (.int q120)], [.int ((0 : Int32) + (0 : Int32)), .int l1, .ref 212], (223, kc, ks, pd_H g v))) rfl ?_
                    obtain ⟨hc126, h⟩ := pd_chk h
                    refine ev_iast pp_Mo_look rfl (fun _ => rfl) hc126 ?_
                    refine ev_gos pp_Mo_look 7 (S' := (4, [some (.ref 198), some (.int (l1 + (1 : Int32))), some (.int (q120 + (1 : Int32))), some (.int (v 199 l2.toNatClampNeg)), some (.int (1 : Int32)), some (.int q120)], [], (223, kc, ks, pd_H g (pd_w v 212 l1.toNatClampNeg ((0 : Int32) + (0 : Int32)))))) rfl ?_
                    exact ih _ _ _ _ _ _ _  h
                  · rw [hb125]
                    refine ev_gos pp_Mo_look 3 (S' := (169, [some (.ref 198), some (.int l1), some (.int l2), some (.int (v 199 l2.toNatClampNeg)), some (.int (1 : Int32)), some (.int q120)], [.int ((0 : Int32) + (2 : Int32)), .int l1, .ref 212], (223, kc, ks, pd_H g v))) rfl ?_
                    obtain ⟨hc127, h⟩ := pd_chk h
                    refine ev_iast pp_Mo_look rfl (fun _ => rfl) hc127 ?_
                    refine ev_gos pp_Mo_look 7 (S' := (4, [some (.ref 198), some (.int (l1 + (1 : Int32))), some (.int (q120 + (1 : Int32))), some (.int (v 199 l2.toNatClampNeg)), some (.int (1 : Int32)), some (.int q120)], [], (223, kc, ks, pd_H g (pd_w v 212 l1.toNatClampNeg ((0 : Int32) + (2 : Int32)))))) rfl ?_
                    exact ih _ _ _ _ _ _ _  h
              · rw [hb121]
                refine ev_gos pp_Mo_look 3 (S' := (148, [some (.ref 198), some (.int l1), some (.int l2), some (.int (v 199 l2.toNatClampNeg)), some (.int (1 : Int32)), some (.int q120)], [.int (1 : Int32), .int (1 : Int32), .int l1, .ref 212], (223, kc, ks, pd_H g v))) rfl ?_
                refine ev_gos pp_Mo_look 1 (S' := (bif !(decide ((1 : Int32) = 0)) then 163 else 151, [some (.ref 198), some (.int l1), some (.int l2), some (.int (v 199 l2.toNatClampNeg)), some (.int (1 : Int32)), some (.int q120)], [.int (1 : Int32), .int l1, .ref 212], (223, kc, ks, pd_H g v))) rfl ?_
                rcases pd_cases h with ⟨hb128, h⟩ | ⟨hb128, h⟩
                · rw [hb128]
                  refine ev_gos pp_Mo_look 3 (S' := (169, [some (.ref 198), some (.int l1), some (.int l2), some (.int (v 199 l2.toNatClampNeg)), some (.int (1 : Int32)), some (.int q120)], [.int ((1 : Int32) + (2 : Int32)), .int l1, .ref 212], (223, kc, ks, pd_H g v))) rfl ?_
                  obtain ⟨hc129, h⟩ := pd_chk h
                  refine ev_iast pp_Mo_look rfl (fun _ => rfl) hc129 ?_
                  refine ev_gos pp_Mo_look 7 (S' := (4, [some (.ref 198), some (.int (l1 + (1 : Int32))), some (.int (q120 + (1 : Int32))), some (.int (v 199 l2.toNatClampNeg)), some (.int (1 : Int32)), some (.int q120)], [], (223, kc, ks, pd_H g (pd_w v 212 l1.toNatClampNeg ((1 : Int32) + (2 : Int32)))))) rfl ?_
                  exact ih _ _ _ _ _ _ _  h
                · rw [hb128]
                  refine ev_gos pp_Mo_look 5 (S' := (157, [some (.ref 198), some (.int l1), some (.int l2), some (.int (v 199 l2.toNatClampNeg)), some (.int (1 : Int32)), some (.int q120)], [.int q120, .int (l2 + (1 : Int32)), .ref 198, .int (1 : Int32), .int l1, .ref 212], (223, kc, ks, pd_H g v))) rfl ?_
                  obtain ⟨q130, hq130, h⟩ := pd_bind h
                  refine ev_callv pp_Mo_look rfl rfl rfl rfl (s_Mo_isVarying hq130) ?_
                  refine ev_gos pp_Mo_look 0 (S' := (160, [some (.ref 198), some (.int l1), some (.int l2), some (.int (v 199 l2.toNatClampNeg)), some (.int (1 : Int32)), some (.int q120)], [.int q130, .int (1 : Int32), .int l1, .ref 212], (223, kc, ks, pd_H g v))) rfl ?_
                  refine ev_gos pp_Mo_look 1 (S' := (bif decide (q130 = 0) then 167 else 163, [some (.ref 198), some (.int l1), some (.int l2), some (.int (v 199 l2.toNatClampNeg)), some (.int (1 : Int32)), some (.int q120)], [.int (1 : Int32), .int l1, .ref 212], (223, kc, ks, pd_H g v))) rfl ?_
                  rcases pd_cases h with ⟨hb131, h⟩ | ⟨hb131, h⟩
                  · rw [hb131]
                    refine ev_gos pp_Mo_look 2 (S' := (169, [some (.ref 198), some (.int l1), some (.int l2), some (.int (v 199 l2.toNatClampNeg)), some (.int (1 : Int32)), some (.int q120)], [.int ((1 : Int32) + (0 : Int32)), .int l1, .ref 212], (223, kc, ks, pd_H g v))) rfl ?_
                    obtain ⟨hc132, h⟩ := pd_chk h
                    refine ev_iast pp_Mo_look rfl (fun _ => rfl) hc132 ?_
                    refine ev_gos pp_Mo_look 7 (S' := (4, [some (.ref 198), some (.int (l1 + (1 : Int32))), some (.int (q120 + (1 : Int32))), some (.int (v 199 l2.toNatClampNeg)), some (.int (1 : Int32)), some (.int q120)], [], (223, kc, ks, pd_H g (pd_w v 212 l1.toNatClampNeg ((1 : Int32) + (0 : Int32)))))) rfl ?_
                    exact ih _ _ _ _ _ _ _  h
                  · rw [hb131]
                    refine ev_gos pp_Mo_look 3 (S' := (169, [some (.ref 198), some (.int l1), some (.int l2), some (.int (v 199 l2.toNatClampNeg)), some (.int (1 : Int32)), some (.int q120)], [.int ((1 : Int32) + (2 : Int32)), .int l1, .ref 212], (223, kc, ks, pd_H g v))) rfl ?_
                    obtain ⟨hc133, h⟩ := pd_chk h
                    refine ev_iast pp_Mo_look rfl (fun _ => rfl) hc133 ?_
                    refine ev_gos pp_Mo_look 7 (S' := (4, [some (.ref 198), some (.int (l1 + (1 : Int32))), some (.int (q120 + (1 : Int32))), some (.int (v 199 l2.toNatClampNeg)), some (.int (1 : Int32)), some (.int q120)], [], (223, kc, ks, pd_H g (pd_w v 212 l1.toNatClampNeg ((1 : Int32) + (2 : Int32)))))) rfl ?_
                    exact ih _ _ _ _ _ _ _  h
            · rw [hb119]
              refine ev_gos pp_Mo_look 2 (S' := (113, [some (.ref 198), some (.int l1), some (.int l2), some (.int (v 199 l2.toNatClampNeg)), some (.int (1 : Int32)), y5], [.int (42 : Int32), .int (v 199 l2.toNatClampNeg)], (223, kc, ks, pd_H g v))) rfl ?_
              refine ev_gos pp_Mo_look 1 (S' := (bif !(decide ((v 199 l2.toNatClampNeg) = (42 : Int32))) then 181 else 116, [some (.ref 198), some (.int l1), some (.int l2), some (.int (v 199 l2.toNatClampNeg)), some (.int (1 : Int32)), y5], [], (223, kc, ks, pd_H g v))) rfl ?_
              rcases pd_cases h with ⟨hb134, h⟩ | ⟨hb134, h⟩
              · rw [hb134]
                refine ev_gos pp_Mo_look 5 (S' := (190, [some (.ref 198), some (.int l1), some (.int l2), some (.int (v 199 l2.toNatClampNeg)), some (.int (1 : Int32)), y5], [.int (59 : Int32), .int (59 : Int32), .int l2, .ref 199], (223, kc, ks, pd_H g v))) rfl ?_
                obtain ⟨q135, hq135, h⟩ := pd_bind h
                refine ev_call pp_Mo_look rfl rfl rfl (s_Mo_upTo (fun _ => rfl) hq135) ?_
                refine ev_gos pp_Mo_look 3 (S' := (198, [some (.ref 198), some (.int l1), some (.int l2), some (.int (v 199 l2.toNatClampNeg)), some (.int (1 : Int32)), some (.int q135)], [.int (88 : Int32), .int (v 199 l2.toNatClampNeg)], (223, kc, ks, pd_H g v))) rfl ?_
                refine ev_gos pp_Mo_look 1 (S' := (bif !(decide ((v 199 l2.toNatClampNeg) = (88 : Int32))) then 238 else 201, [some (.ref 198), some (.int l1), some (.int l2), some (.int (v 199 l2.toNatClampNeg)), some (.int (1 : Int32)), some (.int q135)], [], (223, kc, ks, pd_H g v))) rfl ?_
                rcases pd_cases h with ⟨hb136, h⟩ | ⟨hb136, h⟩
                · rw [hb136]
                  refine ev_gos pp_Mo_look 3 (S' := (243, [some (.ref 198), some (.int l1), some (.int l2), some (.int (v 199 l2.toNatClampNeg)), some (.int (1 : Int32)), some (.int q135)], [.int (104 : Int32), .int (97 : Int32), .int (v 199 l2.toNatClampNeg)], (223, kc, ks, pd_H g v))) rfl ?_
                  refine ev_call pp_Mo_look rfl rfl rfl (s_Mo_beyond) ?_
                  refine ev_gos pp_Mo_look 0 (S' := (246, [some (.ref 198), some (.int l1), some (.int l2), some (.int (v 199 l2.toNatClampNeg)), some (.int (1 : Int32)), some (.int q135)], [.int (d_Mo_beyond (v 199 l2.toNatClampNeg) (97 : Int32) (104 : Int32))], (223, kc, ks, pd_H g v))) rfl ?_
                  refine ev_gos pp_Mo_look 1 (S' := (bif !(decide ((d_Mo_beyond (v 199 l2.toNatClampNeg) (97 : Int32) (104 : Int32)) = 0)) then 292 else 249, [some (.ref 198), some (.int l1), some (.int l2), some (.int (v 199 l2.toNatClampNeg)), some (.int (1 : Int32)), some (.int q135)], [], (223, kc, ks, pd_H g v))) rfl ?_
                  rcases pd_cases h with ⟨hb138, h⟩ | ⟨hb138, h⟩
                  · rw [hb138]
                    refine ev_gos pp_Mo_look 5 (S' := (4, [some (.ref 198), some (.int l1), some (.int (q135 + (1 : Int32))), some (.int (v 199 l2.toNatClampNeg)), some (.int (1 : Int32)), some (.int q135)], [], (223, kc, ks, pd_H g v))) rfl ?_
                    exact ih _ _ _ _ _ _ _  h
                  · rw [hb138]
                    refine ev_gos pp_Mo_look 10 (S' := (265, [some (.ref 198), some (.int l1), some (.int l2), some (.int (v 199 l2.toNatClampNeg)), some (.int (1 : Int32)), some (.int q135)], [.int ((v 199 l2.toNatClampNeg) - (97 : Int32)), .ref 201, .int ((v 199 l2.toNatClampNeg) - (97 : Int32)), .ref 201], (223, kc, ks, pd_H g v))) rfl ?_
                    obtain ⟨hc139, h⟩ := pd_chk h
                    refine ev_zald pp_Mo_look rfl (fun _ => rfl) hc139 ?_
                    refine ev_gos pp_Mo_look 0 (S' := (266, [some (.ref 198), some (.int l1), some (.int l2), some (.int (v 199 l2.toNatClampNeg)), some (.int (1 : Int32)), some (.int q135)], [.int (v 201 (((v 199 l2.toNatClampNeg) - (97 : Int32)).toNatClampNeg)), .int ((v 199 l2.toNatClampNeg) - (97 : Int32)), .ref 201], (223, kc, ks, pd_H g v))) rfl ?_
                    refine ev_gos pp_Mo_look 1 (S' := (bif !(decide ((v 201 (((v 199 l2.toNatClampNeg) - (97 : Int32)).toNatClampNeg)) = 0)) then 286 else 269, [some (.ref 198), some (.int l1), some (.int l2), some (.int (v 199 l2.toNatClampNeg)), some (.int (1 : Int32)), some (.int q135)], [.int ((v 199 l2.toNatClampNeg) - (97 : Int32)), .ref 201], (223, kc, ks, pd_H g v))) rfl ?_
                    rcases pd_cases h with ⟨hb140, h⟩ | ⟨hb140, h⟩
                    · rw [hb140]
                      refine ev_gos pp_Mo_look 2 (S' := (291, [some (.ref 198), some (.int l1), some (.int l2), some (.int (v 199 l2.toNatClampNeg)), some (.int (1 : Int32)), some (.int q135)], [.int (1 : Int32), .int ((v 199 l2.toNatClampNeg) - (97 : Int32)), .ref 201], (223, kc, ks, pd_H g v))) rfl ?_
                      obtain ⟨hc141, h⟩ := pd_chk h
                      refine ev_zast pp_Mo_look rfl (fun _ => rfl) hc141 pd_b1 ?_
                      refine ev_gos pp_Mo_look 5 (S' := (4, [some (.ref 198), some (.int l1), some (.int (q135 + (1 : Int32))), some (.int (v 199 l2.toNatClampNeg)), some (.int (1 : Int32)), some (.int q135)], [], (223, kc, ks, pd_H g (pd_w v 201 (((v 199 l2.toNatClampNeg) - (97 : Int32)).toNatClampNeg) (1 : Int32))))) rfl ?_
                      exact ih _ _ _ _ _ _ _  h
                    · rw [hb140]
                      refine ev_gos pp_Mo_look 1 (S' := (271, [some (.ref 198), some (.int l1), some (.int l2), some (.int (v 199 l2.toNatClampNeg)), some (.int (1 : Int32)), some (.int q135)], [.int (1 : Int32), .int ((v 199 l2.toNatClampNeg) - (97 : Int32)), .ref 201], (223, kc, ks, pd_H g v))) rfl ?_
                      refine ev_gos pp_Mo_look 1 (S' := (bif !(decide ((1 : Int32) = 0)) then 286 else 274, [some (.ref 198), some (.int l1), some (.int l2), some (.int (v 199 l2.toNatClampNeg)), some (.int (1 : Int32)), some (.int q135)], [.int ((v 199 l2.toNatClampNeg) - (97 : Int32)), .ref 201], (223, kc, ks, pd_H g v))) rfl ?_
                      rcases pd_cases h with ⟨hb142, h⟩ | ⟨hb142, h⟩
                      · rw [hb142]
                        refine ev_gos pp_Mo_look 2 (S' := (291, [some (.ref 198), some (.int l1), some (.int l2), some (.int (v 199 l2.toNatClampNeg)), some (.int (1 : Int32)), some (.int q135)], [.int (1 : Int32), .int ((v 199 l2.toNatClampNeg) - (97 : Int32)), .ref 201], (223, kc, ks, pd_H g v))) rfl ?_
                        obtain ⟨hc143, h⟩ := pd_chk h
                        refine ev_zast pp_Mo_look rfl (fun _ => rfl) hc143 pd_b1 ?_
                        refine ev_gos pp_Mo_look 5 (S' := (4, [some (.ref 198), some (.int l1), some (.int (q135 + (1 : Int32))), some (.int (v 199 l2.toNatClampNeg)), some (.int (1 : Int32)), some (.int q135)], [], (223, kc, ks, pd_H g (pd_w v 201 (((v 199 l2.toNatClampNeg) - (97 : Int32)).toNatClampNeg) (1 : Int32))))) rfl ?_
                        exact ih _ _ _ _ _ _ _  h
                      · rw [hb142]
                        refine ev_gos pp_Mo_look 5 (S' := (280, [some (.ref 198), some (.int l1), some (.int l2), some (.int (v 199 l2.toNatClampNeg)), some (.int (1 : Int32)), some (.int q135)], [.int q135, .int (l2 + (2 : Int32)), .ref 198, .int ((v 199 l2.toNatClampNeg) - (97 : Int32)), .ref 201], (223, kc, ks, pd_H g v))) rfl ?_
                        obtain ⟨q144, hq144, h⟩ := pd_bind h
                        refine ev_callv pp_Mo_look rfl rfl rfl rfl (s_Mo_isVarying hq144) ?_
                        refine ev_gos pp_Mo_look 0 (S' := (283, [some (.ref 198), some (.int l1), some (.int l2), some (.int (v 199 l2.toNatClampNeg)), some (.int (1 : Int32)), some (.int q135)], [.int q144, .int ((v 199 l2.toNatClampNeg) - (97 : Int32)), .ref 201], (223, kc, ks, pd_H g v))) rfl ?_
                        refine ev_gos pp_Mo_look 1 (S' := (bif decide (q144 = 0) then 290 else 286, [some (.ref 198), some (.int l1), some (.int l2), some (.int (v 199 l2.toNatClampNeg)), some (.int (1 : Int32)), some (.int q135)], [.int ((v 199 l2.toNatClampNeg) - (97 : Int32)), .ref 201], (223, kc, ks, pd_H g v))) rfl ?_
                        rcases pd_cases h with ⟨hb145, h⟩ | ⟨hb145, h⟩
                        · rw [hb145]
                          refine ev_gos pp_Mo_look 1 (S' := (291, [some (.ref 198), some (.int l1), some (.int l2), some (.int (v 199 l2.toNatClampNeg)), some (.int (1 : Int32)), some (.int q135)], [.int (0 : Int32), .int ((v 199 l2.toNatClampNeg) - (97 : Int32)), .ref 201], (223, kc, ks, pd_H g v))) rfl ?_
                          obtain ⟨hc146, h⟩ := pd_chk h
                          refine ev_zast pp_Mo_look rfl (fun _ => rfl) hc146 pd_b0 ?_
                          refine ev_gos pp_Mo_look 5 (S' := (4, [some (.ref 198), some (.int l1), some (.int (q135 + (1 : Int32))), some (.int (v 199 l2.toNatClampNeg)), some (.int (1 : Int32)), some (.int q135)], [], (223, kc, ks, pd_H g (pd_w v 201 (((v 199 l2.toNatClampNeg) - (97 : Int32)).toNatClampNeg) (0 : Int32))))) rfl ?_
                          exact ih _ _ _ _ _ _ _  h
                        · rw [hb145]
                          refine ev_gos pp_Mo_look 2 (S' := (291, [some (.ref 198), some (.int l1), some (.int l2), some (.int (v 199 l2.toNatClampNeg)), some (.int (1 : Int32)), some (.int q135)], [.int (1 : Int32), .int ((v 199 l2.toNatClampNeg) - (97 : Int32)), .ref 201], (223, kc, ks, pd_H g v))) rfl ?_
                          obtain ⟨hc147, h⟩ := pd_chk h
                          refine ev_zast pp_Mo_look rfl (fun _ => rfl) hc147 pd_b1 ?_
                          refine ev_gos pp_Mo_look 5 (S' := (4, [some (.ref 198), some (.int l1), some (.int (q135 + (1 : Int32))), some (.int (v 199 l2.toNatClampNeg)), some (.int (1 : Int32)), some (.int q135)], [], (223, kc, ks, pd_H g (pd_w v 201 (((v 199 l2.toNatClampNeg) - (97 : Int32)).toNatClampNeg) (1 : Int32))))) rfl ?_
                          exact ih _ _ _ _ _ _ _  h
                · rw [hb136]
                  refine ev_gos pp_Mo_look 7 (S' := (212, [some (.ref 198), some (.int l1), some (.int l2), some (.int (v 199 l2.toNatClampNeg)), some (.int (1 : Int32)), some (.int q135)], [.int (l2 + (1 : Int32)), .ref 199, .ref 201], (223, kc, ks, pd_H g v))) rfl ?_
                  obtain ⟨hc148, h⟩ := pd_chk h
                  refine ev_iald pp_Mo_look rfl (fun _ => rfl) hc148 ?_
                  refine ev_gos pp_Mo_look 3 (S' := (217, [some (.ref 198), some (.int l1), some (.int l2), some (.int (v 199 l2.toNatClampNeg)), some (.int (1 : Int32)), some (.int q135)], [.int (1 : Int32), .int ((v 199 ((l2 + (1 : Int32)).toNatClampNeg)) - (97 : Int32)), .ref 201], (223, kc, ks, pd_H g v))) rfl ?_
                  obtain ⟨hc149, h⟩ := pd_chk h
                  refine ev_zast pp_Mo_look rfl (fun _ => rfl) hc149 pd_b1 ?_
                  refine ev_gos pp_Mo_look 1 (S' := (220, [some (.ref 198), some (.int l1), some (.int l2), some (.int (v 199 l2.toNatClampNeg)), some (.int (1 : Int32)), some (.int q135)], [.int (1 : Int32)], (223, kc, ks, pd_H g (pd_w v 201 (((v 199 ((l2 + (1 : Int32)).toNatClampNeg)) - (97 : Int32)).toNatClampNeg) (1 : Int32))))) rfl ?_
                  refine ev_gos pp_Mo_look 1 (S' := (bif decide ((1 : Int32) = 0) then 292 else 223, [some (.ref 198), some (.int l1), some (.int l2), some (.int (v 199 l2.toNatClampNeg)), some (.int (1 : Int32)), some (.int q135)], [], (223, kc, ks, pd_H g (pd_w v 201 (((v 199 ((l2 + (1 : Int32)).toNatClampNeg)) - (97 : Int32)).toNatClampNeg) (1 : Int32))))) rfl ?_
                  rcases pd_cases h with ⟨hb150, h⟩ | ⟨hb150, h⟩
                  · rw [hb150]
                    refine ev_gos pp_Mo_look 5 (S' := (4, [some (.ref 198), some (.int l1), some (.int (q135 + (1 : Int32))), some (.int (v 199 l2.toNatClampNeg)), some (.int (1 : Int32)), some (.int q135)], [], (223, kc, ks, pd_H g (pd_w v 201 (((v 199 ((l2 + (1 : Int32)).toNatClampNeg)) - (97 : Int32)).toNatClampNeg) (1 : Int32))))) rfl ?_
                    exact ih _ _ _ _ _ _ _  h
                  · rw [hb150]
                    refine ev_gos pp_Mo_look 2 (S' := (227, [some (.ref 198), some (.int l1), some (.int l2), some (.int (v 199 l2.toNatClampNeg)), some (.int (1 : Int32)), some (.int q135)], [.int (v 198 10)], (223, kc, ks, pd_H g (pd_w v 201 (((v 199 ((l2 + (1 : Int32)).toNatClampNeg)) - (97 : Int32)).toNatClampNeg) (1 : Int32))))) rfl ?_
                    refine ev_gos pp_Mo_look 1 (S' := (bif decide (0 ≤ (v 198 10)) then 292 else 230, [some (.ref 198), some (.int l1), some (.int l2), some (.int (v 199 l2.toNatClampNeg)), some (.int (1 : Int32)), some (.int q135)], [], (223, kc, ks, pd_H g (pd_w v 201 (((v 199 ((l2 + (1 : Int32)).toNatClampNeg)) - (97 : Int32)).toNatClampNeg) (1 : Int32))))) rfl ?_
                    rcases pd_cases h with ⟨hb151, h⟩ | ⟨hb151, h⟩
                    · rw [hb151]
                      refine ev_gos pp_Mo_look 5 (S' := (4, [some (.ref 198), some (.int l1), some (.int (q135 + (1 : Int32))), some (.int (v 199 l2.toNatClampNeg)), some (.int (1 : Int32)), some (.int q135)], [], (223, kc, ks, pd_H g (pd_w v 201 (((v 199 ((l2 + (1 : Int32)).toNatClampNeg)) - (97 : Int32)).toNatClampNeg) (1 : Int32))))) rfl ?_
                      exact ih _ _ _ _ _ _ _  h
                    · rw [hb151]
                      refine ev_gos pp_Mo_look 2 (S' := (232, [some (.ref 198), some (.int l1), some (.int l2), some (.int (v 199 l2.toNatClampNeg)), some (.int (1 : Int32)), some (.int q135)], [.int l2, .ref 198], (223, kc, ks, pd_H g (pd_w v 201 (((v 199 ((l2 + (1 : Int32)).toNatClampNeg)) - (97 : Int32)).toNatClampNeg) (1 : Int32))))) rfl ?_
                      refine ev_put pp_Mo_look rfl (fun _ => rfl) rfl rfl rfl ?_
                      refine ev_gos pp_Mo_look 6 (S' := (4, [some (.ref 198), some (.int l1), some (.int (q135 + (1 : Int32))), some (.int (v 199 l2.toNatClampNeg)), some (.int (1 : Int32)), some (.int q135)], [], (223, kc, ks, pd_H g (pd_w (pd_w v 201 (((v 199 ((l2 + (1 : Int32)).toNatClampNeg)) - (97 : Int32)).toNatClampNeg) (1 : Int32)) 198 10 l2)))) rfl ?_
                      exact ih _ _ _ _ _ _ _  h
              · rw [hb134]
                refine ev_gos pp_Mo_look 5 (S' := (125, [some (.ref 198), some (.int l1), some (.int l2), some (.int (v 199 l2.toNatClampNeg)), some (.int (1 : Int32)), y5], [.int (123 : Int32), .int (123 : Int32), .int l2, .ref 199], (223, kc, ks, pd_H g v))) rfl ?_
                obtain ⟨q152, hq152, h⟩ := pd_bind h
                refine ev_call pp_Mo_look rfl rfl rfl (s_Mo_upTo (fun _ => rfl) hq152) ?_
                refine ev_gos pp_Mo_look 6 (S' := (138, [some (.ref 198), some (.int l1), some (.int l2), some (.int (v 199 l2.toNatClampNeg)), some (.int (1 : Int32)), some (.int q152)], [.int (63 : Int32), .int (v 199 l2.toNatClampNeg), .int l1, .ref 212], (223, kc, ks, pd_H g v))) rfl ?_
                refine ev_gos pp_Mo_look 1 (S' := (bif !(decide ((v 199 l2.toNatClampNeg) = (63 : Int32))) then 145 else 141, [some (.ref 198), some (.int l1), some (.int l2), some (.int (v 199 l2.toNatClampNeg)), some (.int (1 : Int32)), some (.int q152)], [.int l1, .ref 212], (223, kc, ks, pd_H g v))) rfl ?_
                rcases pd_cases h with ⟨hb153, h⟩ | ⟨hb153, h⟩
                · rw [hb153]
                  refine ev_gos pp_Mo_look 2 (S' := (148, [some (.ref 198), some (.int l1), some (.int l2), some (.int (v 199 l2.toNatClampNeg)), some (.int (1 : Int32)), some (.int q152)], [.int (1 : Int32), .int (0 : Int32), .int l1, .ref 212], (223, kc, ks, pd_H g v))) rfl ?_
                  refine ev_gos pp_Mo_look 1 (S' := (bif !(decide ((1 : Int32) = 0)) then 163 else 151, [some (.ref 198), some (.int l1), some (.int l2), some (.int (v 199 l2.toNatClampNeg)), some (.int (1 : Int32)), some (.int q152)], [.int (0 : Int32), .int l1, .ref 212], (223, kc, ks, pd_H g v))) rfl ?_
                  rcases pd_cases h with ⟨hb154, h⟩ | ⟨hb154, h⟩
                  · rw [hb154]
                    refine ev_gos pp_Mo_look 3 (S' := (169, [some (.ref 198), some (.int l1), some (.int l2), some (.int (v 199 l2.toNatClampNeg)), some (.int (1 : Int32)), some (.int q152)], [.int ((0 : Int32) + (2 : Int32)), .int l1, .ref 212], (223, kc, ks, pd_H g v))) rfl ?_
                    obtain ⟨hc155, h⟩ := pd_chk h
                    refine ev_iast pp_Mo_look rfl (fun _ => rfl) hc155 ?_
                    refine ev_gos pp_Mo_look 7 (S' := (4, [some (.ref 198), some (.int (l1 + (1 : Int32))), some (.int (q152 + (1 : Int32))), some (.int (v 199 l2.toNatClampNeg)), some (.int (1 : Int32)), some (.int q152)], [], (223, kc, ks, pd_H g (pd_w v 212 l1.toNatClampNeg ((0 : Int32) + (2 : Int32)))))) rfl ?_
                    exact ih _ _ _ _ _ _ _  h
                  · rw [hb154]
                    refine ev_gos pp_Mo_look 5 (S' := (157, [some (.ref 198), some (.int l1), some (.int l2), some (.int (v 199 l2.toNatClampNeg)), some (.int (1 : Int32)), some (.int q152)], [.int q152, .int (l2 + (1 : Int32)), .ref 198, .int (0 : Int32), .int l1, .ref 212], (223, kc, ks, pd_H g v))) rfl ?_
                    obtain ⟨q156, hq156, h⟩ := pd_bind h
                    refine ev_callv pp_Mo_look rfl rfl rfl rfl (s_Mo_isVarying hq156) ?_
                    refine ev_gos pp_Mo_look 0 (S' := (160, [some (.ref 198), some (.int l1), some (.int l2), some (.int (v 199 l2.toNatClampNeg)), some (.int (1 : Int32)), some (.int q152)], [.int q156, .int (0 : Int32), .int l1, .ref 212], (223, kc, ks, pd_H g v))) rfl ?_
                    refine ev_gos pp_Mo_look 1 (S' := (bif decide (q156 = 0) then 167 else 163, [some (.ref 198), some (.int l1), some (.int l2), some (.int (v 199 l2.toNatClampNeg)), some (.int (1 : Int32)), some (.int q152)], [.int (0 : Int32), .int l1, .ref 212], (223, kc, ks, pd_H g v))) rfl ?_
                    rcases pd_cases h with ⟨hb157, h⟩ | ⟨hb157, h⟩
                    · rw [hb157]
                      refine ev_gos pp_Mo_look 2 (S' := (169, [some (.ref 198), some (.int l1), some (.int l2), some (.int (v 199 l2.toNatClampNeg)), some (.int (1 : Int32)), some (.int q152)], [.int ((0 : Int32) + (0 : Int32)), .int l1, .ref 212], (223, kc, ks, pd_H g v))) rfl ?_
                      obtain ⟨hc158, h⟩ := pd_chk h
                      refine ev_iast pp_Mo_look rfl (fun _ => rfl) hc158 ?_
                      refine ev_gos pp_Mo_look 7 (S' := (4, [some (.ref 198), some (.int (l1 + (1 : Int32))), some (.int (q152 + (1 : Int32))), some (.int (v 199 l2.toNatClampNeg)), some (.int (1 : Int32)), some (.int q152)], [], (223, kc, ks, pd_H g (pd_w v 212 l1.toNatClampNeg ((0 : Int32) + (0 : Int32)))))) rfl ?_
                      exact ih _ _ _ _ _ _ _  h
                    · rw [hb157]
                      refine ev_gos pp_Mo_look 3 (S' := (169, [some (.ref 198), some (.int l1), some (.int l2), some (.int (v 199 l2.toNatClampNeg)), some (.int (1 : Int32)), some (.int q152)], [.int ((0 : Int32) + (2 : Int32)), .int l1, .ref 212], (223, kc, ks, pd_H g v))) rfl ?_
                      obtain ⟨hc159, h⟩ := pd_chk h
                      refine ev_iast pp_Mo_look rfl (fun _ => rfl) hc159 ?_
                      refine ev_gos pp_Mo_look 7 (S' := (4, [some (.ref 198), some (.int (l1 + (1 : Int32))), some (.int (q152 + (1 : Int32))), some (.int (v 199 l2.toNatClampNeg)), some (.int (1 : Int32)), some (.int q152)], [], (223, kc, ks, pd_H g (pd_w v 212 l1.toNatClampNeg ((0 : Int32) + (2 : Int32)))))) rfl ?_
                      exact ih _ _ _ _ _ _ _  h
                · rw [hb153]
                  refine ev_gos pp_Mo_look 3 (S' := (148, [some (.ref 198), some (.int l1), some (.int l2), some (.int (v 199 l2.toNatClampNeg)), some (.int (1 : Int32)), some (.int q152)], [.int (1 : Int32), .int (1 : Int32), .int l1, .ref 212], (223, kc, ks, pd_H g v))) rfl ?_
                  refine ev_gos pp_Mo_look 1 (S' := (bif !(decide ((1 : Int32) = 0)) then 163 else 151, [some (.ref 198), some (.int l1), some (.int l2), some (.int (v 199 l2.toNatClampNeg)), some (.int (1 : Int32)), some (.int q152)], [.int (1 : Int32), .int l1, .ref 212], (223, kc, ks, pd_H g v))) rfl ?_
                  rcases pd_cases h with ⟨hb160, h⟩ | ⟨hb160, h⟩
                  · rw [hb160]
                    refine ev_gos pp_Mo_look 3 (S' := (169, [some (.ref 198), some (.int l1), some (.int l2), some (.int (v 199 l2.toNatClampNeg)), some (.int (1 : Int32)), some (.int q152)], [.int ((1 : Int32) + (2 : Int32)), .int l1, .ref 212], (223, kc, ks, pd_H g v))) rfl ?_
                    obtain ⟨hc161, h⟩ := pd_chk h
                    refine ev_iast pp_Mo_look rfl (fun _ => rfl) hc161 ?_
                    refine ev_gos pp_Mo_look 7 (S' := (4, [some (.ref 198), some (.int (l1 + (1 : Int32))), some (.int (q152 + (1 : Int32))), some (.int (v 199 l2.toNatClampNeg)), some (.int (1 : Int32)), some (.int q152)], [], (223, kc, ks, pd_H g (pd_w v 212 l1.toNatClampNeg ((1 : Int32) + (2 : Int32)))))) rfl ?_
                    exact ih _ _ _ _ _ _ _  h
                  · rw [hb160]
                    refine ev_gos pp_Mo_look 5 (S' := (157, [some (.ref 198), some (.int l1), some (.int l2), some (.int (v 199 l2.toNatClampNeg)), some (.int (1 : Int32)), some (.int q152)], [.int q152, .int (l2 + (1 : Int32)), .ref 198, .int (1 : Int32), .int l1, .ref 212], (223, kc, ks, pd_H g v))) rfl ?_
                    obtain ⟨q162, hq162, h⟩ := pd_bind h
                    refine ev_callv pp_Mo_look rfl rfl rfl rfl (s_Mo_isVarying hq162) ?_
                    refine ev_gos pp_Mo_look 0 (S' := (160, [some (.ref 198), some (.int l1), some (.int l2), some (.int (v 199 l2.toNatClampNeg)), some (.int (1 : Int32)), some (.int q152)], [.int q162, .int (1 : Int32), .int l1, .ref 212], (223, kc, ks, pd_H g v))) rfl ?_
                    refine ev_gos pp_Mo_look 1 (S' := (bif decide (q162 = 0) then 167 else 163, [some (.ref 198), some (.int l1), some (.int l2), some (.int (v 199 l2.toNatClampNeg)), some (.int (1 : Int32)), some (.int q152)], [.int (1 : Int32), .int l1, .ref 212], (223, kc, ks, pd_H g v))) rfl ?_
                    rcases pd_cases h with ⟨hb163, h⟩ | ⟨hb163, h⟩
                    · rw [hb163]
                      refine ev_gos pp_Mo_look 2 (S' := (169, [some (.ref 198), some (.int l1), some (.int l2), some (.int (v 199 l2.toNatClampNeg)), some (.int (1 : Int32)), some (.int q152)], [.int ((1 : Int32) + (0 : Int32)), .int l1, .ref 212], (223, kc, ks, pd_H g v))) rfl ?_
                      obtain ⟨hc164, h⟩ := pd_chk h
                      refine ev_iast pp_Mo_look rfl (fun _ => rfl) hc164 ?_
                      refine ev_gos pp_Mo_look 7 (S' := (4, [some (.ref 198), some (.int (l1 + (1 : Int32))), some (.int (q152 + (1 : Int32))), some (.int (v 199 l2.toNatClampNeg)), some (.int (1 : Int32)), some (.int q152)], [], (223, kc, ks, pd_H g (pd_w v 212 l1.toNatClampNeg ((1 : Int32) + (0 : Int32)))))) rfl ?_
                      exact ih _ _ _ _ _ _ _  h
                    · rw [hb163]
                      refine ev_gos pp_Mo_look 3 (S' := (169, [some (.ref 198), some (.int l1), some (.int l2), some (.int (v 199 l2.toNatClampNeg)), some (.int (1 : Int32)), some (.int q152)], [.int ((1 : Int32) + (2 : Int32)), .int l1, .ref 212], (223, kc, ks, pd_H g v))) rfl ?_
                      obtain ⟨hc165, h⟩ := pd_chk h
                      refine ev_iast pp_Mo_look rfl (fun _ => rfl) hc165 ?_
                      refine ev_gos pp_Mo_look 7 (S' := (4, [some (.ref 198), some (.int (l1 + (1 : Int32))), some (.int (q152 + (1 : Int32))), some (.int (v 199 l2.toNatClampNeg)), some (.int (1 : Int32)), some (.int q152)], [], (223, kc, ks, pd_H g (pd_w v 212 l1.toNatClampNeg ((1 : Int32) + (2 : Int32)))))) rfl ?_
                      exact ih _ _ _ _ _ _ _  h
          · rw [hb118]
            refine ev_gos pp_Mo_look 5 (S' := (59, [some (.ref 198), some (.int (l1 + (-1 : Int32))), some (.int (l2 + (1 : Int32))), some (.int (v 199 l2.toNatClampNeg)), some (.int (1 : Int32)), y5], [.int (v 198 2), .int (l2 + (1 : Int32))], (223, kc, ks, pd_H g v))) rfl ?_
            refine ev_gos pp_Mo_look 1 (S' := (bif decide ((v 198 2) ≤ (l2 + (1 : Int32))) then 297 else 62, [some (.ref 198), some (.int (l1 + (-1 : Int32))), some (.int (l2 + (1 : Int32))), some (.int (v 199 l2.toNatClampNeg)), some (.int (1 : Int32)), y5], [], (223, kc, ks, pd_H g v))) rfl ?_
            rcases pd_cases h with ⟨hb166, h⟩ | ⟨hb166, h⟩
            · rw [hb166]
              refine ev_gos pp_Mo_look 1 (S' := (4, [some (.ref 198), some (.int (l1 + (-1 : Int32))), some (.int (l2 + (1 : Int32))), some (.int (v 199 l2.toNatClampNeg)), some (.int (1 : Int32)), y5], [], (223, kc, ks, pd_H g v))) rfl ?_
              exact ih _ _ _ _ _ _ _  h
            · rw [hb166]
              refine ev_gos pp_Mo_look 3 (S' := (67, [some (.ref 198), some (.int (l1 + (-1 : Int32))), some (.int (l2 + (1 : Int32))), some (.int (v 199 l2.toNatClampNeg)), some (.int (1 : Int32)), y5], [.int (l2 + (1 : Int32)), .ref 199], (223, kc, ks, pd_H g v))) rfl ?_
              obtain ⟨hc167, h⟩ := pd_chk h
              refine ev_iald pp_Mo_look rfl (fun _ => rfl) hc167 ?_
              refine ev_gos pp_Mo_look 1 (S' := (70, [some (.ref 198), some (.int (l1 + (-1 : Int32))), some (.int (l2 + (1 : Int32))), some (.int (v 199 l2.toNatClampNeg)), some (.int (1 : Int32)), y5], [.int (123 : Int32), .int (v 199 ((l2 + (1 : Int32)).toNatClampNeg))], (223, kc, ks, pd_H g v))) rfl ?_
              refine ev_gos pp_Mo_look 1 (S' := (bif !(decide ((v 199 ((l2 + (1 : Int32)).toNatClampNeg)) = (123 : Int32))) then 297 else 73, [some (.ref 198), some (.int (l1 + (-1 : Int32))), some (.int (l2 + (1 : Int32))), some (.int (v 199 l2.toNatClampNeg)), some (.int (1 : Int32)), y5], [], (223, kc, ks, pd_H g v))) rfl ?_
              rcases pd_cases h with ⟨hb168, h⟩ | ⟨hb168, h⟩
              · rw [hb168]
                refine ev_gos pp_Mo_look 1 (S' := (4, [some (.ref 198), some (.int (l1 + (-1 : Int32))), some (.int (l2 + (1 : Int32))), some (.int (v 199 l2.toNatClampNeg)), some (.int (1 : Int32)), y5], [], (223, kc, ks, pd_H g v))) rfl ?_
                exact ih _ _ _ _ _ _ _  h
              · rw [hb168]
                refine ev_gos pp_Mo_look 3 (S' := (78, [some (.ref 198), some (.int (l1 + (-1 : Int32))), some (.int (l2 + (1 : Int32))), some (.int (v 199 l2.toNatClampNeg)), some (.int (1 : Int32)), y5], [.int (l1 + (-1 : Int32)), .ref 212], (223, kc, ks, pd_H g v))) rfl ?_
                obtain ⟨hc169, h⟩ := pd_chk h
                refine ev_iald pp_Mo_look rfl (fun _ => rfl) hc169 ?_
                refine ev_gos pp_Mo_look 1 (S' := (80, [some (.ref 198), some (.int (l1 + (-1 : Int32))), some (.int (l2 + (1 : Int32))), some (.int (v 199 l2.toNatClampNeg)), some (.int (1 : Int32)), y5], [.int (2 : Int32), .int (v 212 ((l1 + (-1 : Int32)).toNatClampNeg))], (223, kc, ks, pd_H g v))) rfl ?_
                obtain ⟨hc170, h⟩ := pd_chk h
                refine ev_irem pp_Mo_look rfl hc170 ?_
                refine ev_gos pp_Mo_look 1 (S' := (82, [some (.ref 198), some (.int (l1 + (-1 : Int32))), some (.int (l2 + (1 : Int32))), some (.int (v 199 l2.toNatClampNeg)), some (.int (1 : Int32)), y5], [.int (1 : Int32), .int ((v 212 ((l1 + (-1 : Int32)).toNatClampNeg)) - (v 212 ((l1 + (-1 : Int32)).toNatClampNeg)) / (2 : Int32) * (2 : Int32))], (223, kc, ks, pd_H g v))) rfl ?_
                refine ev_gos pp_Mo_look 1 (S' := (bif !(decide (((v 212 ((l1 + (-1 : Int32)).toNatClampNeg)) - (v 212 ((l1 + (-1 : Int32)).toNatClampNeg)) / (2 : Int32) * (2 : Int32)) = (1 : Int32))) then 297 else 85, [some (.ref 198), some (.int (l1 + (-1 : Int32))), some (.int (l2 + (1 : Int32))), some (.int (v 199 l2.toNatClampNeg)), some (.int (1 : Int32)), y5], [], (223, kc, ks, pd_H g v))) rfl ?_
                rcases pd_cases h with ⟨hb171, h⟩ | ⟨hb171, h⟩
                · rw [hb171]
                  refine ev_gos pp_Mo_look 1 (S' := (4, [some (.ref 198), some (.int (l1 + (-1 : Int32))), some (.int (l2 + (1 : Int32))), some (.int (v 199 l2.toNatClampNeg)), some (.int (1 : Int32)), y5], [], (223, kc, ks, pd_H g v))) rfl ?_
                  exact ih _ _ _ _ _ _ _  h
                · rw [hb171]
                  refine ev_gos pp_Mo_look 4 (S' := (91, [some (.ref 198), some (.int (l1 + (-1 : Int32))), some (.int (l2 + (1 : Int32))), some (.int (v 199 l2.toNatClampNeg)), some (.int (1 : Int32)), y5], [.int (l1 + (-1 : Int32)), .ref 212, .int (l1 + (-1 : Int32)), .ref 212], (223, kc, ks, pd_H g v))) rfl ?_
                  obtain ⟨hc172, h⟩ := pd_chk h
                  refine ev_iald pp_Mo_look rfl (fun _ => rfl) hc172 ?_
                  refine ev_gos pp_Mo_look 2 (S' := (94, [some (.ref 198), some (.int (l1 + (-1 : Int32))), some (.int (l2 + (1 : Int32))), some (.int (v 199 l2.toNatClampNeg)), some (.int (1 : Int32)), y5], [.int ((v 212 ((l1 + (-1 : Int32)).toNatClampNeg)) - (1 : Int32)), .int (l1 + (-1 : Int32)), .ref 212], (223, kc, ks, pd_H g v))) rfl ?_
                  obtain ⟨hc173, h⟩ := pd_chk h
                  refine ev_iast pp_Mo_look rfl (fun _ => rfl) hc173 ?_
                  refine ev_gos pp_Mo_look 4 (S' := (4, [some (.ref 198), some (.int ((l1 + (-1 : Int32)) + (1 : Int32))), some (.int ((l2 + (1 : Int32)) + (1 : Int32))), some (.int (v 199 l2.toNatClampNeg)), some (.int (1 : Int32)), y5], [], (223, kc, ks, pd_H g (pd_w v 212 ((l1 + (-1 : Int32)).toNatClampNeg) ((v 212 ((l1 + (-1 : Int32)).toNatClampNeg)) - (1 : Int32)))))) rfl ?_
                  exact ih _ _ _ _ _ _ _  h
def d_Mo_look (w : Nat)  (v : pd_V) : Option pd_V :=
  d_Mo_look_4 w w (0 : Int32) (0 : Int32) v
set_option maxRecDepth 100000 in
set_option maxHeartbeats 4000000 in
theorem s_Mo_look {w : Nat}  {v : pd_V} {q : pd_V}  (h : d_Mo_look w v = some q) : pm_ev (pj_P xs L) (d + 2) 114 (0, [some (.ref 198), none, none, none, none, none], [], (223, kc, ks, pd_H g v)) (.inl none, (223, kc, ks, pd_H g q)) := by
  unfold d_Mo_look at h
  refine ev_gos pp_Mo_look 4 (S' := (4, [some (.ref 198), some (.int (0 : Int32)), some (.int (0 : Int32)), none, none, none], [], (223, kc, ks, pd_H g v))) rfl ?_
  exact s_Mo_look_4 _ _ _ _ _ _ _ _  h
end FN
