section LS9
variable {xs : Nat → Int32} {L : Nat} {g : Nat → Int64} {d kc ks : Nat}
theorem pp_law {xs : Nat → Int32} {L : Nat} : (pj_P xs L 0).1 = fun S => pm_look (tb_law xs L) S.1 S := rfl
def d_law (w : Nat) (xs : Nat → Int32) (L : Nat) (i : Int32) (v : pd_V) (g : Nat → Int64) : Option ((pd_V × (Nat → Int64) × Nat) ⊕ Int32) :=
  bif decide (((Int32.ofNat L) - (4 : Int32)) < i) then
    some (Sum.inr (1 : Int32))
  else
    bif pm_in i L then
    bif decide (((xs i.toNatClampNeg) &&& (15 : Int32)) = (0 : Int32)) then
      bif pm_in (i + (1 : Int32)) L then
      bif pm_in (i + (2 : Int32)) L then
      bif pm_in (i + (3 : Int32)) L then
      (d_La_type w ((((xs (i + (1 : Int32)).toNatClampNeg).toInt64) <<< ((32 : Int32).toInt64 &&& 63)) ||| (((xs (i + (2 : Int32)).toNatClampNeg).toInt64) &&& (4294967295 : Int64))) (xs (i + (3 : Int32)).toNatClampNeg) v g).bind fun q7 =>
      bif pm_in (i + (1 : Int32)) L then
      bif pm_in (i + (2 : Int32)) L then
      bif pm_in (i + (3 : Int32)) L then
      (d_Mo_type w ((((xs (i + (1 : Int32)).toNatClampNeg).toInt64) <<< ((32 : Int32).toInt64 &&& 63)) ||| (((xs (i + (2 : Int32)).toNatClampNeg).toInt64) &&& (4294967295 : Int64))) (xs (i + (3 : Int32)).toNatClampNeg) q7.2.1).bind fun q11 =>
      bif decide ((d_Mo_thrown q11.2) = q7.1) then
        bif !(decide (q7.1 = 0)) then
          some (Sum.inl (q11.2, q7.2.2.1, q7.2.2.2))
        else
          bif decide ((lg_cmp (q7.2.2.1 0) (q11.1.toInt64)) = 0) then
            some (Sum.inl (q11.2, q7.2.2.1, q7.2.2.2))
          else
            some (Sum.inr (0 : Int32))
      else
        some (Sum.inr (0 : Int32))
      else none
      else none
      else none
      else none
      else none
      else none
    else
      bif decide (((xs i.toNatClampNeg) &&& (15 : Int32)) = (1 : Int32)) then
        (d_De_clear v).bind fun q17 =>
        (d_Mo_clear q17).bind fun q18 =>
        some (Sum.inl (q18, g, 0))
      else
        bif decide (((xs i.toNatClampNeg) &&& (15 : Int32)) = (2 : Int32)) then
          (d_De_compile w v).bind fun q20 =>
          (d_Mo_compile w q20.2).bind fun q21 =>
          bif decide (q20.1 = q21.1) then
            some (Sum.inl (q21.2, g, 0))
          else
            some (Sum.inr (0 : Int32))
        else
          bif decide (((xs i.toNatClampNeg) &&& (15 : Int32)) = (3 : Int32)) then
            (d_Mo_place v).bind fun q25 =>
            bif decide ((d_De_place v) = q25.1) then
              some (Sum.inl (q25.2, g, 0))
            else
              some (Sum.inr (0 : Int32))
          else
            bif decide (((xs i.toNatClampNeg) &&& (15 : Int32)) = (4 : Int32)) then
              bif pm_in (i + (1 : Int32)) L then
              (d_La_varies (xs (i + (1 : Int32)).toNatClampNeg) v g).bind fun q29 =>
              bif pm_in (i + (1 : Int32)) L then
              (d_Mo_varies (xs (i + (1 : Int32)).toNatClampNeg) q29.2.1).bind fun q31 =>
              bif decide ((d_Mo_thrown q31.2) = q29.1) then
                bif !(decide (q29.1 = 0)) then
                  some (Sum.inl (q31.2, q29.2.2.1, q29.2.2.2))
                else
                  bif decide (q31.1 = 0) then
                    bif decide ((lg_cmp (q29.2.2.1 0) (0 : Int64)) = 0) then
                      some (Sum.inl (q31.2, q29.2.2.1, q29.2.2.2))
                    else
                      some (Sum.inr (0 : Int32))
                  else
                    bif decide ((lg_cmp (q29.2.2.1 0) (1 : Int64)) = 0) then
                      some (Sum.inl (q31.2, q29.2.2.1, q29.2.2.2))
                    else
                      some (Sum.inr (0 : Int32))
              else
                some (Sum.inr (0 : Int32))
              else none
              else none
            else
              bif decide (((xs i.toNatClampNeg) &&& (15 : Int32)) = (5 : Int32)) then
                bif pm_in (i + (1 : Int32)) L then
                bif pm_in (i + (2 : Int32)) L then
                (d_La_input (xs (i + (1 : Int32)).toNatClampNeg) (xs (i + (2 : Int32)).toNatClampNeg) v g).bind fun q41 =>
                bif pm_in (i + (1 : Int32)) L then
                bif pm_in (i + (2 : Int32)) L then
                (d_Mo_input (xs (i + (1 : Int32)).toNatClampNeg) (xs (i + (2 : Int32)).toNatClampNeg) q41.2.1).bind fun q44 =>
                bif decide ((d_Mo_thrown q44) = q41.1) then
                  some (Sum.inl (q44, q41.2.2.1, q41.2.2.2))
                else
                  some (Sum.inr (0 : Int32))
                else none
                else none
                else none
                else none
              else
                bif decide (((xs i.toNatClampNeg) &&& (15 : Int32)) = (6 : Int32)) then
                  bif pm_in (i + (1 : Int32)) L then
                  (d_La_lanes (xs (i + (1 : Int32)).toNatClampNeg) v g).bind fun q49 =>
                  bif pm_in (i + (1 : Int32)) L then
                  (d_Mo_lanes (xs (i + (1 : Int32)).toNatClampNeg) q49.2.1).bind fun q51 =>
                  bif decide ((d_Mo_thrown q51) = q49.1) then
                    some (Sum.inl (q51, q49.2.2.1, q49.2.2.2))
                  else
                    some (Sum.inr (0 : Int32))
                  else none
                  else none
                else
                  bif decide (((xs i.toNatClampNeg) &&& (15 : Int32)) = (7 : Int32)) then
                    (d_La_start w v g).bind fun q55 =>
                    (d_Mo_start w q55.2.1).bind fun q56 =>
                    bif decide ((d_Mo_thrown q56) = q55.1) then
                      some (Sum.inl (q56, q55.2.2.1, q55.2.2.2))
                    else
                      some (Sum.inr (0 : Int32))
                  else
                    bif decide (((xs i.toNatClampNeg) &&& (15 : Int32)) = (8 : Int32)) then
                      bif pm_in (i + (1 : Int32)) L then
                      (d_La_run w (xs (i + (1 : Int32)).toNatClampNeg) v g).bind fun q61 =>
                      bif pm_in (i + (1 : Int32)) L then
                      (d_Mo_run w (xs (i + (1 : Int32)).toNatClampNeg) q61.2.1).bind fun q63 =>
                      bif decide ((d_Mo_thrown q63.2) = q61.1) then
                        bif !(decide (q61.1 = 0)) then
                          some (Sum.inl (q63.2, q61.2.2.1, q61.2.2.2))
                        else
                          bif decide ((lg_cmp (q61.2.2.1 0) (q63.1.toInt64)) = 0) then
                            some (Sum.inl (q63.2, q61.2.2.1, q61.2.2.2))
                          else
                            some (Sum.inr (0 : Int32))
                      else
                        some (Sum.inr (0 : Int32))
                      else none
                      else none
                    else
                      bif decide (((xs i.toNatClampNeg) &&& (15 : Int32)) = (9 : Int32)) then
                        (d_Mo_mask v).bind fun q70 =>
                        bif decide ((d_De_mask v) = q70.1) then
                          some (Sum.inl (q70.2, g, 0))
                        else
                          some (Sum.inr (0 : Int32))
                      else
                        bif decide (((xs i.toNatClampNeg) &&& (15 : Int32)) = (10 : Int32)) then
                          bif pm_in (i + (1 : Int32)) L then
                          (d_La_spent (xs (i + (1 : Int32)).toNatClampNeg) v g).bind fun q74 =>
                          bif pm_in (i + (1 : Int32)) L then
                          (d_Mo_spent (xs (i + (1 : Int32)).toNatClampNeg) q74.2.1).bind fun q76 =>
                          bif decide ((d_Mo_thrown q76.2) = q74.1) then
                            bif !(decide (q74.1 = 0)) then
                              some (Sum.inl (q76.2, q74.2.2.1, q74.2.2.2))
                            else
                              bif decide ((lg_cmp (q74.2.2.1 0) (q76.1.toInt64)) = 0) then
                                some (Sum.inl (q76.2, q74.2.2.1, q74.2.2.2))
                              else
                                some (Sum.inr (0 : Int32))
                          else
                            some (Sum.inr (0 : Int32))
                          else none
                          else none
                        else
                          bif decide (((xs i.toNatClampNeg) &&& (15 : Int32)) = (11 : Int32)) then
                            bif pm_in (i + (1 : Int32)) L then
                            (d_La_alone w (xs (i + (1 : Int32)).toNatClampNeg) v g).bind fun q83 =>
                            bif pm_in (i + (1 : Int32)) L then
                            (d_Mo_alone w (xs (i + (1 : Int32)).toNatClampNeg) q83.2.1).bind fun q85 =>
                            bif decide ((d_Mo_thrown q85.2) = q83.1) then
                              bif !(decide (q83.1 = 0)) then
                                some (Sum.inl (q85.2, q83.2.2.1, q83.2.2.2))
                              else
                                bif decide ((lg_cmp (q83.2.2.1 0) (q85.1.toInt64)) = 0) then
                                  some (Sum.inl (q85.2, q83.2.2.1, q83.2.2.2))
                                else
                                  some (Sum.inr (0 : Int32))
                            else
                              some (Sum.inr (0 : Int32))
                            else none
                            else none
                          else
                            bif decide (((xs i.toNatClampNeg) &&& (15 : Int32)) = (12 : Int32)) then
                              bif pm_in (i + (1 : Int32)) L then
                              bif decide ((xs (i + (1 : Int32)).toNatClampNeg) = 0) then
                                bif pm_in (i + (2 : Int32)) L then
                                bif pm_in (i + (3 : Int32)) L then
                                (d_La_lane (0 : Int32) (xs (i + (2 : Int32)).toNatClampNeg) (xs (i + (3 : Int32)).toNatClampNeg) v g).bind fun q95 =>
                                bif pm_in (i + (1 : Int32)) L then
                                bif decide ((xs (i + (1 : Int32)).toNatClampNeg) = 0) then
                                  bif pm_in (i + (2 : Int32)) L then
                                  bif pm_in (i + (3 : Int32)) L then
                                  (d_Mo_lane (0 : Int32) (xs (i + (2 : Int32)).toNatClampNeg) (xs (i + (3 : Int32)).toNatClampNeg) q95.2.1).bind fun q100 =>
                                  bif decide ((d_Mo_thrown q100.2) = q95.1) then
                                    bif !(decide (q95.1 = 0)) then
                                      some (Sum.inl (q100.2, q95.2.2.1, q95.2.2.2))
                                    else
                                      bif decide ((lg_cmp (q95.2.2.1 0) (q100.1.toInt64)) = 0) then
                                        some (Sum.inl (q100.2, q95.2.2.1, q95.2.2.2))
                                      else
                                        some (Sum.inr (0 : Int32))
                                  else
                                    some (Sum.inr (0 : Int32))
                                  else none
                                  else none
                                else
                                  bif pm_in (i + (2 : Int32)) L then
                                  bif pm_in (i + (3 : Int32)) L then
                                  (d_Mo_lane (1 : Int32) (xs (i + (2 : Int32)).toNatClampNeg) (xs (i + (3 : Int32)).toNatClampNeg) q95.2.1).bind fun q107 =>
                                  bif decide ((d_Mo_thrown q107.2) = q95.1) then
                                    bif !(decide (q95.1 = 0)) then
                                      some (Sum.inl (q107.2, q95.2.2.1, q95.2.2.2))
                                    else
                                      bif decide ((lg_cmp (q95.2.2.1 0) (q107.1.toInt64)) = 0) then
                                        some (Sum.inl (q107.2, q95.2.2.1, q95.2.2.2))
                                      else
                                        some (Sum.inr (0 : Int32))
                                  else
                                    some (Sum.inr (0 : Int32))
                                  else none
                                  else none
                                else none
                                else none
                                else none
                              else
                                bif pm_in (i + (2 : Int32)) L then
                                bif pm_in (i + (3 : Int32)) L then
                                (d_La_lane (1 : Int32) (xs (i + (2 : Int32)).toNatClampNeg) (xs (i + (3 : Int32)).toNatClampNeg) v g).bind fun q114 =>
                                bif pm_in (i + (1 : Int32)) L then
                                bif decide ((xs (i + (1 : Int32)).toNatClampNeg) = 0) then
                                  bif pm_in (i + (2 : Int32)) L then
                                  bif pm_in (i + (3 : Int32)) L then
                                  (d_Mo_lane (0 : Int32) (xs (i + (2 : Int32)).toNatClampNeg) (xs (i + (3 : Int32)).toNatClampNeg) q114.2.1).bind fun q119 =>
                                  bif decide ((d_Mo_thrown q119.2) = q114.1) then
                                    bif !(decide (q114.1 = 0)) then
                                      some (Sum.inl (q119.2, q114.2.2.1, q114.2.2.2))
                                    else
                                      bif decide ((lg_cmp (q114.2.2.1 0) (q119.1.toInt64)) = 0) then
                                        some (Sum.inl (q119.2, q114.2.2.1, q114.2.2.2))
                                      else
                                        some (Sum.inr (0 : Int32))
                                  else
                                    some (Sum.inr (0 : Int32))
                                  else none
                                  else none
                                else
                                  bif pm_in (i + (2 : Int32)) L then
                                  bif pm_in (i + (3 : Int32)) L then
                                  (d_Mo_lane (1 : Int32) (xs (i + (2 : Int32)).toNatClampNeg) (xs (i + (3 : Int32)).toNatClampNeg) q114.2.1).bind fun q126 =>
                                  bif decide ((d_Mo_thrown q126.2) = q114.1) then
                                    bif !(decide (q114.1 = 0)) then
                                      some (Sum.inl (q126.2, q114.2.2.1, q114.2.2.2))
                                    else
                                      bif decide ((lg_cmp (q114.2.2.1 0) (q126.1.toInt64)) = 0) then
                                        some (Sum.inl (q126.2, q114.2.2.1, q114.2.2.2))
                                      else
                                        some (Sum.inr (0 : Int32))
                                  else
                                    some (Sum.inr (0 : Int32))
                                  else none
                                  else none
                                else none
                                else none
                                else none
                              else none
                            else
                              bif decide (((xs i.toNatClampNeg) &&& (15 : Int32)) = (13 : Int32)) then
                                bif pm_in (i + (1 : Int32)) L then
                                bif decide ((xs (i + (1 : Int32)).toNatClampNeg) = 0) then
                                  bif pm_in (i + (2 : Int32)) L then
                                  bif pm_in (i + (3 : Int32)) L then
                                  (d_La_out (0 : Int32) (xs (i + (2 : Int32)).toNatClampNeg) (xs (i + (3 : Int32)).toNatClampNeg) v g).bind fun q136 =>
                                  bif pm_in (i + (1 : Int32)) L then
                                  bif decide ((xs (i + (1 : Int32)).toNatClampNeg) = 0) then
                                    bif pm_in (i + (2 : Int32)) L then
                                    bif pm_in (i + (3 : Int32)) L then
                                    (d_Mo_out (0 : Int32) (xs (i + (2 : Int32)).toNatClampNeg) (xs (i + (3 : Int32)).toNatClampNeg) q136.2.1).bind fun q141 =>
                                    bif decide ((d_Mo_thrown q141.2) = q136.1) then
                                      bif !(decide (q136.1 = 0)) then
                                        some (Sum.inl (q141.2, q136.2.2.1, q136.2.2.2))
                                      else
                                        bif decide ((lg_cmp (q136.2.2.1 0) (q141.1.toInt64)) = 0) then
                                          some (Sum.inl (q141.2, q136.2.2.1, q136.2.2.2))
                                        else
                                          some (Sum.inr (0 : Int32))
                                    else
                                      some (Sum.inr (0 : Int32))
                                    else none
                                    else none
                                  else
                                    bif pm_in (i + (2 : Int32)) L then
                                    bif pm_in (i + (3 : Int32)) L then
                                    (d_Mo_out (1 : Int32) (xs (i + (2 : Int32)).toNatClampNeg) (xs (i + (3 : Int32)).toNatClampNeg) q136.2.1).bind fun q148 =>
                                    bif decide ((d_Mo_thrown q148.2) = q136.1) then
                                      bif !(decide (q136.1 = 0)) then
                                        some (Sum.inl (q148.2, q136.2.2.1, q136.2.2.2))
                                      else
                                        bif decide ((lg_cmp (q136.2.2.1 0) (q148.1.toInt64)) = 0) then
                                          some (Sum.inl (q148.2, q136.2.2.1, q136.2.2.2))
                                        else
                                          some (Sum.inr (0 : Int32))
                                    else
                                      some (Sum.inr (0 : Int32))
                                    else none
                                    else none
                                  else none
                                  else none
                                  else none
                                else
                                  bif pm_in (i + (2 : Int32)) L then
                                  bif pm_in (i + (3 : Int32)) L then
                                  (d_La_out (1 : Int32) (xs (i + (2 : Int32)).toNatClampNeg) (xs (i + (3 : Int32)).toNatClampNeg) v g).bind fun q155 =>
                                  bif pm_in (i + (1 : Int32)) L then
                                  bif decide ((xs (i + (1 : Int32)).toNatClampNeg) = 0) then
                                    bif pm_in (i + (2 : Int32)) L then
                                    bif pm_in (i + (3 : Int32)) L then
                                    (d_Mo_out (0 : Int32) (xs (i + (2 : Int32)).toNatClampNeg) (xs (i + (3 : Int32)).toNatClampNeg) q155.2.1).bind fun q160 =>
                                    bif decide ((d_Mo_thrown q160.2) = q155.1) then
                                      bif !(decide (q155.1 = 0)) then
                                        some (Sum.inl (q160.2, q155.2.2.1, q155.2.2.2))
                                      else
                                        bif decide ((lg_cmp (q155.2.2.1 0) (q160.1.toInt64)) = 0) then
                                          some (Sum.inl (q160.2, q155.2.2.1, q155.2.2.2))
                                        else
                                          some (Sum.inr (0 : Int32))
                                    else
                                      some (Sum.inr (0 : Int32))
                                    else none
                                    else none
                                  else
                                    bif pm_in (i + (2 : Int32)) L then
                                    bif pm_in (i + (3 : Int32)) L then
                                    (d_Mo_out (1 : Int32) (xs (i + (2 : Int32)).toNatClampNeg) (xs (i + (3 : Int32)).toNatClampNeg) q155.2.1).bind fun q167 =>
                                    bif decide ((d_Mo_thrown q167.2) = q155.1) then
                                      bif !(decide (q155.1 = 0)) then
                                        some (Sum.inl (q167.2, q155.2.2.1, q155.2.2.2))
                                      else
                                        bif decide ((lg_cmp (q155.2.2.1 0) (q167.1.toInt64)) = 0) then
                                          some (Sum.inl (q167.2, q155.2.2.1, q155.2.2.2))
                                        else
                                          some (Sum.inr (0 : Int32))
                                    else
                                      some (Sum.inr (0 : Int32))
                                    else none
                                    else none
                                  else none
                                  else none
                                  else none
                                else none
                              else
                                bif decide (((xs i.toNatClampNeg) &&& (15 : Int32)) = (14 : Int32)) then
                                  bif pm_in (i + (1 : Int32)) L then
                                  bif decide ((xs (i + (1 : Int32)).toNatClampNeg) = 0) then
                                    bif pm_in (i + (2 : Int32)) L then
                                    bif pm_in (i + (3 : Int32)) L then
                                    (d_La_cell (0 : Int32) (xs (i + (2 : Int32)).toNatClampNeg) (xs (i + (3 : Int32)).toNatClampNeg) v g).bind fun q177 =>
                                    bif pm_in (i + (1 : Int32)) L then
                                    bif decide ((xs (i + (1 : Int32)).toNatClampNeg) = 0) then
                                      bif pm_in (i + (2 : Int32)) L then
                                      bif pm_in (i + (3 : Int32)) L then
                                      (d_Mo_cell (0 : Int32) (xs (i + (2 : Int32)).toNatClampNeg) (xs (i + (3 : Int32)).toNatClampNeg) q177.2.1).bind fun q182 =>
                                      bif decide ((d_Mo_thrown q182.2) = q177.1) then
                                        bif !(decide (q177.1 = 0)) then
                                          some (Sum.inl (q182.2, q177.2.2.1, q177.2.2.2))
                                        else
                                          bif decide ((lg_cmp (q177.2.2.1 0) (q182.1.toInt64)) = 0) then
                                            some (Sum.inl (q182.2, q177.2.2.1, q177.2.2.2))
                                          else
                                            some (Sum.inr (0 : Int32))
                                      else
                                        some (Sum.inr (0 : Int32))
                                      else none
                                      else none
                                    else
                                      bif pm_in (i + (2 : Int32)) L then
                                      bif pm_in (i + (3 : Int32)) L then
                                      (d_Mo_cell (1 : Int32) (xs (i + (2 : Int32)).toNatClampNeg) (xs (i + (3 : Int32)).toNatClampNeg) q177.2.1).bind fun q189 =>
                                      bif decide ((d_Mo_thrown q189.2) = q177.1) then
                                        bif !(decide (q177.1 = 0)) then
                                          some (Sum.inl (q189.2, q177.2.2.1, q177.2.2.2))
                                        else
                                          bif decide ((lg_cmp (q177.2.2.1 0) (q189.1.toInt64)) = 0) then
                                            some (Sum.inl (q189.2, q177.2.2.1, q177.2.2.2))
                                          else
                                            some (Sum.inr (0 : Int32))
                                      else
                                        some (Sum.inr (0 : Int32))
                                      else none
                                      else none
                                    else none
                                    else none
                                    else none
                                  else
                                    bif pm_in (i + (2 : Int32)) L then
                                    bif pm_in (i + (3 : Int32)) L then
                                    (d_La_cell (1 : Int32) (xs (i + (2 : Int32)).toNatClampNeg) (xs (i + (3 : Int32)).toNatClampNeg) v g).bind fun q196 =>
                                    bif pm_in (i + (1 : Int32)) L then
                                    bif decide ((xs (i + (1 : Int32)).toNatClampNeg) = 0) then
                                      bif pm_in (i + (2 : Int32)) L then
                                      bif pm_in (i + (3 : Int32)) L then
                                      (d_Mo_cell (0 : Int32) (xs (i + (2 : Int32)).toNatClampNeg) (xs (i + (3 : Int32)).toNatClampNeg) q196.2.1).bind fun q201 =>
                                      bif decide ((d_Mo_thrown q201.2) = q196.1) then
                                        bif !(decide (q196.1 = 0)) then
                                          some (Sum.inl (q201.2, q196.2.2.1, q196.2.2.2))
                                        else
                                          bif decide ((lg_cmp (q196.2.2.1 0) (q201.1.toInt64)) = 0) then
                                            some (Sum.inl (q201.2, q196.2.2.1, q196.2.2.2))
                                          else
                                            some (Sum.inr (0 : Int32))
                                      else
                                        some (Sum.inr (0 : Int32))
                                      else none
                                      else none
                                    else
                                      bif pm_in (i + (2 : Int32)) L then
                                      bif pm_in (i + (3 : Int32)) L then
                                      (d_Mo_cell (1 : Int32) (xs (i + (2 : Int32)).toNatClampNeg) (xs (i + (3 : Int32)).toNatClampNeg) q196.2.1).bind fun q208 =>
                                      bif decide ((d_Mo_thrown q208.2) = q196.1) then
                                        bif !(decide (q196.1 = 0)) then
                                          some (Sum.inl (q208.2, q196.2.2.1, q196.2.2.2))
                                        else
                                          bif decide ((lg_cmp (q196.2.2.1 0) (q208.1.toInt64)) = 0) then
                                            some (Sum.inl (q208.2, q196.2.2.1, q196.2.2.2))
                                          else
                                            some (Sum.inr (0 : Int32))
                                      else
                                        some (Sum.inr (0 : Int32))
                                      else none
                                      else none
                                    else none
                                    else none
                                    else none
                                  else none
                                else
                                  some (Sum.inl (v, g, 0))
    else none
set_option maxRecDepth 100000 in
set_option maxHeartbeats 4000000 in
theorem s_law {w : Nat} {i : Int32} {v : pd_V} {y5 y6 : Option Value} {q : pd_V × (Nat → Int64) × Nat} {o : pm_O} (h : d_law w xs L i v g = some (Sum.inl q)) (K : ∀ y5 y6 : Option Value, pm_ev (pj_P xs L) (d + 23) 0 (23, [some (.ref 1000000), some (.ref 0), some (.ref 198), some (.ref 222), some (.int (i + (4 : Int32))), y5, y6], [], (223, kc + q.2.2, ks + 6 * q.2.2, pd_H q.2.1 q.1)) o) : pm_ev (pj_P xs L) (d + 23) 0 (23, [some (.ref 1000000), some (.ref 0), some (.ref 198), some (.ref 222), some (.int i), y5, y6], [], (223, kc, ks, pd_H g v)) o := by
  unfold d_law at h
  refine ev_gos pp_law 5 (S' := (29, [some (.ref 1000000), some (.ref 0), some (.ref 198), some (.ref 222), some (.int i), y5, y6], [.int ((Int32.ofNat L) - (4 : Int32)), .int i], (223, kc, ks, pd_H g v))) rfl ?_
  refine ev_gos pp_law 1 (S' := (bif decide (((Int32.ofNat L) - (4 : Int32)) < i) then 895 else 32, [some (.ref 1000000), some (.ref 0), some (.ref 198), some (.ref 222), some (.int i), y5, y6], [], (223, kc, ks, pd_H g v))) rfl ?_
  rcases pd_cases h with ⟨hb1, h⟩ | ⟨hb1, h⟩
  · rw [hb1]
    refine ev_gos pp_law 1 (S' := (896, [some (.ref 1000000), some (.ref 0), some (.ref 198), some (.ref 222), some (.int i), y5, y6], [.int (1 : Int32)], (223, kc, ks, pd_H g v))) rfl ?_
    exact nomatch h
  · rw [hb1]
    refine ev_gos pp_law 2 (S' := (35, [some (.ref 1000000), some (.ref 0), some (.ref 198), some (.ref 222), some (.int i), y5, y6], [.int i, .ref 1000000], (223, kc, ks, pd_H g v))) rfl ?_
    obtain ⟨hc2, h⟩ := pd_chk h
    refine ev_sald pp_law rfl hc2 ?_
    refine ev_gos pp_law 2 (S' := (39, [some (.ref 1000000), some (.ref 0), some (.ref 198), some (.ref 222), some (.int i), y5, y6], [.int ((xs i.toNatClampNeg) &&& (15 : Int32))], (223, kc, ks, pd_H g v))) rfl ?_
    refine ev_gos pp_law 1 (S' := (bif decide (((xs i.toNatClampNeg) &&& (15 : Int32)) = (0 : Int32)) then 112 else bif decide (((xs i.toNatClampNeg) &&& (15 : Int32)) = (1 : Int32)) then 212 else bif decide (((xs i.toNatClampNeg) &&& (15 : Int32)) = (2 : Int32)) then 223 else bif decide (((xs i.toNatClampNeg) &&& (15 : Int32)) = (3 : Int32)) then 236 else bif decide (((xs i.toNatClampNeg) &&& (15 : Int32)) = (4 : Int32)) then 249 else bif decide (((xs i.toNatClampNeg) &&& (15 : Int32)) = (5 : Int32)) then 312 else bif decide (((xs i.toNatClampNeg) &&& (15 : Int32)) = (6 : Int32)) then 360 else bif decide (((xs i.toNatClampNeg) &&& (15 : Int32)) = (7 : Int32)) then 396 else bif decide (((xs i.toNatClampNeg) &&& (15 : Int32)) = (8 : Int32)) then 420 else bif decide (((xs i.toNatClampNeg) &&& (15 : Int32)) = (9 : Int32)) then 476 else bif decide (((xs i.toNatClampNeg) &&& (15 : Int32)) = (10 : Int32)) then 489 else bif decide (((xs i.toNatClampNeg) &&& (15 : Int32)) = (11 : Int32)) then 545 else bif decide (((xs i.toNatClampNeg) &&& (15 : Int32)) = (12 : Int32)) then 601 else bif decide (((xs i.toNatClampNeg) &&& (15 : Int32)) = (13 : Int32)) then 697 else bif decide (((xs i.toNatClampNeg) &&& (15 : Int32)) = (14 : Int32)) then 793 else 889, [some (.ref 1000000), some (.ref 0), some (.ref 198), some (.ref 222), some (.int i), y5, y6], [], (223, kc, ks, pd_H g v))) rfl ?_
    rcases pd_cases h with ⟨hb3, h⟩ | ⟨hb3, h⟩
    · rw [hb3]
      refine ev_gos pp_law 5 (S' := (118, [some (.ref 1000000), some (.ref 0), some (.ref 198), some (.ref 222), some (.int i), y5, y6], [.int (i + (1 : Int32)), .ref 1000000, .ref 0], (223, kc, ks, pd_H g v))) rfl ?_
      obtain ⟨hc4, h⟩ := pd_chk h
      refine ev_sald pp_law rfl hc4 ?_
      refine ev_gos pp_law 7 (S' := (128, [some (.ref 1000000), some (.ref 0), some (.ref 198), some (.ref 222), some (.int i), y5, y6], [.int (i + (2 : Int32)), .ref 1000000, .long (((xs (i + (1 : Int32)).toNatClampNeg).toInt64) <<< ((32 : Int32).toInt64 &&& 63)), .ref 0], (223, kc, ks, pd_H g v))) rfl ?_
      obtain ⟨hc5, h⟩ := pd_chk h
      refine ev_sald pp_law rfl hc5 ?_
      refine ev_gos pp_law 8 (S' := (140, [some (.ref 1000000), some (.ref 0), some (.ref 198), some (.ref 222), some (.int i), y5, y6], [.int (i + (3 : Int32)), .ref 1000000, .long ((((xs (i + (1 : Int32)).toNatClampNeg).toInt64) <<< ((32 : Int32).toInt64 &&& 63)) ||| (((xs (i + (2 : Int32)).toNatClampNeg).toInt64) &&& (4294967295 : Int64))), .ref 0], (223, kc, ks, pd_H g v))) rfl ?_
      obtain ⟨hc6, h⟩ := pd_chk h
      refine ev_sald pp_law rfl hc6 ?_
      refine ev_gos pp_law 1 (S' := (142, [some (.ref 1000000), some (.ref 0), some (.ref 198), some (.ref 222), some (.int i), y5, y6], [.ref 222, .int (xs (i + (3 : Int32)).toNatClampNeg), .long ((((xs (i + (1 : Int32)).toNatClampNeg).toInt64) <<< ((32 : Int32).toInt64 &&& 63)) ||| (((xs (i + (2 : Int32)).toNatClampNeg).toInt64) &&& (4294967295 : Int64))), .ref 0], (223, kc, ks, pd_H g v))) rfl ?_
      obtain ⟨q7, hq7, h⟩ := pd_bind h
      refine ev_call pp_law rfl rfl rfl (s_La_type hq7) ?_
      refine ev_gos pp_law 6 (S' := (153, [some (.ref 1000000), some (.ref 0), some (.ref 198), some (.ref 222), some (.int i), some (.int q7.1), y6], [.int (i + (1 : Int32)), .ref 1000000, .ref 198], (223, (kc + q7.2.2.2), (ks + 6 * q7.2.2.2), pd_H q7.2.2.1 q7.2.1))) rfl ?_
      obtain ⟨hc8, h⟩ := pd_chk h
      refine ev_sald pp_law rfl hc8 ?_
      refine ev_gos pp_law 7 (S' := (163, [some (.ref 1000000), some (.ref 0), some (.ref 198), some (.ref 222), some (.int i), some (.int q7.1), y6], [.int (i + (2 : Int32)), .ref 1000000, .long (((xs (i + (1 : Int32)).toNatClampNeg).toInt64) <<< ((32 : Int32).toInt64 &&& 63)), .ref 198], (223, (kc + q7.2.2.2), (ks + 6 * q7.2.2.2), pd_H q7.2.2.1 q7.2.1))) rfl ?_
      obtain ⟨hc9, h⟩ := pd_chk h
      refine ev_sald pp_law rfl hc9 ?_
      refine ev_gos pp_law 8 (S' := (175, [some (.ref 1000000), some (.ref 0), some (.ref 198), some (.ref 222), some (.int i), some (.int q7.1), y6], [.int (i + (3 : Int32)), .ref 1000000, .long ((((xs (i + (1 : Int32)).toNatClampNeg).toInt64) <<< ((32 : Int32).toInt64 &&& 63)) ||| (((xs (i + (2 : Int32)).toNatClampNeg).toInt64) &&& (4294967295 : Int64))), .ref 198], (223, (kc + q7.2.2.2), (ks + 6 * q7.2.2.2), pd_H q7.2.2.1 q7.2.1))) rfl ?_
      obtain ⟨hc10, h⟩ := pd_chk h
      refine ev_sald pp_law rfl hc10 ?_
      refine ev_gos pp_law 0 (S' := (176, [some (.ref 1000000), some (.ref 0), some (.ref 198), some (.ref 222), some (.int i), some (.int q7.1), y6], [.int (xs (i + (3 : Int32)).toNatClampNeg), .long ((((xs (i + (1 : Int32)).toNatClampNeg).toInt64) <<< ((32 : Int32).toInt64 &&& 63)) ||| (((xs (i + (2 : Int32)).toNatClampNeg).toInt64) &&& (4294967295 : Int64))), .ref 198], (223, (kc + q7.2.2.2), (ks + 6 * q7.2.2.2), pd_H q7.2.2.1 q7.2.1))) rfl ?_
      obtain ⟨q11, hq11, h⟩ := pd_bind h
      refine ev_callv pp_law rfl rfl rfl rfl (s_Mo_type hq11) ?_
      refine ev_gos pp_law 2 (S' := (182, [some (.ref 1000000), some (.ref 0), some (.ref 198), some (.ref 222), some (.int i), some (.int q7.1), some (.int q11.1)], [.ref 198], (223, (kc + q7.2.2.2), (ks + 6 * q7.2.2.2), pd_H q7.2.2.1 q11.2))) rfl ?_
      refine ev_callv pp_law rfl rfl rfl rfl (s_Mo_thrown) ?_
      refine ev_gos pp_law 1 (S' := (187, [some (.ref 1000000), some (.ref 0), some (.ref 198), some (.ref 222), some (.int i), some (.int q7.1), some (.int q11.1)], [.int q7.1, .int (d_Mo_thrown q11.2)], (223, (kc + q7.2.2.2), (ks + 6 * q7.2.2.2), pd_H q7.2.2.1 q11.2))) rfl ?_
      refine ev_gos pp_law 1 (S' := (bif decide ((d_Mo_thrown q11.2) = q7.1) then 192 else 190, [some (.ref 1000000), some (.ref 0), some (.ref 198), some (.ref 222), some (.int i), some (.int q7.1), some (.int q11.1)], [], (223, (kc + q7.2.2.2), (ks + 6 * q7.2.2.2), pd_H q7.2.2.1 q11.2))) rfl ?_
      rcases pd_cases h with ⟨hb13, h⟩ | ⟨hb13, h⟩
      · rw [hb13]
        refine ev_gos pp_law 1 (S' := (194, [some (.ref 1000000), some (.ref 0), some (.ref 198), some (.ref 222), some (.int i), some (.int q7.1), some (.int q11.1)], [.int q7.1], (223, (kc + q7.2.2.2), (ks + 6 * q7.2.2.2), pd_H q7.2.2.1 q11.2))) rfl ?_
        refine ev_gos pp_law 1 (S' := (bif !(decide (q7.1 = 0)) then 209 else 197, [some (.ref 1000000), some (.ref 0), some (.ref 198), some (.ref 222), some (.int i), some (.int q7.1), some (.int q11.1)], [], (223, (kc + q7.2.2.2), (ks + 6 * q7.2.2.2), pd_H q7.2.2.1 q11.2))) rfl ?_
        rcases pd_cases h with ⟨hb14, h⟩ | ⟨hb14, h⟩
        · rw [hb14]
          refine ev_gos pp_law 3 (S' := (23, [some (.ref 1000000), some (.ref 0), some (.ref 198), some (.ref 222), some (.int (i + (4 : Int32))), some (.int q7.1), some (.int q11.1)], [], (223, (kc + q7.2.2.2), (ks + 6 * q7.2.2.2), pd_H q7.2.2.1 q11.2))) rfl ?_
          cases h
          exact K _ _
        · rw [hb14]
          refine ev_gos pp_law 2 (S' := (199, [some (.ref 1000000), some (.ref 0), some (.ref 198), some (.ref 222), some (.int i), some (.int q7.1), some (.int q11.1)], [.int (0 : Int32), .ref 222], (223, (kc + q7.2.2.2), (ks + 6 * q7.2.2.2), pd_H q7.2.2.1 q11.2))) rfl ?_
          refine ev_lald pp_law rfl ?_
          refine ev_gos pp_law 3 (S' := (204, [some (.ref 1000000), some (.ref 0), some (.ref 198), some (.ref 222), some (.int i), some (.int q7.1), some (.int q11.1)], [.int (lg_cmp (q7.2.2.1 0) (q11.1.toInt64))], (223, (kc + q7.2.2.2), (ks + 6 * q7.2.2.2), pd_H q7.2.2.1 q11.2))) rfl ?_
          refine ev_gos pp_law 1 (S' := (bif decide ((lg_cmp (q7.2.2.1 0) (q11.1.toInt64)) = 0) then 209 else 207, [some (.ref 1000000), some (.ref 0), some (.ref 198), some (.ref 222), some (.int i), some (.int q7.1), some (.int q11.1)], [], (223, (kc + q7.2.2.2), (ks + 6 * q7.2.2.2), pd_H q7.2.2.1 q11.2))) rfl ?_
          rcases pd_cases h with ⟨hb15, h⟩ | ⟨hb15, h⟩
          · rw [hb15]
            refine ev_gos pp_law 3 (S' := (23, [some (.ref 1000000), some (.ref 0), some (.ref 198), some (.ref 222), some (.int (i + (4 : Int32))), some (.int q7.1), some (.int q11.1)], [], (223, (kc + q7.2.2.2), (ks + 6 * q7.2.2.2), pd_H q7.2.2.1 q11.2))) rfl ?_
            cases h
            exact K _ _
          · rw [hb15]
            refine ev_gos pp_law 1 (S' := (208, [some (.ref 1000000), some (.ref 0), some (.ref 198), some (.ref 222), some (.int i), some (.int q7.1), some (.int q11.1)], [.int (0 : Int32)], (223, (kc + q7.2.2.2), (ks + 6 * q7.2.2.2), pd_H q7.2.2.1 q11.2))) rfl ?_
            exact nomatch h
      · rw [hb13]
        refine ev_gos pp_law 1 (S' := (191, [some (.ref 1000000), some (.ref 0), some (.ref 198), some (.ref 222), some (.int i), some (.int q7.1), some (.int q11.1)], [.int (0 : Int32)], (223, (kc + q7.2.2.2), (ks + 6 * q7.2.2.2), pd_H q7.2.2.1 q11.2))) rfl ?_
        exact nomatch h
    · rw [hb3]
      rcases pd_cases h with ⟨hb16, h⟩ | ⟨hb16, h⟩
      · rw [hb16]
        refine ev_gos pp_law 1 (S' := (213, [some (.ref 1000000), some (.ref 0), some (.ref 198), some (.ref 222), some (.int i), y5, y6], [.ref 0], (223, kc, ks, pd_H g v))) rfl ?_
        obtain ⟨q17, hq17, h⟩ := pd_bind h
        refine ev_callv pp_law rfl rfl rfl rfl (s_De_clear hq17) ?_
        refine ev_gos pp_law 1 (S' := (217, [some (.ref 1000000), some (.ref 0), some (.ref 198), some (.ref 222), some (.int i), y5, y6], [.ref 198], (223, kc, ks, pd_H g q17))) rfl ?_
        obtain ⟨q18, hq18, h⟩ := pd_bind h
        refine ev_callv pp_law rfl rfl rfl rfl (s_Mo_clear hq18) ?_
        refine ev_gos pp_law 3 (S' := (23, [some (.ref 1000000), some (.ref 0), some (.ref 198), some (.ref 222), some (.int (i + (4 : Int32))), y5, y6], [], (223, kc, ks, pd_H g q18))) rfl ?_
        cases h
        exact K _ _
      · rw [hb16]
        rcases pd_cases h with ⟨hb19, h⟩ | ⟨hb19, h⟩
        · rw [hb19]
          refine ev_gos pp_law 1 (S' := (224, [some (.ref 1000000), some (.ref 0), some (.ref 198), some (.ref 222), some (.int i), y5, y6], [.ref 0], (223, kc, ks, pd_H g v))) rfl ?_
          obtain ⟨q20, hq20, h⟩ := pd_bind h
          refine ev_callv pp_law rfl rfl rfl rfl (s_De_compile hq20) ?_
          refine ev_gos pp_law 1 (S' := (228, [some (.ref 1000000), some (.ref 0), some (.ref 198), some (.ref 222), some (.int i), y5, y6], [.ref 198, .int q20.1], (223, kc, ks, pd_H g q20.2))) rfl ?_
          obtain ⟨q21, hq21, h⟩ := pd_bind h
          refine ev_callv pp_law rfl rfl rfl rfl (s_Mo_compile hq21) ?_
          refine ev_gos pp_law 0 (S' := (231, [some (.ref 1000000), some (.ref 0), some (.ref 198), some (.ref 222), some (.int i), y5, y6], [.int q21.1, .int q20.1], (223, kc, ks, pd_H g q21.2))) rfl ?_
          refine ev_gos pp_law 1 (S' := (bif decide (q20.1 = q21.1) then 889 else 234, [some (.ref 1000000), some (.ref 0), some (.ref 198), some (.ref 222), some (.int i), y5, y6], [], (223, kc, ks, pd_H g q21.2))) rfl ?_
          rcases pd_cases h with ⟨hb22, h⟩ | ⟨hb22, h⟩
          · rw [hb22]
            refine ev_gos pp_law 2 (S' := (23, [some (.ref 1000000), some (.ref 0), some (.ref 198), some (.ref 222), some (.int (i + (4 : Int32))), y5, y6], [], (223, kc, ks, pd_H g q21.2))) rfl ?_
            cases h
            exact K _ _
          · rw [hb22]
            refine ev_gos pp_law 1 (S' := (235, [some (.ref 1000000), some (.ref 0), some (.ref 198), some (.ref 222), some (.int i), y5, y6], [.int (0 : Int32)], (223, kc, ks, pd_H g q21.2))) rfl ?_
            exact nomatch h
        · rw [hb19]
          rcases pd_cases h with ⟨hb23, h⟩ | ⟨hb23, h⟩
          · rw [hb23]
            refine ev_gos pp_law 1 (S' := (237, [some (.ref 1000000), some (.ref 0), some (.ref 198), some (.ref 222), some (.int i), y5, y6], [.ref 0], (223, kc, ks, pd_H g v))) rfl ?_
            refine ev_callv pp_law rfl rfl rfl rfl (s_De_place) ?_
            refine ev_gos pp_law 1 (S' := (241, [some (.ref 1000000), some (.ref 0), some (.ref 198), some (.ref 222), some (.int i), y5, y6], [.ref 198, .int (d_De_place v)], (223, kc, ks, pd_H g v))) rfl ?_
            obtain ⟨q25, hq25, h⟩ := pd_bind h
            refine ev_callv pp_law rfl rfl rfl rfl (s_Mo_place hq25) ?_
            refine ev_gos pp_law 0 (S' := (244, [some (.ref 1000000), some (.ref 0), some (.ref 198), some (.ref 222), some (.int i), y5, y6], [.int q25.1, .int (d_De_place v)], (223, kc, ks, pd_H g q25.2))) rfl ?_
            refine ev_gos pp_law 1 (S' := (bif decide ((d_De_place v) = q25.1) then 889 else 247, [some (.ref 1000000), some (.ref 0), some (.ref 198), some (.ref 222), some (.int i), y5, y6], [], (223, kc, ks, pd_H g q25.2))) rfl ?_
            rcases pd_cases h with ⟨hb26, h⟩ | ⟨hb26, h⟩
            · rw [hb26]
              refine ev_gos pp_law 2 (S' := (23, [some (.ref 1000000), some (.ref 0), some (.ref 198), some (.ref 222), some (.int (i + (4 : Int32))), y5, y6], [], (223, kc, ks, pd_H g q25.2))) rfl ?_
              cases h
              exact K _ _
            · rw [hb26]
              refine ev_gos pp_law 1 (S' := (248, [some (.ref 1000000), some (.ref 0), some (.ref 198), some (.ref 222), some (.int i), y5, y6], [.int (0 : Int32)], (223, kc, ks, pd_H g q25.2))) rfl ?_
              exact nomatch h
          · rw [hb23]
            rcases pd_cases h with ⟨hb27, h⟩ | ⟨hb27, h⟩
            · rw [hb27]
              refine ev_gos pp_law 5 (S' := (255, [some (.ref 1000000), some (.ref 0), some (.ref 198), some (.ref 222), some (.int i), y5, y6], [.int (i + (1 : Int32)), .ref 1000000, .ref 0], (223, kc, ks, pd_H g v))) rfl ?_
              obtain ⟨hc28, h⟩ := pd_chk h
              refine ev_sald pp_law rfl hc28 ?_
              refine ev_gos pp_law 1 (S' := (257, [some (.ref 1000000), some (.ref 0), some (.ref 198), some (.ref 222), some (.int i), y5, y6], [.ref 222, .int (xs (i + (1 : Int32)).toNatClampNeg), .ref 0], (223, kc, ks, pd_H g v))) rfl ?_
              obtain ⟨q29, hq29, h⟩ := pd_bind h
              refine ev_call pp_law rfl rfl rfl (s_La_varies hq29) ?_
              refine ev_gos pp_law 6 (S' := (268, [some (.ref 1000000), some (.ref 0), some (.ref 198), some (.ref 222), some (.int i), some (.int q29.1), y6], [.int (i + (1 : Int32)), .ref 1000000, .ref 198], (223, (kc + q29.2.2.2), (ks + 6 * q29.2.2.2), pd_H q29.2.2.1 q29.2.1))) rfl ?_
              obtain ⟨hc30, h⟩ := pd_chk h
              refine ev_sald pp_law rfl hc30 ?_
              refine ev_gos pp_law 0 (S' := (269, [some (.ref 1000000), some (.ref 0), some (.ref 198), some (.ref 222), some (.int i), some (.int q29.1), y6], [.int (xs (i + (1 : Int32)).toNatClampNeg), .ref 198], (223, (kc + q29.2.2.2), (ks + 6 * q29.2.2.2), pd_H q29.2.2.1 q29.2.1))) rfl ?_
              obtain ⟨q31, hq31, h⟩ := pd_bind h
              refine ev_callv pp_law rfl rfl rfl rfl (s_Mo_varies hq31) ?_
              refine ev_gos pp_law 2 (S' := (275, [some (.ref 1000000), some (.ref 0), some (.ref 198), some (.ref 222), some (.int i), some (.int q29.1), some (.int q31.1)], [.ref 198], (223, (kc + q29.2.2.2), (ks + 6 * q29.2.2.2), pd_H q29.2.2.1 q31.2))) rfl ?_
              refine ev_callv pp_law rfl rfl rfl rfl (s_Mo_thrown) ?_
              refine ev_gos pp_law 1 (S' := (280, [some (.ref 1000000), some (.ref 0), some (.ref 198), some (.ref 222), some (.int i), some (.int q29.1), some (.int q31.1)], [.int q29.1, .int (d_Mo_thrown q31.2)], (223, (kc + q29.2.2.2), (ks + 6 * q29.2.2.2), pd_H q29.2.2.1 q31.2))) rfl ?_
              refine ev_gos pp_law 1 (S' := (bif decide ((d_Mo_thrown q31.2) = q29.1) then 285 else 283, [some (.ref 1000000), some (.ref 0), some (.ref 198), some (.ref 222), some (.int i), some (.int q29.1), some (.int q31.1)], [], (223, (kc + q29.2.2.2), (ks + 6 * q29.2.2.2), pd_H q29.2.2.1 q31.2))) rfl ?_
              rcases pd_cases h with ⟨hb33, h⟩ | ⟨hb33, h⟩
              · rw [hb33]
                refine ev_gos pp_law 1 (S' := (287, [some (.ref 1000000), some (.ref 0), some (.ref 198), some (.ref 222), some (.int i), some (.int q29.1), some (.int q31.1)], [.int q29.1], (223, (kc + q29.2.2.2), (ks + 6 * q29.2.2.2), pd_H q29.2.2.1 q31.2))) rfl ?_
                refine ev_gos pp_law 1 (S' := (bif !(decide (q29.1 = 0)) then 309 else 290, [some (.ref 1000000), some (.ref 0), some (.ref 198), some (.ref 222), some (.int i), some (.int q29.1), some (.int q31.1)], [], (223, (kc + q29.2.2.2), (ks + 6 * q29.2.2.2), pd_H q29.2.2.1 q31.2))) rfl ?_
                rcases pd_cases h with ⟨hb34, h⟩ | ⟨hb34, h⟩
                · rw [hb34]
                  refine ev_gos pp_law 3 (S' := (23, [some (.ref 1000000), some (.ref 0), some (.ref 198), some (.ref 222), some (.int (i + (4 : Int32))), some (.int q29.1), some (.int q31.1)], [], (223, (kc + q29.2.2.2), (ks + 6 * q29.2.2.2), pd_H q29.2.2.1 q31.2))) rfl ?_
                  cases h
                  exact K _ _
                · rw [hb34]
                  refine ev_gos pp_law 2 (S' := (292, [some (.ref 1000000), some (.ref 0), some (.ref 198), some (.ref 222), some (.int i), some (.int q29.1), some (.int q31.1)], [.int (0 : Int32), .ref 222], (223, (kc + q29.2.2.2), (ks + 6 * q29.2.2.2), pd_H q29.2.2.1 q31.2))) rfl ?_
                  refine ev_lald pp_law rfl ?_
                  refine ev_gos pp_law 1 (S' := (295, [some (.ref 1000000), some (.ref 0), some (.ref 198), some (.ref 222), some (.int i), some (.int q29.1), some (.int q31.1)], [.int q31.1, .long (q29.2.2.1 0)], (223, (kc + q29.2.2.2), (ks + 6 * q29.2.2.2), pd_H q29.2.2.1 q31.2))) rfl ?_
                  refine ev_gos pp_law 1 (S' := (bif decide (q31.1 = 0) then 302 else 298, [some (.ref 1000000), some (.ref 0), some (.ref 198), some (.ref 222), some (.int i), some (.int q29.1), some (.int q31.1)], [.long (q29.2.2.1 0)], (223, (kc + q29.2.2.2), (ks + 6 * q29.2.2.2), pd_H q29.2.2.1 q31.2))) rfl ?_
                  rcases pd_cases h with ⟨hb35, h⟩ | ⟨hb35, h⟩
                  · rw [hb35]
                    refine ev_gos pp_law 2 (S' := (304, [some (.ref 1000000), some (.ref 0), some (.ref 198), some (.ref 222), some (.int i), some (.int q29.1), some (.int q31.1)], [.int (lg_cmp (q29.2.2.1 0) (0 : Int64))], (223, (kc + q29.2.2.2), (ks + 6 * q29.2.2.2), pd_H q29.2.2.1 q31.2))) rfl ?_
                    refine ev_gos pp_law 1 (S' := (bif decide ((lg_cmp (q29.2.2.1 0) (0 : Int64)) = 0) then 309 else 307, [some (.ref 1000000), some (.ref 0), some (.ref 198), some (.ref 222), some (.int i), some (.int q29.1), some (.int q31.1)], [], (223, (kc + q29.2.2.2), (ks + 6 * q29.2.2.2), pd_H q29.2.2.1 q31.2))) rfl ?_
                    rcases pd_cases h with ⟨hb36, h⟩ | ⟨hb36, h⟩
                    · rw [hb36]
                      refine ev_gos pp_law 3 (S' := (23, [some (.ref 1000000), some (.ref 0), some (.ref 198), some (.ref 222), some (.int (i + (4 : Int32))), some (.int q29.1), some (.int q31.1)], [], (223, (kc + q29.2.2.2), (ks + 6 * q29.2.2.2), pd_H q29.2.2.1 q31.2))) rfl ?_
                      cases h
                      exact K _ _
                    · rw [hb36]
                      refine ev_gos pp_law 1 (S' := (308, [some (.ref 1000000), some (.ref 0), some (.ref 198), some (.ref 222), some (.int i), some (.int q29.1), some (.int q31.1)], [.int (0 : Int32)], (223, (kc + q29.2.2.2), (ks + 6 * q29.2.2.2), pd_H q29.2.2.1 q31.2))) rfl ?_
                      exact nomatch h
                  · rw [hb35]
                    refine ev_gos pp_law 3 (S' := (304, [some (.ref 1000000), some (.ref 0), some (.ref 198), some (.ref 222), some (.int i), some (.int q29.1), some (.int q31.1)], [.int (lg_cmp (q29.2.2.1 0) (1 : Int64))], (223, (kc + q29.2.2.2), (ks + 6 * q29.2.2.2), pd_H q29.2.2.1 q31.2))) rfl ?_
                    refine ev_gos pp_law 1 (S' := (bif decide ((lg_cmp (q29.2.2.1 0) (1 : Int64)) = 0) then 309 else 307, [some (.ref 1000000), some (.ref 0), some (.ref 198), some (.ref 222), some (.int i), some (.int q29.1), some (.int q31.1)], [], (223, (kc + q29.2.2.2), (ks + 6 * q29.2.2.2), pd_H q29.2.2.1 q31.2))) rfl ?_
                    rcases pd_cases h with ⟨hb37, h⟩ | ⟨hb37, h⟩
                    · rw [hb37]
                      refine ev_gos pp_law 3 (S' := (23, [some (.ref 1000000), some (.ref 0), some (.ref 198), some (.ref 222), some (.int (i + (4 : Int32))), some (.int q29.1), some (.int q31.1)], [], (223, (kc + q29.2.2.2), (ks + 6 * q29.2.2.2), pd_H q29.2.2.1 q31.2))) rfl ?_
                      cases h
                      exact K _ _
                    · rw [hb37]
                      refine ev_gos pp_law 1 (S' := (308, [some (.ref 1000000), some (.ref 0), some (.ref 198), some (.ref 222), some (.int i), some (.int q29.1), some (.int q31.1)], [.int (0 : Int32)], (223, (kc + q29.2.2.2), (ks + 6 * q29.2.2.2), pd_H q29.2.2.1 q31.2))) rfl ?_
                      exact nomatch h
              · rw [hb33]
                refine ev_gos pp_law 1 (S' := (284, [some (.ref 1000000), some (.ref 0), some (.ref 198), some (.ref 222), some (.int i), some (.int q29.1), some (.int q31.1)], [.int (0 : Int32)], (223, (kc + q29.2.2.2), (ks + 6 * q29.2.2.2), pd_H q29.2.2.1 q31.2))) rfl ?_
                exact nomatch h
            · rw [hb27]
              rcases pd_cases h with ⟨hb38, h⟩ | ⟨hb38, h⟩
              · rw [hb38]
                refine ev_gos pp_law 5 (S' := (318, [some (.ref 1000000), some (.ref 0), some (.ref 198), some (.ref 222), some (.int i), y5, y6], [.int (i + (1 : Int32)), .ref 1000000, .ref 0], (223, kc, ks, pd_H g v))) rfl ?_
                obtain ⟨hc39, h⟩ := pd_chk h
                refine ev_sald pp_law rfl hc39 ?_
                refine ev_gos pp_law 4 (S' := (324, [some (.ref 1000000), some (.ref 0), some (.ref 198), some (.ref 222), some (.int i), y5, y6], [.int (i + (2 : Int32)), .ref 1000000, .int (xs (i + (1 : Int32)).toNatClampNeg), .ref 0], (223, kc, ks, pd_H g v))) rfl ?_
                obtain ⟨hc40, h⟩ := pd_chk h
                refine ev_sald pp_law rfl hc40 ?_
                refine ev_gos pp_law 0 (S' := (325, [some (.ref 1000000), some (.ref 0), some (.ref 198), some (.ref 222), some (.int i), y5, y6], [.int (xs (i + (2 : Int32)).toNatClampNeg), .int (xs (i + (1 : Int32)).toNatClampNeg), .ref 0], (223, kc, ks, pd_H g v))) rfl ?_
                obtain ⟨q41, hq41, h⟩ := pd_bind h
                refine ev_call pp_law rfl rfl rfl (s_La_input hq41) ?_
                refine ev_gos pp_law 6 (S' := (336, [some (.ref 1000000), some (.ref 0), some (.ref 198), some (.ref 222), some (.int i), some (.int q41.1), y6], [.int (i + (1 : Int32)), .ref 1000000, .ref 198], (223, (kc + q41.2.2.2), (ks + 6 * q41.2.2.2), pd_H q41.2.2.1 q41.2.1))) rfl ?_
                obtain ⟨hc42, h⟩ := pd_chk h
                refine ev_sald pp_law rfl hc42 ?_
                refine ev_gos pp_law 4 (S' := (342, [some (.ref 1000000), some (.ref 0), some (.ref 198), some (.ref 222), some (.int i), some (.int q41.1), y6], [.int (i + (2 : Int32)), .ref 1000000, .int (xs (i + (1 : Int32)).toNatClampNeg), .ref 198], (223, (kc + q41.2.2.2), (ks + 6 * q41.2.2.2), pd_H q41.2.2.1 q41.2.1))) rfl ?_
                obtain ⟨hc43, h⟩ := pd_chk h
                refine ev_sald pp_law rfl hc43 ?_
                refine ev_gos pp_law 0 (S' := (343, [some (.ref 1000000), some (.ref 0), some (.ref 198), some (.ref 222), some (.int i), some (.int q41.1), y6], [.int (xs (i + (2 : Int32)).toNatClampNeg), .int (xs (i + (1 : Int32)).toNatClampNeg), .ref 198], (223, (kc + q41.2.2.2), (ks + 6 * q41.2.2.2), pd_H q41.2.2.1 q41.2.1))) rfl ?_
                obtain ⟨q44, hq44, h⟩ := pd_bind h
                refine ev_callv pp_law rfl rfl rfl rfl (s_Mo_input hq44) ?_
                refine ev_gos pp_law 1 (S' := (347, [some (.ref 1000000), some (.ref 0), some (.ref 198), some (.ref 222), some (.int i), some (.int q41.1), y6], [.ref 198], (223, (kc + q41.2.2.2), (ks + 6 * q41.2.2.2), pd_H q41.2.2.1 q44))) rfl ?_
                refine ev_callv pp_law rfl rfl rfl rfl (s_Mo_thrown) ?_
                refine ev_gos pp_law 1 (S' := (352, [some (.ref 1000000), some (.ref 0), some (.ref 198), some (.ref 222), some (.int i), some (.int q41.1), y6], [.int q41.1, .int (d_Mo_thrown q44)], (223, (kc + q41.2.2.2), (ks + 6 * q41.2.2.2), pd_H q41.2.2.1 q44))) rfl ?_
                refine ev_gos pp_law 1 (S' := (bif decide ((d_Mo_thrown q44) = q41.1) then 357 else 355, [some (.ref 1000000), some (.ref 0), some (.ref 198), some (.ref 222), some (.int i), some (.int q41.1), y6], [], (223, (kc + q41.2.2.2), (ks + 6 * q41.2.2.2), pd_H q41.2.2.1 q44))) rfl ?_
                rcases pd_cases h with ⟨hb46, h⟩ | ⟨hb46, h⟩
                · rw [hb46]
                  refine ev_gos pp_law 3 (S' := (23, [some (.ref 1000000), some (.ref 0), some (.ref 198), some (.ref 222), some (.int (i + (4 : Int32))), some (.int q41.1), y6], [], (223, (kc + q41.2.2.2), (ks + 6 * q41.2.2.2), pd_H q41.2.2.1 q44))) rfl ?_
                  cases h
                  exact K _ _
                · rw [hb46]
                  refine ev_gos pp_law 1 (S' := (356, [some (.ref 1000000), some (.ref 0), some (.ref 198), some (.ref 222), some (.int i), some (.int q41.1), y6], [.int (0 : Int32)], (223, (kc + q41.2.2.2), (ks + 6 * q41.2.2.2), pd_H q41.2.2.1 q44))) rfl ?_
                  exact nomatch h
              · rw [hb38]
                rcases pd_cases h with ⟨hb47, h⟩ | ⟨hb47, h⟩
                · rw [hb47]
                  refine ev_gos pp_law 5 (S' := (366, [some (.ref 1000000), some (.ref 0), some (.ref 198), some (.ref 222), some (.int i), y5, y6], [.int (i + (1 : Int32)), .ref 1000000, .ref 0], (223, kc, ks, pd_H g v))) rfl ?_
                  obtain ⟨hc48, h⟩ := pd_chk h
                  refine ev_sald pp_law rfl hc48 ?_
                  refine ev_gos pp_law 0 (S' := (367, [some (.ref 1000000), some (.ref 0), some (.ref 198), some (.ref 222), some (.int i), y5, y6], [.int (xs (i + (1 : Int32)).toNatClampNeg), .ref 0], (223, kc, ks, pd_H g v))) rfl ?_
                  obtain ⟨q49, hq49, h⟩ := pd_bind h
                  refine ev_call pp_law rfl rfl rfl (s_La_lanes hq49) ?_
                  refine ev_gos pp_law 6 (S' := (378, [some (.ref 1000000), some (.ref 0), some (.ref 198), some (.ref 222), some (.int i), some (.int q49.1), y6], [.int (i + (1 : Int32)), .ref 1000000, .ref 198], (223, (kc + q49.2.2.2), (ks + 6 * q49.2.2.2), pd_H q49.2.2.1 q49.2.1))) rfl ?_
                  obtain ⟨hc50, h⟩ := pd_chk h
                  refine ev_sald pp_law rfl hc50 ?_
                  refine ev_gos pp_law 0 (S' := (379, [some (.ref 1000000), some (.ref 0), some (.ref 198), some (.ref 222), some (.int i), some (.int q49.1), y6], [.int (xs (i + (1 : Int32)).toNatClampNeg), .ref 198], (223, (kc + q49.2.2.2), (ks + 6 * q49.2.2.2), pd_H q49.2.2.1 q49.2.1))) rfl ?_
                  obtain ⟨q51, hq51, h⟩ := pd_bind h
                  refine ev_callv pp_law rfl rfl rfl rfl (s_Mo_lanes hq51) ?_
                  refine ev_gos pp_law 1 (S' := (383, [some (.ref 1000000), some (.ref 0), some (.ref 198), some (.ref 222), some (.int i), some (.int q49.1), y6], [.ref 198], (223, (kc + q49.2.2.2), (ks + 6 * q49.2.2.2), pd_H q49.2.2.1 q51))) rfl ?_
                  refine ev_callv pp_law rfl rfl rfl rfl (s_Mo_thrown) ?_
                  refine ev_gos pp_law 1 (S' := (388, [some (.ref 1000000), some (.ref 0), some (.ref 198), some (.ref 222), some (.int i), some (.int q49.1), y6], [.int q49.1, .int (d_Mo_thrown q51)], (223, (kc + q49.2.2.2), (ks + 6 * q49.2.2.2), pd_H q49.2.2.1 q51))) rfl ?_
                  refine ev_gos pp_law 1 (S' := (bif decide ((d_Mo_thrown q51) = q49.1) then 393 else 391, [some (.ref 1000000), some (.ref 0), some (.ref 198), some (.ref 222), some (.int i), some (.int q49.1), y6], [], (223, (kc + q49.2.2.2), (ks + 6 * q49.2.2.2), pd_H q49.2.2.1 q51))) rfl ?_
                  rcases pd_cases h with ⟨hb53, h⟩ | ⟨hb53, h⟩
                  · rw [hb53]
                    refine ev_gos pp_law 3 (S' := (23, [some (.ref 1000000), some (.ref 0), some (.ref 198), some (.ref 222), some (.int (i + (4 : Int32))), some (.int q49.1), y6], [], (223, (kc + q49.2.2.2), (ks + 6 * q49.2.2.2), pd_H q49.2.2.1 q51))) rfl ?_
                    cases h
                    exact K _ _
                  · rw [hb53]
                    refine ev_gos pp_law 1 (S' := (392, [some (.ref 1000000), some (.ref 0), some (.ref 198), some (.ref 222), some (.int i), some (.int q49.1), y6], [.int (0 : Int32)], (223, (kc + q49.2.2.2), (ks + 6 * q49.2.2.2), pd_H q49.2.2.1 q51))) rfl ?_
                    exact nomatch h
                · rw [hb47]
                  rcases pd_cases h with ⟨hb54, h⟩ | ⟨hb54, h⟩
                  · rw [hb54]
                    refine ev_gos pp_law 1 (S' := (397, [some (.ref 1000000), some (.ref 0), some (.ref 198), some (.ref 222), some (.int i), y5, y6], [.ref 0], (223, kc, ks, pd_H g v))) rfl ?_
                    obtain ⟨q55, hq55, h⟩ := pd_bind h
                    refine ev_call pp_law rfl rfl rfl (s_La_start hq55) ?_
                    refine ev_gos pp_law 2 (S' := (403, [some (.ref 1000000), some (.ref 0), some (.ref 198), some (.ref 222), some (.int i), some (.int q55.1), y6], [.ref 198], (223, (kc + q55.2.2.2), (ks + 6 * q55.2.2.2), pd_H q55.2.2.1 q55.2.1))) rfl ?_
                    obtain ⟨q56, hq56, h⟩ := pd_bind h
                    refine ev_callv pp_law rfl rfl rfl rfl (s_Mo_start hq56) ?_
                    refine ev_gos pp_law 1 (S' := (407, [some (.ref 1000000), some (.ref 0), some (.ref 198), some (.ref 222), some (.int i), some (.int q55.1), y6], [.ref 198], (223, (kc + q55.2.2.2), (ks + 6 * q55.2.2.2), pd_H q55.2.2.1 q56))) rfl ?_
                    refine ev_callv pp_law rfl rfl rfl rfl (s_Mo_thrown) ?_
                    refine ev_gos pp_law 1 (S' := (412, [some (.ref 1000000), some (.ref 0), some (.ref 198), some (.ref 222), some (.int i), some (.int q55.1), y6], [.int q55.1, .int (d_Mo_thrown q56)], (223, (kc + q55.2.2.2), (ks + 6 * q55.2.2.2), pd_H q55.2.2.1 q56))) rfl ?_
                    refine ev_gos pp_law 1 (S' := (bif decide ((d_Mo_thrown q56) = q55.1) then 417 else 415, [some (.ref 1000000), some (.ref 0), some (.ref 198), some (.ref 222), some (.int i), some (.int q55.1), y6], [], (223, (kc + q55.2.2.2), (ks + 6 * q55.2.2.2), pd_H q55.2.2.1 q56))) rfl ?_
                    rcases pd_cases h with ⟨hb58, h⟩ | ⟨hb58, h⟩
                    · rw [hb58]
                      refine ev_gos pp_law 3 (S' := (23, [some (.ref 1000000), some (.ref 0), some (.ref 198), some (.ref 222), some (.int (i + (4 : Int32))), some (.int q55.1), y6], [], (223, (kc + q55.2.2.2), (ks + 6 * q55.2.2.2), pd_H q55.2.2.1 q56))) rfl ?_
                      cases h
                      exact K _ _
                    · rw [hb58]
                      refine ev_gos pp_law 1 (S' := (416, [some (.ref 1000000), some (.ref 0), some (.ref 198), some (.ref 222), some (.int i), some (.int q55.1), y6], [.int (0 : Int32)], (223, (kc + q55.2.2.2), (ks + 6 * q55.2.2.2), pd_H q55.2.2.1 q56))) rfl ?_
                      exact nomatch h
                  · rw [hb54]
                    rcases pd_cases h with ⟨hb59, h⟩ | ⟨hb59, h⟩
                    · rw [hb59]
                      refine ev_gos pp_law 5 (S' := (426, [some (.ref 1000000), some (.ref 0), some (.ref 198), some (.ref 222), some (.int i), y5, y6], [.int (i + (1 : Int32)), .ref 1000000, .ref 0], (223, kc, ks, pd_H g v))) rfl ?_
                      obtain ⟨hc60, h⟩ := pd_chk h
                      refine ev_sald pp_law rfl hc60 ?_
                      refine ev_gos pp_law 1 (S' := (428, [some (.ref 1000000), some (.ref 0), some (.ref 198), some (.ref 222), some (.int i), y5, y6], [.ref 222, .int (xs (i + (1 : Int32)).toNatClampNeg), .ref 0], (223, kc, ks, pd_H g v))) rfl ?_
                      obtain ⟨q61, hq61, h⟩ := pd_bind h
                      refine ev_call pp_law rfl rfl rfl (s_La_run hq61) ?_
                      refine ev_gos pp_law 6 (S' := (439, [some (.ref 1000000), some (.ref 0), some (.ref 198), some (.ref 222), some (.int i), some (.int q61.1), y6], [.int (i + (1 : Int32)), .ref 1000000, .ref 198], (223, (kc + q61.2.2.2), (ks + 6 * q61.2.2.2), pd_H q61.2.2.1 q61.2.1))) rfl ?_
                      obtain ⟨hc62, h⟩ := pd_chk h
                      refine ev_sald pp_law rfl hc62 ?_
                      refine ev_gos pp_law 0 (S' := (440, [some (.ref 1000000), some (.ref 0), some (.ref 198), some (.ref 222), some (.int i), some (.int q61.1), y6], [.int (xs (i + (1 : Int32)).toNatClampNeg), .ref 198], (223, (kc + q61.2.2.2), (ks + 6 * q61.2.2.2), pd_H q61.2.2.1 q61.2.1))) rfl ?_
                      obtain ⟨q63, hq63, h⟩ := pd_bind h
                      refine ev_callv pp_law rfl rfl rfl rfl (s_Mo_run hq63) ?_
                      refine ev_gos pp_law 2 (S' := (446, [some (.ref 1000000), some (.ref 0), some (.ref 198), some (.ref 222), some (.int i), some (.int q61.1), some (.int q63.1)], [.ref 198], (223, (kc + q61.2.2.2), (ks + 6 * q61.2.2.2), pd_H q61.2.2.1 q63.2))) rfl ?_
                      refine ev_callv pp_law rfl rfl rfl rfl (s_Mo_thrown) ?_
                      refine ev_gos pp_law 1 (S' := (451, [some (.ref 1000000), some (.ref 0), some (.ref 198), some (.ref 222), some (.int i), some (.int q61.1), some (.int q63.1)], [.int q61.1, .int (d_Mo_thrown q63.2)], (223, (kc + q61.2.2.2), (ks + 6 * q61.2.2.2), pd_H q61.2.2.1 q63.2))) rfl ?_
                      refine ev_gos pp_law 1 (S' := (bif decide ((d_Mo_thrown q63.2) = q61.1) then 456 else 454, [some (.ref 1000000), some (.ref 0), some (.ref 198), some (.ref 222), some (.int i), some (.int q61.1), some (.int q63.1)], [], (223, (kc + q61.2.2.2), (ks + 6 * q61.2.2.2), pd_H q61.2.2.1 q63.2))) rfl ?_
                      rcases pd_cases h with ⟨hb65, h⟩ | ⟨hb65, h⟩
                      · rw [hb65]
                        refine ev_gos pp_law 1 (S' := (458, [some (.ref 1000000), some (.ref 0), some (.ref 198), some (.ref 222), some (.int i), some (.int q61.1), some (.int q63.1)], [.int q61.1], (223, (kc + q61.2.2.2), (ks + 6 * q61.2.2.2), pd_H q61.2.2.1 q63.2))) rfl ?_
                        refine ev_gos pp_law 1 (S' := (bif !(decide (q61.1 = 0)) then 473 else 461, [some (.ref 1000000), some (.ref 0), some (.ref 198), some (.ref 222), some (.int i), some (.int q61.1), some (.int q63.1)], [], (223, (kc + q61.2.2.2), (ks + 6 * q61.2.2.2), pd_H q61.2.2.1 q63.2))) rfl ?_
                        rcases pd_cases h with ⟨hb66, h⟩ | ⟨hb66, h⟩
                        · rw [hb66]
                          refine ev_gos pp_law 3 (S' := (23, [some (.ref 1000000), some (.ref 0), some (.ref 198), some (.ref 222), some (.int (i + (4 : Int32))), some (.int q61.1), some (.int q63.1)], [], (223, (kc + q61.2.2.2), (ks + 6 * q61.2.2.2), pd_H q61.2.2.1 q63.2))) rfl ?_
                          cases h
                          exact K _ _
                        · rw [hb66]
                          refine ev_gos pp_law 2 (S' := (463, [some (.ref 1000000), some (.ref 0), some (.ref 198), some (.ref 222), some (.int i), some (.int q61.1), some (.int q63.1)], [.int (0 : Int32), .ref 222], (223, (kc + q61.2.2.2), (ks + 6 * q61.2.2.2), pd_H q61.2.2.1 q63.2))) rfl ?_
                          refine ev_lald pp_law rfl ?_
                          refine ev_gos pp_law 3 (S' := (468, [some (.ref 1000000), some (.ref 0), some (.ref 198), some (.ref 222), some (.int i), some (.int q61.1), some (.int q63.1)], [.int (lg_cmp (q61.2.2.1 0) (q63.1.toInt64))], (223, (kc + q61.2.2.2), (ks + 6 * q61.2.2.2), pd_H q61.2.2.1 q63.2))) rfl ?_
                          refine ev_gos pp_law 1 (S' := (bif decide ((lg_cmp (q61.2.2.1 0) (q63.1.toInt64)) = 0) then 473 else 471, [some (.ref 1000000), some (.ref 0), some (.ref 198), some (.ref 222), some (.int i), some (.int q61.1), some (.int q63.1)], [], (223, (kc + q61.2.2.2), (ks + 6 * q61.2.2.2), pd_H q61.2.2.1 q63.2))) rfl ?_
                          rcases pd_cases h with ⟨hb67, h⟩ | ⟨hb67, h⟩
                          · rw [hb67]
                            refine ev_gos pp_law 3 (S' := (23, [some (.ref 1000000), some (.ref 0), some (.ref 198), some (.ref 222), some (.int (i + (4 : Int32))), some (.int q61.1), some (.int q63.1)], [], (223, (kc + q61.2.2.2), (ks + 6 * q61.2.2.2), pd_H q61.2.2.1 q63.2))) rfl ?_
                            cases h
                            exact K _ _
                          · rw [hb67]
                            refine ev_gos pp_law 1 (S' := (472, [some (.ref 1000000), some (.ref 0), some (.ref 198), some (.ref 222), some (.int i), some (.int q61.1), some (.int q63.1)], [.int (0 : Int32)], (223, (kc + q61.2.2.2), (ks + 6 * q61.2.2.2), pd_H q61.2.2.1 q63.2))) rfl ?_
                            exact nomatch h
                      · rw [hb65]
                        refine ev_gos pp_law 1 (S' := (455, [some (.ref 1000000), some (.ref 0), some (.ref 198), some (.ref 222), some (.int i), some (.int q61.1), some (.int q63.1)], [.int (0 : Int32)], (223, (kc + q61.2.2.2), (ks + 6 * q61.2.2.2), pd_H q61.2.2.1 q63.2))) rfl ?_
                        exact nomatch h
                    · rw [hb59]
                      rcases pd_cases h with ⟨hb68, h⟩ | ⟨hb68, h⟩
                      · rw [hb68]
                        refine ev_gos pp_law 1 (S' := (477, [some (.ref 1000000), some (.ref 0), some (.ref 198), some (.ref 222), some (.int i), y5, y6], [.ref 0], (223, kc, ks, pd_H g v))) rfl ?_
                        refine ev_callv pp_law rfl rfl rfl rfl (s_De_mask) ?_
                        refine ev_gos pp_law 1 (S' := (481, [some (.ref 1000000), some (.ref 0), some (.ref 198), some (.ref 222), some (.int i), y5, y6], [.ref 198, .int (d_De_mask v)], (223, kc, ks, pd_H g v))) rfl ?_
                        obtain ⟨q70, hq70, h⟩ := pd_bind h
                        refine ev_callv pp_law rfl rfl rfl rfl (s_Mo_mask hq70) ?_
                        refine ev_gos pp_law 0 (S' := (484, [some (.ref 1000000), some (.ref 0), some (.ref 198), some (.ref 222), some (.int i), y5, y6], [.int q70.1, .int (d_De_mask v)], (223, kc, ks, pd_H g q70.2))) rfl ?_
                        refine ev_gos pp_law 1 (S' := (bif decide ((d_De_mask v) = q70.1) then 889 else 487, [some (.ref 1000000), some (.ref 0), some (.ref 198), some (.ref 222), some (.int i), y5, y6], [], (223, kc, ks, pd_H g q70.2))) rfl ?_
                        rcases pd_cases h with ⟨hb71, h⟩ | ⟨hb71, h⟩
                        · rw [hb71]
                          refine ev_gos pp_law 2 (S' := (23, [some (.ref 1000000), some (.ref 0), some (.ref 198), some (.ref 222), some (.int (i + (4 : Int32))), y5, y6], [], (223, kc, ks, pd_H g q70.2))) rfl ?_
                          cases h
                          exact K _ _
                        · rw [hb71]
                          refine ev_gos pp_law 1 (S' := (488, [some (.ref 1000000), some (.ref 0), some (.ref 198), some (.ref 222), some (.int i), y5, y6], [.int (0 : Int32)], (223, kc, ks, pd_H g q70.2))) rfl ?_
                          exact nomatch h
                      · rw [hb68]
                        rcases pd_cases h with ⟨hb72, h⟩ | ⟨hb72, h⟩
                        · rw [hb72]
                          refine ev_gos pp_law 5 (S' := (495, [some (.ref 1000000), some (.ref 0), some (.ref 198), some (.ref 222), some (.int i), y5, y6], [.int (i + (1 : Int32)), .ref 1000000, .ref 0], (223, kc, ks, pd_H g v))) rfl ?_
                          obtain ⟨hc73, h⟩ := pd_chk h
                          refine ev_sald pp_law rfl hc73 ?_
                          refine ev_gos pp_law 1 (S' := (497, [some (.ref 1000000), some (.ref 0), some (.ref 198), some (.ref 222), some (.int i), y5, y6], [.ref 222, .int (xs (i + (1 : Int32)).toNatClampNeg), .ref 0], (223, kc, ks, pd_H g v))) rfl ?_
                          obtain ⟨q74, hq74, h⟩ := pd_bind h
                          refine ev_call pp_law rfl rfl rfl (s_La_spent hq74) ?_
                          refine ev_gos pp_law 6 (S' := (508, [some (.ref 1000000), some (.ref 0), some (.ref 198), some (.ref 222), some (.int i), some (.int q74.1), y6], [.int (i + (1 : Int32)), .ref 1000000, .ref 198], (223, (kc + q74.2.2.2), (ks + 6 * q74.2.2.2), pd_H q74.2.2.1 q74.2.1))) rfl ?_
                          obtain ⟨hc75, h⟩ := pd_chk h
                          refine ev_sald pp_law rfl hc75 ?_
                          refine ev_gos pp_law 0 (S' := (509, [some (.ref 1000000), some (.ref 0), some (.ref 198), some (.ref 222), some (.int i), some (.int q74.1), y6], [.int (xs (i + (1 : Int32)).toNatClampNeg), .ref 198], (223, (kc + q74.2.2.2), (ks + 6 * q74.2.2.2), pd_H q74.2.2.1 q74.2.1))) rfl ?_
                          obtain ⟨q76, hq76, h⟩ := pd_bind h
                          refine ev_callv pp_law rfl rfl rfl rfl (s_Mo_spent hq76) ?_
                          refine ev_gos pp_law 2 (S' := (515, [some (.ref 1000000), some (.ref 0), some (.ref 198), some (.ref 222), some (.int i), some (.int q74.1), some (.int q76.1)], [.ref 198], (223, (kc + q74.2.2.2), (ks + 6 * q74.2.2.2), pd_H q74.2.2.1 q76.2))) rfl ?_
                          refine ev_callv pp_law rfl rfl rfl rfl (s_Mo_thrown) ?_
                          refine ev_gos pp_law 1 (S' := (520, [some (.ref 1000000), some (.ref 0), some (.ref 198), some (.ref 222), some (.int i), some (.int q74.1), some (.int q76.1)], [.int q74.1, .int (d_Mo_thrown q76.2)], (223, (kc + q74.2.2.2), (ks + 6 * q74.2.2.2), pd_H q74.2.2.1 q76.2))) rfl ?_
                          refine ev_gos pp_law 1 (S' := (bif decide ((d_Mo_thrown q76.2) = q74.1) then 525 else 523, [some (.ref 1000000), some (.ref 0), some (.ref 198), some (.ref 222), some (.int i), some (.int q74.1), some (.int q76.1)], [], (223, (kc + q74.2.2.2), (ks + 6 * q74.2.2.2), pd_H q74.2.2.1 q76.2))) rfl ?_
                          rcases pd_cases h with ⟨hb78, h⟩ | ⟨hb78, h⟩
                          · rw [hb78]
                            refine ev_gos pp_law 1 (S' := (527, [some (.ref 1000000), some (.ref 0), some (.ref 198), some (.ref 222), some (.int i), some (.int q74.1), some (.int q76.1)], [.int q74.1], (223, (kc + q74.2.2.2), (ks + 6 * q74.2.2.2), pd_H q74.2.2.1 q76.2))) rfl ?_
                            refine ev_gos pp_law 1 (S' := (bif !(decide (q74.1 = 0)) then 542 else 530, [some (.ref 1000000), some (.ref 0), some (.ref 198), some (.ref 222), some (.int i), some (.int q74.1), some (.int q76.1)], [], (223, (kc + q74.2.2.2), (ks + 6 * q74.2.2.2), pd_H q74.2.2.1 q76.2))) rfl ?_
                            rcases pd_cases h with ⟨hb79, h⟩ | ⟨hb79, h⟩
                            · rw [hb79]
                              refine ev_gos pp_law 3 (S' := (23, [some (.ref 1000000), some (.ref 0), some (.ref 198), some (.ref 222), some (.int (i + (4 : Int32))), some (.int q74.1), some (.int q76.1)], [], (223, (kc + q74.2.2.2), (ks + 6 * q74.2.2.2), pd_H q74.2.2.1 q76.2))) rfl ?_
                              cases h
                              exact K _ _
                            · rw [hb79]
                              refine ev_gos pp_law 2 (S' := (532, [some (.ref 1000000), some (.ref 0), some (.ref 198), some (.ref 222), some (.int i), some (.int q74.1), some (.int q76.1)], [.int (0 : Int32), .ref 222], (223, (kc + q74.2.2.2), (ks + 6 * q74.2.2.2), pd_H q74.2.2.1 q76.2))) rfl ?_
                              refine ev_lald pp_law rfl ?_
                              refine ev_gos pp_law 3 (S' := (537, [some (.ref 1000000), some (.ref 0), some (.ref 198), some (.ref 222), some (.int i), some (.int q74.1), some (.int q76.1)], [.int (lg_cmp (q74.2.2.1 0) (q76.1.toInt64))], (223, (kc + q74.2.2.2), (ks + 6 * q74.2.2.2), pd_H q74.2.2.1 q76.2))) rfl ?_
                              refine ev_gos pp_law 1 (S' := (bif decide ((lg_cmp (q74.2.2.1 0) (q76.1.toInt64)) = 0) then 542 else 540, [some (.ref 1000000), some (.ref 0), some (.ref 198), some (.ref 222), some (.int i), some (.int q74.1), some (.int q76.1)], [], (223, (kc + q74.2.2.2), (ks + 6 * q74.2.2.2), pd_H q74.2.2.1 q76.2))) rfl ?_
                              rcases pd_cases h with ⟨hb80, h⟩ | ⟨hb80, h⟩
                              · rw [hb80]
                                refine ev_gos pp_law 3 (S' := (23, [some (.ref 1000000), some (.ref 0), some (.ref 198), some (.ref 222), some (.int (i + (4 : Int32))), some (.int q74.1), some (.int q76.1)], [], (223, (kc + q74.2.2.2), (ks + 6 * q74.2.2.2), pd_H q74.2.2.1 q76.2))) rfl ?_
                                cases h
                                exact K _ _
                              · rw [hb80]
                                refine ev_gos pp_law 1 (S' := (541, [some (.ref 1000000), some (.ref 0), some (.ref 198), some (.ref 222), some (.int i), some (.int q74.1), some (.int q76.1)], [.int (0 : Int32)], (223, (kc + q74.2.2.2), (ks + 6 * q74.2.2.2), pd_H q74.2.2.1 q76.2))) rfl ?_
                                exact nomatch h
                          · rw [hb78]
                            refine ev_gos pp_law 1 (S' := (524, [some (.ref 1000000), some (.ref 0), some (.ref 198), some (.ref 222), some (.int i), some (.int q74.1), some (.int q76.1)], [.int (0 : Int32)], (223, (kc + q74.2.2.2), (ks + 6 * q74.2.2.2), pd_H q74.2.2.1 q76.2))) rfl ?_
                            exact nomatch h
                        · rw [hb72]
                          rcases pd_cases h with ⟨hb81, h⟩ | ⟨hb81, h⟩
                          · rw [hb81]
                            refine ev_gos pp_law 5 (S' := (551, [some (.ref 1000000), some (.ref 0), some (.ref 198), some (.ref 222), some (.int i), y5, y6], [.int (i + (1 : Int32)), .ref 1000000, .ref 0], (223, kc, ks, pd_H g v))) rfl ?_
                            obtain ⟨hc82, h⟩ := pd_chk h
                            refine ev_sald pp_law rfl hc82 ?_
                            refine ev_gos pp_law 1 (S' := (553, [some (.ref 1000000), some (.ref 0), some (.ref 198), some (.ref 222), some (.int i), y5, y6], [.ref 222, .int (xs (i + (1 : Int32)).toNatClampNeg), .ref 0], (223, kc, ks, pd_H g v))) rfl ?_
                            obtain ⟨q83, hq83, h⟩ := pd_bind h
                            refine ev_call pp_law rfl rfl rfl (s_La_alone hq83) ?_
                            refine ev_gos pp_law 6 (S' := (564, [some (.ref 1000000), some (.ref 0), some (.ref 198), some (.ref 222), some (.int i), some (.int q83.1), y6], [.int (i + (1 : Int32)), .ref 1000000, .ref 198], (223, (kc + q83.2.2.2), (ks + 6 * q83.2.2.2), pd_H q83.2.2.1 q83.2.1))) rfl ?_
                            obtain ⟨hc84, h⟩ := pd_chk h
                            refine ev_sald pp_law rfl hc84 ?_
                            refine ev_gos pp_law 0 (S' := (565, [some (.ref 1000000), some (.ref 0), some (.ref 198), some (.ref 222), some (.int i), some (.int q83.1), y6], [.int (xs (i + (1 : Int32)).toNatClampNeg), .ref 198], (223, (kc + q83.2.2.2), (ks + 6 * q83.2.2.2), pd_H q83.2.2.1 q83.2.1))) rfl ?_
                            obtain ⟨q85, hq85, h⟩ := pd_bind h
                            refine ev_callv pp_law rfl rfl rfl rfl (s_Mo_alone hq85) ?_
                            refine ev_gos pp_law 2 (S' := (571, [some (.ref 1000000), some (.ref 0), some (.ref 198), some (.ref 222), some (.int i), some (.int q83.1), some (.int q85.1)], [.ref 198], (223, (kc + q83.2.2.2), (ks + 6 * q83.2.2.2), pd_H q83.2.2.1 q85.2))) rfl ?_
                            refine ev_callv pp_law rfl rfl rfl rfl (s_Mo_thrown) ?_
                            refine ev_gos pp_law 1 (S' := (576, [some (.ref 1000000), some (.ref 0), some (.ref 198), some (.ref 222), some (.int i), some (.int q83.1), some (.int q85.1)], [.int q83.1, .int (d_Mo_thrown q85.2)], (223, (kc + q83.2.2.2), (ks + 6 * q83.2.2.2), pd_H q83.2.2.1 q85.2))) rfl ?_
                            refine ev_gos pp_law 1 (S' := (bif decide ((d_Mo_thrown q85.2) = q83.1) then 581 else 579, [some (.ref 1000000), some (.ref 0), some (.ref 198), some (.ref 222), some (.int i), some (.int q83.1), some (.int q85.1)], [], (223, (kc + q83.2.2.2), (ks + 6 * q83.2.2.2), pd_H q83.2.2.1 q85.2))) rfl ?_
                            rcases pd_cases h with ⟨hb87, h⟩ | ⟨hb87, h⟩
                            · rw [hb87]
                              refine ev_gos pp_law 1 (S' := (583, [some (.ref 1000000), some (.ref 0), some (.ref 198), some (.ref 222), some (.int i), some (.int q83.1), some (.int q85.1)], [.int q83.1], (223, (kc + q83.2.2.2), (ks + 6 * q83.2.2.2), pd_H q83.2.2.1 q85.2))) rfl ?_
                              refine ev_gos pp_law 1 (S' := (bif !(decide (q83.1 = 0)) then 598 else 586, [some (.ref 1000000), some (.ref 0), some (.ref 198), some (.ref 222), some (.int i), some (.int q83.1), some (.int q85.1)], [], (223, (kc + q83.2.2.2), (ks + 6 * q83.2.2.2), pd_H q83.2.2.1 q85.2))) rfl ?_
                              rcases pd_cases h with ⟨hb88, h⟩ | ⟨hb88, h⟩
                              · rw [hb88]
                                refine ev_gos pp_law 3 (S' := (23, [some (.ref 1000000), some (.ref 0), some (.ref 198), some (.ref 222), some (.int (i + (4 : Int32))), some (.int q83.1), some (.int q85.1)], [], (223, (kc + q83.2.2.2), (ks + 6 * q83.2.2.2), pd_H q83.2.2.1 q85.2))) rfl ?_
                                cases h
                                exact K _ _
                              · rw [hb88]
                                refine ev_gos pp_law 2 (S' := (588, [some (.ref 1000000), some (.ref 0), some (.ref 198), some (.ref 222), some (.int i), some (.int q83.1), some (.int q85.1)], [.int (0 : Int32), .ref 222], (223, (kc + q83.2.2.2), (ks + 6 * q83.2.2.2), pd_H q83.2.2.1 q85.2))) rfl ?_
                                refine ev_lald pp_law rfl ?_
                                refine ev_gos pp_law 3 (S' := (593, [some (.ref 1000000), some (.ref 0), some (.ref 198), some (.ref 222), some (.int i), some (.int q83.1), some (.int q85.1)], [.int (lg_cmp (q83.2.2.1 0) (q85.1.toInt64))], (223, (kc + q83.2.2.2), (ks + 6 * q83.2.2.2), pd_H q83.2.2.1 q85.2))) rfl ?_
                                refine ev_gos pp_law 1 (S' := (bif decide ((lg_cmp (q83.2.2.1 0) (q85.1.toInt64)) = 0) then 598 else 596, [some (.ref 1000000), some (.ref 0), some (.ref 198), some (.ref 222), some (.int i), some (.int q83.1), some (.int q85.1)], [], (223, (kc + q83.2.2.2), (ks + 6 * q83.2.2.2), pd_H q83.2.2.1 q85.2))) rfl ?_
                                rcases pd_cases h with ⟨hb89, h⟩ | ⟨hb89, h⟩
                                · rw [hb89]
                                  refine ev_gos pp_law 3 (S' := (23, [some (.ref 1000000), some (.ref 0), some (.ref 198), some (.ref 222), some (.int (i + (4 : Int32))), some (.int q83.1), some (.int q85.1)], [], (223, (kc + q83.2.2.2), (ks + 6 * q83.2.2.2), pd_H q83.2.2.1 q85.2))) rfl ?_
                                  cases h
                                  exact K _ _
                                · rw [hb89]
                                  refine ev_gos pp_law 1 (S' := (597, [some (.ref 1000000), some (.ref 0), some (.ref 198), some (.ref 222), some (.int i), some (.int q83.1), some (.int q85.1)], [.int (0 : Int32)], (223, (kc + q83.2.2.2), (ks + 6 * q83.2.2.2), pd_H q83.2.2.1 q85.2))) rfl ?_
                                  exact nomatch h
                            · rw [hb87]
                              refine ev_gos pp_law 1 (S' := (580, [some (.ref 1000000), some (.ref 0), some (.ref 198), some (.ref 222), some (.int i), some (.int q83.1), some (.int q85.1)], [.int (0 : Int32)], (223, (kc + q83.2.2.2), (ks + 6 * q83.2.2.2), pd_H q83.2.2.1 q85.2))) rfl ?_
                              exact nomatch h
                          · rw [hb81]
                            rcases pd_cases h with ⟨hb90, h⟩ | ⟨hb90, h⟩
                            · rw [hb90]
                              refine ev_gos pp_law 5 (S' := (607, [some (.ref 1000000), some (.ref 0), some (.ref 198), some (.ref 222), some (.int i), y5, y6], [.int (i + (1 : Int32)), .ref 1000000, .ref 0], (223, kc, ks, pd_H g v))) rfl ?_
                              obtain ⟨hc91, h⟩ := pd_chk h
                              refine ev_sald pp_law rfl hc91 ?_
                              refine ev_gos pp_law 0 (S' := (608, [some (.ref 1000000), some (.ref 0), some (.ref 198), some (.ref 222), some (.int i), y5, y6], [.int (xs (i + (1 : Int32)).toNatClampNeg), .ref 0], (223, kc, ks, pd_H g v))) rfl ?_
                              refine ev_gos pp_law 1 (S' := (bif decide ((xs (i + (1 : Int32)).toNatClampNeg) = 0) then 615 else 611, [some (.ref 1000000), some (.ref 0), some (.ref 198), some (.ref 222), some (.int i), y5, y6], [.ref 0], (223, kc, ks, pd_H g v))) rfl ?_
                              rcases pd_cases h with ⟨hb92, h⟩ | ⟨hb92, h⟩
                              · rw [hb92]
                                refine ev_gos pp_law 5 (S' := (621, [some (.ref 1000000), some (.ref 0), some (.ref 198), some (.ref 222), some (.int i), y5, y6], [.int (i + (2 : Int32)), .ref 1000000, .int (0 : Int32), .ref 0], (223, kc, ks, pd_H g v))) rfl ?_
                                obtain ⟨hc93, h⟩ := pd_chk h
                                refine ev_sald pp_law rfl hc93 ?_
                                refine ev_gos pp_law 4 (S' := (627, [some (.ref 1000000), some (.ref 0), some (.ref 198), some (.ref 222), some (.int i), y5, y6], [.int (i + (3 : Int32)), .ref 1000000, .int (xs (i + (2 : Int32)).toNatClampNeg), .int (0 : Int32), .ref 0], (223, kc, ks, pd_H g v))) rfl ?_
                                obtain ⟨hc94, h⟩ := pd_chk h
                                refine ev_sald pp_law rfl hc94 ?_
                                refine ev_gos pp_law 1 (S' := (629, [some (.ref 1000000), some (.ref 0), some (.ref 198), some (.ref 222), some (.int i), y5, y6], [.ref 222, .int (xs (i + (3 : Int32)).toNatClampNeg), .int (xs (i + (2 : Int32)).toNatClampNeg), .int (0 : Int32), .ref 0], (223, kc, ks, pd_H g v))) rfl ?_
                                obtain ⟨q95, hq95, h⟩ := pd_bind h
                                refine ev_call pp_law rfl rfl rfl (s_La_lane hq95) ?_
                                refine ev_gos pp_law 6 (S' := (640, [some (.ref 1000000), some (.ref 0), some (.ref 198), some (.ref 222), some (.int i), some (.int q95.1), y6], [.int (i + (1 : Int32)), .ref 1000000, .ref 198], (223, (kc + q95.2.2.2), (ks + 6 * q95.2.2.2), pd_H q95.2.2.1 q95.2.1))) rfl ?_
                                obtain ⟨hc96, h⟩ := pd_chk h
                                refine ev_sald pp_law rfl hc96 ?_
                                refine ev_gos pp_law 0 (S' := (641, [some (.ref 1000000), some (.ref 0), some (.ref 198), some (.ref 222), some (.int i), some (.int q95.1), y6], [.int (xs (i + (1 : Int32)).toNatClampNeg), .ref 198], (223, (kc + q95.2.2.2), (ks + 6 * q95.2.2.2), pd_H q95.2.2.1 q95.2.1))) rfl ?_
                                refine ev_gos pp_law 1 (S' := (bif decide ((xs (i + (1 : Int32)).toNatClampNeg) = 0) then 648 else 644, [some (.ref 1000000), some (.ref 0), some (.ref 198), some (.ref 222), some (.int i), some (.int q95.1), y6], [.ref 198], (223, (kc + q95.2.2.2), (ks + 6 * q95.2.2.2), pd_H q95.2.2.1 q95.2.1))) rfl ?_
                                rcases pd_cases h with ⟨hb97, h⟩ | ⟨hb97, h⟩
                                · rw [hb97]
                                  refine ev_gos pp_law 5 (S' := (654, [some (.ref 1000000), some (.ref 0), some (.ref 198), some (.ref 222), some (.int i), some (.int q95.1), y6], [.int (i + (2 : Int32)), .ref 1000000, .int (0 : Int32), .ref 198], (223, (kc + q95.2.2.2), (ks + 6 * q95.2.2.2), pd_H q95.2.2.1 q95.2.1))) rfl ?_
                                  obtain ⟨hc98, h⟩ := pd_chk h
                                  refine ev_sald pp_law rfl hc98 ?_
                                  refine ev_gos pp_law 4 (S' := (660, [some (.ref 1000000), some (.ref 0), some (.ref 198), some (.ref 222), some (.int i), some (.int q95.1), y6], [.int (i + (3 : Int32)), .ref 1000000, .int (xs (i + (2 : Int32)).toNatClampNeg), .int (0 : Int32), .ref 198], (223, (kc + q95.2.2.2), (ks + 6 * q95.2.2.2), pd_H q95.2.2.1 q95.2.1))) rfl ?_
                                  obtain ⟨hc99, h⟩ := pd_chk h
                                  refine ev_sald pp_law rfl hc99 ?_
                                  refine ev_gos pp_law 0 (S' := (661, [some (.ref 1000000), some (.ref 0), some (.ref 198), some (.ref 222), some (.int i), some (.int q95.1), y6], [.int (xs (i + (3 : Int32)).toNatClampNeg), .int (xs (i + (2 : Int32)).toNatClampNeg), .int (0 : Int32), .ref 198], (223, (kc + q95.2.2.2), (ks + 6 * q95.2.2.2), pd_H q95.2.2.1 q95.2.1))) rfl ?_
                                  obtain ⟨q100, hq100, h⟩ := pd_bind h
                                  refine ev_callv pp_law rfl rfl rfl rfl (s_Mo_lane hq100) ?_
                                  refine ev_gos pp_law 2 (S' := (667, [some (.ref 1000000), some (.ref 0), some (.ref 198), some (.ref 222), some (.int i), some (.int q95.1), some (.int q100.1)], [.ref 198], (223, (kc + q95.2.2.2), (ks + 6 * q95.2.2.2), pd_H q95.2.2.1 q100.2))) rfl ?_
                                  refine ev_callv pp_law rfl rfl rfl rfl (s_Mo_thrown) ?_
                                  refine ev_gos pp_law 1 (S' := (672, [some (.ref 1000000), some (.ref 0), some (.ref 198), some (.ref 222), some (.int i), some (.int q95.1), some (.int q100.1)], [.int q95.1, .int (d_Mo_thrown q100.2)], (223, (kc + q95.2.2.2), (ks + 6 * q95.2.2.2), pd_H q95.2.2.1 q100.2))) rfl ?_
                                  refine ev_gos pp_law 1 (S' := (bif decide ((d_Mo_thrown q100.2) = q95.1) then 677 else 675, [some (.ref 1000000), some (.ref 0), some (.ref 198), some (.ref 222), some (.int i), some (.int q95.1), some (.int q100.1)], [], (223, (kc + q95.2.2.2), (ks + 6 * q95.2.2.2), pd_H q95.2.2.1 q100.2))) rfl ?_
                                  rcases pd_cases h with ⟨hb102, h⟩ | ⟨hb102, h⟩
                                  · rw [hb102]
                                    refine ev_gos pp_law 1 (S' := (679, [some (.ref 1000000), some (.ref 0), some (.ref 198), some (.ref 222), some (.int i), some (.int q95.1), some (.int q100.1)], [.int q95.1], (223, (kc + q95.2.2.2), (ks + 6 * q95.2.2.2), pd_H q95.2.2.1 q100.2))) rfl ?_
                                    refine ev_gos pp_law 1 (S' := (bif !(decide (q95.1 = 0)) then 694 else 682, [some (.ref 1000000), some (.ref 0), some (.ref 198), some (.ref 222), some (.int i), some (.int q95.1), some (.int q100.1)], [], (223, (kc + q95.2.2.2), (ks + 6 * q95.2.2.2), pd_H q95.2.2.1 q100.2))) rfl ?_
                                    rcases pd_cases h with ⟨hb103, h⟩ | ⟨hb103, h⟩
                                    · rw [hb103]
                                      refine ev_gos pp_law 3 (S' := (23, [some (.ref 1000000), some (.ref 0), some (.ref 198), some (.ref 222), some (.int (i + (4 : Int32))), some (.int q95.1), some (.int q100.1)], [], (223, (kc + q95.2.2.2), (ks + 6 * q95.2.2.2), pd_H q95.2.2.1 q100.2))) rfl ?_
                                      cases h
                                      exact K _ _
                                    · rw [hb103]
                                      refine ev_gos pp_law 2 (S' := (684, [some (.ref 1000000), some (.ref 0), some (.ref 198), some (.ref 222), some (.int i), some (.int q95.1), some (.int q100.1)], [.int (0 : Int32), .ref 222], (223, (kc + q95.2.2.2), (ks + 6 * q95.2.2.2), pd_H q95.2.2.1 q100.2))) rfl ?_
                                      refine ev_lald pp_law rfl ?_
                                      refine ev_gos pp_law 3 (S' := (689, [some (.ref 1000000), some (.ref 0), some (.ref 198), some (.ref 222), some (.int i), some (.int q95.1), some (.int q100.1)], [.int (lg_cmp (q95.2.2.1 0) (q100.1.toInt64))], (223, (kc + q95.2.2.2), (ks + 6 * q95.2.2.2), pd_H q95.2.2.1 q100.2))) rfl ?_
                                      refine ev_gos pp_law 1 (S' := (bif decide ((lg_cmp (q95.2.2.1 0) (q100.1.toInt64)) = 0) then 694 else 692, [some (.ref 1000000), some (.ref 0), some (.ref 198), some (.ref 222), some (.int i), some (.int q95.1), some (.int q100.1)], [], (223, (kc + q95.2.2.2), (ks + 6 * q95.2.2.2), pd_H q95.2.2.1 q100.2))) rfl ?_
                                      rcases pd_cases h with ⟨hb104, h⟩ | ⟨hb104, h⟩
                                      · rw [hb104]
                                        refine ev_gos pp_law 3 (S' := (23, [some (.ref 1000000), some (.ref 0), some (.ref 198), some (.ref 222), some (.int (i + (4 : Int32))), some (.int q95.1), some (.int q100.1)], [], (223, (kc + q95.2.2.2), (ks + 6 * q95.2.2.2), pd_H q95.2.2.1 q100.2))) rfl ?_
                                        cases h
                                        exact K _ _
                                      · rw [hb104]
                                        refine ev_gos pp_law 1 (S' := (693, [some (.ref 1000000), some (.ref 0), some (.ref 198), some (.ref 222), some (.int i), some (.int q95.1), some (.int q100.1)], [.int (0 : Int32)], (223, (kc + q95.2.2.2), (ks + 6 * q95.2.2.2), pd_H q95.2.2.1 q100.2))) rfl ?_
                                        exact nomatch h
                                  · rw [hb102]
                                    refine ev_gos pp_law 1 (S' := (676, [some (.ref 1000000), some (.ref 0), some (.ref 198), some (.ref 222), some (.int i), some (.int q95.1), some (.int q100.1)], [.int (0 : Int32)], (223, (kc + q95.2.2.2), (ks + 6 * q95.2.2.2), pd_H q95.2.2.1 q100.2))) rfl ?_
                                    exact nomatch h
                                · rw [hb97]
                                  refine ev_gos pp_law 6 (S' := (654, [some (.ref 1000000), some (.ref 0), some (.ref 198), some (.ref 222), some (.int i), some (.int q95.1), y6], [.int (i + (2 : Int32)), .ref 1000000, .int (1 : Int32), .ref 198], (223, (kc + q95.2.2.2), (ks + 6 * q95.2.2.2), pd_H q95.2.2.1 q95.2.1))) rfl ?_
                                  obtain ⟨hc105, h⟩ := pd_chk h
                                  refine ev_sald pp_law rfl hc105 ?_
                                  refine ev_gos pp_law 4 (S' := (660, [some (.ref 1000000), some (.ref 0), some (.ref 198), some (.ref 222), some (.int i), some (.int q95.1), y6], [.int (i + (3 : Int32)), .ref 1000000, .int (xs (i + (2 : Int32)).toNatClampNeg), .int (1 : Int32), .ref 198], (223, (kc + q95.2.2.2), (ks + 6 * q95.2.2.2), pd_H q95.2.2.1 q95.2.1))) rfl ?_
                                  obtain ⟨hc106, h⟩ := pd_chk h
                                  refine ev_sald pp_law rfl hc106 ?_
                                  refine ev_gos pp_law 0 (S' := (661, [some (.ref 1000000), some (.ref 0), some (.ref 198), some (.ref 222), some (.int i), some (.int q95.1), y6], [.int (xs (i + (3 : Int32)).toNatClampNeg), .int (xs (i + (2 : Int32)).toNatClampNeg), .int (1 : Int32), .ref 198], (223, (kc + q95.2.2.2), (ks + 6 * q95.2.2.2), pd_H q95.2.2.1 q95.2.1))) rfl ?_
                                  obtain ⟨q107, hq107, h⟩ := pd_bind h
                                  refine ev_callv pp_law rfl rfl rfl rfl (s_Mo_lane hq107) ?_
                                  refine ev_gos pp_law 2 (S' := (667, [some (.ref 1000000), some (.ref 0), some (.ref 198), some (.ref 222), some (.int i), some (.int q95.1), some (.int q107.1)], [.ref 198], (223, (kc + q95.2.2.2), (ks + 6 * q95.2.2.2), pd_H q95.2.2.1 q107.2))) rfl ?_
                                  refine ev_callv pp_law rfl rfl rfl rfl (s_Mo_thrown) ?_
                                  refine ev_gos pp_law 1 (S' := (672, [some (.ref 1000000), some (.ref 0), some (.ref 198), some (.ref 222), some (.int i), some (.int q95.1), some (.int q107.1)], [.int q95.1, .int (d_Mo_thrown q107.2)], (223, (kc + q95.2.2.2), (ks + 6 * q95.2.2.2), pd_H q95.2.2.1 q107.2))) rfl ?_
                                  refine ev_gos pp_law 1 (S' := (bif decide ((d_Mo_thrown q107.2) = q95.1) then 677 else 675, [some (.ref 1000000), some (.ref 0), some (.ref 198), some (.ref 222), some (.int i), some (.int q95.1), some (.int q107.1)], [], (223, (kc + q95.2.2.2), (ks + 6 * q95.2.2.2), pd_H q95.2.2.1 q107.2))) rfl ?_
                                  rcases pd_cases h with ⟨hb109, h⟩ | ⟨hb109, h⟩
                                  · rw [hb109]
                                    refine ev_gos pp_law 1 (S' := (679, [some (.ref 1000000), some (.ref 0), some (.ref 198), some (.ref 222), some (.int i), some (.int q95.1), some (.int q107.1)], [.int q95.1], (223, (kc + q95.2.2.2), (ks + 6 * q95.2.2.2), pd_H q95.2.2.1 q107.2))) rfl ?_
                                    refine ev_gos pp_law 1 (S' := (bif !(decide (q95.1 = 0)) then 694 else 682, [some (.ref 1000000), some (.ref 0), some (.ref 198), some (.ref 222), some (.int i), some (.int q95.1), some (.int q107.1)], [], (223, (kc + q95.2.2.2), (ks + 6 * q95.2.2.2), pd_H q95.2.2.1 q107.2))) rfl ?_
                                    rcases pd_cases h with ⟨hb110, h⟩ | ⟨hb110, h⟩
                                    · rw [hb110]
                                      refine ev_gos pp_law 3 (S' := (23, [some (.ref 1000000), some (.ref 0), some (.ref 198), some (.ref 222), some (.int (i + (4 : Int32))), some (.int q95.1), some (.int q107.1)], [], (223, (kc + q95.2.2.2), (ks + 6 * q95.2.2.2), pd_H q95.2.2.1 q107.2))) rfl ?_
                                      cases h
                                      exact K _ _
                                    · rw [hb110]
                                      refine ev_gos pp_law 2 (S' := (684, [some (.ref 1000000), some (.ref 0), some (.ref 198), some (.ref 222), some (.int i), some (.int q95.1), some (.int q107.1)], [.int (0 : Int32), .ref 222], (223, (kc + q95.2.2.2), (ks + 6 * q95.2.2.2), pd_H q95.2.2.1 q107.2))) rfl ?_
                                      refine ev_lald pp_law rfl ?_
                                      refine ev_gos pp_law 3 (S' := (689, [some (.ref 1000000), some (.ref 0), some (.ref 198), some (.ref 222), some (.int i), some (.int q95.1), some (.int q107.1)], [.int (lg_cmp (q95.2.2.1 0) (q107.1.toInt64))], (223, (kc + q95.2.2.2), (ks + 6 * q95.2.2.2), pd_H q95.2.2.1 q107.2))) rfl ?_
                                      refine ev_gos pp_law 1 (S' := (bif decide ((lg_cmp (q95.2.2.1 0) (q107.1.toInt64)) = 0) then 694 else 692, [some (.ref 1000000), some (.ref 0), some (.ref 198), some (.ref 222), some (.int i), some (.int q95.1), some (.int q107.1)], [], (223, (kc + q95.2.2.2), (ks + 6 * q95.2.2.2), pd_H q95.2.2.1 q107.2))) rfl ?_
                                      rcases pd_cases h with ⟨hb111, h⟩ | ⟨hb111, h⟩
                                      · rw [hb111]
                                        refine ev_gos pp_law 3 (S' := (23, [some (.ref 1000000), some (.ref 0), some (.ref 198), some (.ref 222), some (.int (i + (4 : Int32))), some (.int q95.1), some (.int q107.1)], [], (223, (kc + q95.2.2.2), (ks + 6 * q95.2.2.2), pd_H q95.2.2.1 q107.2))) rfl ?_
                                        cases h
                                        exact K _ _
                                      · rw [hb111]
                                        refine ev_gos pp_law 1 (S' := (693, [some (.ref 1000000), some (.ref 0), some (.ref 198), some (.ref 222), some (.int i), some (.int q95.1), some (.int q107.1)], [.int (0 : Int32)], (223, (kc + q95.2.2.2), (ks + 6 * q95.2.2.2), pd_H q95.2.2.1 q107.2))) rfl ?_
                                        exact nomatch h
                                  · rw [hb109]
                                    refine ev_gos pp_law 1 (S' := (676, [some (.ref 1000000), some (.ref 0), some (.ref 198), some (.ref 222), some (.int i), some (.int q95.1), some (.int q107.1)], [.int (0 : Int32)], (223, (kc + q95.2.2.2), (ks + 6 * q95.2.2.2), pd_H q95.2.2.1 q107.2))) rfl ?_
                                    exact nomatch h
                              · rw [hb92]
                                refine ev_gos pp_law 6 (S' := (621, [some (.ref 1000000), some (.ref 0), some (.ref 198), some (.ref 222), some (.int i), y5, y6], [.int (i + (2 : Int32)), .ref 1000000, .int (1 : Int32), .ref 0], (223, kc, ks, pd_H g v))) rfl ?_
                                obtain ⟨hc112, h⟩ := pd_chk h
                                refine ev_sald pp_law rfl hc112 ?_
                                refine ev_gos pp_law 4 (S' := (627, [some (.ref 1000000), some (.ref 0), some (.ref 198), some (.ref 222), some (.int i), y5, y6], [.int (i + (3 : Int32)), .ref 1000000, .int (xs (i + (2 : Int32)).toNatClampNeg), .int (1 : Int32), .ref 0], (223, kc, ks, pd_H g v))) rfl ?_
                                obtain ⟨hc113, h⟩ := pd_chk h
                                refine ev_sald pp_law rfl hc113 ?_
                                refine ev_gos pp_law 1 (S' := (629, [some (.ref 1000000), some (.ref 0), some (.ref 198), some (.ref 222), some (.int i), y5, y6], [.ref 222, .int (xs (i + (3 : Int32)).toNatClampNeg), .int (xs (i + (2 : Int32)).toNatClampNeg), .int (1 : Int32), .ref 0], (223, kc, ks, pd_H g v))) rfl ?_
                                obtain ⟨q114, hq114, h⟩ := pd_bind h
                                refine ev_call pp_law rfl rfl rfl (s_La_lane hq114) ?_
                                refine ev_gos pp_law 6 (S' := (640, [some (.ref 1000000), some (.ref 0), some (.ref 198), some (.ref 222), some (.int i), some (.int q114.1), y6], [.int (i + (1 : Int32)), .ref 1000000, .ref 198], (223, (kc + q114.2.2.2), (ks + 6 * q114.2.2.2), pd_H q114.2.2.1 q114.2.1))) rfl ?_
                                obtain ⟨hc115, h⟩ := pd_chk h
                                refine ev_sald pp_law rfl hc115 ?_
                                refine ev_gos pp_law 0 (S' := (641, [some (.ref 1000000), some (.ref 0), some (.ref 198), some (.ref 222), some (.int i), some (.int q114.1), y6], [.int (xs (i + (1 : Int32)).toNatClampNeg), .ref 198], (223, (kc + q114.2.2.2), (ks + 6 * q114.2.2.2), pd_H q114.2.2.1 q114.2.1))) rfl ?_
                                refine ev_gos pp_law 1 (S' := (bif decide ((xs (i + (1 : Int32)).toNatClampNeg) = 0) then 648 else 644, [some (.ref 1000000), some (.ref 0), some (.ref 198), some (.ref 222), some (.int i), some (.int q114.1), y6], [.ref 198], (223, (kc + q114.2.2.2), (ks + 6 * q114.2.2.2), pd_H q114.2.2.1 q114.2.1))) rfl ?_
                                rcases pd_cases h with ⟨hb116, h⟩ | ⟨hb116, h⟩
                                · rw [hb116]
                                  refine ev_gos pp_law 5 (S' := (654, [some (.ref 1000000), some (.ref 0), some (.ref 198), some (.ref 222), some (.int i), some (.int q114.1), y6], [.int (i + (2 : Int32)), .ref 1000000, .int (0 : Int32), .ref 198], (223, (kc + q114.2.2.2), (ks + 6 * q114.2.2.2), pd_H q114.2.2.1 q114.2.1))) rfl ?_
                                  obtain ⟨hc117, h⟩ := pd_chk h
                                  refine ev_sald pp_law rfl hc117 ?_
                                  refine ev_gos pp_law 4 (S' := (660, [some (.ref 1000000), some (.ref 0), some (.ref 198), some (.ref 222), some (.int i), some (.int q114.1), y6], [.int (i + (3 : Int32)), .ref 1000000, .int (xs (i + (2 : Int32)).toNatClampNeg), .int (0 : Int32), .ref 198], (223, (kc + q114.2.2.2), (ks + 6 * q114.2.2.2), pd_H q114.2.2.1 q114.2.1))) rfl ?_
                                  obtain ⟨hc118, h⟩ := pd_chk h
                                  refine ev_sald pp_law rfl hc118 ?_
                                  refine ev_gos pp_law 0 (S' := (661, [some (.ref 1000000), some (.ref 0), some (.ref 198), some (.ref 222), some (.int i), some (.int q114.1), y6], [.int (xs (i + (3 : Int32)).toNatClampNeg), .int (xs (i + (2 : Int32)).toNatClampNeg), .int (0 : Int32), .ref 198], (223, (kc + q114.2.2.2), (ks + 6 * q114.2.2.2), pd_H q114.2.2.1 q114.2.1))) rfl ?_
                                  obtain ⟨q119, hq119, h⟩ := pd_bind h
                                  refine ev_callv pp_law rfl rfl rfl rfl (s_Mo_lane hq119) ?_
                                  refine ev_gos pp_law 2 (S' := (667, [some (.ref 1000000), some (.ref 0), some (.ref 198), some (.ref 222), some (.int i), some (.int q114.1), some (.int q119.1)], [.ref 198], (223, (kc + q114.2.2.2), (ks + 6 * q114.2.2.2), pd_H q114.2.2.1 q119.2))) rfl ?_
                                  refine ev_callv pp_law rfl rfl rfl rfl (s_Mo_thrown) ?_
                                  refine ev_gos pp_law 1 (S' := (672, [some (.ref 1000000), some (.ref 0), some (.ref 198), some (.ref 222), some (.int i), some (.int q114.1), some (.int q119.1)], [.int q114.1, .int (d_Mo_thrown q119.2)], (223, (kc + q114.2.2.2), (ks + 6 * q114.2.2.2), pd_H q114.2.2.1 q119.2))) rfl ?_
                                  refine ev_gos pp_law 1 (S' := (bif decide ((d_Mo_thrown q119.2) = q114.1) then 677 else 675, [some (.ref 1000000), some (.ref 0), some (.ref 198), some (.ref 222), some (.int i), some (.int q114.1), some (.int q119.1)], [], (223, (kc + q114.2.2.2), (ks + 6 * q114.2.2.2), pd_H q114.2.2.1 q119.2))) rfl ?_
                                  rcases pd_cases h with ⟨hb121, h⟩ | ⟨hb121, h⟩
                                  · rw [hb121]
                                    refine ev_gos pp_law 1 (S' := (679, [some (.ref 1000000), some (.ref 0), some (.ref 198), some (.ref 222), some (.int i), some (.int q114.1), some (.int q119.1)], [.int q114.1], (223, (kc + q114.2.2.2), (ks + 6 * q114.2.2.2), pd_H q114.2.2.1 q119.2))) rfl ?_
                                    refine ev_gos pp_law 1 (S' := (bif !(decide (q114.1 = 0)) then 694 else 682, [some (.ref 1000000), some (.ref 0), some (.ref 198), some (.ref 222), some (.int i), some (.int q114.1), some (.int q119.1)], [], (223, (kc + q114.2.2.2), (ks + 6 * q114.2.2.2), pd_H q114.2.2.1 q119.2))) rfl ?_
                                    rcases pd_cases h with ⟨hb122, h⟩ | ⟨hb122, h⟩
                                    · rw [hb122]
                                      refine ev_gos pp_law 3 (S' := (23, [some (.ref 1000000), some (.ref 0), some (.ref 198), some (.ref 222), some (.int (i + (4 : Int32))), some (.int q114.1), some (.int q119.1)], [], (223, (kc + q114.2.2.2), (ks + 6 * q114.2.2.2), pd_H q114.2.2.1 q119.2))) rfl ?_
                                      cases h
                                      exact K _ _
                                    · rw [hb122]
                                      refine ev_gos pp_law 2 (S' := (684, [some (.ref 1000000), some (.ref 0), some (.ref 198), some (.ref 222), some (.int i), some (.int q114.1), some (.int q119.1)], [.int (0 : Int32), .ref 222], (223, (kc + q114.2.2.2), (ks + 6 * q114.2.2.2), pd_H q114.2.2.1 q119.2))) rfl ?_
                                      refine ev_lald pp_law rfl ?_
                                      refine ev_gos pp_law 3 (S' := (689, [some (.ref 1000000), some (.ref 0), some (.ref 198), some (.ref 222), some (.int i), some (.int q114.1), some (.int q119.1)], [.int (lg_cmp (q114.2.2.1 0) (q119.1.toInt64))], (223, (kc + q114.2.2.2), (ks + 6 * q114.2.2.2), pd_H q114.2.2.1 q119.2))) rfl ?_
                                      refine ev_gos pp_law 1 (S' := (bif decide ((lg_cmp (q114.2.2.1 0) (q119.1.toInt64)) = 0) then 694 else 692, [some (.ref 1000000), some (.ref 0), some (.ref 198), some (.ref 222), some (.int i), some (.int q114.1), some (.int q119.1)], [], (223, (kc + q114.2.2.2), (ks + 6 * q114.2.2.2), pd_H q114.2.2.1 q119.2))) rfl ?_
                                      rcases pd_cases h with ⟨hb123, h⟩ | ⟨hb123, h⟩
                                      · rw [hb123]
                                        refine ev_gos pp_law 3 (S' := (23, [some (.ref 1000000), some (.ref 0), some (.ref 198), some (.ref 222), some (.int (i + (4 : Int32))), some (.int q114.1), some (.int q119.1)], [], (223, (kc + q114.2.2.2), (ks + 6 * q114.2.2.2), pd_H q114.2.2.1 q119.2))) rfl ?_
                                        cases h
                                        exact K _ _
                                      · rw [hb123]
                                        refine ev_gos pp_law 1 (S' := (693, [some (.ref 1000000), some (.ref 0), some (.ref 198), some (.ref 222), some (.int i), some (.int q114.1), some (.int q119.1)], [.int (0 : Int32)], (223, (kc + q114.2.2.2), (ks + 6 * q114.2.2.2), pd_H q114.2.2.1 q119.2))) rfl ?_
                                        exact nomatch h
                                  · rw [hb121]
                                    refine ev_gos pp_law 1 (S' := (676, [some (.ref 1000000), some (.ref 0), some (.ref 198), some (.ref 222), some (.int i), some (.int q114.1), some (.int q119.1)], [.int (0 : Int32)], (223, (kc + q114.2.2.2), (ks + 6 * q114.2.2.2), pd_H q114.2.2.1 q119.2))) rfl ?_
                                    exact nomatch h
                                · rw [hb116]
                                  refine ev_gos pp_law 6 (S' := (654, [some (.ref 1000000), some (.ref 0), some (.ref 198), some (.ref 222), some (.int i), some (.int q114.1), y6], [.int (i + (2 : Int32)), .ref 1000000, .int (1 : Int32), .ref 198], (223, (kc + q114.2.2.2), (ks + 6 * q114.2.2.2), pd_H q114.2.2.1 q114.2.1))) rfl ?_
                                  obtain ⟨hc124, h⟩ := pd_chk h
                                  refine ev_sald pp_law rfl hc124 ?_
                                  refine ev_gos pp_law 4 (S' := (660, [some (.ref 1000000), some (.ref 0), some (.ref 198), some (.ref 222), some (.int i), some (.int q114.1), y6], [.int (i + (3 : Int32)), .ref 1000000, .int (xs (i + (2 : Int32)).toNatClampNeg), .int (1 : Int32), .ref 198], (223, (kc + q114.2.2.2), (ks + 6 * q114.2.2.2), pd_H q114.2.2.1 q114.2.1))) rfl ?_
                                  obtain ⟨hc125, h⟩ := pd_chk h
                                  refine ev_sald pp_law rfl hc125 ?_
                                  refine ev_gos pp_law 0 (S' := (661, [some (.ref 1000000), some (.ref 0), some (.ref 198), some (.ref 222), some (.int i), some (.int q114.1), y6], [.int (xs (i + (3 : Int32)).toNatClampNeg), .int (xs (i + (2 : Int32)).toNatClampNeg), .int (1 : Int32), .ref 198], (223, (kc + q114.2.2.2), (ks + 6 * q114.2.2.2), pd_H q114.2.2.1 q114.2.1))) rfl ?_
                                  obtain ⟨q126, hq126, h⟩ := pd_bind h
                                  refine ev_callv pp_law rfl rfl rfl rfl (s_Mo_lane hq126) ?_
                                  refine ev_gos pp_law 2 (S' := (667, [some (.ref 1000000), some (.ref 0), some (.ref 198), some (.ref 222), some (.int i), some (.int q114.1), some (.int q126.1)], [.ref 198], (223, (kc + q114.2.2.2), (ks + 6 * q114.2.2.2), pd_H q114.2.2.1 q126.2))) rfl ?_
                                  refine ev_callv pp_law rfl rfl rfl rfl (s_Mo_thrown) ?_
                                  refine ev_gos pp_law 1 (S' := (672, [some (.ref 1000000), some (.ref 0), some (.ref 198), some (.ref 222), some (.int i), some (.int q114.1), some (.int q126.1)], [.int q114.1, .int (d_Mo_thrown q126.2)], (223, (kc + q114.2.2.2), (ks + 6 * q114.2.2.2), pd_H q114.2.2.1 q126.2))) rfl ?_
                                  refine ev_gos pp_law 1 (S' := (bif decide ((d_Mo_thrown q126.2) = q114.1) then 677 else 675, [some (.ref 1000000), some (.ref 0), some (.ref 198), some (.ref 222), some (.int i), some (.int q114.1), some (.int q126.1)], [], (223, (kc + q114.2.2.2), (ks + 6 * q114.2.2.2), pd_H q114.2.2.1 q126.2))) rfl ?_
                                  rcases pd_cases h with ⟨hb128, h⟩ | ⟨hb128, h⟩
                                  · rw [hb128]
                                    refine ev_gos pp_law 1 (S' := (679, [some (.ref 1000000), some (.ref 0), some (.ref 198), some (.ref 222), some (.int i), some (.int q114.1), some (.int q126.1)], [.int q114.1], (223, (kc + q114.2.2.2), (ks + 6 * q114.2.2.2), pd_H q114.2.2.1 q126.2))) rfl ?_
                                    refine ev_gos pp_law 1 (S' := (bif !(decide (q114.1 = 0)) then 694 else 682, [some (.ref 1000000), some (.ref 0), some (.ref 198), some (.ref 222), some (.int i), some (.int q114.1), some (.int q126.1)], [], (223, (kc + q114.2.2.2), (ks + 6 * q114.2.2.2), pd_H q114.2.2.1 q126.2))) rfl ?_
                                    rcases pd_cases h with ⟨hb129, h⟩ | ⟨hb129, h⟩
                                    · rw [hb129]
                                      refine ev_gos pp_law 3 (S' := (23, [some (.ref 1000000), some (.ref 0), some (.ref 198), some (.ref 222), some (.int (i + (4 : Int32))), some (.int q114.1), some (.int q126.1)], [], (223, (kc + q114.2.2.2), (ks + 6 * q114.2.2.2), pd_H q114.2.2.1 q126.2))) rfl ?_
                                      cases h
                                      exact K _ _
                                    · rw [hb129]
                                      refine ev_gos pp_law 2 (S' := (684, [some (.ref 1000000), some (.ref 0), some (.ref 198), some (.ref 222), some (.int i), some (.int q114.1), some (.int q126.1)], [.int (0 : Int32), .ref 222], (223, (kc + q114.2.2.2), (ks + 6 * q114.2.2.2), pd_H q114.2.2.1 q126.2))) rfl ?_
                                      refine ev_lald pp_law rfl ?_
                                      refine ev_gos pp_law 3 (S' := (689, [some (.ref 1000000), some (.ref 0), some (.ref 198), some (.ref 222), some (.int i), some (.int q114.1), some (.int q126.1)], [.int (lg_cmp (q114.2.2.1 0) (q126.1.toInt64))], (223, (kc + q114.2.2.2), (ks + 6 * q114.2.2.2), pd_H q114.2.2.1 q126.2))) rfl ?_
                                      refine ev_gos pp_law 1 (S' := (bif decide ((lg_cmp (q114.2.2.1 0) (q126.1.toInt64)) = 0) then 694 else 692, [some (.ref 1000000), some (.ref 0), some (.ref 198), some (.ref 222), some (.int i), some (.int q114.1), some (.int q126.1)], [], (223, (kc + q114.2.2.2), (ks + 6 * q114.2.2.2), pd_H q114.2.2.1 q126.2))) rfl ?_
                                      rcases pd_cases h with ⟨hb130, h⟩ | ⟨hb130, h⟩
                                      · rw [hb130]
                                        refine ev_gos pp_law 3 (S' := (23, [some (.ref 1000000), some (.ref 0), some (.ref 198), some (.ref 222), some (.int (i + (4 : Int32))), some (.int q114.1), some (.int q126.1)], [], (223, (kc + q114.2.2.2), (ks + 6 * q114.2.2.2), pd_H q114.2.2.1 q126.2))) rfl ?_
                                        cases h
                                        exact K _ _
                                      · rw [hb130]
                                        refine ev_gos pp_law 1 (S' := (693, [some (.ref 1000000), some (.ref 0), some (.ref 198), some (.ref 222), some (.int i), some (.int q114.1), some (.int q126.1)], [.int (0 : Int32)], (223, (kc + q114.2.2.2), (ks + 6 * q114.2.2.2), pd_H q114.2.2.1 q126.2))) rfl ?_
                                        exact nomatch h
                                  · rw [hb128]
                                    refine ev_gos pp_law 1 (S' := (676, [some (.ref 1000000), some (.ref 0), some (.ref 198), some (.ref 222), some (.int i), some (.int q114.1), some (.int q126.1)], [.int (0 : Int32)], (223, (kc + q114.2.2.2), (ks + 6 * q114.2.2.2), pd_H q114.2.2.1 q126.2))) rfl ?_
                                    exact nomatch h
                            · rw [hb90]
                              rcases pd_cases h with ⟨hb131, h⟩ | ⟨hb131, h⟩
                              · rw [hb131]
                                refine ev_gos pp_law 5 (S' := (703, [some (.ref 1000000), some (.ref 0), some (.ref 198), some (.ref 222), some (.int i), y5, y6], [.int (i + (1 : Int32)), .ref 1000000, .ref 0], (223, kc, ks, pd_H g v))) rfl ?_
                                obtain ⟨hc132, h⟩ := pd_chk h
                                refine ev_sald pp_law rfl hc132 ?_
                                refine ev_gos pp_law 0 (S' := (704, [some (.ref 1000000), some (.ref 0), some (.ref 198), some (.ref 222), some (.int i), y5, y6], [.int (xs (i + (1 : Int32)).toNatClampNeg), .ref 0], (223, kc, ks, pd_H g v))) rfl ?_
                                refine ev_gos pp_law 1 (S' := (bif decide ((xs (i + (1 : Int32)).toNatClampNeg) = 0) then 711 else 707, [some (.ref 1000000), some (.ref 0), some (.ref 198), some (.ref 222), some (.int i), y5, y6], [.ref 0], (223, kc, ks, pd_H g v))) rfl ?_
                                rcases pd_cases h with ⟨hb133, h⟩ | ⟨hb133, h⟩
                                · rw [hb133]
                                  refine ev_gos pp_law 5 (S' := (717, [some (.ref 1000000), some (.ref 0), some (.ref 198), some (.ref 222), some (.int i), y5, y6], [.int (i + (2 : Int32)), .ref 1000000, .int (0 : Int32), .ref 0], (223, kc, ks, pd_H g v))) rfl ?_
                                  obtain ⟨hc134, h⟩ := pd_chk h
                                  refine ev_sald pp_law rfl hc134 ?_
                                  refine ev_gos pp_law 4 (S' := (723, [some (.ref 1000000), some (.ref 0), some (.ref 198), some (.ref 222), some (.int i), y5, y6], [.int (i + (3 : Int32)), .ref 1000000, .int (xs (i + (2 : Int32)).toNatClampNeg), .int (0 : Int32), .ref 0], (223, kc, ks, pd_H g v))) rfl ?_
                                  obtain ⟨hc135, h⟩ := pd_chk h
                                  refine ev_sald pp_law rfl hc135 ?_
                                  refine ev_gos pp_law 1 (S' := (725, [some (.ref 1000000), some (.ref 0), some (.ref 198), some (.ref 222), some (.int i), y5, y6], [.ref 222, .int (xs (i + (3 : Int32)).toNatClampNeg), .int (xs (i + (2 : Int32)).toNatClampNeg), .int (0 : Int32), .ref 0], (223, kc, ks, pd_H g v))) rfl ?_
                                  obtain ⟨q136, hq136, h⟩ := pd_bind h
                                  refine ev_call pp_law rfl rfl rfl (s_La_out hq136) ?_
                                  refine ev_gos pp_law 6 (S' := (736, [some (.ref 1000000), some (.ref 0), some (.ref 198), some (.ref 222), some (.int i), some (.int q136.1), y6], [.int (i + (1 : Int32)), .ref 1000000, .ref 198], (223, (kc + q136.2.2.2), (ks + 6 * q136.2.2.2), pd_H q136.2.2.1 q136.2.1))) rfl ?_
                                  obtain ⟨hc137, h⟩ := pd_chk h
                                  refine ev_sald pp_law rfl hc137 ?_
                                  refine ev_gos pp_law 0 (S' := (737, [some (.ref 1000000), some (.ref 0), some (.ref 198), some (.ref 222), some (.int i), some (.int q136.1), y6], [.int (xs (i + (1 : Int32)).toNatClampNeg), .ref 198], (223, (kc + q136.2.2.2), (ks + 6 * q136.2.2.2), pd_H q136.2.2.1 q136.2.1))) rfl ?_
                                  refine ev_gos pp_law 1 (S' := (bif decide ((xs (i + (1 : Int32)).toNatClampNeg) = 0) then 744 else 740, [some (.ref 1000000), some (.ref 0), some (.ref 198), some (.ref 222), some (.int i), some (.int q136.1), y6], [.ref 198], (223, (kc + q136.2.2.2), (ks + 6 * q136.2.2.2), pd_H q136.2.2.1 q136.2.1))) rfl ?_
                                  rcases pd_cases h with ⟨hb138, h⟩ | ⟨hb138, h⟩
                                  · rw [hb138]
                                    refine ev_gos pp_law 5 (S' := (750, [some (.ref 1000000), some (.ref 0), some (.ref 198), some (.ref 222), some (.int i), some (.int q136.1), y6], [.int (i + (2 : Int32)), .ref 1000000, .int (0 : Int32), .ref 198], (223, (kc + q136.2.2.2), (ks + 6 * q136.2.2.2), pd_H q136.2.2.1 q136.2.1))) rfl ?_
                                    obtain ⟨hc139, h⟩ := pd_chk h
                                    refine ev_sald pp_law rfl hc139 ?_
                                    refine ev_gos pp_law 4 (S' := (756, [some (.ref 1000000), some (.ref 0), some (.ref 198), some (.ref 222), some (.int i), some (.int q136.1), y6], [.int (i + (3 : Int32)), .ref 1000000, .int (xs (i + (2 : Int32)).toNatClampNeg), .int (0 : Int32), .ref 198], (223, (kc + q136.2.2.2), (ks + 6 * q136.2.2.2), pd_H q136.2.2.1 q136.2.1))) rfl ?_
                                    obtain ⟨hc140, h⟩ := pd_chk h
                                    refine ev_sald pp_law rfl hc140 ?_
                                    refine ev_gos pp_law 0 (S' := (757, [some (.ref 1000000), some (.ref 0), some (.ref 198), some (.ref 222), some (.int i), some (.int q136.1), y6], [.int (xs (i + (3 : Int32)).toNatClampNeg), .int (xs (i + (2 : Int32)).toNatClampNeg), .int (0 : Int32), .ref 198], (223, (kc + q136.2.2.2), (ks + 6 * q136.2.2.2), pd_H q136.2.2.1 q136.2.1))) rfl ?_
                                    obtain ⟨q141, hq141, h⟩ := pd_bind h
                                    refine ev_callv pp_law rfl rfl rfl rfl (s_Mo_out hq141) ?_
                                    refine ev_gos pp_law 2 (S' := (763, [some (.ref 1000000), some (.ref 0), some (.ref 198), some (.ref 222), some (.int i), some (.int q136.1), some (.int q141.1)], [.ref 198], (223, (kc + q136.2.2.2), (ks + 6 * q136.2.2.2), pd_H q136.2.2.1 q141.2))) rfl ?_
                                    refine ev_callv pp_law rfl rfl rfl rfl (s_Mo_thrown) ?_
                                    refine ev_gos pp_law 1 (S' := (768, [some (.ref 1000000), some (.ref 0), some (.ref 198), some (.ref 222), some (.int i), some (.int q136.1), some (.int q141.1)], [.int q136.1, .int (d_Mo_thrown q141.2)], (223, (kc + q136.2.2.2), (ks + 6 * q136.2.2.2), pd_H q136.2.2.1 q141.2))) rfl ?_
                                    refine ev_gos pp_law 1 (S' := (bif decide ((d_Mo_thrown q141.2) = q136.1) then 773 else 771, [some (.ref 1000000), some (.ref 0), some (.ref 198), some (.ref 222), some (.int i), some (.int q136.1), some (.int q141.1)], [], (223, (kc + q136.2.2.2), (ks + 6 * q136.2.2.2), pd_H q136.2.2.1 q141.2))) rfl ?_
                                    rcases pd_cases h with ⟨hb143, h⟩ | ⟨hb143, h⟩
                                    · rw [hb143]
                                      refine ev_gos pp_law 1 (S' := (775, [some (.ref 1000000), some (.ref 0), some (.ref 198), some (.ref 222), some (.int i), some (.int q136.1), some (.int q141.1)], [.int q136.1], (223, (kc + q136.2.2.2), (ks + 6 * q136.2.2.2), pd_H q136.2.2.1 q141.2))) rfl ?_
                                      refine ev_gos pp_law 1 (S' := (bif !(decide (q136.1 = 0)) then 790 else 778, [some (.ref 1000000), some (.ref 0), some (.ref 198), some (.ref 222), some (.int i), some (.int q136.1), some (.int q141.1)], [], (223, (kc + q136.2.2.2), (ks + 6 * q136.2.2.2), pd_H q136.2.2.1 q141.2))) rfl ?_
                                      rcases pd_cases h with ⟨hb144, h⟩ | ⟨hb144, h⟩
                                      · rw [hb144]
                                        refine ev_gos pp_law 3 (S' := (23, [some (.ref 1000000), some (.ref 0), some (.ref 198), some (.ref 222), some (.int (i + (4 : Int32))), some (.int q136.1), some (.int q141.1)], [], (223, (kc + q136.2.2.2), (ks + 6 * q136.2.2.2), pd_H q136.2.2.1 q141.2))) rfl ?_
                                        cases h
                                        exact K _ _
                                      · rw [hb144]
                                        refine ev_gos pp_law 2 (S' := (780, [some (.ref 1000000), some (.ref 0), some (.ref 198), some (.ref 222), some (.int i), some (.int q136.1), some (.int q141.1)], [.int (0 : Int32), .ref 222], (223, (kc + q136.2.2.2), (ks + 6 * q136.2.2.2), pd_H q136.2.2.1 q141.2))) rfl ?_
                                        refine ev_lald pp_law rfl ?_
                                        refine ev_gos pp_law 3 (S' := (785, [some (.ref 1000000), some (.ref 0), some (.ref 198), some (.ref 222), some (.int i), some (.int q136.1), some (.int q141.1)], [.int (lg_cmp (q136.2.2.1 0) (q141.1.toInt64))], (223, (kc + q136.2.2.2), (ks + 6 * q136.2.2.2), pd_H q136.2.2.1 q141.2))) rfl ?_
                                        refine ev_gos pp_law 1 (S' := (bif decide ((lg_cmp (q136.2.2.1 0) (q141.1.toInt64)) = 0) then 790 else 788, [some (.ref 1000000), some (.ref 0), some (.ref 198), some (.ref 222), some (.int i), some (.int q136.1), some (.int q141.1)], [], (223, (kc + q136.2.2.2), (ks + 6 * q136.2.2.2), pd_H q136.2.2.1 q141.2))) rfl ?_
                                        rcases pd_cases h with ⟨hb145, h⟩ | ⟨hb145, h⟩
                                        · rw [hb145]
                                          refine ev_gos pp_law 3 (S' := (23, [some (.ref 1000000), some (.ref 0), some (.ref 198), some (.ref 222), some (.int (i + (4 : Int32))), some (.int q136.1), some (.int q141.1)], [], (223, (kc + q136.2.2.2), (ks + 6 * q136.2.2.2), pd_H q136.2.2.1 q141.2))) rfl ?_
                                          cases h
                                          exact K _ _
                                        · rw [hb145]
                                          refine ev_gos pp_law 1 (S' := (789, [some (.ref 1000000), some (.ref 0), some (.ref 198), some (.ref 222), some (.int i), some (.int q136.1), some (.int q141.1)], [.int (0 : Int32)], (223, (kc + q136.2.2.2), (ks + 6 * q136.2.2.2), pd_H q136.2.2.1 q141.2))) rfl ?_
                                          exact nomatch h
                                    · rw [hb143]
                                      refine ev_gos pp_law 1 (S' := (772, [some (.ref 1000000), some (.ref 0), some (.ref 198), some (.ref 222), some (.int i), some (.int q136.1), some (.int q141.1)], [.int (0 : Int32)], (223, (kc + q136.2.2.2), (ks + 6 * q136.2.2.2), pd_H q136.2.2.1 q141.2))) rfl ?_
                                      exact nomatch h
                                  · rw [hb138]
                                    refine ev_gos pp_law 6 (S' := (750, [some (.ref 1000000), some (.ref 0), some (.ref 198), some (.ref 222), some (.int i), some (.int q136.1), y6], [.int (i + (2 : Int32)), .ref 1000000, .int (1 : Int32), .ref 198], (223, (kc + q136.2.2.2), (ks + 6 * q136.2.2.2), pd_H q136.2.2.1 q136.2.1))) rfl ?_
                                    obtain ⟨hc146, h⟩ := pd_chk h
                                    refine ev_sald pp_law rfl hc146 ?_
                                    refine ev_gos pp_law 4 (S' := (756, [some (.ref 1000000), some (.ref 0), some (.ref 198), some (.ref 222), some (.int i), some (.int q136.1), y6], [.int (i + (3 : Int32)), .ref 1000000, .int (xs (i + (2 : Int32)).toNatClampNeg), .int (1 : Int32), .ref 198], (223, (kc + q136.2.2.2), (ks + 6 * q136.2.2.2), pd_H q136.2.2.1 q136.2.1))) rfl ?_
                                    obtain ⟨hc147, h⟩ := pd_chk h
                                    refine ev_sald pp_law rfl hc147 ?_
                                    refine ev_gos pp_law 0 (S' := (757, [some (.ref 1000000), some (.ref 0), some (.ref 198), some (.ref 222), some (.int i), some (.int q136.1), y6], [.int (xs (i + (3 : Int32)).toNatClampNeg), .int (xs (i + (2 : Int32)).toNatClampNeg), .int (1 : Int32), .ref 198], (223, (kc + q136.2.2.2), (ks + 6 * q136.2.2.2), pd_H q136.2.2.1 q136.2.1))) rfl ?_
                                    obtain ⟨q148, hq148, h⟩ := pd_bind h
                                    refine ev_callv pp_law rfl rfl rfl rfl (s_Mo_out hq148) ?_
                                    refine ev_gos pp_law 2 (S' := (763, [some (.ref 1000000), some (.ref 0), some (.ref 198), some (.ref 222), some (.int i), some (.int q136.1), some (.int q148.1)], [.ref 198], (223, (kc + q136.2.2.2), (ks + 6 * q136.2.2.2), pd_H q136.2.2.1 q148.2))) rfl ?_
                                    refine ev_callv pp_law rfl rfl rfl rfl (s_Mo_thrown) ?_
                                    refine ev_gos pp_law 1 (S' := (768, [some (.ref 1000000), some (.ref 0), some (.ref 198), some (.ref 222), some (.int i), some (.int q136.1), some (.int q148.1)], [.int q136.1, .int (d_Mo_thrown q148.2)], (223, (kc + q136.2.2.2), (ks + 6 * q136.2.2.2), pd_H q136.2.2.1 q148.2))) rfl ?_
                                    refine ev_gos pp_law 1 (S' := (bif decide ((d_Mo_thrown q148.2) = q136.1) then 773 else 771, [some (.ref 1000000), some (.ref 0), some (.ref 198), some (.ref 222), some (.int i), some (.int q136.1), some (.int q148.1)], [], (223, (kc + q136.2.2.2), (ks + 6 * q136.2.2.2), pd_H q136.2.2.1 q148.2))) rfl ?_
                                    rcases pd_cases h with ⟨hb150, h⟩ | ⟨hb150, h⟩
                                    · rw [hb150]
                                      refine ev_gos pp_law 1 (S' := (775, [some (.ref 1000000), some (.ref 0), some (.ref 198), some (.ref 222), some (.int i), some (.int q136.1), some (.int q148.1)], [.int q136.1], (223, (kc + q136.2.2.2), (ks + 6 * q136.2.2.2), pd_H q136.2.2.1 q148.2))) rfl ?_
                                      refine ev_gos pp_law 1 (S' := (bif !(decide (q136.1 = 0)) then 790 else 778, [some (.ref 1000000), some (.ref 0), some (.ref 198), some (.ref 222), some (.int i), some (.int q136.1), some (.int q148.1)], [], (223, (kc + q136.2.2.2), (ks + 6 * q136.2.2.2), pd_H q136.2.2.1 q148.2))) rfl ?_
                                      rcases pd_cases h with ⟨hb151, h⟩ | ⟨hb151, h⟩
                                      · rw [hb151]
                                        refine ev_gos pp_law 3 (S' := (23, [some (.ref 1000000), some (.ref 0), some (.ref 198), some (.ref 222), some (.int (i + (4 : Int32))), some (.int q136.1), some (.int q148.1)], [], (223, (kc + q136.2.2.2), (ks + 6 * q136.2.2.2), pd_H q136.2.2.1 q148.2))) rfl ?_
                                        cases h
                                        exact K _ _
                                      · rw [hb151]
                                        refine ev_gos pp_law 2 (S' := (780, [some (.ref 1000000), some (.ref 0), some (.ref 198), some (.ref 222), some (.int i), some (.int q136.1), some (.int q148.1)], [.int (0 : Int32), .ref 222], (223, (kc + q136.2.2.2), (ks + 6 * q136.2.2.2), pd_H q136.2.2.1 q148.2))) rfl ?_
                                        refine ev_lald pp_law rfl ?_
                                        refine ev_gos pp_law 3 (S' := (785, [some (.ref 1000000), some (.ref 0), some (.ref 198), some (.ref 222), some (.int i), some (.int q136.1), some (.int q148.1)], [.int (lg_cmp (q136.2.2.1 0) (q148.1.toInt64))], (223, (kc + q136.2.2.2), (ks + 6 * q136.2.2.2), pd_H q136.2.2.1 q148.2))) rfl ?_
                                        refine ev_gos pp_law 1 (S' := (bif decide ((lg_cmp (q136.2.2.1 0) (q148.1.toInt64)) = 0) then 790 else 788, [some (.ref 1000000), some (.ref 0), some (.ref 198), some (.ref 222), some (.int i), some (.int q136.1), some (.int q148.1)], [], (223, (kc + q136.2.2.2), (ks + 6 * q136.2.2.2), pd_H q136.2.2.1 q148.2))) rfl ?_
                                        rcases pd_cases h with ⟨hb152, h⟩ | ⟨hb152, h⟩
                                        · rw [hb152]
                                          refine ev_gos pp_law 3 (S' := (23, [some (.ref 1000000), some (.ref 0), some (.ref 198), some (.ref 222), some (.int (i + (4 : Int32))), some (.int q136.1), some (.int q148.1)], [], (223, (kc + q136.2.2.2), (ks + 6 * q136.2.2.2), pd_H q136.2.2.1 q148.2))) rfl ?_
                                          cases h
                                          exact K _ _
                                        · rw [hb152]
                                          refine ev_gos pp_law 1 (S' := (789, [some (.ref 1000000), some (.ref 0), some (.ref 198), some (.ref 222), some (.int i), some (.int q136.1), some (.int q148.1)], [.int (0 : Int32)], (223, (kc + q136.2.2.2), (ks + 6 * q136.2.2.2), pd_H q136.2.2.1 q148.2))) rfl ?_
                                          exact nomatch h
                                    · rw [hb150]
                                      refine ev_gos pp_law 1 (S' := (772, [some (.ref 1000000), some (.ref 0), some (.ref 198), some (.ref 222), some (.int i), some (.int q136.1), some (.int q148.1)], [.int (0 : Int32)], (223, (kc + q136.2.2.2), (ks + 6 * q136.2.2.2), pd_H q136.2.2.1 q148.2))) rfl ?_
                                      exact nomatch h
                                · rw [hb133]
                                  refine ev_gos pp_law 6 (S' := (717, [some (.ref 1000000), some (.ref 0), some (.ref 198), some (.ref 222), some (.int i), y5, y6], [.int (i + (2 : Int32)), .ref 1000000, .int (1 : Int32), .ref 0], (223, kc, ks, pd_H g v))) rfl ?_
                                  obtain ⟨hc153, h⟩ := pd_chk h
                                  refine ev_sald pp_law rfl hc153 ?_
                                  refine ev_gos pp_law 4 (S' := (723, [some (.ref 1000000), some (.ref 0), some (.ref 198), some (.ref 222), some (.int i), y5, y6], [.int (i + (3 : Int32)), .ref 1000000, .int (xs (i + (2 : Int32)).toNatClampNeg), .int (1 : Int32), .ref 0], (223, kc, ks, pd_H g v))) rfl ?_
                                  obtain ⟨hc154, h⟩ := pd_chk h
                                  refine ev_sald pp_law rfl hc154 ?_
                                  refine ev_gos pp_law 1 (S' := (725, [some (.ref 1000000), some (.ref 0), some (.ref 198), some (.ref 222), some (.int i), y5, y6], [.ref 222, .int (xs (i + (3 : Int32)).toNatClampNeg), .int (xs (i + (2 : Int32)).toNatClampNeg), .int (1 : Int32), .ref 0], (223, kc, ks, pd_H g v))) rfl ?_
                                  obtain ⟨q155, hq155, h⟩ := pd_bind h
                                  refine ev_call pp_law rfl rfl rfl (s_La_out hq155) ?_
                                  refine ev_gos pp_law 6 (S' := (736, [some (.ref 1000000), some (.ref 0), some (.ref 198), some (.ref 222), some (.int i), some (.int q155.1), y6], [.int (i + (1 : Int32)), .ref 1000000, .ref 198], (223, (kc + q155.2.2.2), (ks + 6 * q155.2.2.2), pd_H q155.2.2.1 q155.2.1))) rfl ?_
                                  obtain ⟨hc156, h⟩ := pd_chk h
                                  refine ev_sald pp_law rfl hc156 ?_
                                  refine ev_gos pp_law 0 (S' := (737, [some (.ref 1000000), some (.ref 0), some (.ref 198), some (.ref 222), some (.int i), some (.int q155.1), y6], [.int (xs (i + (1 : Int32)).toNatClampNeg), .ref 198], (223, (kc + q155.2.2.2), (ks + 6 * q155.2.2.2), pd_H q155.2.2.1 q155.2.1))) rfl ?_
                                  refine ev_gos pp_law 1 (S' := (bif decide ((xs (i + (1 : Int32)).toNatClampNeg) = 0) then 744 else 740, [some (.ref 1000000), some (.ref 0), some (.ref 198), some (.ref 222), some (.int i), some (.int q155.1), y6], [.ref 198], (223, (kc + q155.2.2.2), (ks + 6 * q155.2.2.2), pd_H q155.2.2.1 q155.2.1))) rfl ?_
                                  rcases pd_cases h with ⟨hb157, h⟩ | ⟨hb157, h⟩
                                  · rw [hb157]
                                    refine ev_gos pp_law 5 (S' := (750, [some (.ref 1000000), some (.ref 0), some (.ref 198), some (.ref 222), some (.int i), some (.int q155.1), y6], [.int (i + (2 : Int32)), .ref 1000000, .int (0 : Int32), .ref 198], (223, (kc + q155.2.2.2), (ks + 6 * q155.2.2.2), pd_H q155.2.2.1 q155.2.1))) rfl ?_
                                    obtain ⟨hc158, h⟩ := pd_chk h
                                    refine ev_sald pp_law rfl hc158 ?_
                                    refine ev_gos pp_law 4 (S' := (756, [some (.ref 1000000), some (.ref 0), some (.ref 198), some (.ref 222), some (.int i), some (.int q155.1), y6], [.int (i + (3 : Int32)), .ref 1000000, .int (xs (i + (2 : Int32)).toNatClampNeg), .int (0 : Int32), .ref 198], (223, (kc + q155.2.2.2), (ks + 6 * q155.2.2.2), pd_H q155.2.2.1 q155.2.1))) rfl ?_
                                    obtain ⟨hc159, h⟩ := pd_chk h
                                    refine ev_sald pp_law rfl hc159 ?_
                                    refine ev_gos pp_law 0 (S' := (757, [some (.ref 1000000), some (.ref 0), some (.ref 198), some (.ref 222), some (.int i), some (.int q155.1), y6], [.int (xs (i + (3 : Int32)).toNatClampNeg), .int (xs (i + (2 : Int32)).toNatClampNeg), .int (0 : Int32), .ref 198], (223, (kc + q155.2.2.2), (ks + 6 * q155.2.2.2), pd_H q155.2.2.1 q155.2.1))) rfl ?_
                                    obtain ⟨q160, hq160, h⟩ := pd_bind h
                                    refine ev_callv pp_law rfl rfl rfl rfl (s_Mo_out hq160) ?_
                                    refine ev_gos pp_law 2 (S' := (763, [some (.ref 1000000), some (.ref 0), some (.ref 198), some (.ref 222), some (.int i), some (.int q155.1), some (.int q160.1)], [.ref 198], (223, (kc + q155.2.2.2), (ks + 6 * q155.2.2.2), pd_H q155.2.2.1 q160.2))) rfl ?_
                                    refine ev_callv pp_law rfl rfl rfl rfl (s_Mo_thrown) ?_
                                    refine ev_gos pp_law 1 (S' := (768, [some (.ref 1000000), some (.ref 0), some (.ref 198), some (.ref 222), some (.int i), some (.int q155.1), some (.int q160.1)], [.int q155.1, .int (d_Mo_thrown q160.2)], (223, (kc + q155.2.2.2), (ks + 6 * q155.2.2.2), pd_H q155.2.2.1 q160.2))) rfl ?_
                                    refine ev_gos pp_law 1 (S' := (bif decide ((d_Mo_thrown q160.2) = q155.1) then 773 else 771, [some (.ref 1000000), some (.ref 0), some (.ref 198), some (.ref 222), some (.int i), some (.int q155.1), some (.int q160.1)], [], (223, (kc + q155.2.2.2), (ks + 6 * q155.2.2.2), pd_H q155.2.2.1 q160.2))) rfl ?_
                                    rcases pd_cases h with ⟨hb162, h⟩ | ⟨hb162, h⟩
                                    · rw [hb162]
                                      refine ev_gos pp_law 1 (S' := (775, [some (.ref 1000000), some (.ref 0), some (.ref 198), some (.ref 222), some (.int i), some (.int q155.1), some (.int q160.1)], [.int q155.1], (223, (kc + q155.2.2.2), (ks + 6 * q155.2.2.2), pd_H q155.2.2.1 q160.2))) rfl ?_
                                      refine ev_gos pp_law 1 (S' := (bif !(decide (q155.1 = 0)) then 790 else 778, [some (.ref 1000000), some (.ref 0), some (.ref 198), some (.ref 222), some (.int i), some (.int q155.1), some (.int q160.1)], [], (223, (kc + q155.2.2.2), (ks + 6 * q155.2.2.2), pd_H q155.2.2.1 q160.2))) rfl ?_
                                      rcases pd_cases h with ⟨hb163, h⟩ | ⟨hb163, h⟩
                                      · rw [hb163]
                                        refine ev_gos pp_law 3 (S' := (23, [some (.ref 1000000), some (.ref 0), some (.ref 198), some (.ref 222), some (.int (i + (4 : Int32))), some (.int q155.1), some (.int q160.1)], [], (223, (kc + q155.2.2.2), (ks + 6 * q155.2.2.2), pd_H q155.2.2.1 q160.2))) rfl ?_
                                        cases h
                                        exact K _ _
                                      · rw [hb163]
                                        refine ev_gos pp_law 2 (S' := (780, [some (.ref 1000000), some (.ref 0), some (.ref 198), some (.ref 222), some (.int i), some (.int q155.1), some (.int q160.1)], [.int (0 : Int32), .ref 222], (223, (kc + q155.2.2.2), (ks + 6 * q155.2.2.2), pd_H q155.2.2.1 q160.2))) rfl ?_
                                        refine ev_lald pp_law rfl ?_
                                        refine ev_gos pp_law 3 (S' := (785, [some (.ref 1000000), some (.ref 0), some (.ref 198), some (.ref 222), some (.int i), some (.int q155.1), some (.int q160.1)], [.int (lg_cmp (q155.2.2.1 0) (q160.1.toInt64))], (223, (kc + q155.2.2.2), (ks + 6 * q155.2.2.2), pd_H q155.2.2.1 q160.2))) rfl ?_
                                        refine ev_gos pp_law 1 (S' := (bif decide ((lg_cmp (q155.2.2.1 0) (q160.1.toInt64)) = 0) then 790 else 788, [some (.ref 1000000), some (.ref 0), some (.ref 198), some (.ref 222), some (.int i), some (.int q155.1), some (.int q160.1)], [], (223, (kc + q155.2.2.2), (ks + 6 * q155.2.2.2), pd_H q155.2.2.1 q160.2))) rfl ?_
                                        rcases pd_cases h with ⟨hb164, h⟩ | ⟨hb164, h⟩
                                        · rw [hb164]
                                          refine ev_gos pp_law 3 (S' := (23, [some (.ref 1000000), some (.ref 0), some (.ref 198), some (.ref 222), some (.int (i + (4 : Int32))), some (.int q155.1), some (.int q160.1)], [], (223, (kc + q155.2.2.2), (ks + 6 * q155.2.2.2), pd_H q155.2.2.1 q160.2))) rfl ?_
                                          cases h
                                          exact K _ _
                                        · rw [hb164]
                                          refine ev_gos pp_law 1 (S' := (789, [some (.ref 1000000), some (.ref 0), some (.ref 198), some (.ref 222), some (.int i), some (.int q155.1), some (.int q160.1)], [.int (0 : Int32)], (223, (kc + q155.2.2.2), (ks + 6 * q155.2.2.2), pd_H q155.2.2.1 q160.2))) rfl ?_
                                          exact nomatch h
                                    · rw [hb162]
                                      refine ev_gos pp_law 1 (S' := (772, [some (.ref 1000000), some (.ref 0), some (.ref 198), some (.ref 222), some (.int i), some (.int q155.1), some (.int q160.1)], [.int (0 : Int32)], (223, (kc + q155.2.2.2), (ks + 6 * q155.2.2.2), pd_H q155.2.2.1 q160.2))) rfl ?_
                                      exact nomatch h
                                  · rw [hb157]
                                    refine ev_gos pp_law 6 (S' := (750, [some (.ref 1000000), some (.ref 0), some (.ref 198), some (.ref 222), some (.int i), some (.int q155.1), y6], [.int (i + (2 : Int32)), .ref 1000000, .int (1 : Int32), .ref 198], (223, (kc + q155.2.2.2), (ks + 6 * q155.2.2.2), pd_H q155.2.2.1 q155.2.1))) rfl ?_
                                    obtain ⟨hc165, h⟩ := pd_chk h
                                    refine ev_sald pp_law rfl hc165 ?_
                                    refine ev_gos pp_law 4 (S' := (756, [some (.ref 1000000), some (.ref 0), some (.ref 198), some (.ref 222), some (.int i), some (.int q155.1), y6], [.int (i + (3 : Int32)), .ref 1000000, .int (xs (i + (2 : Int32)).toNatClampNeg), .int (1 : Int32), .ref 198], (223, (kc + q155.2.2.2), (ks + 6 * q155.2.2.2), pd_H q155.2.2.1 q155.2.1))) rfl ?_
                                    obtain ⟨hc166, h⟩ := pd_chk h
                                    refine ev_sald pp_law rfl hc166 ?_
                                    refine ev_gos pp_law 0 (S' := (757, [some (.ref 1000000), some (.ref 0), some (.ref 198), some (.ref 222), some (.int i), some (.int q155.1), y6], [.int (xs (i + (3 : Int32)).toNatClampNeg), .int (xs (i + (2 : Int32)).toNatClampNeg), .int (1 : Int32), .ref 198], (223, (kc + q155.2.2.2), (ks + 6 * q155.2.2.2), pd_H q155.2.2.1 q155.2.1))) rfl ?_
                                    obtain ⟨q167, hq167, h⟩ := pd_bind h
                                    refine ev_callv pp_law rfl rfl rfl rfl (s_Mo_out hq167) ?_
                                    refine ev_gos pp_law 2 (S' := (763, [some (.ref 1000000), some (.ref 0), some (.ref 198), some (.ref 222), some (.int i), some (.int q155.1), some (.int q167.1)], [.ref 198], (223, (kc + q155.2.2.2), (ks + 6 * q155.2.2.2), pd_H q155.2.2.1 q167.2))) rfl ?_
                                    refine ev_callv pp_law rfl rfl rfl rfl (s_Mo_thrown) ?_
                                    refine ev_gos pp_law 1 (S' := (768, [some (.ref 1000000), some (.ref 0), some (.ref 198), some (.ref 222), some (.int i), some (.int q155.1), some (.int q167.1)], [.int q155.1, .int (d_Mo_thrown q167.2)], (223, (kc + q155.2.2.2), (ks + 6 * q155.2.2.2), pd_H q155.2.2.1 q167.2))) rfl ?_
                                    refine ev_gos pp_law 1 (S' := (bif decide ((d_Mo_thrown q167.2) = q155.1) then 773 else 771, [some (.ref 1000000), some (.ref 0), some (.ref 198), some (.ref 222), some (.int i), some (.int q155.1), some (.int q167.1)], [], (223, (kc + q155.2.2.2), (ks + 6 * q155.2.2.2), pd_H q155.2.2.1 q167.2))) rfl ?_
                                    rcases pd_cases h with ⟨hb169, h⟩ | ⟨hb169, h⟩
                                    · rw [hb169]
                                      refine ev_gos pp_law 1 (S' := (775, [some (.ref 1000000), some (.ref 0), some (.ref 198), some (.ref 222), some (.int i), some (.int q155.1), some (.int q167.1)], [.int q155.1], (223, (kc + q155.2.2.2), (ks + 6 * q155.2.2.2), pd_H q155.2.2.1 q167.2))) rfl ?_
                                      refine ev_gos pp_law 1 (S' := (bif !(decide (q155.1 = 0)) then 790 else 778, [some (.ref 1000000), some (.ref 0), some (.ref 198), some (.ref 222), some (.int i), some (.int q155.1), some (.int q167.1)], [], (223, (kc + q155.2.2.2), (ks + 6 * q155.2.2.2), pd_H q155.2.2.1 q167.2))) rfl ?_
                                      rcases pd_cases h with ⟨hb170, h⟩ | ⟨hb170, h⟩
                                      · rw [hb170]
                                        refine ev_gos pp_law 3 (S' := (23, [some (.ref 1000000), some (.ref 0), some (.ref 198), some (.ref 222), some (.int (i + (4 : Int32))), some (.int q155.1), some (.int q167.1)], [], (223, (kc + q155.2.2.2), (ks + 6 * q155.2.2.2), pd_H q155.2.2.1 q167.2))) rfl ?_
                                        cases h
                                        exact K _ _
                                      · rw [hb170]
                                        refine ev_gos pp_law 2 (S' := (780, [some (.ref 1000000), some (.ref 0), some (.ref 198), some (.ref 222), some (.int i), some (.int q155.1), some (.int q167.1)], [.int (0 : Int32), .ref 222], (223, (kc + q155.2.2.2), (ks + 6 * q155.2.2.2), pd_H q155.2.2.1 q167.2))) rfl ?_
                                        refine ev_lald pp_law rfl ?_
                                        refine ev_gos pp_law 3 (S' := (785, [some (.ref 1000000), some (.ref 0), some (.ref 198), some (.ref 222), some (.int i), some (.int q155.1), some (.int q167.1)], [.int (lg_cmp (q155.2.2.1 0) (q167.1.toInt64))], (223, (kc + q155.2.2.2), (ks + 6 * q155.2.2.2), pd_H q155.2.2.1 q167.2))) rfl ?_
                                        refine ev_gos pp_law 1 (S' := (bif decide ((lg_cmp (q155.2.2.1 0) (q167.1.toInt64)) = 0) then 790 else 788, [some (.ref 1000000), some (.ref 0), some (.ref 198), some (.ref 222), some (.int i), some (.int q155.1), some (.int q167.1)], [], (223, (kc + q155.2.2.2), (ks + 6 * q155.2.2.2), pd_H q155.2.2.1 q167.2))) rfl ?_
                                        rcases pd_cases h with ⟨hb171, h⟩ | ⟨hb171, h⟩
                                        · rw [hb171]
                                          refine ev_gos pp_law 3 (S' := (23, [some (.ref 1000000), some (.ref 0), some (.ref 198), some (.ref 222), some (.int (i + (4 : Int32))), some (.int q155.1), some (.int q167.1)], [], (223, (kc + q155.2.2.2), (ks + 6 * q155.2.2.2), pd_H q155.2.2.1 q167.2))) rfl ?_
                                          cases h
                                          exact K _ _
                                        · rw [hb171]
                                          refine ev_gos pp_law 1 (S' := (789, [some (.ref 1000000), some (.ref 0), some (.ref 198), some (.ref 222), some (.int i), some (.int q155.1), some (.int q167.1)], [.int (0 : Int32)], (223, (kc + q155.2.2.2), (ks + 6 * q155.2.2.2), pd_H q155.2.2.1 q167.2))) rfl ?_
                                          exact nomatch h
                                    · rw [hb169]
                                      refine ev_gos pp_law 1 (S' := (772, [some (.ref 1000000), some (.ref 0), some (.ref 198), some (.ref 222), some (.int i), some (.int q155.1), some (.int q167.1)], [.int (0 : Int32)], (223, (kc + q155.2.2.2), (ks + 6 * q155.2.2.2), pd_H q155.2.2.1 q167.2))) rfl ?_
                                      exact nomatch h
                              · rw [hb131]
                                rcases pd_cases h with ⟨hb172, h⟩ | ⟨hb172, h⟩
                                · rw [hb172]
                                  refine ev_gos pp_law 5 (S' := (799, [some (.ref 1000000), some (.ref 0), some (.ref 198), some (.ref 222), some (.int i), y5, y6], [.int (i + (1 : Int32)), .ref 1000000, .ref 0], (223, kc, ks, pd_H g v))) rfl ?_
                                  obtain ⟨hc173, h⟩ := pd_chk h
                                  refine ev_sald pp_law rfl hc173 ?_
                                  refine ev_gos pp_law 0 (S' := (800, [some (.ref 1000000), some (.ref 0), some (.ref 198), some (.ref 222), some (.int i), y5, y6], [.int (xs (i + (1 : Int32)).toNatClampNeg), .ref 0], (223, kc, ks, pd_H g v))) rfl ?_
                                  refine ev_gos pp_law 1 (S' := (bif decide ((xs (i + (1 : Int32)).toNatClampNeg) = 0) then 807 else 803, [some (.ref 1000000), some (.ref 0), some (.ref 198), some (.ref 222), some (.int i), y5, y6], [.ref 0], (223, kc, ks, pd_H g v))) rfl ?_
                                  rcases pd_cases h with ⟨hb174, h⟩ | ⟨hb174, h⟩
                                  · rw [hb174]
                                    refine ev_gos pp_law 5 (S' := (813, [some (.ref 1000000), some (.ref 0), some (.ref 198), some (.ref 222), some (.int i), y5, y6], [.int (i + (2 : Int32)), .ref 1000000, .int (0 : Int32), .ref 0], (223, kc, ks, pd_H g v))) rfl ?_
                                    obtain ⟨hc175, h⟩ := pd_chk h
                                    refine ev_sald pp_law rfl hc175 ?_
                                    refine ev_gos pp_law 4 (S' := (819, [some (.ref 1000000), some (.ref 0), some (.ref 198), some (.ref 222), some (.int i), y5, y6], [.int (i + (3 : Int32)), .ref 1000000, .int (xs (i + (2 : Int32)).toNatClampNeg), .int (0 : Int32), .ref 0], (223, kc, ks, pd_H g v))) rfl ?_
                                    obtain ⟨hc176, h⟩ := pd_chk h
                                    refine ev_sald pp_law rfl hc176 ?_
                                    refine ev_gos pp_law 1 (S' := (821, [some (.ref 1000000), some (.ref 0), some (.ref 198), some (.ref 222), some (.int i), y5, y6], [.ref 222, .int (xs (i + (3 : Int32)).toNatClampNeg), .int (xs (i + (2 : Int32)).toNatClampNeg), .int (0 : Int32), .ref 0], (223, kc, ks, pd_H g v))) rfl ?_
                                    obtain ⟨q177, hq177, h⟩ := pd_bind h
                                    refine ev_call pp_law rfl rfl rfl (s_La_cell hq177) ?_
                                    refine ev_gos pp_law 6 (S' := (832, [some (.ref 1000000), some (.ref 0), some (.ref 198), some (.ref 222), some (.int i), some (.int q177.1), y6], [.int (i + (1 : Int32)), .ref 1000000, .ref 198], (223, (kc + q177.2.2.2), (ks + 6 * q177.2.2.2), pd_H q177.2.2.1 q177.2.1))) rfl ?_
                                    obtain ⟨hc178, h⟩ := pd_chk h
                                    refine ev_sald pp_law rfl hc178 ?_
                                    refine ev_gos pp_law 0 (S' := (833, [some (.ref 1000000), some (.ref 0), some (.ref 198), some (.ref 222), some (.int i), some (.int q177.1), y6], [.int (xs (i + (1 : Int32)).toNatClampNeg), .ref 198], (223, (kc + q177.2.2.2), (ks + 6 * q177.2.2.2), pd_H q177.2.2.1 q177.2.1))) rfl ?_
                                    refine ev_gos pp_law 1 (S' := (bif decide ((xs (i + (1 : Int32)).toNatClampNeg) = 0) then 840 else 836, [some (.ref 1000000), some (.ref 0), some (.ref 198), some (.ref 222), some (.int i), some (.int q177.1), y6], [.ref 198], (223, (kc + q177.2.2.2), (ks + 6 * q177.2.2.2), pd_H q177.2.2.1 q177.2.1))) rfl ?_
                                    rcases pd_cases h with ⟨hb179, h⟩ | ⟨hb179, h⟩
                                    · rw [hb179]
                                      refine ev_gos pp_law 5 (S' := (846, [some (.ref 1000000), some (.ref 0), some (.ref 198), some (.ref 222), some (.int i), some (.int q177.1), y6], [.int (i + (2 : Int32)), .ref 1000000, .int (0 : Int32), .ref 198], (223, (kc + q177.2.2.2), (ks + 6 * q177.2.2.2), pd_H q177.2.2.1 q177.2.1))) rfl ?_
                                      obtain ⟨hc180, h⟩ := pd_chk h
                                      refine ev_sald pp_law rfl hc180 ?_
                                      refine ev_gos pp_law 4 (S' := (852, [some (.ref 1000000), some (.ref 0), some (.ref 198), some (.ref 222), some (.int i), some (.int q177.1), y6], [.int (i + (3 : Int32)), .ref 1000000, .int (xs (i + (2 : Int32)).toNatClampNeg), .int (0 : Int32), .ref 198], (223, (kc + q177.2.2.2), (ks + 6 * q177.2.2.2), pd_H q177.2.2.1 q177.2.1))) rfl ?_
                                      obtain ⟨hc181, h⟩ := pd_chk h
                                      refine ev_sald pp_law rfl hc181 ?_
                                      refine ev_gos pp_law 0 (S' := (853, [some (.ref 1000000), some (.ref 0), some (.ref 198), some (.ref 222), some (.int i), some (.int q177.1), y6], [.int (xs (i + (3 : Int32)).toNatClampNeg), .int (xs (i + (2 : Int32)).toNatClampNeg), .int (0 : Int32), .ref 198], (223, (kc + q177.2.2.2), (ks + 6 * q177.2.2.2), pd_H q177.2.2.1 q177.2.1))) rfl ?_
                                      obtain ⟨q182, hq182, h⟩ := pd_bind h
                                      refine ev_callv pp_law rfl rfl rfl rfl (s_Mo_cell hq182) ?_
                                      refine ev_gos pp_law 2 (S' := (859, [some (.ref 1000000), some (.ref 0), some (.ref 198), some (.ref 222), some (.int i), some (.int q177.1), some (.int q182.1)], [.ref 198], (223, (kc + q177.2.2.2), (ks + 6 * q177.2.2.2), pd_H q177.2.2.1 q182.2))) rfl ?_
                                      refine ev_callv pp_law rfl rfl rfl rfl (s_Mo_thrown) ?_
                                      refine ev_gos pp_law 1 (S' := (864, [some (.ref 1000000), some (.ref 0), some (.ref 198), some (.ref 222), some (.int i), some (.int q177.1), some (.int q182.1)], [.int q177.1, .int (d_Mo_thrown q182.2)], (223, (kc + q177.2.2.2), (ks + 6 * q177.2.2.2), pd_H q177.2.2.1 q182.2))) rfl ?_
                                      refine ev_gos pp_law 1 (S' := (bif decide ((d_Mo_thrown q182.2) = q177.1) then 869 else 867, [some (.ref 1000000), some (.ref 0), some (.ref 198), some (.ref 222), some (.int i), some (.int q177.1), some (.int q182.1)], [], (223, (kc + q177.2.2.2), (ks + 6 * q177.2.2.2), pd_H q177.2.2.1 q182.2))) rfl ?_
                                      rcases pd_cases h with ⟨hb184, h⟩ | ⟨hb184, h⟩
                                      · rw [hb184]
                                        refine ev_gos pp_law 1 (S' := (871, [some (.ref 1000000), some (.ref 0), some (.ref 198), some (.ref 222), some (.int i), some (.int q177.1), some (.int q182.1)], [.int q177.1], (223, (kc + q177.2.2.2), (ks + 6 * q177.2.2.2), pd_H q177.2.2.1 q182.2))) rfl ?_
                                        refine ev_gos pp_law 1 (S' := (bif !(decide (q177.1 = 0)) then 886 else 874, [some (.ref 1000000), some (.ref 0), some (.ref 198), some (.ref 222), some (.int i), some (.int q177.1), some (.int q182.1)], [], (223, (kc + q177.2.2.2), (ks + 6 * q177.2.2.2), pd_H q177.2.2.1 q182.2))) rfl ?_
                                        rcases pd_cases h with ⟨hb185, h⟩ | ⟨hb185, h⟩
                                        · rw [hb185]
                                          refine ev_gos pp_law 3 (S' := (23, [some (.ref 1000000), some (.ref 0), some (.ref 198), some (.ref 222), some (.int (i + (4 : Int32))), some (.int q177.1), some (.int q182.1)], [], (223, (kc + q177.2.2.2), (ks + 6 * q177.2.2.2), pd_H q177.2.2.1 q182.2))) rfl ?_
                                          cases h
                                          exact K _ _
                                        · rw [hb185]
                                          refine ev_gos pp_law 2 (S' := (876, [some (.ref 1000000), some (.ref 0), some (.ref 198), some (.ref 222), some (.int i), some (.int q177.1), some (.int q182.1)], [.int (0 : Int32), .ref 222], (223, (kc + q177.2.2.2), (ks + 6 * q177.2.2.2), pd_H q177.2.2.1 q182.2))) rfl ?_
                                          refine ev_lald pp_law rfl ?_
                                          refine ev_gos pp_law 3 (S' := (881, [some (.ref 1000000), some (.ref 0), some (.ref 198), some (.ref 222), some (.int i), some (.int q177.1), some (.int q182.1)], [.int (lg_cmp (q177.2.2.1 0) (q182.1.toInt64))], (223, (kc + q177.2.2.2), (ks + 6 * q177.2.2.2), pd_H q177.2.2.1 q182.2))) rfl ?_
                                          refine ev_gos pp_law 1 (S' := (bif decide ((lg_cmp (q177.2.2.1 0) (q182.1.toInt64)) = 0) then 886 else 884, [some (.ref 1000000), some (.ref 0), some (.ref 198), some (.ref 222), some (.int i), some (.int q177.1), some (.int q182.1)], [], (223, (kc + q177.2.2.2), (ks + 6 * q177.2.2.2), pd_H q177.2.2.1 q182.2))) rfl ?_
                                          rcases pd_cases h with ⟨hb186, h⟩ | ⟨hb186, h⟩
                                          · rw [hb186]
                                            refine ev_gos pp_law 3 (S' := (23, [some (.ref 1000000), some (.ref 0), some (.ref 198), some (.ref 222), some (.int (i + (4 : Int32))), some (.int q177.1), some (.int q182.1)], [], (223, (kc + q177.2.2.2), (ks + 6 * q177.2.2.2), pd_H q177.2.2.1 q182.2))) rfl ?_
                                            cases h
                                            exact K _ _
                                          · rw [hb186]
                                            refine ev_gos pp_law 1 (S' := (885, [some (.ref 1000000), some (.ref 0), some (.ref 198), some (.ref 222), some (.int i), some (.int q177.1), some (.int q182.1)], [.int (0 : Int32)], (223, (kc + q177.2.2.2), (ks + 6 * q177.2.2.2), pd_H q177.2.2.1 q182.2))) rfl ?_
                                            exact nomatch h
                                      · rw [hb184]
                                        refine ev_gos pp_law 1 (S' := (868, [some (.ref 1000000), some (.ref 0), some (.ref 198), some (.ref 222), some (.int i), some (.int q177.1), some (.int q182.1)], [.int (0 : Int32)], (223, (kc + q177.2.2.2), (ks + 6 * q177.2.2.2), pd_H q177.2.2.1 q182.2))) rfl ?_
                                        exact nomatch h
                                    · rw [hb179]
                                      refine ev_gos pp_law 6 (S' := (846, [some (.ref 1000000), some (.ref 0), some (.ref 198), some (.ref 222), some (.int i), some (.int q177.1), y6], [.int (i + (2 : Int32)), .ref 1000000, .int (1 : Int32), .ref 198], (223, (kc + q177.2.2.2), (ks + 6 * q177.2.2.2), pd_H q177.2.2.1 q177.2.1))) rfl ?_
                                      obtain ⟨hc187, h⟩ := pd_chk h
                                      refine ev_sald pp_law rfl hc187 ?_
                                      refine ev_gos pp_law 4 (S' := (852, [some (.ref 1000000), some (.ref 0), some (.ref 198), some (.ref 222), some (.int i), some (.int q177.1), y6], [.int (i + (3 : Int32)), .ref 1000000, .int (xs (i + (2 : Int32)).toNatClampNeg), .int (1 : Int32), .ref 198], (223, (kc + q177.2.2.2), (ks + 6 * q177.2.2.2), pd_H q177.2.2.1 q177.2.1))) rfl ?_
                                      obtain ⟨hc188, h⟩ := pd_chk h
                                      refine ev_sald pp_law rfl hc188 ?_
                                      refine ev_gos pp_law 0 (S' := (853, [some (.ref 1000000), some (.ref 0), some (.ref 198), some (.ref 222), some (.int i), some (.int q177.1), y6], [.int (xs (i + (3 : Int32)).toNatClampNeg), .int (xs (i + (2 : Int32)).toNatClampNeg), .int (1 : Int32), .ref 198], (223, (kc + q177.2.2.2), (ks + 6 * q177.2.2.2), pd_H q177.2.2.1 q177.2.1))) rfl ?_
                                      obtain ⟨q189, hq189, h⟩ := pd_bind h
                                      refine ev_callv pp_law rfl rfl rfl rfl (s_Mo_cell hq189) ?_
                                      refine ev_gos pp_law 2 (S' := (859, [some (.ref 1000000), some (.ref 0), some (.ref 198), some (.ref 222), some (.int i), some (.int q177.1), some (.int q189.1)], [.ref 198], (223, (kc + q177.2.2.2), (ks + 6 * q177.2.2.2), pd_H q177.2.2.1 q189.2))) rfl ?_
                                      refine ev_callv pp_law rfl rfl rfl rfl (s_Mo_thrown) ?_
                                      refine ev_gos pp_law 1 (S' := (864, [some (.ref 1000000), some (.ref 0), some (.ref 198), some (.ref 222), some (.int i), some (.int q177.1), some (.int q189.1)], [.int q177.1, .int (d_Mo_thrown q189.2)], (223, (kc + q177.2.2.2), (ks + 6 * q177.2.2.2), pd_H q177.2.2.1 q189.2))) rfl ?_
                                      refine ev_gos pp_law 1 (S' := (bif decide ((d_Mo_thrown q189.2) = q177.1) then 869 else 867, [some (.ref 1000000), some (.ref 0), some (.ref 198), some (.ref 222), some (.int i), some (.int q177.1), some (.int q189.1)], [], (223, (kc + q177.2.2.2), (ks + 6 * q177.2.2.2), pd_H q177.2.2.1 q189.2))) rfl ?_
                                      rcases pd_cases h with ⟨hb191, h⟩ | ⟨hb191, h⟩
                                      · rw [hb191]
                                        refine ev_gos pp_law 1 (S' := (871, [some (.ref 1000000), some (.ref 0), some (.ref 198), some (.ref 222), some (.int i), some (.int q177.1), some (.int q189.1)], [.int q177.1], (223, (kc + q177.2.2.2), (ks + 6 * q177.2.2.2), pd_H q177.2.2.1 q189.2))) rfl ?_
                                        refine ev_gos pp_law 1 (S' := (bif !(decide (q177.1 = 0)) then 886 else 874, [some (.ref 1000000), some (.ref 0), some (.ref 198), some (.ref 222), some (.int i), some (.int q177.1), some (.int q189.1)], [], (223, (kc + q177.2.2.2), (ks + 6 * q177.2.2.2), pd_H q177.2.2.1 q189.2))) rfl ?_
                                        rcases pd_cases h with ⟨hb192, h⟩ | ⟨hb192, h⟩
                                        · rw [hb192]
                                          refine ev_gos pp_law 3 (S' := (23, [some (.ref 1000000), some (.ref 0), some (.ref 198), some (.ref 222), some (.int (i + (4 : Int32))), some (.int q177.1), some (.int q189.1)], [], (223, (kc + q177.2.2.2), (ks + 6 * q177.2.2.2), pd_H q177.2.2.1 q189.2))) rfl ?_
                                          cases h
                                          exact K _ _
                                        · rw [hb192]
                                          refine ev_gos pp_law 2 (S' := (876, [some (.ref 1000000), some (.ref 0), some (.ref 198), some (.ref 222), some (.int i), some (.int q177.1), some (.int q189.1)], [.int (0 : Int32), .ref 222], (223, (kc + q177.2.2.2), (ks + 6 * q177.2.2.2), pd_H q177.2.2.1 q189.2))) rfl ?_
                                          refine ev_lald pp_law rfl ?_
                                          refine ev_gos pp_law 3 (S' := (881, [some (.ref 1000000), some (.ref 0), some (.ref 198), some (.ref 222), some (.int i), some (.int q177.1), some (.int q189.1)], [.int (lg_cmp (q177.2.2.1 0) (q189.1.toInt64))], (223, (kc + q177.2.2.2), (ks + 6 * q177.2.2.2), pd_H q177.2.2.1 q189.2))) rfl ?_
                                          refine ev_gos pp_law 1 (S' := (bif decide ((lg_cmp (q177.2.2.1 0) (q189.1.toInt64)) = 0) then 886 else 884, [some (.ref 1000000), some (.ref 0), some (.ref 198), some (.ref 222), some (.int i), some (.int q177.1), some (.int q189.1)], [], (223, (kc + q177.2.2.2), (ks + 6 * q177.2.2.2), pd_H q177.2.2.1 q189.2))) rfl ?_
                                          rcases pd_cases h with ⟨hb193, h⟩ | ⟨hb193, h⟩
                                          · rw [hb193]
                                            refine ev_gos pp_law 3 (S' := (23, [some (.ref 1000000), some (.ref 0), some (.ref 198), some (.ref 222), some (.int (i + (4 : Int32))), some (.int q177.1), some (.int q189.1)], [], (223, (kc + q177.2.2.2), (ks + 6 * q177.2.2.2), pd_H q177.2.2.1 q189.2))) rfl ?_
                                            cases h
                                            exact K _ _
                                          · rw [hb193]
                                            refine ev_gos pp_law 1 (S' := (885, [some (.ref 1000000), some (.ref 0), some (.ref 198), some (.ref 222), some (.int i), some (.int q177.1), some (.int q189.1)], [.int (0 : Int32)], (223, (kc + q177.2.2.2), (ks + 6 * q177.2.2.2), pd_H q177.2.2.1 q189.2))) rfl ?_
                                            exact nomatch h
                                      · rw [hb191]
                                        refine ev_gos pp_law 1 (S' := (868, [some (.ref 1000000), some (.ref 0), some (.ref 198), some (.ref 222), some (.int i), some (.int q177.1), some (.int q189.1)], [.int (0 : Int32)], (223, (kc + q177.2.2.2), (ks + 6 * q177.2.2.2), pd_H q177.2.2.1 q189.2))) rfl ?_
                                        exact nomatch h
                                  · rw [hb174]
                                    refine ev_gos pp_law 6 (S' := (813, [some (.ref 1000000), some (.ref 0), some (.ref 198), some (.ref 222), some (.int i), y5, y6], [.int (i + (2 : Int32)), .ref 1000000, .int (1 : Int32), .ref 0], (223, kc, ks, pd_H g v))) rfl ?_
                                    obtain ⟨hc194, h⟩ := pd_chk h
                                    refine ev_sald pp_law rfl hc194 ?_
                                    refine ev_gos pp_law 4 (S' := (819, [some (.ref 1000000), some (.ref 0), some (.ref 198), some (.ref 222), some (.int i), y5, y6], [.int (i + (3 : Int32)), .ref 1000000, .int (xs (i + (2 : Int32)).toNatClampNeg), .int (1 : Int32), .ref 0], (223, kc, ks, pd_H g v))) rfl ?_
                                    obtain ⟨hc195, h⟩ := pd_chk h
                                    refine ev_sald pp_law rfl hc195 ?_
                                    refine ev_gos pp_law 1 (S' := (821, [some (.ref 1000000), some (.ref 0), some (.ref 198), some (.ref 222), some (.int i), y5, y6], [.ref 222, .int (xs (i + (3 : Int32)).toNatClampNeg), .int (xs (i + (2 : Int32)).toNatClampNeg), .int (1 : Int32), .ref 0], (223, kc, ks, pd_H g v))) rfl ?_
                                    obtain ⟨q196, hq196, h⟩ := pd_bind h
                                    refine ev_call pp_law rfl rfl rfl (s_La_cell hq196) ?_
                                    refine ev_gos pp_law 6 (S' := (832, [some (.ref 1000000), some (.ref 0), some (.ref 198), some (.ref 222), some (.int i), some (.int q196.1), y6], [.int (i + (1 : Int32)), .ref 1000000, .ref 198], (223, (kc + q196.2.2.2), (ks + 6 * q196.2.2.2), pd_H q196.2.2.1 q196.2.1))) rfl ?_
                                    obtain ⟨hc197, h⟩ := pd_chk h
                                    refine ev_sald pp_law rfl hc197 ?_
                                    refine ev_gos pp_law 0 (S' := (833, [some (.ref 1000000), some (.ref 0), some (.ref 198), some (.ref 222), some (.int i), some (.int q196.1), y6], [.int (xs (i + (1 : Int32)).toNatClampNeg), .ref 198], (223, (kc + q196.2.2.2), (ks + 6 * q196.2.2.2), pd_H q196.2.2.1 q196.2.1))) rfl ?_
                                    refine ev_gos pp_law 1 (S' := (bif decide ((xs (i + (1 : Int32)).toNatClampNeg) = 0) then 840 else 836, [some (.ref 1000000), some (.ref 0), some (.ref 198), some (.ref 222), some (.int i), some (.int q196.1), y6], [.ref 198], (223, (kc + q196.2.2.2), (ks + 6 * q196.2.2.2), pd_H q196.2.2.1 q196.2.1))) rfl ?_
                                    rcases pd_cases h with ⟨hb198, h⟩ | ⟨hb198, h⟩
                                    · rw [hb198]
                                      refine ev_gos pp_law 5 (S' := (846, [some (.ref 1000000), some (.ref 0), some (.ref 198), some (.ref 222), some (.int i), some (.int q196.1), y6], [.int (i + (2 : Int32)), .ref 1000000, .int (0 : Int32), .ref 198], (223, (kc + q196.2.2.2), (ks + 6 * q196.2.2.2), pd_H q196.2.2.1 q196.2.1))) rfl ?_
                                      obtain ⟨hc199, h⟩ := pd_chk h
                                      refine ev_sald pp_law rfl hc199 ?_
                                      refine ev_gos pp_law 4 (S' := (852, [some (.ref 1000000), some (.ref 0), some (.ref 198), some (.ref 222), some (.int i), some (.int q196.1), y6], [.int (i + (3 : Int32)), .ref 1000000, .int (xs (i + (2 : Int32)).toNatClampNeg), .int (0 : Int32), .ref 198], (223, (kc + q196.2.2.2), (ks + 6 * q196.2.2.2), pd_H q196.2.2.1 q196.2.1))) rfl ?_
                                      obtain ⟨hc200, h⟩ := pd_chk h
                                      refine ev_sald pp_law rfl hc200 ?_
                                      refine ev_gos pp_law 0 (S' := (853, [some (.ref 1000000), some (.ref 0), some (.ref 198), some (.ref 222), some (.int i), some (.int q196.1), y6], [.int (xs (i + (3 : Int32)).toNatClampNeg), .int (xs (i + (2 : Int32)).toNatClampNeg), .int (0 : Int32), .ref 198], (223, (kc + q196.2.2.2), (ks + 6 * q196.2.2.2), pd_H q196.2.2.1 q196.2.1))) rfl ?_
                                      obtain ⟨q201, hq201, h⟩ := pd_bind h
                                      refine ev_callv pp_law rfl rfl rfl rfl (s_Mo_cell hq201) ?_
                                      refine ev_gos pp_law 2 (S' := (859, [some (.ref 1000000), some (.ref 0), some (.ref 198), some (.ref 222), some (.int i), some (.int q196.1), some (.int q201.1)], [.ref 198], (223, (kc + q196.2.2.2), (ks + 6 * q196.2.2.2), pd_H q196.2.2.1 q201.2))) rfl ?_
                                      refine ev_callv pp_law rfl rfl rfl rfl (s_Mo_thrown) ?_
                                      refine ev_gos pp_law 1 (S' := (864, [some (.ref 1000000), some (.ref 0), some (.ref 198), some (.ref 222), some (.int i), some (.int q196.1), some (.int q201.1)], [.int q196.1, .int (d_Mo_thrown q201.2)], (223, (kc + q196.2.2.2), (ks + 6 * q196.2.2.2), pd_H q196.2.2.1 q201.2))) rfl ?_
                                      refine ev_gos pp_law 1 (S' := (bif decide ((d_Mo_thrown q201.2) = q196.1) then 869 else 867, [some (.ref 1000000), some (.ref 0), some (.ref 198), some (.ref 222), some (.int i), some (.int q196.1), some (.int q201.1)], [], (223, (kc + q196.2.2.2), (ks + 6 * q196.2.2.2), pd_H q196.2.2.1 q201.2))) rfl ?_
                                      rcases pd_cases h with ⟨hb203, h⟩ | ⟨hb203, h⟩
                                      · rw [hb203]
                                        refine ev_gos pp_law 1 (S' := (871, [some (.ref 1000000), some (.ref 0), some (.ref 198), some (.ref 222), some (.int i), some (.int q196.1), some (.int q201.1)], [.int q196.1], (223, (kc + q196.2.2.2), (ks + 6 * q196.2.2.2), pd_H q196.2.2.1 q201.2))) rfl ?_
                                        refine ev_gos pp_law 1 (S' := (bif !(decide (q196.1 = 0)) then 886 else 874, [some (.ref 1000000), some (.ref 0), some (.ref 198), some (.ref 222), some (.int i), some (.int q196.1), some (.int q201.1)], [], (223, (kc + q196.2.2.2), (ks + 6 * q196.2.2.2), pd_H q196.2.2.1 q201.2))) rfl ?_
                                        rcases pd_cases h with ⟨hb204, h⟩ | ⟨hb204, h⟩
                                        · rw [hb204]
                                          refine ev_gos pp_law 3 (S' := (23, [some (.ref 1000000), some (.ref 0), some (.ref 198), some (.ref 222), some (.int (i + (4 : Int32))), some (.int q196.1), some (.int q201.1)], [], (223, (kc + q196.2.2.2), (ks + 6 * q196.2.2.2), pd_H q196.2.2.1 q201.2))) rfl ?_
                                          cases h
                                          exact K _ _
                                        · rw [hb204]
                                          refine ev_gos pp_law 2 (S' := (876, [some (.ref 1000000), some (.ref 0), some (.ref 198), some (.ref 222), some (.int i), some (.int q196.1), some (.int q201.1)], [.int (0 : Int32), .ref 222], (223, (kc + q196.2.2.2), (ks + 6 * q196.2.2.2), pd_H q196.2.2.1 q201.2))) rfl ?_
                                          refine ev_lald pp_law rfl ?_
                                          refine ev_gos pp_law 3 (S' := (881, [some (.ref 1000000), some (.ref 0), some (.ref 198), some (.ref 222), some (.int i), some (.int q196.1), some (.int q201.1)], [.int (lg_cmp (q196.2.2.1 0) (q201.1.toInt64))], (223, (kc + q196.2.2.2), (ks + 6 * q196.2.2.2), pd_H q196.2.2.1 q201.2))) rfl ?_
                                          refine ev_gos pp_law 1 (S' := (bif decide ((lg_cmp (q196.2.2.1 0) (q201.1.toInt64)) = 0) then 886 else 884, [some (.ref 1000000), some (.ref 0), some (.ref 198), some (.ref 222), some (.int i), some (.int q196.1), some (.int q201.1)], [], (223, (kc + q196.2.2.2), (ks + 6 * q196.2.2.2), pd_H q196.2.2.1 q201.2))) rfl ?_
                                          rcases pd_cases h with ⟨hb205, h⟩ | ⟨hb205, h⟩
                                          · rw [hb205]
                                            refine ev_gos pp_law 3 (S' := (23, [some (.ref 1000000), some (.ref 0), some (.ref 198), some (.ref 222), some (.int (i + (4 : Int32))), some (.int q196.1), some (.int q201.1)], [], (223, (kc + q196.2.2.2), (ks + 6 * q196.2.2.2), pd_H q196.2.2.1 q201.2))) rfl ?_
                                            cases h
                                            exact K _ _
                                          · rw [hb205]
                                            refine ev_gos pp_law 1 (S' := (885, [some (.ref 1000000), some (.ref 0), some (.ref 198), some (.ref 222), some (.int i), some (.int q196.1), some (.int q201.1)], [.int (0 : Int32)], (223, (kc + q196.2.2.2), (ks + 6 * q196.2.2.2), pd_H q196.2.2.1 q201.2))) rfl ?_
                                            exact nomatch h
                                      · rw [hb203]
                                        refine ev_gos pp_law 1 (S' := (868, [some (.ref 1000000), some (.ref 0), some (.ref 198), some (.ref 222), some (.int i), some (.int q196.1), some (.int q201.1)], [.int (0 : Int32)], (223, (kc + q196.2.2.2), (ks + 6 * q196.2.2.2), pd_H q196.2.2.1 q201.2))) rfl ?_
                                        exact nomatch h
                                    · rw [hb198]
                                      refine ev_gos pp_law 6 (S' := (846, [some (.ref 1000000), some (.ref 0), some (.ref 198), some (.ref 222), some (.int i), some (.int q196.1), y6], [.int (i + (2 : Int32)), .ref 1000000, .int (1 : Int32), .ref 198], (223, (kc + q196.2.2.2), (ks + 6 * q196.2.2.2), pd_H q196.2.2.1 q196.2.1))) rfl ?_
                                      obtain ⟨hc206, h⟩ := pd_chk h
                                      refine ev_sald pp_law rfl hc206 ?_
                                      refine ev_gos pp_law 4 (S' := (852, [some (.ref 1000000), some (.ref 0), some (.ref 198), some (.ref 222), some (.int i), some (.int q196.1), y6], [.int (i + (3 : Int32)), .ref 1000000, .int (xs (i + (2 : Int32)).toNatClampNeg), .int (1 : Int32), .ref 198], (223, (kc + q196.2.2.2), (ks + 6 * q196.2.2.2), pd_H q196.2.2.1 q196.2.1))) rfl ?_
                                      obtain ⟨hc207, h⟩ := pd_chk h
                                      refine ev_sald pp_law rfl hc207 ?_
                                      refine ev_gos pp_law 0 (S' := (853, [some (.ref 1000000), some (.ref 0), some (.ref 198), some (.ref 222), some (.int i), some (.int q196.1), y6], [.int (xs (i + (3 : Int32)).toNatClampNeg), .int (xs (i + (2 : Int32)).toNatClampNeg), .int (1 : Int32), .ref 198], (223, (kc + q196.2.2.2), (ks + 6 * q196.2.2.2), pd_H q196.2.2.1 q196.2.1))) rfl ?_
                                      obtain ⟨q208, hq208, h⟩ := pd_bind h
                                      refine ev_callv pp_law rfl rfl rfl rfl (s_Mo_cell hq208) ?_
                                      refine ev_gos pp_law 2 (S' := (859, [some (.ref 1000000), some (.ref 0), some (.ref 198), some (.ref 222), some (.int i), some (.int q196.1), some (.int q208.1)], [.ref 198], (223, (kc + q196.2.2.2), (ks + 6 * q196.2.2.2), pd_H q196.2.2.1 q208.2))) rfl ?_
                                      refine ev_callv pp_law rfl rfl rfl rfl (s_Mo_thrown) ?_
                                      refine ev_gos pp_law 1 (S' := (864, [some (.ref 1000000), some (.ref 0), some (.ref 198), some (.ref 222), some (.int i), some (.int q196.1), some (.int q208.1)], [.int q196.1, .int (d_Mo_thrown q208.2)], (223, (kc + q196.2.2.2), (ks + 6 * q196.2.2.2), pd_H q196.2.2.1 q208.2))) rfl ?_
                                      refine ev_gos pp_law 1 (S' := (bif decide ((d_Mo_thrown q208.2) = q196.1) then 869 else 867, [some (.ref 1000000), some (.ref 0), some (.ref 198), some (.ref 222), some (.int i), some (.int q196.1), some (.int q208.1)], [], (223, (kc + q196.2.2.2), (ks + 6 * q196.2.2.2), pd_H q196.2.2.1 q208.2))) rfl ?_
                                      rcases pd_cases h with ⟨hb210, h⟩ | ⟨hb210, h⟩
                                      · rw [hb210]
                                        refine ev_gos pp_law 1 (S' := (871, [some (.ref 1000000), some (.ref 0), some (.ref 198), some (.ref 222), some (.int i), some (.int q196.1), some (.int q208.1)], [.int q196.1], (223, (kc + q196.2.2.2), (ks + 6 * q196.2.2.2), pd_H q196.2.2.1 q208.2))) rfl ?_
                                        refine ev_gos pp_law 1 (S' := (bif !(decide (q196.1 = 0)) then 886 else 874, [some (.ref 1000000), some (.ref 0), some (.ref 198), some (.ref 222), some (.int i), some (.int q196.1), some (.int q208.1)], [], (223, (kc + q196.2.2.2), (ks + 6 * q196.2.2.2), pd_H q196.2.2.1 q208.2))) rfl ?_
                                        rcases pd_cases h with ⟨hb211, h⟩ | ⟨hb211, h⟩
                                        · rw [hb211]
                                          refine ev_gos pp_law 3 (S' := (23, [some (.ref 1000000), some (.ref 0), some (.ref 198), some (.ref 222), some (.int (i + (4 : Int32))), some (.int q196.1), some (.int q208.1)], [], (223, (kc + q196.2.2.2), (ks + 6 * q196.2.2.2), pd_H q196.2.2.1 q208.2))) rfl ?_
                                          cases h
                                          exact K _ _
                                        · rw [hb211]
                                          refine ev_gos pp_law 2 (S' := (876, [some (.ref 1000000), some (.ref 0), some (.ref 198), some (.ref 222), some (.int i), some (.int q196.1), some (.int q208.1)], [.int (0 : Int32), .ref 222], (223, (kc + q196.2.2.2), (ks + 6 * q196.2.2.2), pd_H q196.2.2.1 q208.2))) rfl ?_
                                          refine ev_lald pp_law rfl ?_
                                          refine ev_gos pp_law 3 (S' := (881, [some (.ref 1000000), some (.ref 0), some (.ref 198), some (.ref 222), some (.int i), some (.int q196.1), some (.int q208.1)], [.int (lg_cmp (q196.2.2.1 0) (q208.1.toInt64))], (223, (kc + q196.2.2.2), (ks + 6 * q196.2.2.2), pd_H q196.2.2.1 q208.2))) rfl ?_
                                          refine ev_gos pp_law 1 (S' := (bif decide ((lg_cmp (q196.2.2.1 0) (q208.1.toInt64)) = 0) then 886 else 884, [some (.ref 1000000), some (.ref 0), some (.ref 198), some (.ref 222), some (.int i), some (.int q196.1), some (.int q208.1)], [], (223, (kc + q196.2.2.2), (ks + 6 * q196.2.2.2), pd_H q196.2.2.1 q208.2))) rfl ?_
                                          rcases pd_cases h with ⟨hb212, h⟩ | ⟨hb212, h⟩
                                          · rw [hb212]
                                            refine ev_gos pp_law 3 (S' := (23, [some (.ref 1000000), some (.ref 0), some (.ref 198), some (.ref 222), some (.int (i + (4 : Int32))), some (.int q196.1), some (.int q208.1)], [], (223, (kc + q196.2.2.2), (ks + 6 * q196.2.2.2), pd_H q196.2.2.1 q208.2))) rfl ?_
                                            cases h
                                            exact K _ _
                                          · rw [hb212]
                                            refine ev_gos pp_law 1 (S' := (885, [some (.ref 1000000), some (.ref 0), some (.ref 198), some (.ref 222), some (.int i), some (.int q196.1), some (.int q208.1)], [.int (0 : Int32)], (223, (kc + q196.2.2.2), (ks + 6 * q196.2.2.2), pd_H q196.2.2.1 q208.2))) rfl ?_
                                            exact nomatch h
                                      · rw [hb210]
                                        refine ev_gos pp_law 1 (S' := (868, [some (.ref 1000000), some (.ref 0), some (.ref 198), some (.ref 222), some (.int i), some (.int q196.1), some (.int q208.1)], [.int (0 : Int32)], (223, (kc + q196.2.2.2), (ks + 6 * q196.2.2.2), pd_H q196.2.2.1 q208.2))) rfl ?_
                                        exact nomatch h
                                · rw [hb172]
                                  refine ev_gos pp_law 2 (S' := (23, [some (.ref 1000000), some (.ref 0), some (.ref 198), some (.ref 222), some (.int (i + (4 : Int32))), y5, y6], [], (223, kc, ks, pd_H g v))) rfl ?_
                                  cases h
                                  exact K _ _
end LS9
