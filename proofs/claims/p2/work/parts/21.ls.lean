section LS9
variable {xs : Nat → Int32} {L : Nat} {g : Nat → Int64} {d kc ks : Nat}
theorem pp_law {xs : Nat → Int32} {L : Nat} : (pj_P xs L 0).1 = fun S => pm_look (tb_law xs L) S.1 S := rfl
def d_law (w : Nat) (xs : Nat → Int32) (L : Nat) (i : Int32) (v : pd_V) (g : Nat → Int64) : Option ((pd_V × (Nat → Int64) × Nat) ⊕ Int32) :=
  bif decide (((Int32.ofNat L) - (4 : Int32)) < i) then
    some (Sum.inr (1 : Int32))
  else
    bif pm_in i L then
    bif decide (((xs i.toNatClampNeg) &&& (15 : Int32)) = (0 : Int32)) then
      bif pm_in (i + (1 : Int32)) L then
      bif pm_in (i + (2 : Int32)) L then
      bif pm_in (i + (3 : Int32)) L then
      (d_La_type w ((((xs (i + (1 : Int32)).toNatClampNeg).toInt64) <<< ((32 : Int32).toInt64 &&& 63)) ||| (((xs (i + (2 : Int32)).toNatClampNeg).toInt64) &&& (4294967295 : Int64))) (xs (i + (3 : Int32)).toNatClampNeg) v g).bind fun q7 =>
      bif pm_in (i + (1 : Int32)) L then
      bif pm_in (i + (2 : Int32)) L then
      bif pm_in (i + (3 : Int32)) L then
      (d_Mo_type w ((((xs (i + (1 : Int32)).toNatClampNeg).toInt64) <<< ((32 : Int32).toInt64 &&& 63)) ||| (((xs (i + (2 : Int32)).toNatClampNeg).toInt64) &&& (4294967295 : Int64))) (xs (i + (3 : Int32)).toNatClampNeg) q7.2.1).bind fun q11 =>
      bif decide ((d_Mo_thrown q11.2) = q7.1) then
        bif !(decide (q7.1 = 0)) then
          some (Sum.inl (q11.2, q7.2.2.1, q7.2.2.2))
        else
          bif decide ((lg_cmp (q7.2.2.1 0) (q11.1.toInt64)) = 0) then
            some (Sum.inl (q11.2, q7.2.2.1, q7.2.2.2))
          else
            some (Sum.inr (0 : Int32))
      else
        some (Sum.inr (0 : Int32))
      else none
      else none
      else none
      else none
      else none
      else none
    else
      bif decide (((xs i.toNatClampNeg) &&& (15 : Int32)) = (1 : Int32)) then
        (d_De_clear v).bind fun q17 =>
        (d_Mo_clear q17).bind fun q18 =>
        some (Sum.inl (q18, g, 0))
      else
        bif decide (((xs i.toNatClampNeg) &&& (15 : Int32)) = (2 : Int32)) then
          (d_De_compile w v).bind fun q20 =>
          (d_Mo_compile w q20.2).bind fun q21 =>
          some (Sum.inl (q21.2, g, 0))
        else
          bif decide (((xs i.toNatClampNeg) &&& (15 : Int32)) = (3 : Int32)) then
            (d_Mo_place v).bind fun q24 =>
            some (Sum.inl (q24.2, g, 0))
          else
            bif decide (((xs i.toNatClampNeg) &&& (15 : Int32)) = (4 : Int32)) then
              bif pm_in (i + (1 : Int32)) L then
              (d_La_varies (xs (i + (1 : Int32)).toNatClampNeg) v g).bind fun q27 =>
              bif pm_in (i + (1 : Int32)) L then
              (d_Mo_varies (xs (i + (1 : Int32)).toNatClampNeg) q27.2.1).bind fun q29 =>
              some (Sum.inl (q29.2, q27.2.2.1, q27.2.2.2))
              else none
              else none
            else
              bif decide (((xs i.toNatClampNeg) &&& (15 : Int32)) = (5 : Int32)) then
                bif pm_in (i + (1 : Int32)) L then
                bif pm_in (i + (2 : Int32)) L then
                (d_La_input (xs (i + (1 : Int32)).toNatClampNeg) (xs (i + (2 : Int32)).toNatClampNeg) v g).bind fun q33 =>
                bif pm_in (i + (1 : Int32)) L then
                bif pm_in (i + (2 : Int32)) L then
                (d_Mo_input (xs (i + (1 : Int32)).toNatClampNeg) (xs (i + (2 : Int32)).toNatClampNeg) q33.2.1).bind fun q36 =>
                some (Sum.inl (q36, q33.2.2.1, q33.2.2.2))
                else none
                else none
                else none
                else none
              else
                bif decide (((xs i.toNatClampNeg) &&& (15 : Int32)) = (6 : Int32)) then
                  bif pm_in (i + (1 : Int32)) L then
                  (d_La_lanes (xs (i + (1 : Int32)).toNatClampNeg) v g).bind fun q39 =>
                  bif pm_in (i + (1 : Int32)) L then
                  (d_Mo_lanes (xs (i + (1 : Int32)).toNatClampNeg) q39.2.1).bind fun q41 =>
                  some (Sum.inl (q41, q39.2.2.1, q39.2.2.2))
                  else none
                  else none
                else
                  bif decide (((xs i.toNatClampNeg) &&& (15 : Int32)) = (7 : Int32)) then
                    (d_La_start w v g).bind fun q43 =>
                    (d_Mo_start w q43.2.1).bind fun q44 =>
                    some (Sum.inl (q44, q43.2.2.1, q43.2.2.2))
                  else
                    bif decide (((xs i.toNatClampNeg) &&& (15 : Int32)) = (8 : Int32)) then
                      bif pm_in (i + (1 : Int32)) L then
                      (d_La_run w (xs (i + (1 : Int32)).toNatClampNeg) v g).bind fun q47 =>
                      bif pm_in (i + (1 : Int32)) L then
                      (d_Mo_run w (xs (i + (1 : Int32)).toNatClampNeg) q47.2.1).bind fun q49 =>
                      some (Sum.inl (q49.2, q47.2.2.1, q47.2.2.2))
                      else none
                      else none
                    else
                      bif decide (((xs i.toNatClampNeg) &&& (15 : Int32)) = (9 : Int32)) then
                        (d_Mo_mask v).bind fun q52 =>
                        some (Sum.inl (q52.2, g, 0))
                      else
                        bif decide (((xs i.toNatClampNeg) &&& (15 : Int32)) = (10 : Int32)) then
                          bif pm_in (i + (1 : Int32)) L then
                          (d_La_spent (xs (i + (1 : Int32)).toNatClampNeg) v g).bind fun q55 =>
                          bif pm_in (i + (1 : Int32)) L then
                          (d_Mo_spent (xs (i + (1 : Int32)).toNatClampNeg) q55.2.1).bind fun q57 =>
                          some (Sum.inl (q57.2, q55.2.2.1, q55.2.2.2))
                          else none
                          else none
                        else
                          bif decide (((xs i.toNatClampNeg) &&& (15 : Int32)) = (11 : Int32)) then
                            bif pm_in (i + (1 : Int32)) L then
                            (d_La_alone w (xs (i + (1 : Int32)).toNatClampNeg) v g).bind fun q60 =>
                            bif pm_in (i + (1 : Int32)) L then
                            (d_Mo_alone w (xs (i + (1 : Int32)).toNatClampNeg) q60.2.1).bind fun q62 =>
                            some (Sum.inl (q62.2, q60.2.2.1, q60.2.2.2))
                            else none
                            else none
                          else
                            bif decide (((xs i.toNatClampNeg) &&& (15 : Int32)) = (12 : Int32)) then
                              bif pm_in (i + (1 : Int32)) L then
                              bif decide ((xs (i + (1 : Int32)).toNatClampNeg) = 0) then
                                bif pm_in (i + (2 : Int32)) L then
                                bif pm_in (i + (3 : Int32)) L then
                                (d_La_lane (0 : Int32) (xs (i + (2 : Int32)).toNatClampNeg) (xs (i + (3 : Int32)).toNatClampNeg) v g).bind fun q68 =>
                                bif pm_in (i + (1 : Int32)) L then
                                bif decide ((xs (i + (1 : Int32)).toNatClampNeg) = 0) then
                                  bif pm_in (i + (2 : Int32)) L then
                                  bif pm_in (i + (3 : Int32)) L then
                                  (d_Mo_lane (0 : Int32) (xs (i + (2 : Int32)).toNatClampNeg) (xs (i + (3 : Int32)).toNatClampNeg) q68.2.1).bind fun q73 =>
                                  some (Sum.inl (q73.2, q68.2.2.1, q68.2.2.2))
                                  else none
                                  else none
                                else
                                  bif pm_in (i + (2 : Int32)) L then
                                  bif pm_in (i + (3 : Int32)) L then
                                  (d_Mo_lane (1 : Int32) (xs (i + (2 : Int32)).toNatClampNeg) (xs (i + (3 : Int32)).toNatClampNeg) q68.2.1).bind fun q76 =>
                                  some (Sum.inl (q76.2, q68.2.2.1, q68.2.2.2))
                                  else none
                                  else none
                                else none
                                else none
                                else none
                              else
                                bif pm_in (i + (2 : Int32)) L then
                                bif pm_in (i + (3 : Int32)) L then
                                (d_La_lane (1 : Int32) (xs (i + (2 : Int32)).toNatClampNeg) (xs (i + (3 : Int32)).toNatClampNeg) v g).bind fun q79 =>
                                bif pm_in (i + (1 : Int32)) L then
                                bif decide ((xs (i + (1 : Int32)).toNatClampNeg) = 0) then
                                  bif pm_in (i + (2 : Int32)) L then
                                  bif pm_in (i + (3 : Int32)) L then
                                  (d_Mo_lane (0 : Int32) (xs (i + (2 : Int32)).toNatClampNeg) (xs (i + (3 : Int32)).toNatClampNeg) q79.2.1).bind fun q84 =>
                                  some (Sum.inl (q84.2, q79.2.2.1, q79.2.2.2))
                                  else none
                                  else none
                                else
                                  bif pm_in (i + (2 : Int32)) L then
                                  bif pm_in (i + (3 : Int32)) L then
                                  (d_Mo_lane (1 : Int32) (xs (i + (2 : Int32)).toNatClampNeg) (xs (i + (3 : Int32)).toNatClampNeg) q79.2.1).bind fun q87 =>
                                  some (Sum.inl (q87.2, q79.2.2.1, q79.2.2.2))
                                  else none
                                  else none
                                else none
                                else none
                                else none
                              else none
                            else
                              bif decide (((xs i.toNatClampNeg) &&& (15 : Int32)) = (13 : Int32)) then
                                bif pm_in (i + (1 : Int32)) L then
                                bif decide ((xs (i + (1 : Int32)).toNatClampNeg) = 0) then
                                  bif pm_in (i + (2 : Int32)) L then
                                  bif pm_in (i + (3 : Int32)) L then
                                  (d_La_out (0 : Int32) (xs (i + (2 : Int32)).toNatClampNeg) (xs (i + (3 : Int32)).toNatClampNeg) v g).bind fun q93 =>
                                  bif pm_in (i + (1 : Int32)) L then
                                  bif decide ((xs (i + (1 : Int32)).toNatClampNeg) = 0) then
                                    bif pm_in (i + (2 : Int32)) L then
                                    bif pm_in (i + (3 : Int32)) L then
                                    (d_Mo_out (0 : Int32) (xs (i + (2 : Int32)).toNatClampNeg) (xs (i + (3 : Int32)).toNatClampNeg) q93.2.1).bind fun q98 =>
                                    some (Sum.inl (q98.2, q93.2.2.1, q93.2.2.2))
                                    else none
                                    else none
                                  else
                                    bif pm_in (i + (2 : Int32)) L then
                                    bif pm_in (i + (3 : Int32)) L then
                                    (d_Mo_out (1 : Int32) (xs (i + (2 : Int32)).toNatClampNeg) (xs (i + (3 : Int32)).toNatClampNeg) q93.2.1).bind fun q101 =>
                                    some (Sum.inl (q101.2, q93.2.2.1, q93.2.2.2))
                                    else none
                                    else none
                                  else none
                                  else none
                                  else none
                                else
                                  bif pm_in (i + (2 : Int32)) L then
                                  bif pm_in (i + (3 : Int32)) L then
                                  (d_La_out (1 : Int32) (xs (i + (2 : Int32)).toNatClampNeg) (xs (i + (3 : Int32)).toNatClampNeg) v g).bind fun q104 =>
                                  bif pm_in (i + (1 : Int32)) L then
                                  bif decide ((xs (i + (1 : Int32)).toNatClampNeg) = 0) then
                                    bif pm_in (i + (2 : Int32)) L then
                                    bif pm_in (i + (3 : Int32)) L then
                                    (d_Mo_out (0 : Int32) (xs (i + (2 : Int32)).toNatClampNeg) (xs (i + (3 : Int32)).toNatClampNeg) q104.2.1).bind fun q109 =>
                                    some (Sum.inl (q109.2, q104.2.2.1, q104.2.2.2))
                                    else none
                                    else none
                                  else
                                    bif pm_in (i + (2 : Int32)) L then
                                    bif pm_in (i + (3 : Int32)) L then
                                    (d_Mo_out (1 : Int32) (xs (i + (2 : Int32)).toNatClampNeg) (xs (i + (3 : Int32)).toNatClampNeg) q104.2.1).bind fun q112 =>
                                    some (Sum.inl (q112.2, q104.2.2.1, q104.2.2.2))
                                    else none
                                    else none
                                  else none
                                  else none
                                  else none
                                else none
                              else
                                bif decide (((xs i.toNatClampNeg) &&& (15 : Int32)) = (14 : Int32)) then
                                  bif pm_in (i + (1 : Int32)) L then
                                  bif decide ((xs (i + (1 : Int32)).toNatClampNeg) = 0) then
                                    bif pm_in (i + (2 : Int32)) L then
                                    bif pm_in (i + (3 : Int32)) L then
                                    (d_La_cell (0 : Int32) (xs (i + (2 : Int32)).toNatClampNeg) (xs (i + (3 : Int32)).toNatClampNeg) v g).bind fun q118 =>
                                    bif pm_in (i + (1 : Int32)) L then
                                    bif decide ((xs (i + (1 : Int32)).toNatClampNeg) = 0) then
                                      bif pm_in (i + (2 : Int32)) L then
                                      bif pm_in (i + (3 : Int32)) L then
                                      (d_Mo_cell (0 : Int32) (xs (i + (2 : Int32)).toNatClampNeg) (xs (i + (3 : Int32)).toNatClampNeg) q118.2.1).bind fun q123 =>
                                      some (Sum.inl (q123.2, q118.2.2.1, q118.2.2.2))
                                      else none
                                      else none
                                    else
                                      bif pm_in (i + (2 : Int32)) L then
                                      bif pm_in (i + (3 : Int32)) L then
                                      (d_Mo_cell (1 : Int32) (xs (i + (2 : Int32)).toNatClampNeg) (xs (i + (3 : Int32)).toNatClampNeg) q118.2.1).bind fun q126 =>
                                      some (Sum.inl (q126.2, q118.2.2.1, q118.2.2.2))
                                      else none
                                      else none
                                    else none
                                    else none
                                    else none
                                  else
                                    bif pm_in (i + (2 : Int32)) L then
                                    bif pm_in (i + (3 : Int32)) L then
                                    (d_La_cell (1 : Int32) (xs (i + (2 : Int32)).toNatClampNeg) (xs (i + (3 : Int32)).toNatClampNeg) v g).bind fun q129 =>
                                    bif pm_in (i + (1 : Int32)) L then
                                    bif decide ((xs (i + (1 : Int32)).toNatClampNeg) = 0) then
                                      bif pm_in (i + (2 : Int32)) L then
                                      bif pm_in (i + (3 : Int32)) L then
                                      (d_Mo_cell (0 : Int32) (xs (i + (2 : Int32)).toNatClampNeg) (xs (i + (3 : Int32)).toNatClampNeg) q129.2.1).bind fun q134 =>
                                      some (Sum.inl (q134.2, q129.2.2.1, q129.2.2.2))
                                      else none
                                      else none
                                    else
                                      bif pm_in (i + (2 : Int32)) L then
                                      bif pm_in (i + (3 : Int32)) L then
                                      (d_Mo_cell (1 : Int32) (xs (i + (2 : Int32)).toNatClampNeg) (xs (i + (3 : Int32)).toNatClampNeg) q129.2.1).bind fun q137 =>
                                      some (Sum.inl (q137.2, q129.2.2.1, q129.2.2.2))
                                      else none
                                      else none
                                    else none
                                    else none
                                    else none
                                  else none
                                else
                                  some (Sum.inl (v, g, 0))
    else none
set_option maxRecDepth 100000 in
set_option maxHeartbeats 4000000 in
theorem s_law {w : Nat} {i : Int32} {v : pd_V} {y5 y6 : Option Value} {q : pd_V × (Nat → Int64) × Nat} {o : pm_O} (h : d_law w xs L i v g = some (Sum.inl q)) (K : ∀ y5 y6 : Option Value, pm_ev (pj_P xs L) (d + 23) 0 (23, [some (.ref 1000000), some (.ref 0), some (.ref 198), some (.ref 222), some (.int (i + (4 : Int32))), y5, y6], [], (223, kc + q.2.2, ks + 6 * q.2.2, pd_H q.2.1 q.1)) o) : pm_ev (pj_P xs L) (d + 23) 0 (23, [some (.ref 1000000), some (.ref 0), some (.ref 198), some (.ref 222), some (.int i), y5, y6], [], (223, kc, ks, pd_H g v)) o := by
  unfold d_law at h
  refine ev_gos pp_law 5 (S' := (29, [some (.ref 1000000), some (.ref 0), some (.ref 198), some (.ref 222), some (.int i), y5, y6], [.int ((Int32.ofNat L) - (4 : Int32)), .int i], (223, kc, ks, pd_H g v))) rfl ?_
  refine ev_gos pp_law 1 (S' := (bif decide (((Int32.ofNat L) - (4 : Int32)) < i) then 659 else 32, [some (.ref 1000000), some (.ref 0), some (.ref 198), some (.ref 222), some (.int i), y5, y6], [], (223, kc, ks, pd_H g v))) rfl ?_
  rcases pd_cases h with ⟨hb1, h⟩ | ⟨hb1, h⟩
  · rw [hb1]
    refine ev_gos pp_law 1 (S' := (660, [some (.ref 1000000), some (.ref 0), some (.ref 198), some (.ref 222), some (.int i), y5, y6], [.int (1 : Int32)], (223, kc, ks, pd_H g v))) rfl ?_
    exact nomatch h
  · rw [hb1]
    refine ev_gos pp_law 2 (S' := (35, [some (.ref 1000000), some (.ref 0), some (.ref 198), some (.ref 222), some (.int i), y5, y6], [.int i, .ref 1000000], (223, kc, ks, pd_H g v))) rfl ?_
    obtain ⟨hc2, h⟩ := pd_chk h
    refine ev_sald pp_law rfl hc2 ?_
    refine ev_gos pp_law 2 (S' := (39, [some (.ref 1000000), some (.ref 0), some (.ref 198), some (.ref 222), some (.int i), y5, y6], [.int ((xs i.toNatClampNeg) &&& (15 : Int32))], (223, kc, ks, pd_H g v))) rfl ?_
    refine ev_gos pp_law 1 (S' := (bif decide (((xs i.toNatClampNeg) &&& (15 : Int32)) = (0 : Int32)) then 112 else bif decide (((xs i.toNatClampNeg) &&& (15 : Int32)) = (1 : Int32)) then 212 else bif decide (((xs i.toNatClampNeg) &&& (15 : Int32)) = (2 : Int32)) then 223 else bif decide (((xs i.toNatClampNeg) &&& (15 : Int32)) = (3 : Int32)) then 236 else bif decide (((xs i.toNatClampNeg) &&& (15 : Int32)) = (4 : Int32)) then 249 else bif decide (((xs i.toNatClampNeg) &&& (15 : Int32)) = (5 : Int32)) then 277 else bif decide (((xs i.toNatClampNeg) &&& (15 : Int32)) = (6 : Int32)) then 314 else bif decide (((xs i.toNatClampNeg) &&& (15 : Int32)) = (7 : Int32)) then 339 else bif decide (((xs i.toNatClampNeg) &&& (15 : Int32)) = (8 : Int32)) then 352 else bif decide (((xs i.toNatClampNeg) &&& (15 : Int32)) = (9 : Int32)) then 380 else bif decide (((xs i.toNatClampNeg) &&& (15 : Int32)) = (10 : Int32)) then 393 else bif decide (((xs i.toNatClampNeg) &&& (15 : Int32)) = (11 : Int32)) then 421 else bif decide (((xs i.toNatClampNeg) &&& (15 : Int32)) = (12 : Int32)) then 449 else bif decide (((xs i.toNatClampNeg) &&& (15 : Int32)) = (13 : Int32)) then 517 else bif decide (((xs i.toNatClampNeg) &&& (15 : Int32)) = (14 : Int32)) then 585 else 653, [some (.ref 1000000), some (.ref 0), some (.ref 198), some (.ref 222), some (.int i), y5, y6], [], (223, kc, ks, pd_H g v))) rfl ?_
    rcases pd_cases h with ⟨hb3, h⟩ | ⟨hb3, h⟩
    · rw [hb3]
      refine ev_gos pp_law 5 (S' := (118, [some (.ref 1000000), some (.ref 0), some (.ref 198), some (.ref 222), some (.int i), y5, y6], [.int (i + (1 : Int32)), .ref 1000000, .ref 0], (223, kc, ks, pd_H g v))) rfl ?_
      obtain ⟨hc4, h⟩ := pd_chk h
      refine ev_sald pp_law rfl hc4 ?_
      refine ev_gos pp_law 7 (S' := (128, [some (.ref 1000000), some (.ref 0), some (.ref 198), some (.ref 222), some (.int i), y5, y6], [.int (i + (2 : Int32)), .ref 1000000, .long (((xs (i + (1 : Int32)).toNatClampNeg).toInt64) <<< ((32 : Int32).toInt64 &&& 63)), .ref 0], (223, kc, ks, pd_H g v))) rfl ?_
      obtain ⟨hc5, h⟩ := pd_chk h
      refine ev_sald pp_law rfl hc5 ?_
      refine ev_gos pp_law 8 (S' := (140, [some (.ref 1000000), some (.ref 0), some (.ref 198), some (.ref 222), some (.int i), y5, y6], [.int (i + (3 : Int32)), .ref 1000000, .long ((((xs (i + (1 : Int32)).toNatClampNeg).toInt64) <<< ((32 : Int32).toInt64 &&& 63)) ||| (((xs (i + (2 : Int32)).toNatClampNeg).toInt64) &&& (4294967295 : Int64))), .ref 0], (223, kc, ks, pd_H g v))) rfl ?_
      obtain ⟨hc6, h⟩ := pd_chk h
      refine ev_sald pp_law rfl hc6 ?_
      refine ev_gos pp_law 1 (S' := (142, [some (.ref 1000000), some (.ref 0), some (.ref 198), some (.ref 222), some (.int i), y5, y6], [.ref 222, .int (xs (i + (3 : Int32)).toNatClampNeg), .long ((((xs (i + (1 : Int32)).toNatClampNeg).toInt64) <<< ((32 : Int32).toInt64 &&& 63)) ||| (((xs (i + (2 : Int32)).toNatClampNeg).toInt64) &&& (4294967295 : Int64))), .ref 0], (223, kc, ks, pd_H g v))) rfl ?_
      obtain ⟨q7, hq7, h⟩ := pd_bind h
      refine ev_call pp_law rfl rfl rfl (s_La_type hq7) ?_
      refine ev_gos pp_law 6 (S' := (153, [some (.ref 1000000), some (.ref 0), some (.ref 198), some (.ref 222), some (.int i), some (.int q7.1), y6], [.int (i + (1 : Int32)), .ref 1000000, .ref 198], (223, (kc + q7.2.2.2), (ks + 6 * q7.2.2.2), pd_H q7.2.2.1 q7.2.1))) rfl ?_
      obtain ⟨hc8, h⟩ := pd_chk h
      refine ev_sald pp_law rfl hc8 ?_
      refine ev_gos pp_law 7 (S' := (163, [some (.ref 1000000), some (.ref 0), some (.ref 198), some (.ref 222), some (.int i), some (.int q7.1), y6], [.int (i + (2 : Int32)), .ref 1000000, .long (((xs (i + (1 : Int32)).toNatClampNeg).toInt64) <<< ((32 : Int32).toInt64 &&& 63)), .ref 198], (223, (kc + q7.2.2.2), (ks + 6 * q7.2.2.2), pd_H q7.2.2.1 q7.2.1))) rfl ?_
      obtain ⟨hc9, h⟩ := pd_chk h
      refine ev_sald pp_law rfl hc9 ?_
      refine ev_gos pp_law 8 (S' := (175, [some (.ref 1000000), some (.ref 0), some (.ref 198), some (.ref 222), some (.int i), some (.int q7.1), y6], [.int (i + (3 : Int32)), .ref 1000000, .long ((((xs (i + (1 : Int32)).toNatClampNeg).toInt64) <<< ((32 : Int32).toInt64 &&& 63)) ||| (((xs (i + (2 : Int32)).toNatClampNeg).toInt64) &&& (4294967295 : Int64))), .ref 198], (223, (kc + q7.2.2.2), (ks + 6 * q7.2.2.2), pd_H q7.2.2.1 q7.2.1))) rfl ?_
      obtain ⟨hc10, h⟩ := pd_chk h
      refine ev_sald pp_law rfl hc10 ?_
      refine ev_gos pp_law 0 (S' := (176, [some (.ref 1000000), some (.ref 0), some (.ref 198), some (.ref 222), some (.int i), some (.int q7.1), y6], [.int (xs (i + (3 : Int32)).toNatClampNeg), .long ((((xs (i + (1 : Int32)).toNatClampNeg).toInt64) <<< ((32 : Int32).toInt64 &&& 63)) ||| (((xs (i + (2 : Int32)).toNatClampNeg).toInt64) &&& (4294967295 : Int64))), .ref 198], (223, (kc + q7.2.2.2), (ks + 6 * q7.2.2.2), pd_H q7.2.2.1 q7.2.1))) rfl ?_
      obtain ⟨q11, hq11, h⟩ := pd_bind h
      refine ev_callv pp_law rfl rfl rfl rfl (s_Mo_type hq11) ?_
      refine ev_gos pp_law 2 (S' := (182, [some (.ref 1000000), some (.ref 0), some (.ref 198), some (.ref 222), some (.int i), some (.int q7.1), some (.int q11.1)], [.ref 198], (223, (kc + q7.2.2.2), (ks + 6 * q7.2.2.2), pd_H q7.2.2.1 q11.2))) rfl ?_
      refine ev_callv pp_law rfl rfl rfl rfl (s_Mo_thrown) ?_
      refine ev_gos pp_law 1 (S' := (187, [some (.ref 1000000), some (.ref 0), some (.ref 198), some (.ref 222), some (.int i), some (.int q7.1), some (.int q11.1)], [.int q7.1, .int (d_Mo_thrown q11.2)], (223, (kc + q7.2.2.2), (ks + 6 * q7.2.2.2), pd_H q7.2.2.1 q11.2))) rfl ?_
      refine ev_gos pp_law 1 (S' := (bif decide ((d_Mo_thrown q11.2) = q7.1) then 192 else 190, [some (.ref 1000000), some (.ref 0), some (.ref 198), some (.ref 222), some (.int i), some (.int q7.1), some (.int q11.1)], [], (223, (kc + q7.2.2.2), (ks + 6 * q7.2.2.2), pd_H q7.2.2.1 q11.2))) rfl ?_
      rcases pd_cases h with ⟨hb13, h⟩ | ⟨hb13, h⟩
      · rw [hb13]
        refine ev_gos pp_law 1 (S' := (194, [some (.ref 1000000), some (.ref 0), some (.ref 198), some (.ref 222), some (.int i), some (.int q7.1), some (.int q11.1)], [.int q7.1], (223, (kc + q7.2.2.2), (ks + 6 * q7.2.2.2), pd_H q7.2.2.1 q11.2))) rfl ?_
        refine ev_gos pp_law 1 (S' := (bif !(decide (q7.1 = 0)) then 209 else 197, [some (.ref 1000000), some (.ref 0), some (.ref 198), some (.ref 222), some (.int i), some (.int q7.1), some (.int q11.1)], [], (223, (kc + q7.2.2.2), (ks + 6 * q7.2.2.2), pd_H q7.2.2.1 q11.2))) rfl ?_
        rcases pd_cases h with ⟨hb14, h⟩ | ⟨hb14, h⟩
        · rw [hb14]
          refine ev_gos pp_law 3 (S' := (23, [some (.ref 1000000), some (.ref 0), some (.ref 198), some (.ref 222), some (.int (i + (4 : Int32))), some (.int q7.1), some (.int q11.1)], [], (223, (kc + q7.2.2.2), (ks + 6 * q7.2.2.2), pd_H q7.2.2.1 q11.2))) rfl ?_
          cases h
          exact K _ _
        · rw [hb14]
          refine ev_gos pp_law 2 (S' := (199, [some (.ref 1000000), some (.ref 0), some (.ref 198), some (.ref 222), some (.int i), some (.int q7.1), some (.int q11.1)], [.int (0 : Int32), .ref 222], (223, (kc + q7.2.2.2), (ks + 6 * q7.2.2.2), pd_H q7.2.2.1 q11.2))) rfl ?_
          refine ev_lald pp_law rfl ?_
          refine ev_gos pp_law 3 (S' := (204, [some (.ref 1000000), some (.ref 0), some (.ref 198), some (.ref 222), some (.int i), some (.int q7.1), some (.int q11.1)], [.int (lg_cmp (q7.2.2.1 0) (q11.1.toInt64))], (223, (kc + q7.2.2.2), (ks + 6 * q7.2.2.2), pd_H q7.2.2.1 q11.2))) rfl ?_
          refine ev_gos pp_law 1 (S' := (bif decide ((lg_cmp (q7.2.2.1 0) (q11.1.toInt64)) = 0) then 209 else 207, [some (.ref 1000000), some (.ref 0), some (.ref 198), some (.ref 222), some (.int i), some (.int q7.1), some (.int q11.1)], [], (223, (kc + q7.2.2.2), (ks + 6 * q7.2.2.2), pd_H q7.2.2.1 q11.2))) rfl ?_
          rcases pd_cases h with ⟨hb15, h⟩ | ⟨hb15, h⟩
          · rw [hb15]
            refine ev_gos pp_law 3 (S' := (23, [some (.ref 1000000), some (.ref 0), some (.ref 198), some (.ref 222), some (.int (i + (4 : Int32))), some (.int q7.1), some (.int q11.1)], [], (223, (kc + q7.2.2.2), (ks + 6 * q7.2.2.2), pd_H q7.2.2.1 q11.2))) rfl ?_
            cases h
            exact K _ _
          · rw [hb15]
            refine ev_gos pp_law 1 (S' := (208, [some (.ref 1000000), some (.ref 0), some (.ref 198), some (.ref 222), some (.int i), some (.int q7.1), some (.int q11.1)], [.int (0 : Int32)], (223, (kc + q7.2.2.2), (ks + 6 * q7.2.2.2), pd_H q7.2.2.1 q11.2))) rfl ?_
            exact nomatch h
      · rw [hb13]
        refine ev_gos pp_law 1 (S' := (191, [some (.ref 1000000), some (.ref 0), some (.ref 198), some (.ref 222), some (.int i), some (.int q7.1), some (.int q11.1)], [.int (0 : Int32)], (223, (kc + q7.2.2.2), (ks + 6 * q7.2.2.2), pd_H q7.2.2.1 q11.2))) rfl ?_
        exact nomatch h
    · rw [hb3]
      rcases pd_cases h with ⟨hb16, h⟩ | ⟨hb16, h⟩
      · rw [hb16]
        refine ev_gos pp_law 1 (S' := (213, [some (.ref 1000000), some (.ref 0), some (.ref 198), some (.ref 222), some (.int i), y5, y6], [.ref 0], (223, kc, ks, pd_H g v))) rfl ?_
        obtain ⟨q17, hq17, h⟩ := pd_bind h
        refine ev_callv pp_law rfl rfl rfl rfl (s_De_clear hq17) ?_
        refine ev_gos pp_law 1 (S' := (217, [some (.ref 1000000), some (.ref 0), some (.ref 198), some (.ref 222), some (.int i), y5, y6], [.ref 198], (223, kc, ks, pd_H g q17))) rfl ?_
        obtain ⟨q18, hq18, h⟩ := pd_bind h
        refine ev_callv pp_law rfl rfl rfl rfl (s_Mo_clear hq18) ?_
        refine ev_gos pp_law 3 (S' := (23, [some (.ref 1000000), some (.ref 0), some (.ref 198), some (.ref 222), some (.int (i + (4 : Int32))), y5, y6], [], (223, kc, ks, pd_H g q18))) rfl ?_
        cases h
        exact K _ _
      · rw [hb16]
        rcases pd_cases h with ⟨hb19, h⟩ | ⟨hb19, h⟩
        · rw [hb19]
          refine ev_gos pp_law 1 (S' := (224, [some (.ref 1000000), some (.ref 0), some (.ref 198), some (.ref 222), some (.int i), y5, y6], [.ref 0], (223, kc, ks, pd_H g v))) rfl ?_
          obtain ⟨q20, hq20, h⟩ := pd_bind h
          refine ev_callv pp_law rfl rfl rfl rfl (s_De_compile hq20) ?_
          refine ev_gos pp_law 2 (S' := (229, [some (.ref 1000000), some (.ref 0), some (.ref 198), some (.ref 222), some (.int i), y5, y6], [.ref 198], (223, kc, ks, pd_H g q20.2))) rfl ?_
          obtain ⟨q21, hq21, h⟩ := pd_bind h
          refine ev_callv pp_law rfl rfl rfl rfl (s_Mo_compile hq21) ?_
          refine ev_gos pp_law 4 (S' := (23, [some (.ref 1000000), some (.ref 0), some (.ref 198), some (.ref 222), some (.int (i + (4 : Int32))), y5, y6], [], (223, kc, ks, pd_H g q21.2))) rfl ?_
          cases h
          exact K _ _
        · rw [hb19]
          rcases pd_cases h with ⟨hb22, h⟩ | ⟨hb22, h⟩
          · rw [hb22]
            refine ev_gos pp_law 1 (S' := (237, [some (.ref 1000000), some (.ref 0), some (.ref 198), some (.ref 222), some (.int i), y5, y6], [.ref 0], (223, kc, ks, pd_H g v))) rfl ?_
            refine ev_callv pp_law rfl rfl rfl rfl (s_De_place) ?_
            refine ev_gos pp_law 2 (S' := (242, [some (.ref 1000000), some (.ref 0), some (.ref 198), some (.ref 222), some (.int i), y5, y6], [.ref 198], (223, kc, ks, pd_H g v))) rfl ?_
            obtain ⟨q24, hq24, h⟩ := pd_bind h
            refine ev_callv pp_law rfl rfl rfl rfl (s_Mo_place hq24) ?_
            refine ev_gos pp_law 4 (S' := (23, [some (.ref 1000000), some (.ref 0), some (.ref 198), some (.ref 222), some (.int (i + (4 : Int32))), y5, y6], [], (223, kc, ks, pd_H g q24.2))) rfl ?_
            cases h
            exact K _ _
          · rw [hb22]
            rcases pd_cases h with ⟨hb25, h⟩ | ⟨hb25, h⟩
            · rw [hb25]
              refine ev_gos pp_law 5 (S' := (255, [some (.ref 1000000), some (.ref 0), some (.ref 198), some (.ref 222), some (.int i), y5, y6], [.int (i + (1 : Int32)), .ref 1000000, .ref 0], (223, kc, ks, pd_H g v))) rfl ?_
              obtain ⟨hc26, h⟩ := pd_chk h
              refine ev_sald pp_law rfl hc26 ?_
              refine ev_gos pp_law 1 (S' := (257, [some (.ref 1000000), some (.ref 0), some (.ref 198), some (.ref 222), some (.int i), y5, y6], [.ref 222, .int (xs (i + (1 : Int32)).toNatClampNeg), .ref 0], (223, kc, ks, pd_H g v))) rfl ?_
              obtain ⟨q27, hq27, h⟩ := pd_bind h
              refine ev_call pp_law rfl rfl rfl (s_La_varies hq27) ?_
              refine ev_gos pp_law 6 (S' := (268, [some (.ref 1000000), some (.ref 0), some (.ref 198), some (.ref 222), some (.int i), some (.int q27.1), y6], [.int (i + (1 : Int32)), .ref 1000000, .ref 198], (223, (kc + q27.2.2.2), (ks + 6 * q27.2.2.2), pd_H q27.2.2.1 q27.2.1))) rfl ?_
              obtain ⟨hc28, h⟩ := pd_chk h
              refine ev_sald pp_law rfl hc28 ?_
              refine ev_gos pp_law 0 (S' := (269, [some (.ref 1000000), some (.ref 0), some (.ref 198), some (.ref 222), some (.int i), some (.int q27.1), y6], [.int (xs (i + (1 : Int32)).toNatClampNeg), .ref 198], (223, (kc + q27.2.2.2), (ks + 6 * q27.2.2.2), pd_H q27.2.2.1 q27.2.1))) rfl ?_
              obtain ⟨q29, hq29, h⟩ := pd_bind h
              refine ev_callv pp_law rfl rfl rfl rfl (s_Mo_varies hq29) ?_
              refine ev_gos pp_law 4 (S' := (23, [some (.ref 1000000), some (.ref 0), some (.ref 198), some (.ref 222), some (.int (i + (4 : Int32))), some (.int q27.1), some (.int q29.1)], [], (223, (kc + q27.2.2.2), (ks + 6 * q27.2.2.2), pd_H q27.2.2.1 q29.2))) rfl ?_
              cases h
              exact K _ _
            · rw [hb25]
              rcases pd_cases h with ⟨hb30, h⟩ | ⟨hb30, h⟩
              · rw [hb30]
                refine ev_gos pp_law 5 (S' := (283, [some (.ref 1000000), some (.ref 0), some (.ref 198), some (.ref 222), some (.int i), y5, y6], [.int (i + (1 : Int32)), .ref 1000000, .ref 0], (223, kc, ks, pd_H g v))) rfl ?_
                obtain ⟨hc31, h⟩ := pd_chk h
                refine ev_sald pp_law rfl hc31 ?_
                refine ev_gos pp_law 4 (S' := (289, [some (.ref 1000000), some (.ref 0), some (.ref 198), some (.ref 222), some (.int i), y5, y6], [.int (i + (2 : Int32)), .ref 1000000, .int (xs (i + (1 : Int32)).toNatClampNeg), .ref 0], (223, kc, ks, pd_H g v))) rfl ?_
                obtain ⟨hc32, h⟩ := pd_chk h
                refine ev_sald pp_law rfl hc32 ?_
                refine ev_gos pp_law 0 (S' := (290, [some (.ref 1000000), some (.ref 0), some (.ref 198), some (.ref 222), some (.int i), y5, y6], [.int (xs (i + (2 : Int32)).toNatClampNeg), .int (xs (i + (1 : Int32)).toNatClampNeg), .ref 0], (223, kc, ks, pd_H g v))) rfl ?_
                obtain ⟨q33, hq33, h⟩ := pd_bind h
                refine ev_call pp_law rfl rfl rfl (s_La_input hq33) ?_
                refine ev_gos pp_law 6 (S' := (301, [some (.ref 1000000), some (.ref 0), some (.ref 198), some (.ref 222), some (.int i), some (.int q33.1), y6], [.int (i + (1 : Int32)), .ref 1000000, .ref 198], (223, (kc + q33.2.2.2), (ks + 6 * q33.2.2.2), pd_H q33.2.2.1 q33.2.1))) rfl ?_
                obtain ⟨hc34, h⟩ := pd_chk h
                refine ev_sald pp_law rfl hc34 ?_
                refine ev_gos pp_law 4 (S' := (307, [some (.ref 1000000), some (.ref 0), some (.ref 198), some (.ref 222), some (.int i), some (.int q33.1), y6], [.int (i + (2 : Int32)), .ref 1000000, .int (xs (i + (1 : Int32)).toNatClampNeg), .ref 198], (223, (kc + q33.2.2.2), (ks + 6 * q33.2.2.2), pd_H q33.2.2.1 q33.2.1))) rfl ?_
                obtain ⟨hc35, h⟩ := pd_chk h
                refine ev_sald pp_law rfl hc35 ?_
                refine ev_gos pp_law 0 (S' := (308, [some (.ref 1000000), some (.ref 0), some (.ref 198), some (.ref 222), some (.int i), some (.int q33.1), y6], [.int (xs (i + (2 : Int32)).toNatClampNeg), .int (xs (i + (1 : Int32)).toNatClampNeg), .ref 198], (223, (kc + q33.2.2.2), (ks + 6 * q33.2.2.2), pd_H q33.2.2.1 q33.2.1))) rfl ?_
                obtain ⟨q36, hq36, h⟩ := pd_bind h
                refine ev_callv pp_law rfl rfl rfl rfl (s_Mo_input hq36) ?_
                refine ev_gos pp_law 3 (S' := (23, [some (.ref 1000000), some (.ref 0), some (.ref 198), some (.ref 222), some (.int (i + (4 : Int32))), some (.int q33.1), y6], [], (223, (kc + q33.2.2.2), (ks + 6 * q33.2.2.2), pd_H q33.2.2.1 q36))) rfl ?_
                cases h
                exact K _ _
              · rw [hb30]
                rcases pd_cases h with ⟨hb37, h⟩ | ⟨hb37, h⟩
                · rw [hb37]
                  refine ev_gos pp_law 5 (S' := (320, [some (.ref 1000000), some (.ref 0), some (.ref 198), some (.ref 222), some (.int i), y5, y6], [.int (i + (1 : Int32)), .ref 1000000, .ref 0], (223, kc, ks, pd_H g v))) rfl ?_
                  obtain ⟨hc38, h⟩ := pd_chk h
                  refine ev_sald pp_law rfl hc38 ?_
                  refine ev_gos pp_law 0 (S' := (321, [some (.ref 1000000), some (.ref 0), some (.ref 198), some (.ref 222), some (.int i), y5, y6], [.int (xs (i + (1 : Int32)).toNatClampNeg), .ref 0], (223, kc, ks, pd_H g v))) rfl ?_
                  obtain ⟨q39, hq39, h⟩ := pd_bind h
                  refine ev_call pp_law rfl rfl rfl (s_La_lanes hq39) ?_
                  refine ev_gos pp_law 6 (S' := (332, [some (.ref 1000000), some (.ref 0), some (.ref 198), some (.ref 222), some (.int i), some (.int q39.1), y6], [.int (i + (1 : Int32)), .ref 1000000, .ref 198], (223, (kc + q39.2.2.2), (ks + 6 * q39.2.2.2), pd_H q39.2.2.1 q39.2.1))) rfl ?_
                  obtain ⟨hc40, h⟩ := pd_chk h
                  refine ev_sald pp_law rfl hc40 ?_
                  refine ev_gos pp_law 0 (S' := (333, [some (.ref 1000000), some (.ref 0), some (.ref 198), some (.ref 222), some (.int i), some (.int q39.1), y6], [.int (xs (i + (1 : Int32)).toNatClampNeg), .ref 198], (223, (kc + q39.2.2.2), (ks + 6 * q39.2.2.2), pd_H q39.2.2.1 q39.2.1))) rfl ?_
                  obtain ⟨q41, hq41, h⟩ := pd_bind h
                  refine ev_callv pp_law rfl rfl rfl rfl (s_Mo_lanes hq41) ?_
                  refine ev_gos pp_law 3 (S' := (23, [some (.ref 1000000), some (.ref 0), some (.ref 198), some (.ref 222), some (.int (i + (4 : Int32))), some (.int q39.1), y6], [], (223, (kc + q39.2.2.2), (ks + 6 * q39.2.2.2), pd_H q39.2.2.1 q41))) rfl ?_
                  cases h
                  exact K _ _
                · rw [hb37]
                  rcases pd_cases h with ⟨hb42, h⟩ | ⟨hb42, h⟩
                  · rw [hb42]
                    refine ev_gos pp_law 1 (S' := (340, [some (.ref 1000000), some (.ref 0), some (.ref 198), some (.ref 222), some (.int i), y5, y6], [.ref 0], (223, kc, ks, pd_H g v))) rfl ?_
                    obtain ⟨q43, hq43, h⟩ := pd_bind h
                    refine ev_call pp_law rfl rfl rfl (s_La_start hq43) ?_
                    refine ev_gos pp_law 2 (S' := (346, [some (.ref 1000000), some (.ref 0), some (.ref 198), some (.ref 222), some (.int i), some (.int q43.1), y6], [.ref 198], (223, (kc + q43.2.2.2), (ks + 6 * q43.2.2.2), pd_H q43.2.2.1 q43.2.1))) rfl ?_
                    obtain ⟨q44, hq44, h⟩ := pd_bind h
                    refine ev_callv pp_law rfl rfl rfl rfl (s_Mo_start hq44) ?_
                    refine ev_gos pp_law 3 (S' := (23, [some (.ref 1000000), some (.ref 0), some (.ref 198), some (.ref 222), some (.int (i + (4 : Int32))), some (.int q43.1), y6], [], (223, (kc + q43.2.2.2), (ks + 6 * q43.2.2.2), pd_H q43.2.2.1 q44))) rfl ?_
                    cases h
                    exact K _ _
                  · rw [hb42]
                    rcases pd_cases h with ⟨hb45, h⟩ | ⟨hb45, h⟩
                    · rw [hb45]
                      refine ev_gos pp_law 5 (S' := (358, [some (.ref 1000000), some (.ref 0), some (.ref 198), some (.ref 222), some (.int i), y5, y6], [.int (i + (1 : Int32)), .ref 1000000, .ref 0], (223, kc, ks, pd_H g v))) rfl ?_
                      obtain ⟨hc46, h⟩ := pd_chk h
                      refine ev_sald pp_law rfl hc46 ?_
                      refine ev_gos pp_law 1 (S' := (360, [some (.ref 1000000), some (.ref 0), some (.ref 198), some (.ref 222), some (.int i), y5, y6], [.ref 222, .int (xs (i + (1 : Int32)).toNatClampNeg), .ref 0], (223, kc, ks, pd_H g v))) rfl ?_
                      obtain ⟨q47, hq47, h⟩ := pd_bind h
                      refine ev_call pp_law rfl rfl rfl (s_La_run hq47) ?_
                      refine ev_gos pp_law 6 (S' := (371, [some (.ref 1000000), some (.ref 0), some (.ref 198), some (.ref 222), some (.int i), some (.int q47.1), y6], [.int (i + (1 : Int32)), .ref 1000000, .ref 198], (223, (kc + q47.2.2.2), (ks + 6 * q47.2.2.2), pd_H q47.2.2.1 q47.2.1))) rfl ?_
                      obtain ⟨hc48, h⟩ := pd_chk h
                      refine ev_sald pp_law rfl hc48 ?_
                      refine ev_gos pp_law 0 (S' := (372, [some (.ref 1000000), some (.ref 0), some (.ref 198), some (.ref 222), some (.int i), some (.int q47.1), y6], [.int (xs (i + (1 : Int32)).toNatClampNeg), .ref 198], (223, (kc + q47.2.2.2), (ks + 6 * q47.2.2.2), pd_H q47.2.2.1 q47.2.1))) rfl ?_
                      obtain ⟨q49, hq49, h⟩ := pd_bind h
                      refine ev_callv pp_law rfl rfl rfl rfl (s_Mo_run hq49) ?_
                      refine ev_gos pp_law 4 (S' := (23, [some (.ref 1000000), some (.ref 0), some (.ref 198), some (.ref 222), some (.int (i + (4 : Int32))), some (.int q47.1), some (.int q49.1)], [], (223, (kc + q47.2.2.2), (ks + 6 * q47.2.2.2), pd_H q47.2.2.1 q49.2))) rfl ?_
                      cases h
                      exact K _ _
                    · rw [hb45]
                      rcases pd_cases h with ⟨hb50, h⟩ | ⟨hb50, h⟩
                      · rw [hb50]
                        refine ev_gos pp_law 1 (S' := (381, [some (.ref 1000000), some (.ref 0), some (.ref 198), some (.ref 222), some (.int i), y5, y6], [.ref 0], (223, kc, ks, pd_H g v))) rfl ?_
                        refine ev_callv pp_law rfl rfl rfl rfl (s_De_mask) ?_
                        refine ev_gos pp_law 2 (S' := (386, [some (.ref 1000000), some (.ref 0), some (.ref 198), some (.ref 222), some (.int i), y5, y6], [.ref 198], (223, kc, ks, pd_H g v))) rfl ?_
                        obtain ⟨q52, hq52, h⟩ := pd_bind h
                        refine ev_callv pp_law rfl rfl rfl rfl (s_Mo_mask hq52) ?_
                        refine ev_gos pp_law 4 (S' := (23, [some (.ref 1000000), some (.ref 0), some (.ref 198), some (.ref 222), some (.int (i + (4 : Int32))), y5, y6], [], (223, kc, ks, pd_H g q52.2))) rfl ?_
                        cases h
                        exact K _ _
                      · rw [hb50]
                        rcases pd_cases h with ⟨hb53, h⟩ | ⟨hb53, h⟩
                        · rw [hb53]
                          refine ev_gos pp_law 5 (S' := (399, [some (.ref 1000000), some (.ref 0), some (.ref 198), some (.ref 222), some (.int i), y5, y6], [.int (i + (1 : Int32)), .ref 1000000, .ref 0], (223, kc, ks, pd_H g v))) rfl ?_
                          obtain ⟨hc54, h⟩ := pd_chk h
                          refine ev_sald pp_law rfl hc54 ?_
                          refine ev_gos pp_law 1 (S' := (401, [some (.ref 1000000), some (.ref 0), some (.ref 198), some (.ref 222), some (.int i), y5, y6], [.ref 222, .int (xs (i + (1 : Int32)).toNatClampNeg), .ref 0], (223, kc, ks, pd_H g v))) rfl ?_
                          obtain ⟨q55, hq55, h⟩ := pd_bind h
                          refine ev_call pp_law rfl rfl rfl (s_La_spent hq55) ?_
                          refine ev_gos pp_law 6 (S' := (412, [some (.ref 1000000), some (.ref 0), some (.ref 198), some (.ref 222), some (.int i), some (.int q55.1), y6], [.int (i + (1 : Int32)), .ref 1000000, .ref 198], (223, (kc + q55.2.2.2), (ks + 6 * q55.2.2.2), pd_H q55.2.2.1 q55.2.1))) rfl ?_
                          obtain ⟨hc56, h⟩ := pd_chk h
                          refine ev_sald pp_law rfl hc56 ?_
                          refine ev_gos pp_law 0 (S' := (413, [some (.ref 1000000), some (.ref 0), some (.ref 198), some (.ref 222), some (.int i), some (.int q55.1), y6], [.int (xs (i + (1 : Int32)).toNatClampNeg), .ref 198], (223, (kc + q55.2.2.2), (ks + 6 * q55.2.2.2), pd_H q55.2.2.1 q55.2.1))) rfl ?_
                          obtain ⟨q57, hq57, h⟩ := pd_bind h
                          refine ev_callv pp_law rfl rfl rfl rfl (s_Mo_spent hq57) ?_
                          refine ev_gos pp_law 4 (S' := (23, [some (.ref 1000000), some (.ref 0), some (.ref 198), some (.ref 222), some (.int (i + (4 : Int32))), some (.int q55.1), some (.int q57.1)], [], (223, (kc + q55.2.2.2), (ks + 6 * q55.2.2.2), pd_H q55.2.2.1 q57.2))) rfl ?_
                          cases h
                          exact K _ _
                        · rw [hb53]
                          rcases pd_cases h with ⟨hb58, h⟩ | ⟨hb58, h⟩
                          · rw [hb58]
                            refine ev_gos pp_law 5 (S' := (427, [some (.ref 1000000), some (.ref 0), some (.ref 198), some (.ref 222), some (.int i), y5, y6], [.int (i + (1 : Int32)), .ref 1000000, .ref 0], (223, kc, ks, pd_H g v))) rfl ?_
                            obtain ⟨hc59, h⟩ := pd_chk h
                            refine ev_sald pp_law rfl hc59 ?_
                            refine ev_gos pp_law 1 (S' := (429, [some (.ref 1000000), some (.ref 0), some (.ref 198), some (.ref 222), some (.int i), y5, y6], [.ref 222, .int (xs (i + (1 : Int32)).toNatClampNeg), .ref 0], (223, kc, ks, pd_H g v))) rfl ?_
                            obtain ⟨q60, hq60, h⟩ := pd_bind h
                            refine ev_call pp_law rfl rfl rfl (s_La_alone hq60) ?_
                            refine ev_gos pp_law 6 (S' := (440, [some (.ref 1000000), some (.ref 0), some (.ref 198), some (.ref 222), some (.int i), some (.int q60.1), y6], [.int (i + (1 : Int32)), .ref 1000000, .ref 198], (223, (kc + q60.2.2.2), (ks + 6 * q60.2.2.2), pd_H q60.2.2.1 q60.2.1))) rfl ?_
                            obtain ⟨hc61, h⟩ := pd_chk h
                            refine ev_sald pp_law rfl hc61 ?_
                            refine ev_gos pp_law 0 (S' := (441, [some (.ref 1000000), some (.ref 0), some (.ref 198), some (.ref 222), some (.int i), some (.int q60.1), y6], [.int (xs (i + (1 : Int32)).toNatClampNeg), .ref 198], (223, (kc + q60.2.2.2), (ks + 6 * q60.2.2.2), pd_H q60.2.2.1 q60.2.1))) rfl ?_
                            obtain ⟨q62, hq62, h⟩ := pd_bind h
                            refine ev_callv pp_law rfl rfl rfl rfl (s_Mo_alone hq62) ?_
                            refine ev_gos pp_law 4 (S' := (23, [some (.ref 1000000), some (.ref 0), some (.ref 198), some (.ref 222), some (.int (i + (4 : Int32))), some (.int q60.1), some (.int q62.1)], [], (223, (kc + q60.2.2.2), (ks + 6 * q60.2.2.2), pd_H q60.2.2.1 q62.2))) rfl ?_
                            cases h
                            exact K _ _
                          · rw [hb58]
                            rcases pd_cases h with ⟨hb63, h⟩ | ⟨hb63, h⟩
                            · rw [hb63]
                              refine ev_gos pp_law 5 (S' := (455, [some (.ref 1000000), some (.ref 0), some (.ref 198), some (.ref 222), some (.int i), y5, y6], [.int (i + (1 : Int32)), .ref 1000000, .ref 0], (223, kc, ks, pd_H g v))) rfl ?_
                              obtain ⟨hc64, h⟩ := pd_chk h
                              refine ev_sald pp_law rfl hc64 ?_
                              refine ev_gos pp_law 0 (S' := (456, [some (.ref 1000000), some (.ref 0), some (.ref 198), some (.ref 222), some (.int i), y5, y6], [.int (xs (i + (1 : Int32)).toNatClampNeg), .ref 0], (223, kc, ks, pd_H g v))) rfl ?_
                              refine ev_gos pp_law 1 (S' := (bif decide ((xs (i + (1 : Int32)).toNatClampNeg) = 0) then 463 else 459, [some (.ref 1000000), some (.ref 0), some (.ref 198), some (.ref 222), some (.int i), y5, y6], [.ref 0], (223, kc, ks, pd_H g v))) rfl ?_
                              rcases pd_cases h with ⟨hb65, h⟩ | ⟨hb65, h⟩
                              · rw [hb65]
                                refine ev_gos pp_law 5 (S' := (469, [some (.ref 1000000), some (.ref 0), some (.ref 198), some (.ref 222), some (.int i), y5, y6], [.int (i + (2 : Int32)), .ref 1000000, .int (0 : Int32), .ref 0], (223, kc, ks, pd_H g v))) rfl ?_
                                obtain ⟨hc66, h⟩ := pd_chk h
                                refine ev_sald pp_law rfl hc66 ?_
                                refine ev_gos pp_law 4 (S' := (475, [some (.ref 1000000), some (.ref 0), some (.ref 198), some (.ref 222), some (.int i), y5, y6], [.int (i + (3 : Int32)), .ref 1000000, .int (xs (i + (2 : Int32)).toNatClampNeg), .int (0 : Int32), .ref 0], (223, kc, ks, pd_H g v))) rfl ?_
                                obtain ⟨hc67, h⟩ := pd_chk h
                                refine ev_sald pp_law rfl hc67 ?_
                                refine ev_gos pp_law 1 (S' := (477, [some (.ref 1000000), some (.ref 0), some (.ref 198), some (.ref 222), some (.int i), y5, y6], [.ref 222, .int (xs (i + (3 : Int32)).toNatClampNeg), .int (xs (i + (2 : Int32)).toNatClampNeg), .int (0 : Int32), .ref 0], (223, kc, ks, pd_H g v))) rfl ?_
                                obtain ⟨q68, hq68, h⟩ := pd_bind h
                                refine ev_call pp_law rfl rfl rfl (s_La_lane hq68) ?_
                                refine ev_gos pp_law 6 (S' := (488, [some (.ref 1000000), some (.ref 0), some (.ref 198), some (.ref 222), some (.int i), some (.int q68.1), y6], [.int (i + (1 : Int32)), .ref 1000000, .ref 198], (223, (kc + q68.2.2.2), (ks + 6 * q68.2.2.2), pd_H q68.2.2.1 q68.2.1))) rfl ?_
                                obtain ⟨hc69, h⟩ := pd_chk h
                                refine ev_sald pp_law rfl hc69 ?_
                                refine ev_gos pp_law 0 (S' := (489, [some (.ref 1000000), some (.ref 0), some (.ref 198), some (.ref 222), some (.int i), some (.int q68.1), y6], [.int (xs (i + (1 : Int32)).toNatClampNeg), .ref 198], (223, (kc + q68.2.2.2), (ks + 6 * q68.2.2.2), pd_H q68.2.2.1 q68.2.1))) rfl ?_
                                refine ev_gos pp_law 1 (S' := (bif decide ((xs (i + (1 : Int32)).toNatClampNeg) = 0) then 496 else 492, [some (.ref 1000000), some (.ref 0), some (.ref 198), some (.ref 222), some (.int i), some (.int q68.1), y6], [.ref 198], (223, (kc + q68.2.2.2), (ks + 6 * q68.2.2.2), pd_H q68.2.2.1 q68.2.1))) rfl ?_
                                rcases pd_cases h with ⟨hb70, h⟩ | ⟨hb70, h⟩
                                · rw [hb70]
                                  refine ev_gos pp_law 5 (S' := (502, [some (.ref 1000000), some (.ref 0), some (.ref 198), some (.ref 222), some (.int i), some (.int q68.1), y6], [.int (i + (2 : Int32)), .ref 1000000, .int (0 : Int32), .ref 198], (223, (kc + q68.2.2.2), (ks + 6 * q68.2.2.2), pd_H q68.2.2.1 q68.2.1))) rfl ?_
                                  obtain ⟨hc71, h⟩ := pd_chk h
                                  refine ev_sald pp_law rfl hc71 ?_
                                  refine ev_gos pp_law 4 (S' := (508, [some (.ref 1000000), some (.ref 0), some (.ref 198), some (.ref 222), some (.int i), some (.int q68.1), y6], [.int (i + (3 : Int32)), .ref 1000000, .int (xs (i + (2 : Int32)).toNatClampNeg), .int (0 : Int32), .ref 198], (223, (kc + q68.2.2.2), (ks + 6 * q68.2.2.2), pd_H q68.2.2.1 q68.2.1))) rfl ?_
                                  obtain ⟨hc72, h⟩ := pd_chk h
                                  refine ev_sald pp_law rfl hc72 ?_
                                  refine ev_gos pp_law 0 (S' := (509, [some (.ref 1000000), some (.ref 0), some (.ref 198), some (.ref 222), some (.int i), some (.int q68.1), y6], [.int (xs (i + (3 : Int32)).toNatClampNeg), .int (xs (i + (2 : Int32)).toNatClampNeg), .int (0 : Int32), .ref 198], (223, (kc + q68.2.2.2), (ks + 6 * q68.2.2.2), pd_H q68.2.2.1 q68.2.1))) rfl ?_
                                  obtain ⟨q73, hq73, h⟩ := pd_bind h
                                  refine ev_callv pp_law rfl rfl rfl rfl (s_Mo_lane hq73) ?_
                                  refine ev_gos pp_law 4 (S' := (23, [some (.ref 1000000), some (.ref 0), some (.ref 198), some (.ref 222), some (.int (i + (4 : Int32))), some (.int q68.1), some (.int q73.1)], [], (223, (kc + q68.2.2.2), (ks + 6 * q68.2.2.2), pd_H q68.2.2.1 q73.2))) rfl ?_
                                  cases h
                                  exact K _ _
                                · rw [hb70]
                                  refine ev_gos pp_law 6 (S' := (502, [some (.ref 1000000), some (.ref 0), some (.ref 198), some (.ref 222), some (.int i), some (.int q68.1), y6], [.int (i + (2 : Int32)), .ref 1000000, .int (1 : Int32), .ref 198], (223, (kc + q68.2.2.2), (ks + 6 * q68.2.2.2), pd_H q68.2.2.1 q68.2.1))) rfl ?_
                                  obtain ⟨hc74, h⟩ := pd_chk h
                                  refine ev_sald pp_law rfl hc74 ?_
                                  refine ev_gos pp_law 4 (S' := (508, [some (.ref 1000000), some (.ref 0), some (.ref 198), some (.ref 222), some (.int i), some (.int q68.1), y6], [.int (i + (3 : Int32)), .ref 1000000, .int (xs (i + (2 : Int32)).toNatClampNeg), .int (1 : Int32), .ref 198], (223, (kc + q68.2.2.2), (ks + 6 * q68.2.2.2), pd_H q68.2.2.1 q68.2.1))) rfl ?_
                                  obtain ⟨hc75, h⟩ := pd_chk h
                                  refine ev_sald pp_law rfl hc75 ?_
                                  refine ev_gos pp_law 0 (S' := (509, [some (.ref 1000000), some (.ref 0), some (.ref 198), some (.ref 222), some (.int i), some (.int q68.1), y6], [.int (xs (i + (3 : Int32)).toNatClampNeg), .int (xs (i + (2 : Int32)).toNatClampNeg), .int (1 : Int32), .ref 198], (223, (kc + q68.2.2.2), (ks + 6 * q68.2.2.2), pd_H q68.2.2.1 q68.2.1))) rfl ?_
                                  obtain ⟨q76, hq76, h⟩ := pd_bind h
                                  refine ev_callv pp_law rfl rfl rfl rfl (s_Mo_lane hq76) ?_
                                  refine ev_gos pp_law 4 (S' := (23, [some (.ref 1000000), some (.ref 0), some (.ref 198), some (.ref 222), some (.int (i + (4 : Int32))), some (.int q68.1), some (.int q76.1)], [], (223, (kc + q68.2.2.2), (ks + 6 * q68.2.2.2), pd_H q68.2.2.1 q76.2))) rfl ?_
                                  cases h
                                  exact K _ _
                              · rw [hb65]
                                refine ev_gos pp_law 6 (S' := (469, [some (.ref 1000000), some (.ref 0), some (.ref 198), some (.ref 222), some (.int i), y5, y6], [.int (i + (2 : Int32)), .ref 1000000, .int (1 : Int32), .ref 0], (223, kc, ks, pd_H g v))) rfl ?_
                                obtain ⟨hc77, h⟩ := pd_chk h
                                refine ev_sald pp_law rfl hc77 ?_
                                refine ev_gos pp_law 4 (S' := (475, [some (.ref 1000000), some (.ref 0), some (.ref 198), some (.ref 222), some (.int i), y5, y6], [.int (i + (3 : Int32)), .ref 1000000, .int (xs (i + (2 : Int32)).toNatClampNeg), .int (1 : Int32), .ref 0], (223, kc, ks, pd_H g v))) rfl ?_
                                obtain ⟨hc78, h⟩ := pd_chk h
                                refine ev_sald pp_law rfl hc78 ?_
                                refine ev_gos pp_law 1 (S' := (477, [some (.ref 1000000), some (.ref 0), some (.ref 198), some (.ref 222), some (.int i), y5, y6], [.ref 222, .int (xs (i + (3 : Int32)).toNatClampNeg), .int (xs (i + (2 : Int32)).toNatClampNeg), .int (1 : Int32), .ref 0], (223, kc, ks, pd_H g v))) rfl ?_
                                obtain ⟨q79, hq79, h⟩ := pd_bind h
                                refine ev_call pp_law rfl rfl rfl (s_La_lane hq79) ?_
                                refine ev_gos pp_law 6 (S' := (488, [some (.ref 1000000), some (.ref 0), some (.ref 198), some (.ref 222), some (.int i), some (.int q79.1), y6], [.int (i + (1 : Int32)), .ref 1000000, .ref 198], (223, (kc + q79.2.2.2), (ks + 6 * q79.2.2.2), pd_H q79.2.2.1 q79.2.1))) rfl ?_
                                obtain ⟨hc80, h⟩ := pd_chk h
                                refine ev_sald pp_law rfl hc80 ?_
                                refine ev_gos pp_law 0 (S' := (489, [some (.ref 1000000), some (.ref 0), some (.ref 198), some (.ref 222), some (.int i), some (.int q79.1), y6], [.int (xs (i + (1 : Int32)).toNatClampNeg), .ref 198], (223, (kc + q79.2.2.2), (ks + 6 * q79.2.2.2), pd_H q79.2.2.1 q79.2.1))) rfl ?_
                                refine ev_gos pp_law 1 (S' := (bif decide ((xs (i + (1 : Int32)).toNatClampNeg) = 0) then 496 else 492, [some (.ref 1000000), some (.ref 0), some (.ref 198), some (.ref 222), some (.int i), some (.int q79.1), y6], [.ref 198], (223, (kc + q79.2.2.2), (ks + 6 * q79.2.2.2), pd_H q79.2.2.1 q79.2.1))) rfl ?_
                                rcases pd_cases h with ⟨hb81, h⟩ | ⟨hb81, h⟩
                                · rw [hb81]
                                  refine ev_gos pp_law 5 (S' := (502, [some (.ref 1000000), some (.ref 0), some (.ref 198), some (.ref 222), some (.int i), some (.int q79.1), y6], [.int (i + (2 : Int32)), .ref 1000000, .int (0 : Int32), .ref 198], (223, (kc + q79.2.2.2), (ks + 6 * q79.2.2.2), pd_H q79.2.2.1 q79.2.1))) rfl ?_
                                  obtain ⟨hc82, h⟩ := pd_chk h
                                  refine ev_sald pp_law rfl hc82 ?_
                                  refine ev_gos pp_law 4 (S' := (508, [some (.ref 1000000), some (.ref 0), some (.ref 198), some (.ref 222), some (.int i), some (.int q79.1), y6], [.int (i + (3 : Int32)), .ref 1000000, .int (xs (i + (2 : Int32)).toNatClampNeg), .int (0 : Int32), .ref 198], (223, (kc + q79.2.2.2), (ks + 6 * q79.2.2.2), pd_H q79.2.2.1 q79.2.1))) rfl ?_
                                  obtain ⟨hc83, h⟩ := pd_chk h
                                  refine ev_sald pp_law rfl hc83 ?_
                                  refine ev_gos pp_law 0 (S' := (509, [some (.ref 1000000), some (.ref 0), some (.ref 198), some (.ref 222), some (.int i), some (.int q79.1), y6], [.int (xs (i + (3 : Int32)).toNatClampNeg), .int (xs (i + (2 : Int32)).toNatClampNeg), .int (0 : Int32), .ref 198], (223, (kc + q79.2.2.2), (ks + 6 * q79.2.2.2), pd_H q79.2.2.1 q79.2.1))) rfl ?_
                                  obtain ⟨q84, hq84, h⟩ := pd_bind h
                                  refine ev_callv pp_law rfl rfl rfl rfl (s_Mo_lane hq84) ?_
                                  refine ev_gos pp_law 4 (S' := (23, [some (.ref 1000000), some (.ref 0), some (.ref 198), some (.ref 222), some (.int (i + (4 : Int32))), some (.int q79.1), some (.int q84.1)], [], (223, (kc + q79.2.2.2), (ks + 6 * q79.2.2.2), pd_H q79.2.2.1 q84.2))) rfl ?_
                                  cases h
                                  exact K _ _
                                · rw [hb81]
                                  refine ev_gos pp_law 6 (S' := (502, [some (.ref 1000000), some (.ref 0), some (.ref 198), some (.ref 222), some (.int i), some (.int q79.1), y6], [.int (i + (2 : Int32)), .ref 1000000, .int (1 : Int32), .ref 198], (223, (kc + q79.2.2.2), (ks + 6 * q79.2.2.2), pd_H q79.2.2.1 q79.2.1))) rfl ?_
                                  obtain ⟨hc85, h⟩ := pd_chk h
                                  refine ev_sald pp_law rfl hc85 ?_
                                  refine ev_gos pp_law 4 (S' := (508, [some (.ref 1000000), some (.ref 0), some (.ref 198), some (.ref 222), some (.int i), some (.int q79.1), y6], [.int (i + (3 : Int32)), .ref 1000000, .int (xs (i + (2 : Int32)).toNatClampNeg), .int (1 : Int32), .ref 198], (223, (kc + q79.2.2.2), (ks + 6 * q79.2.2.2), pd_H q79.2.2.1 q79.2.1))) rfl ?_
                                  obtain ⟨hc86, h⟩ := pd_chk h
                                  refine ev_sald pp_law rfl hc86 ?_
                                  refine ev_gos pp_law 0 (S' := (509, [some (.ref 1000000), some (.ref 0), some (.ref 198), some (.ref 222), some (.int i), some (.int q79.1), y6], [.int (xs (i + (3 : Int32)).toNatClampNeg), .int (xs (i + (2 : Int32)).toNatClampNeg), .int (1 : Int32), .ref 198], (223, (kc + q79.2.2.2), (ks + 6 * q79.2.2.2), pd_H q79.2.2.1 q79.2.1))) rfl ?_
                                  obtain ⟨q87, hq87, h⟩ := pd_bind h
                                  refine ev_callv pp_law rfl rfl rfl rfl (s_Mo_lane hq87) ?_
                                  refine ev_gos pp_law 4 (S' := (23, [some (.ref 1000000), some (.ref 0), some (.ref 198), some (.ref 222), some (.int (i + (4 : Int32))), some (.int q79.1), some (.int q87.1)], [], (223, (kc + q79.2.2.2), (ks + 6 * q79.2.2.2), pd_H q79.2.2.1 q87.2))) rfl ?_
                                  cases h
                                  exact K _ _
                            · rw [hb63]
                              rcases pd_cases h with ⟨hb88, h⟩ | ⟨hb88, h⟩
                              · rw [hb88]
                                refine ev_gos pp_law 5 (S' := (523, [some (.ref 1000000), some (.ref 0), some (.ref 198), some (.ref 222), some (.int i), y5, y6], [.int (i + (1 : Int32)), .ref 1000000, .ref 0], (223, kc, ks, pd_H g v))) rfl ?_
                                obtain ⟨hc89, h⟩ := pd_chk h
                                refine ev_sald pp_law rfl hc89 ?_
                                refine ev_gos pp_law 0 (S' := (524, [some (.ref 1000000), some (.ref 0), some (.ref 198), some (.ref 222), some (.int i), y5, y6], [.int (xs (i + (1 : Int32)).toNatClampNeg), .ref 0], (223, kc, ks, pd_H g v))) rfl ?_
                                refine ev_gos pp_law 1 (S' := (bif decide ((xs (i + (1 : Int32)).toNatClampNeg) = 0) then 531 else 527, [some (.ref 1000000), some (.ref 0), some (.ref 198), some (.ref 222), some (.int i), y5, y6], [.ref 0], (223, kc, ks, pd_H g v))) rfl ?_
                                rcases pd_cases h with ⟨hb90, h⟩ | ⟨hb90, h⟩
                                · rw [hb90]
                                  refine ev_gos pp_law 5 (S' := (537, [some (.ref 1000000), some (.ref 0), some (.ref 198), some (.ref 222), some (.int i), y5, y6], [.int (i + (2 : Int32)), .ref 1000000, .int (0 : Int32), .ref 0], (223, kc, ks, pd_H g v))) rfl ?_
                                  obtain ⟨hc91, h⟩ := pd_chk h
                                  refine ev_sald pp_law rfl hc91 ?_
                                  refine ev_gos pp_law 4 (S' := (543, [some (.ref 1000000), some (.ref 0), some (.ref 198), some (.ref 222), some (.int i), y5, y6], [.int (i + (3 : Int32)), .ref 1000000, .int (xs (i + (2 : Int32)).toNatClampNeg), .int (0 : Int32), .ref 0], (223, kc, ks, pd_H g v))) rfl ?_
                                  obtain ⟨hc92, h⟩ := pd_chk h
                                  refine ev_sald pp_law rfl hc92 ?_
                                  refine ev_gos pp_law 1 (S' := (545, [some (.ref 1000000), some (.ref 0), some (.ref 198), some (.ref 222), some (.int i), y5, y6], [.ref 222, .int (xs (i + (3 : Int32)).toNatClampNeg), .int (xs (i + (2 : Int32)).toNatClampNeg), .int (0 : Int32), .ref 0], (223, kc, ks, pd_H g v))) rfl ?_
                                  obtain ⟨q93, hq93, h⟩ := pd_bind h
                                  refine ev_call pp_law rfl rfl rfl (s_La_out hq93) ?_
                                  refine ev_gos pp_law 6 (S' := (556, [some (.ref 1000000), some (.ref 0), some (.ref 198), some (.ref 222), some (.int i), some (.int q93.1), y6], [.int (i + (1 : Int32)), .ref 1000000, .ref 198], (223, (kc + q93.2.2.2), (ks + 6 * q93.2.2.2), pd_H q93.2.2.1 q93.2.1))) rfl ?_
                                  obtain ⟨hc94, h⟩ := pd_chk h
                                  refine ev_sald pp_law rfl hc94 ?_
                                  refine ev_gos pp_law 0 (S' := (557, [some (.ref 1000000), some (.ref 0), some (.ref 198), some (.ref 222), some (.int i), some (.int q93.1), y6], [.int (xs (i + (1 : Int32)).toNatClampNeg), .ref 198], (223, (kc + q93.2.2.2), (ks + 6 * q93.2.2.2), pd_H q93.2.2.1 q93.2.1))) rfl ?_
                                  refine ev_gos pp_law 1 (S' := (bif decide ((xs (i + (1 : Int32)).toNatClampNeg) = 0) then 564 else 560, [some (.ref 1000000), some (.ref 0), some (.ref 198), some (.ref 222), some (.int i), some (.int q93.1), y6], [.ref 198], (223, (kc + q93.2.2.2), (ks + 6 * q93.2.2.2), pd_H q93.2.2.1 q93.2.1))) rfl ?_
                                  rcases pd_cases h with ⟨hb95, h⟩ | ⟨hb95, h⟩
                                  · rw [hb95]
                                    refine ev_gos pp_law 5 (S' := (570, [some (.ref 1000000), some (.ref 0), some (.ref 198), some (.ref 222), some (.int i), some (.int q93.1), y6], [.int (i + (2 : Int32)), .ref 1000000, .int (0 : Int32), .ref 198], (223, (kc + q93.2.2.2), (ks + 6 * q93.2.2.2), pd_H q93.2.2.1 q93.2.1))) rfl ?_
                                    obtain ⟨hc96, h⟩ := pd_chk h
                                    refine ev_sald pp_law rfl hc96 ?_
                                    refine ev_gos pp_law 4 (S' := (576, [some (.ref 1000000), some (.ref 0), some (.ref 198), some (.ref 222), some (.int i), some (.int q93.1), y6], [.int (i + (3 : Int32)), .ref 1000000, .int (xs (i + (2 : Int32)).toNatClampNeg), .int (0 : Int32), .ref 198], (223, (kc + q93.2.2.2), (ks + 6 * q93.2.2.2), pd_H q93.2.2.1 q93.2.1))) rfl ?_
                                    obtain ⟨hc97, h⟩ := pd_chk h
                                    refine ev_sald pp_law rfl hc97 ?_
                                    refine ev_gos pp_law 0 (S' := (577, [some (.ref 1000000), some (.ref 0), some (.ref 198), some (.ref 222), some (.int i), some (.int q93.1), y6], [.int (xs (i + (3 : Int32)).toNatClampNeg), .int (xs (i + (2 : Int32)).toNatClampNeg), .int (0 : Int32), .ref 198], (223, (kc + q93.2.2.2), (ks + 6 * q93.2.2.2), pd_H q93.2.2.1 q93.2.1))) rfl ?_
                                    obtain ⟨q98, hq98, h⟩ := pd_bind h
                                    refine ev_callv pp_law rfl rfl rfl rfl (s_Mo_out hq98) ?_
                                    refine ev_gos pp_law 4 (S' := (23, [some (.ref 1000000), some (.ref 0), some (.ref 198), some (.ref 222), some (.int (i + (4 : Int32))), some (.int q93.1), some (.int q98.1)], [], (223, (kc + q93.2.2.2), (ks + 6 * q93.2.2.2), pd_H q93.2.2.1 q98.2))) rfl ?_
                                    cases h
                                    exact K _ _
                                  · rw [hb95]
                                    refine ev_gos pp_law 6 (S' := (570, [some (.ref 1000000), some (.ref 0), some (.ref 198), some (.ref 222), some (.int i), some (.int q93.1), y6], [.int (i + (2 : Int32)), .ref 1000000, .int (1 : Int32), .ref 198], (223, (kc + q93.2.2.2), (ks + 6 * q93.2.2.2), pd_H q93.2.2.1 q93.2.1))) rfl ?_
                                    obtain ⟨hc99, h⟩ := pd_chk h
                                    refine ev_sald pp_law rfl hc99 ?_
                                    refine ev_gos pp_law 4 (S' := (576, [some (.ref 1000000), some (.ref 0), some (.ref 198), some (.ref 222), some (.int i), some (.int q93.1), y6], [.int (i + (3 : Int32)), .ref 1000000, .int (xs (i + (2 : Int32)).toNatClampNeg), .int (1 : Int32), .ref 198], (223, (kc + q93.2.2.2), (ks + 6 * q93.2.2.2), pd_H q93.2.2.1 q93.2.1))) rfl ?_
                                    obtain ⟨hc100, h⟩ := pd_chk h
                                    refine ev_sald pp_law rfl hc100 ?_
                                    refine ev_gos pp_law 0 (S' := (577, [some (.ref 1000000), some (.ref 0), some (.ref 198), some (.ref 222), some (.int i), some (.int q93.1), y6], [.int (xs (i + (3 : Int32)).toNatClampNeg), .int (xs (i + (2 : Int32)).toNatClampNeg), .int (1 : Int32), .ref 198], (223, (kc + q93.2.2.2), (ks + 6 * q93.2.2.2), pd_H q93.2.2.1 q93.2.1))) rfl ?_
                                    obtain ⟨q101, hq101, h⟩ := pd_bind h
                                    refine ev_callv pp_law rfl rfl rfl rfl (s_Mo_out hq101) ?_
                                    refine ev_gos pp_law 4 (S' := (23, [some (.ref 1000000), some (.ref 0), some (.ref 198), some (.ref 222), some (.int (i + (4 : Int32))), some (.int q93.1), some (.int q101.1)], [], (223, (kc + q93.2.2.2), (ks + 6 * q93.2.2.2), pd_H q93.2.2.1 q101.2))) rfl ?_
                                    cases h
                                    exact K _ _
                                · rw [hb90]
                                  refine ev_gos pp_law 6 (S' := (537, [some (.ref 1000000), some (.ref 0), some (.ref 198), some (.ref 222), some (.int i), y5, y6], [.int (i + (2 : Int32)), .ref 1000000, .int (1 : Int32), .ref 0], (223, kc, ks, pd_H g v))) rfl ?_
                                  obtain ⟨hc102, h⟩ := pd_chk h
                                  refine ev_sald pp_law rfl hc102 ?_
                                  refine ev_gos pp_law 4 (S' := (543, [some (.ref 1000000), some (.ref 0), some (.ref 198), some (.ref 222), some (.int i), y5, y6], [.int (i + (3 : Int32)), .ref 1000000, .int (xs (i + (2 : Int32)).toNatClampNeg), .int (1 : Int32), .ref 0], (223, kc, ks, pd_H g v))) rfl ?_
                                  obtain ⟨hc103, h⟩ := pd_chk h
                                  refine ev_sald pp_law rfl hc103 ?_
                                  refine ev_gos pp_law 1 (S' := (545, [some (.ref 1000000), some (.ref 0), some (.ref 198), some (.ref 222), some (.int i), y5, y6], [.ref 222, .int (xs (i + (3 : Int32)).toNatClampNeg), .int (xs (i + (2 : Int32)).toNatClampNeg), .int (1 : Int32), .ref 0], (223, kc, ks, pd_H g v))) rfl ?_
                                  obtain ⟨q104, hq104, h⟩ := pd_bind h
                                  refine ev_call pp_law rfl rfl rfl (s_La_out hq104) ?_
                                  refine ev_gos pp_law 6 (S' := (556, [some (.ref 1000000), some (.ref 0), some (.ref 198), some (.ref 222), some (.int i), some (.int q104.1), y6], [.int (i + (1 : Int32)), .ref 1000000, .ref 198], (223, (kc + q104.2.2.2), (ks + 6 * q104.2.2.2), pd_H q104.2.2.1 q104.2.1))) rfl ?_
                                  obtain ⟨hc105, h⟩ := pd_chk h
                                  refine ev_sald pp_law rfl hc105 ?_
                                  refine ev_gos pp_law 0 (S' := (557, [some (.ref 1000000), some (.ref 0), some (.ref 198), some (.ref 222), some (.int i), some (.int q104.1), y6], [.int (xs (i + (1 : Int32)).toNatClampNeg), .ref 198], (223, (kc + q104.2.2.2), (ks + 6 * q104.2.2.2), pd_H q104.2.2.1 q104.2.1))) rfl ?_
                                  refine ev_gos pp_law 1 (S' := (bif decide ((xs (i + (1 : Int32)).toNatClampNeg) = 0) then 564 else 560, [some (.ref 1000000), some (.ref 0), some (.ref 198), some (.ref 222), some (.int i), some (.int q104.1), y6], [.ref 198], (223, (kc + q104.2.2.2), (ks + 6 * q104.2.2.2), pd_H q104.2.2.1 q104.2.1))) rfl ?_
                                  rcases pd_cases h with ⟨hb106, h⟩ | ⟨hb106, h⟩
                                  · rw [hb106]
                                    refine ev_gos pp_law 5 (S' := (570, [some (.ref 1000000), some (.ref 0), some (.ref 198), some (.ref 222), some (.int i), some (.int q104.1), y6], [.int (i + (2 : Int32)), .ref 1000000, .int (0 : Int32), .ref 198], (223, (kc + q104.2.2.2), (ks + 6 * q104.2.2.2), pd_H q104.2.2.1 q104.2.1))) rfl ?_
                                    obtain ⟨hc107, h⟩ := pd_chk h
                                    refine ev_sald pp_law rfl hc107 ?_
                                    refine ev_gos pp_law 4 (S' := (576, [some (.ref 1000000), some (.ref 0), some (.ref 198), some (.ref 222), some (.int i), some (.int q104.1), y6], [.int (i + (3 : Int32)), .ref 1000000, .int (xs (i + (2 : Int32)).toNatClampNeg), .int (0 : Int32), .ref 198], (223, (kc + q104.2.2.2), (ks + 6 * q104.2.2.2), pd_H q104.2.2.1 q104.2.1))) rfl ?_
                                    obtain ⟨hc108, h⟩ := pd_chk h
                                    refine ev_sald pp_law rfl hc108 ?_
                                    refine ev_gos pp_law 0 (S' := (577, [some (.ref 1000000), some (.ref 0), some (.ref 198), some (.ref 222), some (.int i), some (.int q104.1), y6], [.int (xs (i + (3 : Int32)).toNatClampNeg), .int (xs (i + (2 : Int32)).toNatClampNeg), .int (0 : Int32), .ref 198], (223, (kc + q104.2.2.2), (ks + 6 * q104.2.2.2), pd_H q104.2.2.1 q104.2.1))) rfl ?_
                                    obtain ⟨q109, hq109, h⟩ := pd_bind h
                                    refine ev_callv pp_law rfl rfl rfl rfl (s_Mo_out hq109) ?_
                                    refine ev_gos pp_law 4 (S' := (23, [some (.ref 1000000), some (.ref 0), some (.ref 198), some (.ref 222), some (.int (i + (4 : Int32))), some (.int q104.1), some (.int q109.1)], [], (223, (kc + q104.2.2.2), (ks + 6 * q104.2.2.2), pd_H q104.2.2.1 q109.2))) rfl ?_
                                    cases h
                                    exact K _ _
                                  · rw [hb106]
                                    refine ev_gos pp_law 6 (S' := (570, [some (.ref 1000000), some (.ref 0), some (.ref 198), some (.ref 222), some (.int i), some (.int q104.1), y6], [.int (i + (2 : Int32)), .ref 1000000, .int (1 : Int32), .ref 198], (223, (kc + q104.2.2.2), (ks + 6 * q104.2.2.2), pd_H q104.2.2.1 q104.2.1))) rfl ?_
                                    obtain ⟨hc110, h⟩ := pd_chk h
                                    refine ev_sald pp_law rfl hc110 ?_
                                    refine ev_gos pp_law 4 (S' := (576, [some (.ref 1000000), some (.ref 0), some (.ref 198), some (.ref 222), some (.int i), some (.int q104.1), y6], [.int (i + (3 : Int32)), .ref 1000000, .int (xs (i + (2 : Int32)).toNatClampNeg), .int (1 : Int32), .ref 198], (223, (kc + q104.2.2.2), (ks + 6 * q104.2.2.2), pd_H q104.2.2.1 q104.2.1))) rfl ?_
                                    obtain ⟨hc111, h⟩ := pd_chk h
                                    refine ev_sald pp_law rfl hc111 ?_
                                    refine ev_gos pp_law 0 (S' := (577, [some (.ref 1000000), some (.ref 0), some (.ref 198), some (.ref 222), some (.int i), some (.int q104.1), y6], [.int (xs (i + (3 : Int32)).toNatClampNeg), .int (xs (i + (2 : Int32)).toNatClampNeg), .int (1 : Int32), .ref 198], (223, (kc + q104.2.2.2), (ks + 6 * q104.2.2.2), pd_H q104.2.2.1 q104.2.1))) rfl ?_
                                    obtain ⟨q112, hq112, h⟩ := pd_bind h
                                    refine ev_callv pp_law rfl rfl rfl rfl (s_Mo_out hq112) ?_
                                    refine ev_gos pp_law 4 (S' := (23, [some (.ref 1000000), some (.ref 0), some (.ref 198), some (.ref 222), some (.int (i + (4 : Int32))), some (.int q104.1), some (.int q112.1)], [], (223, (kc + q104.2.2.2), (ks + 6 * q104.2.2.2), pd_H q104.2.2.1 q112.2))) rfl ?_
                                    cases h
                                    exact K _ _
                              · rw [hb88]
                                rcases pd_cases h with ⟨hb113, h⟩ | ⟨hb113, h⟩
                                · rw [hb113]
                                  refine ev_gos pp_law 5 (S' := (591, [some (.ref 1000000), some (.ref 0), some (.ref 198), some (.ref 222), some (.int i), y5, y6], [.int (i + (1 : Int32)), .ref 1000000, .ref 0], (223, kc, ks, pd_H g v))) rfl ?_
                                  obtain ⟨hc114, h⟩ := pd_chk h
                                  refine ev_sald pp_law rfl hc114 ?_
                                  refine ev_gos pp_law 0 (S' := (592, [some (.ref 1000000), some (.ref 0), some (.ref 198), some (.ref 222), some (.int i), y5, y6], [.int (xs (i + (1 : Int32)).toNatClampNeg), .ref 0], (223, kc, ks, pd_H g v))) rfl ?_
                                  refine ev_gos pp_law 1 (S' := (bif decide ((xs (i + (1 : Int32)).toNatClampNeg) = 0) then 599 else 595, [some (.ref 1000000), some (.ref 0), some (.ref 198), some (.ref 222), some (.int i), y5, y6], [.ref 0], (223, kc, ks, pd_H g v))) rfl ?_
                                  rcases pd_cases h with ⟨hb115, h⟩ | ⟨hb115, h⟩
                                  · rw [hb115]
                                    refine ev_gos pp_law 5 (S' := (605, [some (.ref 1000000), some (.ref 0), some (.ref 198), some (.ref 222), some (.int i), y5, y6], [.int (i + (2 : Int32)), .ref 1000000, .int (0 : Int32), .ref 0], (223, kc, ks, pd_H g v))) rfl ?_
                                    obtain ⟨hc116, h⟩ := pd_chk h
                                    refine ev_sald pp_law rfl hc116 ?_
                                    refine ev_gos pp_law 4 (S' := (611, [some (.ref 1000000), some (.ref 0), some (.ref 198), some (.ref 222), some (.int i), y5, y6], [.int (i + (3 : Int32)), .ref 1000000, .int (xs (i + (2 : Int32)).toNatClampNeg), .int (0 : Int32), .ref 0], (223, kc, ks, pd_H g v))) rfl ?_
                                    obtain ⟨hc117, h⟩ := pd_chk h
                                    refine ev_sald pp_law rfl hc117 ?_
                                    refine ev_gos pp_law 1 (S' := (613, [some (.ref 1000000), some (.ref 0), some (.ref 198), some (.ref 222), some (.int i), y5, y6], [.ref 222, .int (xs (i + (3 : Int32)).toNatClampNeg), .int (xs (i + (2 : Int32)).toNatClampNeg), .int (0 : Int32), .ref 0], (223, kc, ks, pd_H g v))) rfl ?_
                                    obtain ⟨q118, hq118, h⟩ := pd_bind h
                                    refine ev_call pp_law rfl rfl rfl (s_La_cell hq118) ?_
                                    refine ev_gos pp_law 6 (S' := (624, [some (.ref 1000000), some (.ref 0), some (.ref 198), some (.ref 222), some (.int i), some (.int q118.1), y6], [.int (i + (1 : Int32)), .ref 1000000, .ref 198], (223, (kc + q118.2.2.2), (ks + 6 * q118.2.2.2), pd_H q118.2.2.1 q118.2.1))) rfl ?_
                                    obtain ⟨hc119, h⟩ := pd_chk h
                                    refine ev_sald pp_law rfl hc119 ?_
                                    refine ev_gos pp_law 0 (S' := (625, [some (.ref 1000000), some (.ref 0), some (.ref 198), some (.ref 222), some (.int i), some (.int q118.1), y6], [.int (xs (i + (1 : Int32)).toNatClampNeg), .ref 198], (223, (kc + q118.2.2.2), (ks + 6 * q118.2.2.2), pd_H q118.2.2.1 q118.2.1))) rfl ?_
                                    refine ev_gos pp_law 1 (S' := (bif decide ((xs (i + (1 : Int32)).toNatClampNeg) = 0) then 632 else 628, [some (.ref 1000000), some (.ref 0), some (.ref 198), some (.ref 222), some (.int i), some (.int q118.1), y6], [.ref 198], (223, (kc + q118.2.2.2), (ks + 6 * q118.2.2.2), pd_H q118.2.2.1 q118.2.1))) rfl ?_
                                    rcases pd_cases h with ⟨hb120, h⟩ | ⟨hb120, h⟩
                                    · rw [hb120]
                                      refine ev_gos pp_law 5 (S' := (638, [some (.ref 1000000), some (.ref 0), some (.ref 198), some (.ref 222), some (.int i), some (.int q118.1), y6], [.int (i + (2 : Int32)), .ref 1000000, .int (0 : Int32), .ref 198], (223, (kc + q118.2.2.2), (ks + 6 * q118.2.2.2), pd_H q118.2.2.1 q118.2.1))) rfl ?_
                                      obtain ⟨hc121, h⟩ := pd_chk h
                                      refine ev_sald pp_law rfl hc121 ?_
                                      refine ev_gos pp_law 4 (S' := (644, [some (.ref 1000000), some (.ref 0), some (.ref 198), some (.ref 222), some (.int i), some (.int q118.1), y6], [.int (i + (3 : Int32)), .ref 1000000, .int (xs (i + (2 : Int32)).toNatClampNeg), .int (0 : Int32), .ref 198], (223, (kc + q118.2.2.2), (ks + 6 * q118.2.2.2), pd_H q118.2.2.1 q118.2.1))) rfl ?_
                                      obtain ⟨hc122, h⟩ := pd_chk h
                                      refine ev_sald pp_law rfl hc122 ?_
                                      refine ev_gos pp_law 0 (S' := (645, [some (.ref 1000000), some (.ref 0), some (.ref 198), some (.ref 222), some (.int i), some (.int q118.1), y6], [.int (xs (i + (3 : Int32)).toNatClampNeg), .int (xs (i + (2 : Int32)).toNatClampNeg), .int (0 : Int32), .ref 198], (223, (kc + q118.2.2.2), (ks + 6 * q118.2.2.2), pd_H q118.2.2.1 q118.2.1))) rfl ?_
                                      obtain ⟨q123, hq123, h⟩ := pd_bind h
                                      refine ev_callv pp_law rfl rfl rfl rfl (s_Mo_cell hq123) ?_
                                      refine ev_gos pp_law 4 (S' := (23, [some (.ref 1000000), some (.ref 0), some (.ref 198), some (.ref 222), some (.int (i + (4 : Int32))), some (.int q118.1), some (.int q123.1)], [], (223, (kc + q118.2.2.2), (ks + 6 * q118.2.2.2), pd_H q118.2.2.1 q123.2))) rfl ?_
                                      cases h
                                      exact K _ _
                                    · rw [hb120]
                                      refine ev_gos pp_law 6 (S' := (638, [some (.ref 1000000), some (.ref 0), some (.ref 198), some (.ref 222), some (.int i), some (.int q118.1), y6], [.int (i + (2 : Int32)), .ref 1000000, .int (1 : Int32), .ref 198], (223, (kc + q118.2.2.2), (ks + 6 * q118.2.2.2), pd_H q118.2.2.1 q118.2.1))) rfl ?_
                                      obtain ⟨hc124, h⟩ := pd_chk h
                                      refine ev_sald pp_law rfl hc124 ?_
                                      refine ev_gos pp_law 4 (S' := (644, [some (.ref 1000000), some (.ref 0), some (.ref 198), some (.ref 222), some (.int i), some (.int q118.1), y6], [.int (i + (3 : Int32)), .ref 1000000, .int (xs (i + (2 : Int32)).toNatClampNeg), .int (1 : Int32), .ref 198], (223, (kc + q118.2.2.2), (ks + 6 * q118.2.2.2), pd_H q118.2.2.1 q118.2.1))) rfl ?_
                                      obtain ⟨hc125, h⟩ := pd_chk h
                                      refine ev_sald pp_law rfl hc125 ?_
                                      refine ev_gos pp_law 0 (S' := (645, [some (.ref 1000000), some (.ref 0), some (.ref 198), some (.ref 222), some (.int i), some (.int q118.1), y6], [.int (xs (i + (3 : Int32)).toNatClampNeg), .int (xs (i + (2 : Int32)).toNatClampNeg), .int (1 : Int32), .ref 198], (223, (kc + q118.2.2.2), (ks + 6 * q118.2.2.2), pd_H q118.2.2.1 q118.2.1))) rfl ?_
                                      obtain ⟨q126, hq126, h⟩ := pd_bind h
                                      refine ev_callv pp_law rfl rfl rfl rfl (s_Mo_cell hq126) ?_
                                      refine ev_gos pp_law 4 (S' := (23, [some (.ref 1000000), some (.ref 0), some (.ref 198), some (.ref 222), some (.int (i + (4 : Int32))), some (.int q118.1), some (.int q126.1)], [], (223, (kc + q118.2.2.2), (ks + 6 * q118.2.2.2), pd_H q118.2.2.1 q126.2))) rfl ?_
                                      cases h
                                      exact K _ _
                                  · rw [hb115]
                                    refine ev_gos pp_law 6 (S' := (605, [some (.ref 1000000), some (.ref 0), some (.ref 198), some (.ref 222), some (.int i), y5, y6], [.int (i + (2 : Int32)), .ref 1000000, .int (1 : Int32), .ref 0], (223, kc, ks, pd_H g v))) rfl ?_
                                    obtain ⟨hc127, h⟩ := pd_chk h
                                    refine ev_sald pp_law rfl hc127 ?_
                                    refine ev_gos pp_law 4 (S' := (611, [some (.ref 1000000), some (.ref 0), some (.ref 198), some (.ref 222), some (.int i), y5, y6], [.int (i + (3 : Int32)), .ref 1000000, .int (xs (i + (2 : Int32)).toNatClampNeg), .int (1 : Int32), .ref 0], (223, kc, ks, pd_H g v))) rfl ?_
                                    obtain ⟨hc128, h⟩ := pd_chk h
                                    refine ev_sald pp_law rfl hc128 ?_
                                    refine ev_gos pp_law 1 (S' := (613, [some (.ref 1000000), some (.ref 0), some (.ref 198), some (.ref 222), some (.int i), y5, y6], [.ref 222, .int (xs (i + (3 : Int32)).toNatClampNeg), .int (xs (i + (2 : Int32)).toNatClampNeg), .int (1 : Int32), .ref 0], (223, kc, ks, pd_H g v))) rfl ?_
                                    obtain ⟨q129, hq129, h⟩ := pd_bind h
                                    refine ev_call pp_law rfl rfl rfl (s_La_cell hq129) ?_
                                    refine ev_gos pp_law 6 (S' := (624, [some (.ref 1000000), some (.ref 0), some (.ref 198), some (.ref 222), some (.int i), some (.int q129.1), y6], [.int (i + (1 : Int32)), .ref 1000000, .ref 198], (223, (kc + q129.2.2.2), (ks + 6 * q129.2.2.2), pd_H q129.2.2.1 q129.2.1))) rfl ?_
                                    obtain ⟨hc130, h⟩ := pd_chk h
                                    refine ev_sald pp_law rfl hc130 ?_
                                    refine ev_gos pp_law 0 (S' := (625, [some (.ref 1000000), some (.ref 0), some (.ref 198), some (.ref 222), some (.int i), some (.int q129.1), y6], [.int (xs (i + (1 : Int32)).toNatClampNeg), .ref 198], (223, (kc + q129.2.2.2), (ks + 6 * q129.2.2.2), pd_H q129.2.2.1 q129.2.1))) rfl ?_
                                    refine ev_gos pp_law 1 (S' := (bif decide ((xs (i + (1 : Int32)).toNatClampNeg) = 0) then 632 else 628, [some (.ref 1000000), some (.ref 0), some (.ref 198), some (.ref 222), some (.int i), some (.int q129.1), y6], [.ref 198], (223, (kc + q129.2.2.2), (ks + 6 * q129.2.2.2), pd_H q129.2.2.1 q129.2.1))) rfl ?_
                                    rcases pd_cases h with ⟨hb131, h⟩ | ⟨hb131, h⟩
                                    · rw [hb131]
                                      refine ev_gos pp_law 5 (S' := (638, [some (.ref 1000000), some (.ref 0), some (.ref 198), some (.ref 222), some (.int i), some (.int q129.1), y6], [.int (i + (2 : Int32)), .ref 1000000, .int (0 : Int32), .ref 198], (223, (kc + q129.2.2.2), (ks + 6 * q129.2.2.2), pd_H q129.2.2.1 q129.2.1))) rfl ?_
                                      obtain ⟨hc132, h⟩ := pd_chk h
                                      refine ev_sald pp_law rfl hc132 ?_
                                      refine ev_gos pp_law 4 (S' := (644, [some (.ref 1000000), some (.ref 0), some (.ref 198), some (.ref 222), some (.int i), some (.int q129.1), y6], [.int (i + (3 : Int32)), .ref 1000000, .int (xs (i + (2 : Int32)).toNatClampNeg), .int (0 : Int32), .ref 198], (223, (kc + q129.2.2.2), (ks + 6 * q129.2.2.2), pd_H q129.2.2.1 q129.2.1))) rfl ?_
                                      obtain ⟨hc133, h⟩ := pd_chk h
                                      refine ev_sald pp_law rfl hc133 ?_
                                      refine ev_gos pp_law 0 (S' := (645, [some (.ref 1000000), some (.ref 0), some (.ref 198), some (.ref 222), some (.int i), some (.int q129.1), y6], [.int (xs (i + (3 : Int32)).toNatClampNeg), .int (xs (i + (2 : Int32)).toNatClampNeg), .int (0 : Int32), .ref 198], (223, (kc + q129.2.2.2), (ks + 6 * q129.2.2.2), pd_H q129.2.2.1 q129.2.1))) rfl ?_
                                      obtain ⟨q134, hq134, h⟩ := pd_bind h
                                      refine ev_callv pp_law rfl rfl rfl rfl (s_Mo_cell hq134) ?_
                                      refine ev_gos pp_law 4 (S' := (23, [some (.ref 1000000), some (.ref 0), some (.ref 198), some (.ref 222), some (.int (i + (4 : Int32))), some (.int q129.1), some (.int q134.1)], [], (223, (kc + q129.2.2.2), (ks + 6 * q129.2.2.2), pd_H q129.2.2.1 q134.2))) rfl ?_
                                      cases h
                                      exact K _ _
                                    · rw [hb131]
                                      refine ev_gos pp_law 6 (S' := (638, [some (.ref 1000000), some (.ref 0), some (.ref 198), some (.ref 222), some (.int i), some (.int q129.1), y6], [.int (i + (2 : Int32)), .ref 1000000, .int (1 : Int32), .ref 198], (223, (kc + q129.2.2.2), (ks + 6 * q129.2.2.2), pd_H q129.2.2.1 q129.2.1))) rfl ?_
                                      obtain ⟨hc135, h⟩ := pd_chk h
                                      refine ev_sald pp_law rfl hc135 ?_
                                      refine ev_gos pp_law 4 (S' := (644, [some (.ref 1000000), some (.ref 0), some (.ref 198), some (.ref 222), some (.int i), some (.int q129.1), y6], [.int (i + (3 : Int32)), .ref 1000000, .int (xs (i + (2 : Int32)).toNatClampNeg), .int (1 : Int32), .ref 198], (223, (kc + q129.2.2.2), (ks + 6 * q129.2.2.2), pd_H q129.2.2.1 q129.2.1))) rfl ?_
                                      obtain ⟨hc136, h⟩ := pd_chk h
                                      refine ev_sald pp_law rfl hc136 ?_
                                      refine ev_gos pp_law 0 (S' := (645, [some (.ref 1000000), some (.ref 0), some (.ref 198), some (.ref 222), some (.int i), some (.int q129.1), y6], [.int (xs (i + (3 : Int32)).toNatClampNeg), .int (xs (i + (2 : Int32)).toNatClampNeg), .int (1 : Int32), .ref 198], (223, (kc + q129.2.2.2), (ks + 6 * q129.2.2.2), pd_H q129.2.2.1 q129.2.1))) rfl ?_
                                      obtain ⟨q137, hq137, h⟩ := pd_bind h
                                      refine ev_callv pp_law rfl rfl rfl rfl (s_Mo_cell hq137) ?_
                                      refine ev_gos pp_law 4 (S' := (23, [some (.ref 1000000), some (.ref 0), some (.ref 198), some (.ref 222), some (.int (i + (4 : Int32))), some (.int q129.1), some (.int q137.1)], [], (223, (kc + q129.2.2.2), (ks + 6 * q129.2.2.2), pd_H q129.2.2.1 q137.2))) rfl ?_
                                      cases h
                                      exact K _ _
                                · rw [hb113]
                                  refine ev_gos pp_law 2 (S' := (23, [some (.ref 1000000), some (.ref 0), some (.ref 198), some (.ref 222), some (.int (i + (4 : Int32))), y5, y6], [], (223, kc, ks, pd_H g v))) rfl ?_
                                  cases h
                                  exact K _ _
end LS9
