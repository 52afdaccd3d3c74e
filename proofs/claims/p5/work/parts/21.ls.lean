section LS9
variable {xs : Nat → Int32} {L : Nat} {g : Nat → Int64} {d kc ks : Nat}
theorem pp_law {xs : Nat → Int32} {L : Nat} : (pj_P xs L 0).1 = fun S => pm_look (tb_law xs L) S.1 S := rfl
def d_law (w : Nat) (xs : Nat → Int32) (L : Nat) (i : Int32) (v : pd_V) (g : Nat → Int64) : Option ((pd_V × (Nat → Int64) × Nat) ⊕ Int32) :=
  bif decide (((Int32.ofNat L) - (4 : Int32)) < i) then
    some (Sum.inr (1 : Int32))
  else
    bif pm_in i L then
    bif decide (((xs i.toNatClampNeg) &&& (15 : Int32)) = (0 : Int32)) then
      bif pm_in (i + (1 : Int32)) L then
      bif pm_in (i + (2 : Int32)) L then
      bif pm_in (i + (3 : Int32)) L then
      (d_La_type w ((((xs (i + (1 : Int32)).toNatClampNeg).toInt64) <<< ((32 : Int32).toInt64 &&& 63)) ||| (((xs (i + (2 : Int32)).toNatClampNeg).toInt64) &&& (4294967295 : Int64))) (xs (i + (3 : Int32)).toNatClampNeg) v g).bind fun q7 =>
      bif pm_in (i + (1 : Int32)) L then
      bif pm_in (i + (2 : Int32)) L then
      bif pm_in (i + (3 : Int32)) L then
      (d_Mo_type w ((((xs (i + (1 : Int32)).toNatClampNeg).toInt64) <<< ((32 : Int32).toInt64 &&& 63)) ||| (((xs (i + (2 : Int32)).toNatClampNeg).toInt64) &&& (4294967295 : Int64))) (xs (i + (3 : Int32)).toNatClampNeg) q7.2.1).bind fun q11 =>
      some (Sum.inl (q11.2, q7.2.2.1, q7.2.2.2))
      else none
      else none
      else none
      else none
      else none
      else none
    else
      bif decide (((xs i.toNatClampNeg) &&& (15 : Int32)) = (1 : Int32)) then
        (d_De_clear v).bind fun q13 =>
        (d_Mo_clear q13).bind fun q14 =>
        some (Sum.inl (q14, g, 0))
      else
        bif decide (((xs i.toNatClampNeg) &&& (15 : Int32)) = (2 : Int32)) then
          (d_De_compile w v).bind fun q16 =>
          (d_Mo_compile w q16.2).bind fun q17 =>
          some (Sum.inl (q17.2, g, 0))
        else
          bif decide (((xs i.toNatClampNeg) &&& (15 : Int32)) = (3 : Int32)) then
            (d_Mo_place v).bind fun q20 =>
            bif decide ((d_De_place v) = q20.1) then
              some (Sum.inl (q20.2, g, 0))
            else
              some (Sum.inr (0 : Int32))
          else
            bif decide (((xs i.toNatClampNeg) &&& (15 : Int32)) = (4 : Int32)) then
              bif pm_in (i + (1 : Int32)) L then
              (d_La_varies (xs (i + (1 : Int32)).toNatClampNeg) v g).bind fun q24 =>
              bif pm_in (i + (1 : Int32)) L then
              (d_Mo_varies (xs (i + (1 : Int32)).toNatClampNeg) q24.2.1).bind fun q26 =>
              some (Sum.inl (q26.2, q24.2.2.1, q24.2.2.2))
              else none
              else none
            else
              bif decide (((xs i.toNatClampNeg) &&& (15 : Int32)) = (5 : Int32)) then
                bif pm_in (i + (1 : Int32)) L then
                bif pm_in (i + (2 : Int32)) L then
                (d_La_input (xs (i + (1 : Int32)).toNatClampNeg) (xs (i + (2 : Int32)).toNatClampNeg) v g).bind fun q30 =>
                bif pm_in (i + (1 : Int32)) L then
                bif pm_in (i + (2 : Int32)) L then
                (d_Mo_input (xs (i + (1 : Int32)).toNatClampNeg) (xs (i + (2 : Int32)).toNatClampNeg) q30.2.1).bind fun q33 =>
                some (Sum.inl (q33, q30.2.2.1, q30.2.2.2))
                else none
                else none
                else none
                else none
              else
                bif decide (((xs i.toNatClampNeg) &&& (15 : Int32)) = (6 : Int32)) then
                  bif pm_in (i + (1 : Int32)) L then
                  (d_La_lanes (xs (i + (1 : Int32)).toNatClampNeg) v g).bind fun q36 =>
                  bif pm_in (i + (1 : Int32)) L then
                  (d_Mo_lanes (xs (i + (1 : Int32)).toNatClampNeg) q36.2.1).bind fun q38 =>
                  some (Sum.inl (q38, q36.2.2.1, q36.2.2.2))
                  else none
                  else none
                else
                  bif decide (((xs i.toNatClampNeg) &&& (15 : Int32)) = (7 : Int32)) then
                    (d_La_start w v g).bind fun q40 =>
                    (d_Mo_start w q40.2.1).bind fun q41 =>
                    some (Sum.inl (q41, q40.2.2.1, q40.2.2.2))
                  else
                    bif decide (((xs i.toNatClampNeg) &&& (15 : Int32)) = (8 : Int32)) then
                      bif pm_in (i + (1 : Int32)) L then
                      (d_La_run w (xs (i + (1 : Int32)).toNatClampNeg) v g).bind fun q44 =>
                      bif pm_in (i + (1 : Int32)) L then
                      (d_Mo_run w (xs (i + (1 : Int32)).toNatClampNeg) q44.2.1).bind fun q46 =>
                      some (Sum.inl (q46.2, q44.2.2.1, q44.2.2.2))
                      else none
                      else none
                    else
                      bif decide (((xs i.toNatClampNeg) &&& (15 : Int32)) = (9 : Int32)) then
                        (d_Mo_mask v).bind fun q49 =>
                        some (Sum.inl (q49.2, g, 0))
                      else
                        bif decide (((xs i.toNatClampNeg) &&& (15 : Int32)) = (10 : Int32)) then
                          bif pm_in (i + (1 : Int32)) L then
                          (d_La_spent (xs (i + (1 : Int32)).toNatClampNeg) v g).bind fun q52 =>
                          bif pm_in (i + (1 : Int32)) L then
                          (d_Mo_spent (xs (i + (1 : Int32)).toNatClampNeg) q52.2.1).bind fun q54 =>
                          some (Sum.inl (q54.2, q52.2.2.1, q52.2.2.2))
                          else none
                          else none
                        else
                          bif decide (((xs i.toNatClampNeg) &&& (15 : Int32)) = (11 : Int32)) then
                            bif pm_in (i + (1 : Int32)) L then
                            (d_La_alone w (xs (i + (1 : Int32)).toNatClampNeg) v g).bind fun q57 =>
                            bif pm_in (i + (1 : Int32)) L then
                            (d_Mo_alone w (xs (i + (1 : Int32)).toNatClampNeg) q57.2.1).bind fun q59 =>
                            some (Sum.inl (q59.2, q57.2.2.1, q57.2.2.2))
                            else none
                            else none
                          else
                            bif decide (((xs i.toNatClampNeg) &&& (15 : Int32)) = (12 : Int32)) then
                              bif pm_in (i + (1 : Int32)) L then
                              bif decide ((xs (i + (1 : Int32)).toNatClampNeg) = 0) then
                                bif pm_in (i + (2 : Int32)) L then
                                bif pm_in (i + (3 : Int32)) L then
                                (d_La_lane (0 : Int32) (xs (i + (2 : Int32)).toNatClampNeg) (xs (i + (3 : Int32)).toNatClampNeg) v g).bind fun q65 =>
                                bif pm_in (i + (1 : Int32)) L then
                                bif decide ((xs (i + (1 : Int32)).toNatClampNeg) = 0) then
                                  bif pm_in (i + (2 : Int32)) L then
                                  bif pm_in (i + (3 : Int32)) L then
                                  (d_Mo_lane (0 : Int32) (xs (i + (2 : Int32)).toNatClampNeg) (xs (i + (3 : Int32)).toNatClampNeg) q65.2.1).bind fun q70 =>
                                  some (Sum.inl (q70.2, q65.2.2.1, q65.2.2.2))
                                  else none
                                  else none
                                else
                                  bif pm_in (i + (2 : Int32)) L then
                                  bif pm_in (i + (3 : Int32)) L then
                                  (d_Mo_lane (1 : Int32) (xs (i + (2 : Int32)).toNatClampNeg) (xs (i + (3 : Int32)).toNatClampNeg) q65.2.1).bind fun q73 =>
                                  some (Sum.inl (q73.2, q65.2.2.1, q65.2.2.2))
                                  else none
                                  else none
                                else none
                                else none
                                else none
                              else
                                bif pm_in (i + (2 : Int32)) L then
                                bif pm_in (i + (3 : Int32)) L then
                                (d_La_lane (1 : Int32) (xs (i + (2 : Int32)).toNatClampNeg) (xs (i + (3 : Int32)).toNatClampNeg) v g).bind fun q76 =>
                                bif pm_in (i + (1 : Int32)) L then
                                bif decide ((xs (i + (1 : Int32)).toNatClampNeg) = 0) then
                                  bif pm_in (i + (2 : Int32)) L then
                                  bif pm_in (i + (3 : Int32)) L then
                                  (d_Mo_lane (0 : Int32) (xs (i + (2 : Int32)).toNatClampNeg) (xs (i + (3 : Int32)).toNatClampNeg) q76.2.1).bind fun q81 =>
                                  some (Sum.inl (q81.2, q76.2.2.1, q76.2.2.2))
                                  else none
                                  else none
                                else
                                  bif pm_in (i + (2 : Int32)) L then
                                  bif pm_in (i + (3 : Int32)) L then
                                  (d_Mo_lane (1 : Int32) (xs (i + (2 : Int32)).toNatClampNeg) (xs (i + (3 : Int32)).toNatClampNeg) q76.2.1).bind fun q84 =>
                                  some (Sum.inl (q84.2, q76.2.2.1, q76.2.2.2))
                                  else none
                                  else none
                                else none
                                else none
                                else none
                              else none
                            else
                              bif decide (((xs i.toNatClampNeg) &&& (15 : Int32)) = (13 : Int32)) then
                                bif pm_in (i + (1 : Int32)) L then
                                bif decide ((xs (i + (1 : Int32)).toNatClampNeg) = 0) then
                                  bif pm_in (i + (2 : Int32)) L then
                                  bif pm_in (i + (3 : Int32)) L then
                                  (d_La_out (0 : Int32) (xs (i + (2 : Int32)).toNatClampNeg) (xs (i + (3 : Int32)).toNatClampNeg) v g).bind fun q90 =>
                                  bif pm_in (i + (1 : Int32)) L then
                                  bif decide ((xs (i + (1 : Int32)).toNatClampNeg) = 0) then
                                    bif pm_in (i + (2 : Int32)) L then
                                    bif pm_in (i + (3 : Int32)) L then
                                    (d_Mo_out (0 : Int32) (xs (i + (2 : Int32)).toNatClampNeg) (xs (i + (3 : Int32)).toNatClampNeg) q90.2.1).bind fun q95 =>
                                    some (Sum.inl (q95.2, q90.2.2.1, q90.2.2.2))
                                    else none
                                    else none
                                  else
                                    bif pm_in (i + (2 : Int32)) L then
                                    bif pm_in (i + (3 : Int32)) L then
                                    (d_Mo_out (1 : Int32) (xs (i + (2 : Int32)).toNatClampNeg) (xs (i + (3 : Int32)).toNatClampNeg) q90.2.1).bind fun q98 =>
                                    some (Sum.inl (q98.2, q90.2.2.1, q90.2.2.2))
                                    else none
                                    else none
                                  else none
                                  else none
                                  else none
                                else
                                  bif pm_in (i + (2 : Int32)) L then
                                  bif pm_in (i + (3 : Int32)) L then
                                  (d_La_out (1 : Int32) (xs (i + (2 : Int32)).toNatClampNeg) (xs (i + (3 : Int32)).toNatClampNeg) v g).bind fun q101 =>
                                  bif pm_in (i + (1 : Int32)) L then
                                  bif decide ((xs (i + (1 : Int32)).toNatClampNeg) = 0) then
                                    bif pm_in (i + (2 : Int32)) L then
                                    bif pm_in (i + (3 : Int32)) L then
                                    (d_Mo_out (0 : Int32) (xs (i + (2 : Int32)).toNatClampNeg) (xs (i + (3 : Int32)).toNatClampNeg) q101.2.1).bind fun q106 =>
                                    some (Sum.inl (q106.2, q101.2.2.1, q101.2.2.2))
                                    else none
                                    else none
                                  else
                                    bif pm_in (i + (2 : Int32)) L then
                                    bif pm_in (i + (3 : Int32)) L then
                                    (d_Mo_out (1 : Int32) (xs (i + (2 : Int32)).toNatClampNeg) (xs (i + (3 : Int32)).toNatClampNeg) q101.2.1).bind fun q109 =>
                                    some (Sum.inl (q109.2, q101.2.2.1, q101.2.2.2))
                                    else none
                                    else none
                                  else none
                                  else none
                                  else none
                                else none
                              else
                                bif decide (((xs i.toNatClampNeg) &&& (15 : Int32)) = (14 : Int32)) then
                                  bif pm_in (i + (1 : Int32)) L then
                                  bif decide ((xs (i + (1 : Int32)).toNatClampNeg) = 0) then
                                    bif pm_in (i + (2 : Int32)) L then
                                    bif pm_in (i + (3 : Int32)) L then
                                    (d_La_cell (0 : Int32) (xs (i + (2 : Int32)).toNatClampNeg) (xs (i + (3 : Int32)).toNatClampNeg) v g).bind fun q115 =>
                                    bif pm_in (i + (1 : Int32)) L then
                                    bif decide ((xs (i + (1 : Int32)).toNatClampNeg) = 0) then
                                      bif pm_in (i + (2 : Int32)) L then
                                      bif pm_in (i + (3 : Int32)) L then
                                      (d_Mo_cell (0 : Int32) (xs (i + (2 : Int32)).toNatClampNeg) (xs (i + (3 : Int32)).toNatClampNeg) q115.2.1).bind fun q120 =>
                                      some (Sum.inl (q120.2, q115.2.2.1, q115.2.2.2))
                                      else none
                                      else none
                                    else
                                      bif pm_in (i + (2 : Int32)) L then
                                      bif pm_in (i + (3 : Int32)) L then
                                      (d_Mo_cell (1 : Int32) (xs (i + (2 : Int32)).toNatClampNeg) (xs (i + (3 : Int32)).toNatClampNeg) q115.2.1).bind fun q123 =>
                                      some (Sum.inl (q123.2, q115.2.2.1, q115.2.2.2))
                                      else none
                                      else none
                                    else none
                                    else none
                                    else none
                                  else
                                    bif pm_in (i + (2 : Int32)) L then
                                    bif pm_in (i + (3 : Int32)) L then
                                    (d_La_cell (1 : Int32) (xs (i + (2 : Int32)).toNatClampNeg) (xs (i + (3 : Int32)).toNatClampNeg) v g).bind fun q126 =>
                                    bif pm_in (i + (1 : Int32)) L then
                                    bif decide ((xs (i + (1 : Int32)).toNatClampNeg) = 0) then
                                      bif pm_in (i + (2 : Int32)) L then
                                      bif pm_in (i + (3 : Int32)) L then
                                      (d_Mo_cell (0 : Int32) (xs (i + (2 : Int32)).toNatClampNeg) (xs (i + (3 : Int32)).toNatClampNeg) q126.2.1).bind fun q131 =>
                                      some (Sum.inl (q131.2, q126.2.2.1, q126.2.2.2))
                                      else none
                                      else none
                                    else
                                      bif pm_in (i + (2 : Int32)) L then
                                      bif pm_in (i + (3 : Int32)) L then
                                      (d_Mo_cell (1 : Int32) (xs (i + (2 : Int32)).toNatClampNeg) (xs (i + (3 : Int32)).toNatClampNeg) q126.2.1).bind fun q134 =>
                                      some (Sum.inl (q134.2, q126.2.2.1, q126.2.2.2))
                                      else none
                                      else none
                                    else none
                                    else none
                                    else none
                                  else none
                                else
                                  some (Sum.inl (v, g, 0))
    else none
set_option maxRecDepth 100000 in
set_option maxHeartbeats 4000000 in
theorem s_law {w : Nat} {i : Int32} {v : pd_V} {y5 y6 : Option Value} {q : pd_V × (Nat → Int64) × Nat} {o : pm_O} (h : d_law w xs L i v g = some (Sum.inl q)) (K : ∀ y5 y6 : Option Value, pm_ev (pj_P xs L) (d + 23) 0 (23, [some (.ref 1000000), some (.ref 0), some (.ref 198), some (.ref 222), some (.int (i + (4 : Int32))), y5, y6], [], (223, kc + q.2.2, ks + 6 * q.2.2, pd_H q.2.1 q.1)) o) : pm_ev (pj_P xs L) (d + 23) 0 (23, [some (.ref 1000000), some (.ref 0), some (.ref 198), some (.ref 222), some (.int i), y5, y6], [], (223, kc, ks, pd_H g v)) o := by
  unfold d_law at h
  refine ev_gos pp_law 5 (S' := (29, [some (.ref 1000000), some (.ref 0), some (.ref 198), some (.ref 222), some (.int i), y5, y6], [.int ((Int32.ofNat L) - (4 : Int32)), .int i], (223, kc, ks, pd_H g v))) rfl ?_
  refine ev_gos pp_law 1 (S' := (bif decide (((Int32.ofNat L) - (4 : Int32)) < i) then 631 else 32, [some (.ref 1000000), some (.ref 0), some (.ref 198), some (.ref 222), some (.int i), y5, y6], [], (223, kc, ks, pd_H g v))) rfl ?_
  rcases pd_cases h with ⟨hb1, h⟩ | ⟨hb1, h⟩
  · rw [hb1]
    refine ev_gos pp_law 1 (S' := (632, [some (.ref 1000000), some (.ref 0), some (.ref 198), some (.ref 222), some (.int i), y5, y6], [.int (1 : Int32)], (223, kc, ks, pd_H g v))) rfl ?_
    exact nomatch h
  · rw [hb1]
    refine ev_gos pp_law 2 (S' := (35, [some (.ref 1000000), some (.ref 0), some (.ref 198), some (.ref 222), some (.int i), y5, y6], [.int i, .ref 1000000], (223, kc, ks, pd_H g v))) rfl ?_
    obtain ⟨hc2, h⟩ := pd_chk h
    refine ev_sald pp_law rfl hc2 ?_
    refine ev_gos pp_law 2 (S' := (39, [some (.ref 1000000), some (.ref 0), some (.ref 198), some (.ref 222), some (.int i), y5, y6], [.int ((xs i.toNatClampNeg) &&& (15 : Int32))], (223, kc, ks, pd_H g v))) rfl ?_
    refine ev_gos pp_law 1 (S' := (bif decide (((xs i.toNatClampNeg) &&& (15 : Int32)) = (0 : Int32)) then 112 else bif decide (((xs i.toNatClampNeg) &&& (15 : Int32)) = (1 : Int32)) then 184 else bif decide (((xs i.toNatClampNeg) &&& (15 : Int32)) = (2 : Int32)) then 195 else bif decide (((xs i.toNatClampNeg) &&& (15 : Int32)) = (3 : Int32)) then 208 else bif decide (((xs i.toNatClampNeg) &&& (15 : Int32)) = (4 : Int32)) then 221 else bif decide (((xs i.toNatClampNeg) &&& (15 : Int32)) = (5 : Int32)) then 249 else bif decide (((xs i.toNatClampNeg) &&& (15 : Int32)) = (6 : Int32)) then 286 else bif decide (((xs i.toNatClampNeg) &&& (15 : Int32)) = (7 : Int32)) then 311 else bif decide (((xs i.toNatClampNeg) &&& (15 : Int32)) = (8 : Int32)) then 324 else bif decide (((xs i.toNatClampNeg) &&& (15 : Int32)) = (9 : Int32)) then 352 else bif decide (((xs i.toNatClampNeg) &&& (15 : Int32)) = (10 : Int32)) then 365 else bif decide (((xs i.toNatClampNeg) &&& (15 : Int32)) = (11 : Int32)) then 393 else bif decide (((xs i.toNatClampNeg) &&& (15 : Int32)) = (12 : Int32)) then 421 else bif decide (((xs i.toNatClampNeg) &&& (15 : Int32)) = (13 : Int32)) then 489 else bif decide (((xs i.toNatClampNeg) &&& (15 : Int32)) = (14 : Int32)) then 557 else 625, [some (.ref 1000000), some (.ref 0), some (.ref 198), some (.ref 222), some (.int i), y5, y6], [], (223, kc, ks, pd_H g v))) rfl ?_
    rcases pd_cases h with ⟨hb3, h⟩ | ⟨hb3, h⟩
    · rw [hb3]
      refine ev_gos pp_law 5 (S' := (118, [some (.ref 1000000), some (.ref 0), some (.ref 198), some (.ref 222), some (.int i), y5, y6], [.int (i + (1 : Int32)), .ref 1000000, .ref 0], (223, kc, ks, pd_H g v))) rfl ?_
      obtain ⟨hc4, h⟩ := pd_chk h
      refine ev_sald pp_law rfl hc4 ?_
      refine ev_gos pp_law 7 (S' := (128, [some (.ref 1000000), some (.ref 0), some (.ref 198), some (.ref 222), some (.int i), y5, y6], [.int (i + (2 : Int32)), .ref 1000000, .long (((xs (i + (1 : Int32)).toNatClampNeg).toInt64) <<< ((32 : Int32).toInt64 &&& 63)), .ref 0], (223, kc, ks, pd_H g v))) rfl ?_
      obtain ⟨hc5, h⟩ := pd_chk h
      refine ev_sald pp_law rfl hc5 ?_
      refine ev_gos pp_law 8 (S' := (140, [some (.ref 1000000), some (.ref 0), some (.ref 198), some (.ref 222), some (.int i), y5, y6], [.int (i + (3 : Int32)), .ref 1000000, .long ((((xs (i + (1 : Int32)).toNatClampNeg).toInt64) <<< ((32 : Int32).toInt64 &&& 63)) ||| (((xs (i + (2 : Int32)).toNatClampNeg).toInt64) &&& (4294967295 : Int64))), .ref 0], (223, kc, ks, pd_H g v))) rfl ?_
      obtain ⟨hc6, h⟩ := pd_chk h
      refine ev_sald pp_law rfl hc6 ?_
      refine ev_gos pp_law 1 (S' := (142, [some (.ref 1000000), some (.ref 0), some (.ref 198), some (.ref 222), some (.int i), y5, y6], [.ref 222, .int (xs (i + (3 : Int32)).toNatClampNeg), .long ((((xs (i + (1 : Int32)).toNatClampNeg).toInt64) <<< ((32 : Int32).toInt64 &&& 63)) ||| (((xs (i + (2 : Int32)).toNatClampNeg).toInt64) &&& (4294967295 : Int64))), .ref 0], (223, kc, ks, pd_H g v))) rfl ?_
      obtain ⟨q7, hq7, h⟩ := pd_bind h
      refine ev_call pp_law rfl rfl rfl (s_La_type hq7) ?_
      refine ev_gos pp_law 6 (S' := (153, [some (.ref 1000000), some (.ref 0), some (.ref 198), some (.ref 222), some (.int i), some (.int q7.1), y6], [.int (i + (1 : Int32)), .ref 1000000, .ref 198], (223, (kc + q7.2.2.2), (ks + 6 * q7.2.2.2), pd_H q7.2.2.1 q7.2.1))) rfl ?_
      obtain ⟨hc8, h⟩ := pd_chk h
      refine ev_sald pp_law rfl hc8 ?_
      refine ev_gos pp_law 7 (S' := (163, [some (.ref 1000000), some (.ref 0), some (.ref 198), some (.ref 222), some (.int i), some (.int q7.1), y6], [.int (i + (2 : Int32)), .ref 1000000, .long (((xs (i + (1 : Int32)).toNatClampNeg).toInt64) <<< ((32 : Int32).toInt64 &&& 63)), .ref 198], (223, (kc + q7.2.2.2), (ks + 6 * q7.2.2.2), pd_H q7.2.2.1 q7.2.1))) rfl ?_
      obtain ⟨hc9, h⟩ := pd_chk h
      refine ev_sald pp_law rfl hc9 ?_
      refine ev_gos pp_law 8 (S' := (175, [some (.ref 1000000), some (.ref 0), some (.ref 198), some (.ref 222), some (.int i), some (.int q7.1), y6], [.int (i + (3 : Int32)), .ref 1000000, .long ((((xs (i + (1 : Int32)).toNatClampNeg).toInt64) <<< ((32 : Int32).toInt64 &&& 63)) ||| (((xs (i + (2 : Int32)).toNatClampNeg).toInt64) &&& (4294967295 : Int64))), .ref 198], (223, (kc + q7.2.2.2), (ks + 6 * q7.2.2.2), pd_H q7.2.2.1 q7.2.1))) rfl ?_
      obtain ⟨hc10, h⟩ := pd_chk h
      refine ev_sald pp_law rfl hc10 ?_
      refine ev_gos pp_law 0 (S' := (176, [some (.ref 1000000), some (.ref 0), some (.ref 198), some (.ref 222), some (.int i), some (.int q7.1), y6], [.int (xs (i + (3 : Int32)).toNatClampNeg), .long ((((xs (i + (1 : Int32)).toNatClampNeg).toInt64) <<< ((32 : Int32).toInt64 &&& 63)) ||| (((xs (i + (2 : Int32)).toNatClampNeg).toInt64) &&& (4294967295 : Int64))), .ref 198], (223, (kc + q7.2.2.2), (ks + 6 * q7.2.2.2), pd_H q7.2.2.1 q7.2.1))) rfl ?_
      obtain ⟨q11, hq11, h⟩ := pd_bind h
      refine ev_callv pp_law rfl rfl rfl rfl (s_Mo_type hq11) ?_
      refine ev_gos pp_law 4 (S' := (23, [some (.ref 1000000), some (.ref 0), some (.ref 198), some (.ref 222), some (.int (i + (4 : Int32))), some (.int q7.1), some (.int q11.1)], [], (223, (kc + q7.2.2.2), (ks + 6 * q7.2.2.2), pd_H q7.2.2.1 q11.2))) rfl ?_
      cases h
      exact K _ _
    · rw [hb3]
      rcases pd_cases h with ⟨hb12, h⟩ | ⟨hb12, h⟩
      · rw [hb12]
        refine ev_gos pp_law 1 (S' := (185, [some (.ref 1000000), some (.ref 0), some (.ref 198), some (.ref 222), some (.int i), y5, y6], [.ref 0], (223, kc, ks, pd_H g v))) rfl ?_
        obtain ⟨q13, hq13, h⟩ := pd_bind h
        refine ev_callv pp_law rfl rfl rfl rfl (s_De_clear hq13) ?_
        refine ev_gos pp_law 1 (S' := (189, [some (.ref 1000000), some (.ref 0), some (.ref 198), some (.ref 222), some (.int i), y5, y6], [.ref 198], (223, kc, ks, pd_H g q13))) rfl ?_
        obtain ⟨q14, hq14, h⟩ := pd_bind h
        refine ev_callv pp_law rfl rfl rfl rfl (s_Mo_clear hq14) ?_
        refine ev_gos pp_law 3 (S' := (23, [some (.ref 1000000), some (.ref 0), some (.ref 198), some (.ref 222), some (.int (i + (4 : Int32))), y5, y6], [], (223, kc, ks, pd_H g q14))) rfl ?_
        cases h
        exact K _ _
      · rw [hb12]
        rcases pd_cases h with ⟨hb15, h⟩ | ⟨hb15, h⟩
        · rw [hb15]
          refine ev_gos pp_law 1 (S' := (196, [some (.ref 1000000), some (.ref 0), some (.ref 198), some (.ref 222), some (.int i), y5, y6], [.ref 0], (223, kc, ks, pd_H g v))) rfl ?_
          obtain ⟨q16, hq16, h⟩ := pd_bind h
          refine ev_callv pp_law rfl rfl rfl rfl (s_De_compile hq16) ?_
          refine ev_gos pp_law 2 (S' := (201, [some (.ref 1000000), some (.ref 0), some (.ref 198), some (.ref 222), some (.int i), y5, y6], [.ref 198], (223, kc, ks, pd_H g q16.2))) rfl ?_
          obtain ⟨q17, hq17, h⟩ := pd_bind h
          refine ev_callv pp_law rfl rfl rfl rfl (s_Mo_compile hq17) ?_
          refine ev_gos pp_law 4 (S' := (23, [some (.ref 1000000), some (.ref 0), some (.ref 198), some (.ref 222), some (.int (i + (4 : Int32))), y5, y6], [], (223, kc, ks, pd_H g q17.2))) rfl ?_
          cases h
          exact K _ _
        · rw [hb15]
          rcases pd_cases h with ⟨hb18, h⟩ | ⟨hb18, h⟩
          · rw [hb18]
            refine ev_gos pp_law 1 (S' := (209, [some (.ref 1000000), some (.ref 0), some (.ref 198), some (.ref 222), some (.int i), y5, y6], [.ref 0], (223, kc, ks, pd_H g v))) rfl ?_
            refine ev_callv pp_law rfl rfl rfl rfl (s_De_place) ?_
            refine ev_gos pp_law 1 (S' := (213, [some (.ref 1000000), some (.ref 0), some (.ref 198), some (.ref 222), some (.int i), y5, y6], [.ref 198, .int (d_De_place v)], (223, kc, ks, pd_H g v))) rfl ?_
            obtain ⟨q20, hq20, h⟩ := pd_bind h
            refine ev_callv pp_law rfl rfl rfl rfl (s_Mo_place hq20) ?_
            refine ev_gos pp_law 0 (S' := (216, [some (.ref 1000000), some (.ref 0), some (.ref 198), some (.ref 222), some (.int i), y5, y6], [.int q20.1, .int (d_De_place v)], (223, kc, ks, pd_H g q20.2))) rfl ?_
            refine ev_gos pp_law 1 (S' := (bif decide ((d_De_place v) = q20.1) then 625 else 219, [some (.ref 1000000), some (.ref 0), some (.ref 198), some (.ref 222), some (.int i), y5, y6], [], (223, kc, ks, pd_H g q20.2))) rfl ?_
            rcases pd_cases h with ⟨hb21, h⟩ | ⟨hb21, h⟩
            · rw [hb21]
              refine ev_gos pp_law 2 (S' := (23, [some (.ref 1000000), some (.ref 0), some (.ref 198), some (.ref 222), some (.int (i + (4 : Int32))), y5, y6], [], (223, kc, ks, pd_H g q20.2))) rfl ?_
              cases h
              exact K _ _
            · rw [hb21]
              refine ev_gos pp_law 1 (S' := (220, [some (.ref 1000000), some (.ref 0), some (.ref 198), some (.ref 222), some (.int i), y5, y6], [.int (0 : Int32)], (223, kc, ks, pd_H g q20.2))) rfl ?_
              exact nomatch h
          · rw [hb18]
            rcases pd_cases h with ⟨hb22, h⟩ | ⟨hb22, h⟩
            · rw [hb22]
              refine ev_gos pp_law 5 (S' := (227, [some (.ref 1000000), some (.ref 0), some (.ref 198), some (.ref 222), some (.int i), y5, y6], [.int (i + (1 : Int32)), .ref 1000000, .ref 0], (223, kc, ks, pd_H g v))) rfl ?_
              obtain ⟨hc23, h⟩ := pd_chk h
              refine ev_sald pp_law rfl hc23 ?_
              refine ev_gos pp_law 1 (S' := (229, [some (.ref 1000000), some (.ref 0), some (.ref 198), some (.ref 222), some (.int i), y5, y6], [.ref 222, .int (xs (i + (1 : Int32)).toNatClampNeg), .ref 0], (223, kc, ks, pd_H g v))) rfl ?_
              obtain ⟨q24, hq24, h⟩ := pd_bind h
              refine ev_call pp_law rfl rfl rfl (s_La_varies hq24) ?_
              refine ev_gos pp_law 6 (S' := (240, [some (.ref 1000000), some (.ref 0), some (.ref 198), some (.ref 222), some (.int i), some (.int q24.1), y6], [.int (i + (1 : Int32)), .ref 1000000, .ref 198], (223, (kc + q24.2.2.2), (ks + 6 * q24.2.2.2), pd_H q24.2.2.1 q24.2.1))) rfl ?_
              obtain ⟨hc25, h⟩ := pd_chk h
              refine ev_sald pp_law rfl hc25 ?_
              refine ev_gos pp_law 0 (S' := (241, [some (.ref 1000000), some (.ref 0), some (.ref 198), some (.ref 222), some (.int i), some (.int q24.1), y6], [.int (xs (i + (1 : Int32)).toNatClampNeg), .ref 198], (223, (kc + q24.2.2.2), (ks + 6 * q24.2.2.2), pd_H q24.2.2.1 q24.2.1))) rfl ?_
              obtain ⟨q26, hq26, h⟩ := pd_bind h
              refine ev_callv pp_law rfl rfl rfl rfl (s_Mo_varies hq26) ?_
              refine ev_gos pp_law 4 (S' := (23, [some (.ref 1000000), some (.ref 0), some (.ref 198), some (.ref 222), some (.int (i + (4 : Int32))), some (.int q24.1), some (.int q26.1)], [], (223, (kc + q24.2.2.2), (ks + 6 * q24.2.2.2), pd_H q24.2.2.1 q26.2))) rfl ?_
              cases h
              exact K _ _
            · rw [hb22]
              rcases pd_cases h with ⟨hb27, h⟩ | ⟨hb27, h⟩
              · rw [hb27]
                refine ev_gos pp_law 5 (S' := (255, [some (.ref 1000000), some (.ref 0), some (.ref 198), some (.ref 222), some (.int i), y5, y6], [.int (i + (1 : Int32)), .ref 1000000, .ref 0], (223, kc, ks, pd_H g v))) rfl ?_
                obtain ⟨hc28, h⟩ := pd_chk h
                refine ev_sald pp_law rfl hc28 ?_
                refine ev_gos pp_law 4 (S' := (261, [some (.ref 1000000), some (.ref 0), some (.ref 198), some (.ref 222), some (.int i), y5, y6], [.int (i + (2 : Int32)), .ref 1000000, .int (xs (i + (1 : Int32)).toNatClampNeg), .ref 0], (223, kc, ks, pd_H g v))) rfl ?_
                obtain ⟨hc29, h⟩ := pd_chk h
                refine ev_sald pp_law rfl hc29 ?_
                refine ev_gos pp_law 0 (S' := (262, [some (.ref 1000000), some (.ref 0), some (.ref 198), some (.ref 222), some (.int i), y5, y6], [.int (xs (i + (2 : Int32)).toNatClampNeg), .int (xs (i + (1 : Int32)).toNatClampNeg), .ref 0], (223, kc, ks, pd_H g v))) rfl ?_
                obtain ⟨q30, hq30, h⟩ := pd_bind h
                refine ev_call pp_law rfl rfl rfl (s_La_input hq30) ?_
                refine ev_gos pp_law 6 (S' := (273, [some (.ref 1000000), some (.ref 0), some (.ref 198), some (.ref 222), some (.int i), some (.int q30.1), y6], [.int (i + (1 : Int32)), .ref 1000000, .ref 198], (223, (kc + q30.2.2.2), (ks + 6 * q30.2.2.2), pd_H q30.2.2.1 q30.2.1))) rfl ?_
                obtain ⟨hc31, h⟩ := pd_chk h
                refine ev_sald pp_law rfl hc31 ?_
                refine ev_gos pp_law 4 (S' := (279, [some (.ref 1000000), some (.ref 0), some (.ref 198), some (.ref 222), some (.int i), some (.int q30.1), y6], [.int (i + (2 : Int32)), .ref 1000000, .int (xs (i + (1 : Int32)).toNatClampNeg), .ref 198], (223, (kc + q30.2.2.2), (ks + 6 * q30.2.2.2), pd_H q30.2.2.1 q30.2.1))) rfl ?_
                obtain ⟨hc32, h⟩ := pd_chk h
                refine ev_sald pp_law rfl hc32 ?_
                refine ev_gos pp_law 0 (S' := (280, [some (.ref 1000000), some (.ref 0), some (.ref 198), some (.ref 222), some (.int i), some (.int q30.1), y6], [.int (xs (i + (2 : Int32)).toNatClampNeg), .int (xs (i + (1 : Int32)).toNatClampNeg), .ref 198], (223, (kc + q30.2.2.2), (ks + 6 * q30.2.2.2), pd_H q30.2.2.1 q30.2.1))) rfl ?_
                obtain ⟨q33, hq33, h⟩ := pd_bind h
                refine ev_callv pp_law rfl rfl rfl rfl (s_Mo_input hq33) ?_
                refine ev_gos pp_law 3 (S' := (23, [some (.ref 1000000), some (.ref 0), some (.ref 198), some (.ref 222), some (.int (i + (4 : Int32))), some (.int q30.1), y6], [], (223, (kc + q30.2.2.2), (ks + 6 * q30.2.2.2), pd_H q30.2.2.1 q33))) rfl ?_
                cases h
                exact K _ _
              · rw [hb27]
                rcases pd_cases h with ⟨hb34, h⟩ | ⟨hb34, h⟩
                · rw [hb34]
                  refine ev_gos pp_law 5 (S' := (292, [some (.ref 1000000), some (.ref 0), some (.ref 198), some (.ref 222), some (.int i), y5, y6], [.int (i + (1 : Int32)), .ref 1000000, .ref 0], (223, kc, ks, pd_H g v))) rfl ?_
                  obtain ⟨hc35, h⟩ := pd_chk h
                  refine ev_sald pp_law rfl hc35 ?_
                  refine ev_gos pp_law 0 (S' := (293, [some (.ref 1000000), some (.ref 0), some (.ref 198), some (.ref 222), some (.int i), y5, y6], [.int (xs (i + (1 : Int32)).toNatClampNeg), .ref 0], (223, kc, ks, pd_H g v))) rfl ?_
                  obtain ⟨q36, hq36, h⟩ := pd_bind h
                  refine ev_call pp_law rfl rfl rfl (s_La_lanes hq36) ?_
                  refine ev_gos pp_law 6 (S' := (304, [some (.ref 1000000), some (.ref 0), some (.ref 198), some (.ref 222), some (.int i), some (.int q36.1), y6], [.int (i + (1 : Int32)), .ref 1000000, .ref 198], (223, (kc + q36.2.2.2), (ks + 6 * q36.2.2.2), pd_H q36.2.2.1 q36.2.1))) rfl ?_
                  obtain ⟨hc37, h⟩ := pd_chk h
                  refine ev_sald pp_law rfl hc37 ?_
                  refine ev_gos pp_law 0 (S' := (305, [some (.ref 1000000), some (.ref 0), some (.ref 198), some (.ref 222), some (.int i), some (.int q36.1), y6], [.int (xs (i + (1 : Int32)).toNatClampNeg), .ref 198], (223, (kc + q36.2.2.2), (ks + 6 * q36.2.2.2), pd_H q36.2.2.1 q36.2.1))) rfl ?_
                  obtain ⟨q38, hq38, h⟩ := pd_bind h
                  refine ev_callv pp_law rfl rfl rfl rfl (s_Mo_lanes hq38) ?_
                  refine ev_gos pp_law 3 (S' := (23, [some (.ref 1000000), some (.ref 0), some (.ref 198), some (.ref 222), some (.int (i + (4 : Int32))), some (.int q36.1), y6], [], (223, (kc + q36.2.2.2), (ks + 6 * q36.2.2.2), pd_H q36.2.2.1 q38))) rfl ?_
                  cases h
                  exact K _ _
                · rw [hb34]
                  rcases pd_cases h with ⟨hb39, h⟩ | ⟨hb39, h⟩
                  · rw [hb39]
                    refine ev_gos pp_law 1 (S' := (312, [some (.ref 1000000), some (.ref 0), some (.ref 198), some (.ref 222), some (.int i), y5, y6], [.ref 0], (223, kc, ks, pd_H g v))) rfl ?_
                    obtain ⟨q40, hq40, h⟩ := pd_bind h
                    refine ev_call pp_law rfl rfl rfl (s_La_start hq40) ?_
                    refine ev_gos pp_law 2 (S' := (318, [some (.ref 1000000), some (.ref 0), some (.ref 198), some (.ref 222), some (.int i), some (.int q40.1), y6], [.ref 198], (223, (kc + q40.2.2.2), (ks + 6 * q40.2.2.2), pd_H q40.2.2.1 q40.2.1))) rfl ?_
                    obtain ⟨q41, hq41, h⟩ := pd_bind h
                    refine ev_callv pp_law rfl rfl rfl rfl (s_Mo_start hq41) ?_
                    refine ev_gos pp_law 3 (S' := (23, [some (.ref 1000000), some (.ref 0), some (.ref 198), some (.ref 222), some (.int (i + (4 : Int32))), some (.int q40.1), y6], [], (223, (kc + q40.2.2.2), (ks + 6 * q40.2.2.2), pd_H q40.2.2.1 q41))) rfl ?_
                    cases h
                    exact K _ _
                  · rw [hb39]
                    rcases pd_cases h with ⟨hb42, h⟩ | ⟨hb42, h⟩
                    · rw [hb42]
                      refine ev_gos pp_law 5 (S' := (330, [some (.ref 1000000), some (.ref 0), some (.ref 198), some (.ref 222), some (.int i), y5, y6], [.int (i + (1 : Int32)), .ref 1000000, .ref 0], (223, kc, ks, pd_H g v))) rfl ?_
                      obtain ⟨hc43, h⟩ := pd_chk h
                      refine ev_sald pp_law rfl hc43 ?_
                      refine ev_gos pp_law 1 (S' := (332, [some (.ref 1000000), some (.ref 0), some (.ref 198), some (.ref 222), some (.int i), y5, y6], [.ref 222, .int (xs (i + (1 : Int32)).toNatClampNeg), .ref 0], (223, kc, ks, pd_H g v))) rfl ?_
                      obtain ⟨q44, hq44, h⟩ := pd_bind h
                      refine ev_call pp_law rfl rfl rfl (s_La_run hq44) ?_
                      refine ev_gos pp_law 6 (S' := (343, [some (.ref 1000000), some (.ref 0), some (.ref 198), some (.ref 222), some (.int i), some (.int q44.1), y6], [.int (i + (1 : Int32)), .ref 1000000, .ref 198], (223, (kc + q44.2.2.2), (ks + 6 * q44.2.2.2), pd_H q44.2.2.1 q44.2.1))) rfl ?_
                      obtain ⟨hc45, h⟩ := pd_chk h
                      refine ev_sald pp_law rfl hc45 ?_
                      refine ev_gos pp_law 0 (S' := (344, [some (.ref 1000000), some (.ref 0), some (.ref 198), some (.ref 222), some (.int i), some (.int q44.1), y6], [.int (xs (i + (1 : Int32)).toNatClampNeg), .ref 198], (223, (kc + q44.2.2.2), (ks + 6 * q44.2.2.2), pd_H q44.2.2.1 q44.2.1))) rfl ?_
                      obtain ⟨q46, hq46, h⟩ := pd_bind h
                      refine ev_callv pp_law rfl rfl rfl rfl (s_Mo_run hq46) ?_
                      refine ev_gos pp_law 4 (S' := (23, [some (.ref 1000000), some (.ref 0), some (.ref 198), some (.ref 222), some (.int (i + (4 : Int32))), some (.int q44.1), some (.int q46.1)], [], (223, (kc + q44.2.2.2), (ks + 6 * q44.2.2.2), pd_H q44.2.2.1 q46.2))) rfl ?_
                      cases h
                      exact K _ _
                    · rw [hb42]
                      rcases pd_cases h with ⟨hb47, h⟩ | ⟨hb47, h⟩
                      · rw [hb47]
                        refine ev_gos pp_law 1 (S' := (353, [some (.ref 1000000), some (.ref 0), some (.ref 198), some (.ref 222), some (.int i), y5, y6], [.ref 0], (223, kc, ks, pd_H g v))) rfl ?_
                        refine ev_callv pp_law rfl rfl rfl rfl (s_De_mask) ?_
                        refine ev_gos pp_law 2 (S' := (358, [some (.ref 1000000), some (.ref 0), some (.ref 198), some (.ref 222), some (.int i), y5, y6], [.ref 198], (223, kc, ks, pd_H g v))) rfl ?_
                        obtain ⟨q49, hq49, h⟩ := pd_bind h
                        refine ev_callv pp_law rfl rfl rfl rfl (s_Mo_mask hq49) ?_
                        refine ev_gos pp_law 4 (S' := (23, [some (.ref 1000000), some (.ref 0), some (.ref 198), some (.ref 222), some (.int (i + (4 : Int32))), y5, y6], [], (223, kc, ks, pd_H g q49.2))) rfl ?_
                        cases h
                        exact K _ _
                      · rw [hb47]
                        rcases pd_cases h with ⟨hb50, h⟩ | ⟨hb50, h⟩
                        · rw [hb50]
                          refine ev_gos pp_law 5 (S' := (371, [some (.ref 1000000), some (.ref 0), some (.ref 198), some (.ref 222), some (.int i), y5, y6], [.int (i + (1 : Int32)), .ref 1000000, .ref 0], (223, kc, ks, pd_H g v))) rfl ?_
                          obtain ⟨hc51, h⟩ := pd_chk h
                          refine ev_sald pp_law rfl hc51 ?_
                          refine ev_gos pp_law 1 (S' := (373, [some (.ref 1000000), some (.ref 0), some (.ref 198), some (.ref 222), some (.int i), y5, y6], [.ref 222, .int (xs (i + (1 : Int32)).toNatClampNeg), .ref 0], (223, kc, ks, pd_H g v))) rfl ?_
                          obtain ⟨q52, hq52, h⟩ := pd_bind h
                          refine ev_call pp_law rfl rfl rfl (s_La_spent hq52) ?_
                          refine ev_gos pp_law 6 (S' := (384, [some (.ref 1000000), some (.ref 0), some (.ref 198), some (.ref 222), some (.int i), some (.int q52.1), y6], [.int (i + (1 : Int32)), .ref 1000000, .ref 198], (223, (kc + q52.2.2.2), (ks + 6 * q52.2.2.2), pd_H q52.2.2.1 q52.2.1))) rfl ?_
                          obtain ⟨hc53, h⟩ := pd_chk h
                          refine ev_sald pp_law rfl hc53 ?_
                          refine ev_gos pp_law 0 (S' := (385, [some (.ref 1000000), some (.ref 0), some (.ref 198), some (.ref 222), some (.int i), some (.int q52.1), y6], [.int (xs (i + (1 : Int32)).toNatClampNeg), .ref 198], (223, (kc + q52.2.2.2), (ks + 6 * q52.2.2.2), pd_H q52.2.2.1 q52.2.1))) rfl ?_
                          obtain ⟨q54, hq54, h⟩ := pd_bind h
                          refine ev_callv pp_law rfl rfl rfl rfl (s_Mo_spent hq54) ?_
                          refine ev_gos pp_law 4 (S' := (23, [some (.ref 1000000), some (.ref 0), some (.ref 198), some (.ref 222), some (.int (i + (4 : Int32))), some (.int q52.1), some (.int q54.1)], [], (223, (kc + q52.2.2.2), (ks + 6 * q52.2.2.2), pd_H q52.2.2.1 q54.2))) rfl ?_
                          cases h
                          exact K _ _
                        · rw [hb50]
                          rcases pd_cases h with ⟨hb55, h⟩ | ⟨hb55, h⟩
                          · rw [hb55]
                            refine ev_gos pp_law 5 (S' := (399, [some (.ref 1000000), some (.ref 0), some (.ref 198), some (.ref 222), some (.int i), y5, y6], [.int (i + (1 : Int32)), .ref 1000000, .ref 0], (223, kc, ks, pd_H g v))) rfl ?_
                            obtain ⟨hc56, h⟩ := pd_chk h
                            refine ev_sald pp_law rfl hc56 ?_
                            refine ev_gos pp_law 1 (S' := (401, [some (.ref 1000000), some (.ref 0), some (.ref 198), some (.ref 222), some (.int i), y5, y6], [.ref 222, .int (xs (i + (1 : Int32)).toNatClampNeg), .ref 0], (223, kc, ks, pd_H g v))) rfl ?_
                            obtain ⟨q57, hq57, h⟩ := pd_bind h
                            refine ev_call pp_law rfl rfl rfl (s_La_alone hq57) ?_
                            refine ev_gos pp_law 6 (S' := (412, [some (.ref 1000000), some (.ref 0), some (.ref 198), some (.ref 222), some (.int i), some (.int q57.1), y6], [.int (i + (1 : Int32)), .ref 1000000, .ref 198], (223, (kc + q57.2.2.2), (ks + 6 * q57.2.2.2), pd_H q57.2.2.1 q57.2.1))) rfl ?_
                            obtain ⟨hc58, h⟩ := pd_chk h
                            refine ev_sald pp_law rfl hc58 ?_
                            refine ev_gos pp_law 0 (S' := (413, [some (.ref 1000000), some (.ref 0), some (.ref 198), some (.ref 222), some (.int i), some (.int q57.1), y6], [.int (xs (i + (1 : Int32)).toNatClampNeg), .ref 198], (223, (kc + q57.2.2.2), (ks + 6 * q57.2.2.2), pd_H q57.2.2.1 q57.2.1))) rfl ?_
                            obtain ⟨q59, hq59, h⟩ := pd_bind h
                            refine ev_callv pp_law rfl rfl rfl rfl (s_Mo_alone hq59) ?_
                            refine ev_gos pp_law 4 (S' := (23, [some (.ref 1000000), some (.ref 0), some (.ref 198), some (.ref 222), some (.int (i + (4 : Int32))), some (.int q57.1), some (.int q59.1)], [], (223, (kc + q57.2.2.2), (ks + 6 * q57.2.2.2), pd_H q57.2.2.1 q59.2))) rfl ?_
                            cases h
                            exact K _ _
                          · rw [hb55]
                            rcases pd_cases h with ⟨hb60, h⟩ | ⟨hb60, h⟩
                            · rw [hb60]
                              refine ev_gos pp_law 5 (S' := (427, [some (.ref 1000000), some (.ref 0), some (.ref 198), some (.ref 222), some (.int i), y5, y6], [.int (i + (1 : Int32)), .ref 1000000, .ref 0], (223, kc, ks, pd_H g v))) rfl ?_
                              obtain ⟨hc61, h⟩ := pd_chk h
                              refine ev_sald pp_law rfl hc61 ?_
                              refine ev_gos pp_law 0 (S' := (428, [some (.ref 1000000), some (.ref 0), some (.ref 198), some (.ref 222), some (.int i), y5, y6], [.int (xs (i + (1 : Int32)).toNatClampNeg), .ref 0], (223, kc, ks, pd_H g v))) rfl ?_
                              refine ev_gos pp_law 1 (S' := (bif decide ((xs (i + (1 : Int32)).toNatClampNeg) = 0) then 435 else 431, [some (.ref 1000000), some (.ref 0), some (.ref 198), some (.ref 222), some (.int i), y5, y6], [.ref 0], (223, kc, ks, pd_H g v))) rfl ?_
                              rcases pd_cases h with ⟨hb62, h⟩ | ⟨hb62, h⟩
                              · rw [hb62]
                                refine ev_gos pp_law 5 (S' := (441, [some (.ref 1000000), some (.ref 0), some (.ref 198), some (.ref 222), some (.int i), y5, y6], [.int (i + (2 : Int32)), .ref 1000000, .int (0 : Int32), .ref 0], (223, kc, ks, pd_H g v))) rfl ?_
                                obtain ⟨hc63, h⟩ := pd_chk h
                                refine ev_sald pp_law rfl hc63 ?_
                                refine ev_gos pp_law 4 (S' := (447, [some (.ref 1000000), some (.ref 0), some (.ref 198), some (.ref 222), some (.int i), y5, y6], [.int (i + (3 : Int32)), .ref 1000000, .int (xs (i + (2 : Int32)).toNatClampNeg), .int (0 : Int32), .ref 0], (223, kc, ks, pd_H g v))) rfl ?_
                                obtain ⟨hc64, h⟩ := pd_chk h
                                refine ev_sald pp_law rfl hc64 ?_
                                refine ev_gos pp_law 1 (S' := (449, [some (.ref 1000000), some (.ref 0), some (.ref 198), some (.ref 222), some (.int i), y5, y6], [.ref 222, .int (xs (i + (3 : Int32)).toNatClampNeg), .int (xs (i + (2 : Int32)).toNatClampNeg), .int (0 : Int32), .ref 0], (223, kc, ks, pd_H g v))) rfl ?_
                                obtain ⟨q65, hq65, h⟩ := pd_bind h
                                refine ev_call pp_law rfl rfl rfl (s_La_lane hq65) ?_
                                refine ev_gos pp_law 6 (S' := (460, [some (.ref 1000000), some (.ref 0), some (.ref 198), some (.ref 222), some (.int i), some (.int q65.1), y6], [.int (i + (1 : Int32)), .ref 1000000, .ref 198], (223, (kc + q65.2.2.2), (ks + 6 * q65.2.2.2), pd_H q65.2.2.1 q65.2.1))) rfl ?_
                                obtain ⟨hc66, h⟩ := pd_chk h
                                refine ev_sald pp_law rfl hc66 ?_
                                refine ev_gos pp_law 0 (S' := (461, [some (.ref 1000000), some (.ref 0), some (.ref 198), some (.ref 222), some (.int i), some (.int q65.1), y6], [.int (xs (i + (1 : Int32)).toNatClampNeg), .ref 198], (223, (kc + q65.2.2.2), (ks + 6 * q65.2.2.2), pd_H q65.2.2.1 q65.2.1))) rfl ?_
                                refine ev_gos pp_law 1 (S' := (bif decide ((xs (i + (1 : Int32)).toNatClampNeg) = 0) then 468 else 464, [some (.ref 1000000), some (.ref 0), some (.ref 198), some (.ref 222), some (.int i), some (.int q65.1), y6], [.ref 198], (223, (kc + q65.2.2.2), (ks + 6 * q65.2.2.2), pd_H q65.2.2.1 q65.2.1))) rfl ?_
                                rcases pd_cases h with ⟨hb67, h⟩ | ⟨hb67, h⟩
                                · rw [hb67]
                                  refine ev_gos pp_law 5 (S' := (474, [some (.ref 1000000), some (.ref 0), some (.ref 198), some (.ref 222), some (.int i), some (.int q65.1), y6], [.int (i + (2 : Int32)), .ref 1000000, .int (0 : Int32), .ref 198], (223, (kc + q65.2.2.2), (ks + 6 * q65.2.2.2), pd_H q65.2.2.1 q65.2.1))) rfl ?_
                                  obtain ⟨hc68, h⟩ := pd_chk h
                                  refine ev_sald pp_law rfl hc68 ?_
                                  refine ev_gos pp_law 4 (S' := (480, [some (.ref 1000000), some (.ref 0), some (.ref 198), some (.ref 222), some (.int i), some (.int q65.1), y6], [.int (i + (3 : Int32)), .ref 1000000, .int (xs (i + (2 : Int32)).toNatClampNeg), .int (0 : Int32), .ref 198], (223, (kc + q65.2.2.2), (ks + 6 * q65.2.2.2), pd_H q65.2.2.1 q65.2.1))) rfl ?_
                                  obtain ⟨hc69, h⟩ := pd_chk h
                                  refine ev_sald pp_law rfl hc69 ?_
                                  refine ev_gos pp_law 0 (S' := (481, [some (.ref 1000000), some (.ref 0), some (.ref 198), some (.ref 222), some (.int i), some (.int q65.1), y6], [.int (xs (i + (3 : Int32)).toNatClampNeg), .int (xs (i + (2 : Int32)).toNatClampNeg), .int (0 : Int32), .ref 198], (223, (kc + q65.2.2.2), (ks + 6 * q65.2.2.2), pd_H q65.2.2.1 q65.2.1))) rfl ?_
                                  obtain ⟨q70, hq70, h⟩ := pd_bind h
                                  refine ev_callv pp_law rfl rfl rfl rfl (s_Mo_lane hq70) ?_
                                  refine ev_gos pp_law 4 (S' := (23, [some (.ref 1000000), some (.ref 0), some (.ref 198), some (.ref 222), some (.int (i + (4 : Int32))), some (.int q65.1), some (.int q70.1)], [], (223, (kc + q65.2.2.2), (ks + 6 * q65.2.2.2), pd_H q65.2.2.1 q70.2))) rfl ?_
                                  cases h
                                  exact K _ _
                                · rw [hb67]
                                  refine ev_gos pp_law 6 (S' := (474, [some (.ref 1000000), some (.ref 0), some (.ref 198), some (.ref 222), some (.int i), some (.int q65.1), y6], [.int (i + (2 : Int32)), .ref 1000000, .int (1 : Int32), .ref 198], (223, (kc + q65.2.2.2), (ks + 6 * q65.2.2.2), pd_H q65.2.2.1 q65.2.1))) rfl ?_
                                  obtain ⟨hc71, h⟩ := pd_chk h
                                  refine ev_sald pp_law rfl hc71 ?_
                                  refine ev_gos pp_law 4 (S' := (480, [some (.ref 1000000), some (.ref 0), some (.ref 198), some (.ref 222), some (.int i), some (.int q65.1), y6], [.int (i + (3 : Int32)), .ref 1000000, .int (xs (i + (2 : Int32)).toNatClampNeg), .int (1 : Int32), .ref 198], (223, (kc + q65.2.2.2), (ks + 6 * q65.2.2.2), pd_H q65.2.2.1 q65.2.1))) rfl ?_
                                  obtain ⟨hc72, h⟩ := pd_chk h
                                  refine ev_sald pp_law rfl hc72 ?_
                                  refine ev_gos pp_law 0 (S' := (481, [some (.ref 1000000), some (.ref 0), some (.ref 198), some (.ref 222), some (.int i), some (.int q65.1), y6], [.int (xs (i + (3 : Int32)).toNatClampNeg), .int (xs (i + (2 : Int32)).toNatClampNeg), .int (1 : Int32), .ref 198], (223, (kc + q65.2.2.2), (ks + 6 * q65.2.2.2), pd_H q65.2.2.1 q65.2.1))) rfl ?_
                                  obtain ⟨q73, hq73, h⟩ := pd_bind h
                                  refine ev_callv pp_law rfl rfl rfl rfl (s_Mo_lane hq73) ?_
                                  refine ev_gos pp_law 4 (S' := (23, [some (.ref 1000000), some (.ref 0), some (.ref 198), some (.ref 222), some (.int (i + (4 : Int32))), some (.int q65.1), some (.int q73.1)], [], (223, (kc + q65.2.2.2), (ks + 6 * q65.2.2.2), pd_H q65.2.2.1 q73.2))) rfl ?_
                                  cases h
                                  exact K _ _
                              · rw [hb62]
                                refine ev_gos pp_law 6 (S' := (441, [some (.ref 1000000), some (.ref 0), some (.ref 198), some (.ref 222), some (.int i), y5, y6], [.int (i + (2 : Int32)), .ref 1000000, .int (1 : Int32), .ref 0], (223, kc, ks, pd_H g v))) rfl ?_
                                obtain ⟨hc74, h⟩ := pd_chk h
                                refine ev_sald pp_law rfl hc74 ?_
                                refine ev_gos pp_law 4 (S' := (447, [some (.ref 1000000), some (.ref 0), some (.ref 198), some (.ref 222), some (.int i), y5, y6], [.int (i + (3 : Int32)), .ref 1000000, .int (xs (i + (2 : Int32)).toNatClampNeg), .int (1 : Int32), .ref 0], (223, kc, ks, pd_H g v))) rfl ?_
                                obtain ⟨hc75, h⟩ := pd_chk h
                                refine ev_sald pp_law rfl hc75 ?_
                                refine ev_gos pp_law 1 (S' := (449, [some (.ref 1000000), some (.ref 0), some (.ref 198), some (.ref 222), some (.int i), y5, y6], [.ref 222, .int (xs (i + (3 : Int32)).toNatClampNeg), .int (xs (i + (2 : Int32)).toNatClampNeg), .int (1 : Int32), .ref 0], (223, kc, ks, pd_H g v))) rfl ?_
                                obtain ⟨q76, hq76, h⟩ := pd_bind h
                                refine ev_call pp_law rfl rfl rfl (s_La_lane hq76) ?_
                                refine ev_gos pp_law 6 (S' := (460, [some (.ref 1000000), some (.ref 0), some (.ref 198), some (.ref 222), some (.int i), some (.int q76.1), y6], [.int (i + (1 : Int32)), .ref 1000000, .ref 198], (223, (kc + q76.2.2.2), (ks + 6 * q76.2.2.2), pd_H q76.2.2.1 q76.2.1))) rfl ?_
                                obtain ⟨hc77, h⟩ := pd_chk h
                                refine ev_sald pp_law rfl hc77 ?_
                                refine ev_gos pp_law 0 (S' := (461, [some (.ref 1000000), some (.ref 0), some (.ref 198), some (.ref 222), some (.int i), some (.int q76.1), y6], [.int (xs (i + (1 : Int32)).toNatClampNeg), .ref 198], (223, (kc + q76.2.2.2), (ks + 6 * q76.2.2.2), pd_H q76.2.2.1 q76.2.1))) rfl ?_
                                refine ev_gos pp_law 1 (S' := (bif decide ((xs (i + (1 : Int32)).toNatClampNeg) = 0) then 468 else 464, [some (.ref 1000000), some (.ref 0), some (.ref 198), some (.ref 222), some (.int i), some (.int q76.1), y6], [.ref 198], (223, (kc + q76.2.2.2), (ks + 6 * q76.2.2.2), pd_H q76.2.2.1 q76.2.1))) rfl ?_
                                rcases pd_cases h with ⟨hb78, h⟩ | ⟨hb78, h⟩
                                · rw [hb78]
                                  refine ev_gos pp_law 5 (S' := (474, [some (.ref 1000000), some (.ref 0), some (.ref 198), some (.ref 222), some (.int i), some (.int q76.1), y6], [.int (i + (2 : Int32)), .ref 1000000, .int (0 : Int32), .ref 198], (223, (kc + q76.2.2.2), (ks + 6 * q76.2.2.2), pd_H q76.2.2.1 q76.2.1))) rfl ?_
                                  obtain ⟨hc79, h⟩ := pd_chk h
                                  refine ev_sald pp_law rfl hc79 ?_
                                  refine ev_gos pp_law 4 (S' := (480, [some (.ref 1000000), some (.ref 0), some (.ref 198), some (.ref 222), some (.int i), some (.int q76.1), y6], [.int (i + (3 : Int32)), .ref 1000000, .int (xs (i + (2 : Int32)).toNatClampNeg), .int (0 : Int32), .ref 198], (223, (kc + q76.2.2.2), (ks + 6 * q76.2.2.2), pd_H q76.2.2.1 q76.2.1))) rfl ?_
                                  obtain ⟨hc80, h⟩ := pd_chk h
                                  refine ev_sald pp_law rfl hc80 ?_
                                  refine ev_gos pp_law 0 (S' := (481, [some (.ref 1000000), some (.ref 0), some (.ref 198), some (.ref 222), some (.int i), some (.int q76.1), y6], [.int (xs (i + (3 : Int32)).toNatClampNeg), .int (xs (i + (2 : Int32)).toNatClampNeg), .int (0 : Int32), .ref 198], (223, (kc + q76.2.2.2), (ks + 6 * q76.2.2.2), pd_H q76.2.2.1 q76.2.1))) rfl ?_
                                  obtain ⟨q81, hq81, h⟩ := pd_bind h
                                  refine ev_callv pp_law rfl rfl rfl rfl (s_Mo_lane hq81) ?_
                                  refine ev_gos pp_law 4 (S' := (23, [some (.ref 1000000), some (.ref 0), some (.ref 198), some (.ref 222), some (.int (i + (4 : Int32))), some (.int q76.1), some (.int q81.1)], [], (223, (kc + q76.2.2.2), (ks + 6 * q76.2.2.2), pd_H q76.2.2.1 q81.2))) rfl ?_
                                  cases h
                                  exact K _ _
                                · rw [hb78]
                                  refine ev_gos pp_law 6 (S' := (474, [some (.ref 1000000), some (.ref 0), some (.ref 198), some (.ref 222), some (.int i), some (.int q76.1), y6], [.int (i + (2 : Int32)), .ref 1000000, .int (1 : Int32), .ref 198], (223, (kc + q76.2.2.2), (ks + 6 * q76.2.2.2), pd_H q76.2.2.1 q76.2.1))) rfl ?_
                                  obtain ⟨hc82, h⟩ := pd_chk h
                                  refine ev_sald pp_law rfl hc82 ?_
                                  refine ev_gos pp_law 4 (S' := (480, [some (.ref 1000000), some (.ref 0), some (.ref 198), some (.ref 222), some (.int i), some (.int q76.1), y6], [.int (i + (3 : Int32)), .ref 1000000, .int (xs (i + (2 : Int32)).toNatClampNeg), .int (1 : Int32), .ref 198], (223, (kc + q76.2.2.2), (ks + 6 * q76.2.2.2), pd_H q76.2.2.1 q76.2.1))) rfl ?_
                                  obtain ⟨hc83, h⟩ := pd_chk h
                                  refine ev_sald pp_law rfl hc83 ?_
                                  refine ev_gos pp_law 0 (S' := (481, [some (.ref 1000000), some (.ref 0), some (.ref 198), some (.ref 222), some (.int i), some (.int q76.1), y6], [.int (xs (i + (3 : Int32)).toNatClampNeg), .int (xs (i + (2 : Int32)).toNatClampNeg), .int (1 : Int32), .ref 198], (223, (kc + q76.2.2.2), (ks + 6 * q76.2.2.2), pd_H q76.2.2.1 q76.2.1))) rfl ?_
                                  obtain ⟨q84, hq84, h⟩ := pd_bind h
                                  refine ev_callv pp_law rfl rfl rfl rfl (s_Mo_lane hq84) ?_
                                  refine ev_gos pp_law 4 (S' := (23, [some (.ref 1000000), some (.ref 0), some (.ref 198), some (.ref 222), some (.int (i + (4 : Int32))), some (.int q76.1), some (.int q84.1)], [], (223, (kc + q76.2.2.2), (ks + 6 * q76.2.2.2), pd_H q76.2.2.1 q84.2))) rfl ?_
                                  cases h
                                  exact K _ _
                            · rw [hb60]
                              rcases pd_cases h with ⟨hb85, h⟩ | ⟨hb85, h⟩
                              · rw [hb85]
                                refine ev_gos pp_law 5 (S' := (495, [some (.ref 1000000), some (.ref 0), some (.ref 198), some (.ref 222), some (.int i), y5, y6], [.int (i + (1 : Int32)), .ref 1000000, .ref 0], (223, kc, ks, pd_H g v))) rfl ?_
                                obtain ⟨hc86, h⟩ := pd_chk h
                                refine ev_sald pp_law rfl hc86 ?_
                                refine ev_gos pp_law 0 (S' := (496, [some (.ref 1000000), some (.ref 0), some (.ref 198), some (.ref 222), some (.int i), y5, y6], [.int (xs (i + (1 : Int32)).toNatClampNeg), .ref 0], (223, kc, ks, pd_H g v))) rfl ?_
                                refine ev_gos pp_law 1 (S' := (bif decide ((xs (i + (1 : Int32)).toNatClampNeg) = 0) then 503 else 499, [some (.ref 1000000), some (.ref 0), some (.ref 198), some (.ref 222), some (.int i), y5, y6], [.ref 0], (223, kc, ks, pd_H g v))) rfl ?_
                                rcases pd_cases h with ⟨hb87, h⟩ | ⟨hb87, h⟩
                                · rw [hb87]
                                  refine ev_gos pp_law 5 (S' := (509, [some (.ref 1000000), some (.ref 0), some (.ref 198), some (.ref 222), some (.int i), y5, y6], [.int (i + (2 : Int32)), .ref 1000000, .int (0 : Int32), .ref 0], (223, kc, ks, pd_H g v))) rfl ?_
                                  obtain ⟨hc88, h⟩ := pd_chk h
                                  refine ev_sald pp_law rfl hc88 ?_
                                  refine ev_gos pp_law 4 (S' := (515, [some (.ref 1000000), some (.ref 0), some (.ref 198), some (.ref 222), some (.int i), y5, y6], [.int (i + (3 : Int32)), .ref 1000000, .int (xs (i + (2 : Int32)).toNatClampNeg), .int (0 : Int32), .ref 0], (223, kc, ks, pd_H g v))) rfl ?_
                                  obtain ⟨hc89, h⟩ := pd_chk h
                                  refine ev_sald pp_law rfl hc89 ?_
                                  refine ev_gos pp_law 1 (S' := (517, [some (.ref 1000000), some (.ref 0), some (.ref 198), some (.ref 222), some (.int i), y5, y6], [.ref 222, .int (xs (i + (3 : Int32)).toNatClampNeg), .int (xs (i + (2 : Int32)).toNatClampNeg), .int (0 : Int32), .ref 0], (223, kc, ks, pd_H g v))) rfl ?_
                                  obtain ⟨q90, hq90, h⟩ := pd_bind h
                                  refine ev_call pp_law rfl rfl rfl (s_La_out hq90) ?_
                                  refine ev_gos pp_law 6 (S' := (528, [some (.ref 1000000), some (.ref 0), some (.ref 198), some (.ref 222), some (.int i), some (.int q90.1), y6], [.int (i + (1 : Int32)), .ref 1000000, .ref 198], (223, (kc + q90.2.2.2), (ks + 6 * q90.2.2.2), pd_H q90.2.2.1 q90.2.1))) rfl ?_
                                  obtain ⟨hc91, h⟩ := pd_chk h
                                  refine ev_sald pp_law rfl hc91 ?_
                                  refine ev_gos pp_law 0 (S' := (529, [some (.ref 1000000), some (.ref 0), some (.ref 198), some (.ref 222), some (.int i), some (.int q90.1), y6], [.int (xs (i + (1 : Int32)).toNatClampNeg), .ref 198], (223, (kc + q90.2.2.2), (ks + 6 * q90.2.2.2), pd_H q90.2.2.1 q90.2.1))) rfl ?_
                                  refine ev_gos pp_law 1 (S' := (bif decide ((xs (i + (1 : Int32)).toNatClampNeg) = 0) then 536 else 532, [some (.ref 1000000), some (.ref 0), some (.ref 198), some (.ref 222), some (.int i), some (.int q90.1), y6], [.ref 198], (223, (kc + q90.2.2.2), (ks + 6 * q90.2.2.2), pd_H q90.2.2.1 q90.2.1))) rfl ?_
                                  rcases pd_cases h with ⟨hb92, h⟩ | ⟨hb92, h⟩
                                  · rw [hb92]
                                    refine ev_gos pp_law 5 (S' := (542, [some (.ref 1000000), some (.ref 0), some (.ref 198), some (.ref 222), some (.int i), some (.int q90.1), y6], [.int (i + (2 : Int32)), .ref 1000000, .int (0 : Int32), .ref 198], (223, (kc + q90.2.2.2), (ks + 6 * q90.2.2.2), pd_H q90.2.2.1 q90.2.1))) rfl ?_
                                    obtain ⟨hc93, h⟩ := pd_chk h
                                    refine ev_sald pp_law rfl hc93 ?_
                                    refine ev_gos pp_law 4 (S' := (548, [some (.ref 1000000), some (.ref 0), some (.ref 198), some (.ref 222), some (.int i), some (.int q90.1), y6], [.int (i + (3 : Int32)), .ref 1000000, .int (xs (i + (2 : Int32)).toNatClampNeg), .int (0 : Int32), .ref 198], (223, (kc + q90.2.2.2), (ks + 6 * q90.2.2.2), pd_H q90.2.2.1 q90.2.1))) rfl ?_
                                    obtain ⟨hc94, h⟩ := pd_chk h
                                    refine ev_sald pp_law rfl hc94 ?_
                                    refine ev_gos pp_law 0 (S' := (549, [some (.ref 1000000), some (.ref 0), some (.ref 198), some (.ref 222), some (.int i), some (.int q90.1), y6], [.int (xs (i + (3 : Int32)).toNatClampNeg), .int (xs (i + (2 : Int32)).toNatClampNeg), .int (0 : Int32), .ref 198], (223, (kc + q90.2.2.2), (ks + 6 * q90.2.2.2), pd_H q90.2.2.1 q90.2.1))) rfl ?_
                                    obtain ⟨q95, hq95, h⟩ := pd_bind h
                                    refine ev_callv pp_law rfl rfl rfl rfl (s_Mo_out hq95) ?_
                                    refine ev_gos pp_law 4 (S' := (23, [some (.ref 1000000), some (.ref 0), some (.ref 198), some (.ref 222), some (.int (i + (4 : Int32))), some (.int q90.1), some (.int q95.1)], [], (223, (kc + q90.2.2.2), (ks + 6 * q90.2.2.2), pd_H q90.2.2.1 q95.2))) rfl ?_
                                    cases h
                                    exact K _ _
                                  · rw [hb92]
                                    refine ev_gos pp_law 6 (S' := (542, [some (.ref 1000000), some (.ref 0), some (.ref 198), some (.ref 222), some (.int i), some (.int q90.1), y6], [.int (i + (2 : Int32)), .ref 1000000, .int (1 : Int32), .ref 198], (223, (kc + q90.2.2.2), (ks + 6 * q90.2.2.2), pd_H q90.2.2.1 q90.2.1))) rfl ?_
                                    obtain ⟨hc96, h⟩ := pd_chk h
                                    refine ev_sald pp_law rfl hc96 ?_
                                    refine ev_gos pp_law 4 (S' := (548, [some (.ref 1000000), some (.ref 0), some (.ref 198), some (.ref 222), some (.int i), some (.int q90.1), y6], [.int (i + (3 : Int32)), .ref 1000000, .int (xs (i + (2 : Int32)).toNatClampNeg), .int (1 : Int32), .ref 198], (223, (kc + q90.2.2.2), (ks + 6 * q90.2.2.2), pd_H q90.2.2.1 q90.2.1))) rfl ?_
                                    obtain ⟨hc97, h⟩ := pd_chk h
                                    refine ev_sald pp_law rfl hc97 ?_
                                    refine ev_gos pp_law 0 (S' := (549, [some (.ref 1000000), some (.ref 0), some (.ref 198), some (.ref 222), some (.int i), some (.int q90.1), y6], [.int (xs (i + (3 : Int32)).toNatClampNeg), .int (xs (i + (2 : Int32)).toNatClampNeg), .int (1 : Int32), .ref 198], (223, (kc + q90.2.2.2), (ks + 6 * q90.2.2.2), pd_H q90.2.2.1 q90.2.1))) rfl ?_
                                    obtain ⟨q98, hq98, h⟩ := pd_bind h
                                    refine ev_callv pp_law rfl rfl rfl rfl (s_Mo_out hq98) ?_
                                    refine ev_gos pp_law 4 (S' := (23, [some (.ref 1000000), some (.ref 0), some (.ref 198), some (.ref 222), some (.int (i + (4 : Int32))), some (.int q90.1), some (.int q98.1)], [], (223, (kc + q90.2.2.2), (ks + 6 * q90.2.2.2), pd_H q90.2.2.1 q98.2))) rfl ?_
                                    cases h
                                    exact K _ _
                                · rw [hb87]
                                  refine ev_gos pp_law 6 (S' := (509, [some (.ref 1000000), some (.ref 0), some (.ref 198), some (.ref 222), some (.int i), y5, y6], [.int (i + (2 : Int32)), .ref 1000000, .int (1 : Int32), .ref 0], (223, kc, ks, pd_H g v))) rfl ?_
                                  obtain ⟨hc99, h⟩ := pd_chk h
                                  refine ev_sald pp_law rfl hc99 ?_
                                  refine ev_gos pp_law 4 (S' := (515, [some (.ref 1000000), some (.ref 0), some (.ref 198), some (.ref 222), some (.int i), y5, y6], [.int (i + (3 : Int32)), .ref 1000000, .int (xs (i + (2 : Int32)).toNatClampNeg), .int (1 : Int32), .ref 0], (223, kc, ks, pd_H g v))) rfl ?_
                                  obtain ⟨hc100, h⟩ := pd_chk h
                                  refine ev_sald pp_law rfl hc100 ?_
                                  refine ev_gos pp_law 1 (S' := (517, [some (.ref 1000000), some (.ref 0), some (.ref 198), some (.ref 222), some (.int i), y5, y6], [.ref 222, .int (xs (i + (3 : Int32)).toNatClampNeg), .int (xs (i + (2 : Int32)).toNatClampNeg), .int (1 : Int32), .ref 0], (223, kc, ks, pd_H g v))) rfl ?_
                                  obtain ⟨q101, hq101, h⟩ := pd_bind h
                                  refine ev_call pp_law rfl rfl rfl (s_La_out hq101) ?_
                                  refine ev_gos pp_law 6 (S' := (528, [some (.ref 1000000), some (.ref 0), some (.ref 198), some (.ref 222), some (.int i), some (.int q101.1), y6], [.int (i + (1 : Int32)), .ref 1000000, .ref 198], (223, (kc + q101.2.2.2), (ks + 6 * q101.2.2.2), pd_H q101.2.2.1 q101.2.1))) rfl ?_
                                  obtain ⟨hc102, h⟩ := pd_chk h
                                  refine ev_sald pp_law rfl hc102 ?_
                                  refine ev_gos pp_law 0 (S' := (529, [some (.ref 1000000), some (.ref 0), some (.ref 198), some (.ref 222), some (.int i), some (.int q101.1), y6], [.int (xs (i + (1 : Int32)).toNatClampNeg), .ref 198], (223, (kc + q101.2.2.2), (ks + 6 * q101.2.2.2), pd_H q101.2.2.1 q101.2.1))) rfl ?_
                                  refine ev_gos pp_law 1 (S' := (bif decide ((xs (i + (1 : Int32)).toNatClampNeg) = 0) then 536 else 532, [some (.ref 1000000), some (.ref 0), some (.ref 198), some (.ref 222), some (.int i), some (.int q101.1), y6], [.ref 198], (223, (kc + q101.2.2.2), (ks + 6 * q101.2.2.2), pd_H q101.2.2.1 q101.2.1))) rfl ?_
                                  rcases pd_cases h with ⟨hb103, h⟩ | ⟨hb103, h⟩
                                  · rw [hb103]
                                    refine ev_gos pp_law 5 (S' := (542, [some (.ref 1000000), some (.ref 0), some (.ref 198), some (.ref 222), some (.int i), some (.int q101.1), y6], [.int (i + (2 : Int32)), .ref 1000000, .int (0 : Int32), .ref 198], (223, (kc + q101.2.2.2), (ks + 6 * q101.2.2.2), pd_H q101.2.2.1 q101.2.1))) rfl ?_
                                    obtain ⟨hc104, h⟩ := pd_chk h
                                    refine ev_sald pp_law rfl hc104 ?_
                                    refine ev_gos pp_law 4 (S' := (548, [some (.ref 1000000), some (.ref 0), some (.ref 198), some (.ref 222), some (.int i), some (.int q101.1), y6], [.int (i + (3 : Int32)), .ref 1000000, .int (xs (i + (2 : Int32)).toNatClampNeg), .int (0 : Int32), .ref 198], (223, (kc + q101.2.2.2), (ks + 6 * q101.2.2.2), pd_H q101.2.2.1 q101.2.1))) rfl ?_
                                    obtain ⟨hc105, h⟩ := pd_chk h
                                    refine ev_sald pp_law rfl hc105 ?_
                                    refine ev_gos pp_law 0 (S' := (549, [some (.ref 1000000), some (.ref 0), some (.ref 198), some (.ref 222), some (.int i), some (.int q101.1), y6], [.int (xs (i + (3 : Int32)).toNatClampNeg), .int (xs (i + (2 : Int32)).toNatClampNeg), .int (0 : Int32), .ref 198], (223, (kc + q101.2.2.2), (ks + 6 * q101.2.2.2), pd_H q101.2.2.1 q101.2.1))) rfl ?_
                                    obtain ⟨q106, hq106, h⟩ := pd_bind h
                                    refine ev_callv pp_law rfl rfl rfl rfl (s_Mo_out hq106) ?_
                                    refine ev_gos pp_law 4 (S' := (23, [some (.ref 1000000), some (.ref 0), some (.ref 198), some (.ref 222), some (.int (i + (4 : Int32))), some (.int q101.1), some (.int q106.1)], [], (223, (kc + q101.2.2.2), (ks + 6 * q101.2.2.2), pd_H q101.2.2.1 q106.2))) rfl ?_
                                    cases h
                                    exact K _ _
                                  · rw [hb103]
                                    refine ev_gos pp_law 6 (S' := (542, [some (.ref 1000000), some (.ref 0), some (.ref 198), some (.ref 222), some (.int i), some (.int q101.1), y6], [.int (i + (2 : Int32)), .ref 1000000, .int (1 : Int32), .ref 198], (223, (kc + q101.2.2.2), (ks + 6 * q101.2.2.2), pd_H q101.2.2.1 q101.2.1))) rfl ?_
                                    obtain ⟨hc107, h⟩ := pd_chk h
                                    refine ev_sald pp_law rfl hc107 ?_
                                    refine ev_gos pp_law 4 (S' := (548, [some (.ref 1000000), some (.ref 0), some (.ref 198), some (.ref 222), some (.int i), some (.int q101.1), y6], [.int (i + (3 : Int32)), .ref 1000000, .int (xs (i + (2 : Int32)).toNatClampNeg), .int (1 : Int32), .ref 198], (223, (kc + q101.2.2.2), (ks + 6 * q101.2.2.2), pd_H q101.2.2.1 q101.2.1))) rfl ?_
                                    obtain ⟨hc108, h⟩ := pd_chk h
                                    refine ev_sald pp_law rfl hc108 ?_
                                    refine ev_gos pp_law 0 (S' := (549, [some (.ref 1000000), some (.ref 0), some (.ref 198), some (.ref 222), some (.int i), some (.int q101.1), y6], [.int (xs (i + (3 : Int32)).toNatClampNeg), .int (xs (i + (2 : Int32)).toNatClampNeg), .int (1 : Int32), .ref 198], (223, (kc + q101.2.2.2), (ks + 6 * q101.2.2.2), pd_H q101.2.2.1 q101.2.1))) rfl ?_
                                    obtain ⟨q109, hq109, h⟩ := pd_bind h
                                    refine ev_callv pp_law rfl rfl rfl rfl (s_Mo_out hq109) ?_
                                    refine ev_gos pp_law 4 (S' := (23, [some (.ref 1000000), some (.ref 0), some (.ref 198), some (.ref 222), some (.int (i + (4 : Int32))), some (.int q101.1), some (.int q109.1)], [], (223, (kc + q101.2.2.2), (ks + 6 * q101.2.2.2), pd_H q101.2.2.1 q109.2))) rfl ?_
                                    cases h
                                    exact K _ _
                              · rw [hb85]
                                rcases pd_cases h with ⟨hb110, h⟩ | ⟨hb110, h⟩
                                · rw [hb110]
                                  refine ev_gos pp_law 5 (S' := (563, [some (.ref 1000000), some (.ref 0), some (.ref 198), some (.ref 222), some (.int i), y5, y6], [.int (i + (1 : Int32)), .ref 1000000, .ref 0], (223, kc, ks, pd_H g v))) rfl ?_
                                  obtain ⟨hc111, h⟩ := pd_chk h
                                  refine ev_sald pp_law rfl hc111 ?_
                                  refine ev_gos pp_law 0 (S' := (564, [some (.ref 1000000), some (.ref 0), some (.ref 198), some (.ref 222), some (.int i), y5, y6], [.int (xs (i + (1 : Int32)).toNatClampNeg), .ref 0], (223, kc, ks, pd_H g v))) rfl ?_
                                  refine ev_gos pp_law 1 (S' := (bif decide ((xs (i + (1 : Int32)).toNatClampNeg) = 0) then 571 else 567, [some (.ref 1000000), some (.ref 0), some (.ref 198), some (.ref 222), some (.int i), y5, y6], [.ref 0], (223, kc, ks, pd_H g v))) rfl ?_
                                  rcases pd_cases h with ⟨hb112, h⟩ | ⟨hb112, h⟩
                                  · rw [hb112]
                                    refine ev_gos pp_law 5 (S' := (577, [some (.ref 1000000), some (.ref 0), some (.ref 198), some (.ref 222), some (.int i), y5, y6], [.int (i + (2 : Int32)), .ref 1000000, .int (0 : Int32), .ref 0], (223, kc, ks, pd_H g v))) rfl ?_
                                    obtain ⟨hc113, h⟩ := pd_chk h
                                    refine ev_sald pp_law rfl hc113 ?_
                                    refine ev_gos pp_law 4 (S' := (583, [some (.ref 1000000), some (.ref 0), some (.ref 198), some (.ref 222), some (.int i), y5, y6], [.int (i + (3 : Int32)), .ref 1000000, .int (xs (i + (2 : Int32)).toNatClampNeg), .int (0 : Int32), .ref 0], (223, kc, ks, pd_H g v))) rfl ?_
                                    obtain ⟨hc114, h⟩ := pd_chk h
                                    refine ev_sald pp_law rfl hc114 ?_
                                    refine ev_gos pp_law 1 (S' := (585, [some (.ref 1000000), some (.ref 0), some (.ref 198), some (.ref 222), some (.int i), y5, y6], [.ref 222, .int (xs (i + (3 : Int32)).toNatClampNeg), .int (xs (i + (2 : Int32)).toNatClampNeg), .int (0 : Int32), .ref 0], (223, kc, ks, pd_H g v))) rfl ?_
                                    obtain ⟨q115, hq115, h⟩ := pd_bind h
                                    refine ev_call pp_law rfl rfl rfl (s_La_cell hq115) ?_
                                    refine ev_gos pp_law 6 (S' := (596, [some (.ref 1000000), some (.ref 0), some (.ref 198), some (.ref 222), some (.int i), some (.int q115.1), y6], [.int (i + (1 : Int32)), .ref 1000000, .ref 198], (223, (kc + q115.2.2.2), (ks + 6 * q115.2.2.2), pd_H q115.2.2.1 q115.2.1))) rfl ?_
                                    obtain ⟨hc116, h⟩ := pd_chk h
                                    refine ev_sald pp_law rfl hc116 ?_
                                    refine ev_gos pp_law 0 (S' := (597, [some (.ref 1000000), some (.ref 0), some (.ref 198), some (.ref 222), some (.int i), some (.int q115.1), y6], [.int (xs (i + (1 : Int32)).toNatClampNeg), .ref 198], (223, (kc + q115.2.2.2), (ks + 6 * q115.2.2.2), pd_H q115.2.2.1 q115.2.1))) rfl ?_
                                    refine ev_gos pp_law 1 (S' := (bif decide ((xs (i + (1 : Int32)).toNatClampNeg) = 0) then 604 else 600, [some (.ref 1000000), some (.ref 0), some (.ref 198), some (.ref 222), some (.int i), some (.int q115.1), y6], [.ref 198], (223, (kc + q115.2.2.2), (ks + 6 * q115.2.2.2), pd_H q115.2.2.1 q115.2.1))) rfl ?_
                                    rcases pd_cases h with ⟨hb117, h⟩ | ⟨hb117, h⟩
                                    · rw [hb117]
                                      refine ev_gos pp_law 5 (S' := (610, [some (.ref 1000000), some (.ref 0), some (.ref 198), some (.ref 222), some (.int i), some (.int q115.1), y6], [.int (i + (2 : Int32)), .ref 1000000, .int (0 : Int32), .ref 198], (223, (kc + q115.2.2.2), (ks + 6 * q115.2.2.2), pd_H q115.2.2.1 q115.2.1))) rfl ?_
                                      obtain ⟨hc118, h⟩ := pd_chk h
                                      refine ev_sald pp_law rfl hc118 ?_
                                      refine ev_gos pp_law 4 (S' := (616, [some (.ref 1000000), some (.ref 0), some (.ref 198), some (.ref 222), some (.int i), some (.int q115.1), y6], [.int (i + (3 : Int32)), .ref 1000000, .int (xs (i + (2 : Int32)).toNatClampNeg), .int (0 : Int32), .ref 198], (223, (kc + q115.2.2.2), (ks + 6 * q115.2.2.2), pd_H q115.2.2.1 q115.2.1))) rfl ?_
                                      obtain ⟨hc119, h⟩ := pd_chk h
                                      refine ev_sald pp_law rfl hc119 ?_
                                      refine ev_gos pp_law 0 (S' := (617, [some (.ref 1000000), some (.ref 0), some (.ref 198), some (.ref 222), some (.int i), some (.int q115.1), y6], [.int (xs (i + (3 : Int32)).toNatClampNeg), .int (xs (i + (2 : Int32)).toNatClampNeg), .int (0 : Int32), .ref 198], (223, (kc + q115.2.2.2), (ks + 6 * q115.2.2.2), pd_H q115.2.2.1 q115.2.1))) rfl ?_
                                      obtain ⟨q120, hq120, h⟩ := pd_bind h
                                      refine ev_callv pp_law rfl rfl rfl rfl (s_Mo_cell hq120) ?_
                                      refine ev_gos pp_law 4 (S' := (23, [some (.ref 1000000), some (.ref 0), some (.ref 198), some (.ref 222), some (.int (i + (4 : Int32))), some (.int q115.1), some (.int q120.1)], [], (223, (kc + q115.2.2.2), (ks + 6 * q115.2.2.2), pd_H q115.2.2.1 q120.2))) rfl ?_
                                      cases h
                                      exact K _ _
                                    · rw [hb117]
                                      refine ev_gos pp_law 6 (S' := (610, [some (.ref 1000000), some (.ref 0), some (.ref 198), some (.ref 222), some (.int i), some (.int q115.1), y6], [.int (i + (2 : Int32)), .ref 1000000, .int (1 : Int32), .ref 198], (223, (kc + q115.2.2.2), (ks + 6 * q115.2.2.2), pd_H q115.2.2.1 q115.2.1))) rfl ?_
                                      obtain ⟨hc121, h⟩ := pd_chk h
                                      refine ev_sald pp_law rfl hc121 ?_
                                      refine ev_gos pp_law 4 (S' := (616, [some (.ref 1000000), some (.ref 0), some (.ref 198), some (.ref 222), some (.int i), some (.int q115.1), y6], [.int (i + (3 : Int32)), .ref 1000000, .int (xs (i + (2 : Int32)).toNatClampNeg), .int (1 : Int32), .ref 198], (223, (kc + q115.2.2.2), (ks + 6 * q115.2.2.2), pd_H q115.2.2.1 q115.2.1))) rfl ?_
                                      obtain ⟨hc122, h⟩ := pd_chk h
                                      refine ev_sald pp_law rfl hc122 ?_
                                      refine ev_gos pp_law 0 (S' := (617, [some (.ref 1000000), some (.ref 0), some (.ref 198), some (.ref 222), some (.int i), some (.int q115.1), y6], [.int (xs (i + (3 : Int32)).toNatClampNeg), .int (xs (i + (2 : Int32)).toNatClampNeg), .int (1 : Int32), .ref 198], (223, (kc + q115.2.2.2), (ks + 6 * q115.2.2.2), pd_H q115.2.2.1 q115.2.1))) rfl ?_
                                      obtain ⟨q123, hq123, h⟩ := pd_bind h
                                      refine ev_callv pp_law rfl rfl rfl rfl (s_Mo_cell hq123) ?_
                                      refine ev_gos pp_law 4 (S' := (23, [some (.ref 1000000), some (.ref 0), some (.ref 198), some (.ref 222), some (.int (i + (4 : Int32))), some (.int q115.1), some (.int q123.1)], [], (223, (kc + q115.2.2.2), (ks + 6 * q115.2.2.2), pd_H q115.2.2.1 q123.2))) rfl ?_
                                      cases h
                                      exact K _ _
                                  · rw [hb112]
                                    refine ev_gos pp_law 6 (S' := (577, [some (.ref 1000000), some (.ref 0), some (.ref 198), some (.ref 222), some (.int i), y5, y6], [.int (i + (2 : Int32)), .ref 1000000, .int (1 : Int32), .ref 0], (223, kc, ks, pd_H g v))) rfl ?_
                                    obtain ⟨hc124, h⟩ := pd_chk h
                                    refine ev_sald pp_law rfl hc124 ?_
                                    refine ev_gos pp_law 4 (S' := (583, [some (.ref 1000000), some (.ref 0), some (.ref 198), some (.ref 222), some (.int i), y5, y6], [.int (i + (3 : Int32)), .ref 1000000, .int (xs (i + (2 : Int32)).toNatClampNeg), .int (1 : Int32), .ref 0], (223, kc, ks, pd_H g v))) rfl ?_
                                    obtain ⟨hc125, h⟩ := pd_chk h
                                    refine ev_sald pp_law rfl hc125 ?_
                                    refine ev_gos pp_law 1 (S' := (585, [some (.ref 1000000), some (.ref 0), some (.ref 198), some (.ref 222), some (.int i), y5, y6], [.ref 222, .int (xs (i + (3 : Int32)).toNatClampNeg), .int (xs (i + (2 : Int32)).toNatClampNeg), .int (1 : Int32), .ref 0], (223, kc, ks, pd_H g v))) rfl ?_
                                    obtain ⟨q126, hq126, h⟩ := pd_bind h
                                    refine ev_call pp_law rfl rfl rfl (s_La_cell hq126) ?_
                                    refine ev_gos pp_law 6 (S' := (596, [some (.ref 1000000), some (.ref 0), some (.ref 198), some (.ref 222), some (.int i), some (.int q126.1), y6], [.int (i + (1 : Int32)), .ref 1000000, .ref 198], (223, (kc + q126.2.2.2), (ks + 6 * q126.2.2.2), pd_H q126.2.2.1 q126.2.1))) rfl ?_
                                    obtain ⟨hc127, h⟩ := pd_chk h
                                    refine ev_sald pp_law rfl hc127 ?_
                                    refine ev_gos pp_law 0 (S' := (597, [some (.ref 1000000), some (.ref 0), some (.ref 198), some (.ref 222), some (.int i), some (.int q126.1), y6], [.int (xs (i + (1 : Int32)).toNatClampNeg), .ref 198], (223, (kc + q126.2.2.2), (ks + 6 * q126.2.2.2), pd_H q126.2.2.1 q126.2.1))) rfl ?_
                                    refine ev_gos pp_law 1 (S' := (bif decide ((xs (i + (1 : Int32)).toNatClampNeg) = 0) then 604 else 600, [some (.ref 1000000), some (.ref 0), some (.ref 198), some (.ref 222), some (.int i), some (.int q126.1), y6], [.ref 198], (223, (kc + q126.2.2.2), (ks + 6 * q126.2.2.2), pd_H q126.2.2.1 q126.2.1))) rfl ?_
                                    rcases pd_cases h with ⟨hb128, h⟩ | ⟨hb128, h⟩
                                    · rw [hb128]
                                      refine ev_gos pp_law 5 (S' := (610, [some (.ref 1000000), some (.ref 0), some (.ref 198), some (.ref 222), some (.int i), some (.int q126.1), y6], [.int (i + (2 : Int32)), .ref 1000000, .int (0 : Int32), .ref 198], (223, (kc + q126.2.2.2), (ks + 6 * q126.2.2.2), pd_H q126.2.2.1 q126.2.1))) rfl ?_
                                      obtain ⟨hc129, h⟩ := pd_chk h
                                      refine ev_sald pp_law rfl hc129 ?_
                                      refine ev_gos pp_law 4 (S' := (616, [some (.ref 1000000), some (.ref 0), some (.ref 198), some (.ref 222), some (.int i), some (.int q126.1), y6], [.int (i + (3 : Int32)), .ref 1000000, .int (xs (i + (2 : Int32)).toNatClampNeg), .int (0 : Int32), .ref 198], (223, (kc + q126.2.2.2), (ks + 6 * q126.2.2.2), pd_H q126.2.2.1 q126.2.1))) rfl ?_
                                      obtain ⟨hc130, h⟩ := pd_chk h
                                      refine ev_sald pp_law rfl hc130 ?_
                                      refine ev_gos pp_law 0 (S' := (617, [some (.ref 1000000), some (.ref 0), some (.ref 198), some (.ref 222), some (.int i), some (.int q126.1), y6], [.int (xs (i + (3 : Int32)).toNatClampNeg), .int (xs (i + (2 : Int32)).toNatClampNeg), .int (0 : Int32), .ref 198], (223, (kc + q126.2.2.2), (ks + 6 * q126.2.2.2), pd_H q126.2.2.1 q126.2.1))) rfl ?_
                                      obtain ⟨q131, hq131, h⟩ := pd_bind h
                                      refine ev_callv pp_law rfl rfl rfl rfl (s_Mo_cell hq131) ?_
                                      refine ev_gos pp_law 4 (S' := (23, [some (.ref 1000000), some (.ref 0), some (.ref 198), some (.ref 222), some (.int (i + (4 : Int32))), some (.int q126.1), some (.int q131.1)], [], (223, (kc + q126.2.2.2), (ks + 6 * q126.2.2.2), pd_H q126.2.2.1 q131.2))) rfl ?_
                                      cases h
                                      exact K _ _
                                    · rw [hb128]
                                      refine ev_gos pp_law 6 (S' := (610, [some (.ref 1000000), some (.ref 0), some (.ref 198), some (.ref 222), some (.int i), some (.int q126.1), y6], [.int (i + (2 : Int32)), .ref 1000000, .int (1 : Int32), .ref 198], (223, (kc + q126.2.2.2), (ks + 6 * q126.2.2.2), pd_H q126.2.2.1 q126.2.1))) rfl ?_
                                      obtain ⟨hc132, h⟩ := pd_chk h
                                      refine ev_sald pp_law rfl hc132 ?_
                                      refine ev_gos pp_law 4 (S' := (616, [some (.ref 1000000), some (.ref 0), some (.ref 198), some (.ref 222), some (.int i), some (.int q126.1), y6], [.int (i + (3 : Int32)), .ref 1000000, .int (xs (i + (2 : Int32)).toNatClampNeg), .int (1 : Int32), .ref 198], (223, (kc + q126.2.2.2), (ks + 6 * q126.2.2.2), pd_H q126.2.2.1 q126.2.1))) rfl ?_
                                      obtain ⟨hc133, h⟩ := pd_chk h
                                      refine ev_sald pp_law rfl hc133 ?_
                                      refine ev_gos pp_law 0 (S' := (617, [some (.ref 1000000), some (.ref 0), some (.ref 198), some (.ref 222), some (.int i), some (.int q126.1), y6], [.int (xs (i + (3 : Int32)).toNatClampNeg), .int (xs (i + (2 : Int32)).toNatClampNeg), .int (1 : Int32), .ref 198], (223, (kc + q126.2.2.2), (ks + 6 * q126.2.2.2), pd_H q126.2.2.1 q126.2.1))) rfl ?_
                                      obtain ⟨q134, hq134, h⟩ := pd_bind h
                                      refine ev_callv pp_law rfl rfl rfl rfl (s_Mo_cell hq134) ?_
                                      refine ev_gos pp_law 4 (S' := (23, [some (.ref 1000000), some (.ref 0), some (.ref 198), some (.ref 222), some (.int (i + (4 : Int32))), some (.int q126.1), some (.int q134.1)], [], (223, (kc + q126.2.2.2), (ks + 6 * q126.2.2.2), pd_H q126.2.2.1 q134.2))) rfl ?_
                                      cases h
                                      exact K _ _
                                · rw [hb110]
                                  refine ev_gos pp_law 2 (S' := (23, [some (.ref 1000000), some (.ref 0), some (.ref 198), some (.ref 222), some (.int (i + (4 : Int32))), y5, y6], [], (223, kc, ks, pd_H g v))) rfl ?_
                                  cases h
                                  exact K _ _
end LS9
