section LS9
variable {xs : Nat → Int32} {L : Nat} {g : Nat → Int64} {d kc ks : Nat}
theorem pp_law {xs : Nat → Int32} {L : Nat} : (pj_P xs L 0).1 = fun S => pm_look (tb_law xs L) S.1 S := rfl
def d_law (w : Nat) (xs : Nat → Int32) (L : Nat) (i : Int32) (v : pd_V) (g : Nat → Int64) : Option ((pd_V × (Nat → Int64) × Nat) ⊕ Int32) :=
  bif decide (((Int32.ofNat L) - (4 : Int32)) < i) then
    some (Sum.inr (1 : Int32))
  else
    bif pm_in i L then
    bif decide (((xs i.toNatClampNeg) &&& (15 : Int32)) = (0 : Int32)) then
      bif pm_in (i + (1 : Int32)) L then
      bif pm_in (i + (2 : Int32)) L then
      bif pm_in (i + (3 : Int32)) L then
      (d_La_type w ((((xs (i + (1 : Int32)).toNatClampNeg).toInt64) <<< ((32 : Int32).toInt64 &&& 63)) ||| (((xs (i + (2 : Int32)).toNatClampNeg).toInt64) &&& (4294967295 : Int64))) (xs (i + (3 : Int32)).toNatClampNeg) v g).bind fun q7 =>
      bif pm_in (i + (1 : Int32)) L then
      bif pm_in (i + (2 : Int32)) L then
      bif pm_in (i + (3 : Int32)) L then
      (d_Mo_type w ((((xs (i + (1 : Int32)).toNatClampNeg).toInt64) <<< ((32 : Int32).toInt64 &&& 63)) ||| (((xs (i + (2 : Int32)).toNatClampNeg).toInt64) &&& (4294967295 : Int64))) (xs (i + (3 : Int32)).toNatClampNeg) q7.2.1).bind fun q11 =>
      some (Sum.inl (q11.2, q7.2.2.1, q7.2.2.2))
      else none
      else none
      else none
      else none
      else none
      else none
    else
      bif decide (((xs i.toNatClampNeg) &&& (15 : Int32)) = (1 : Int32)) then
        (d_De_clear v).bind fun q13 =>
        (d_Mo_clear q13).bind fun q14 =>
        some (Sum.inl (q14, g, 0))
      else
        bif decide (((xs i.toNatClampNeg) &&& (15 : Int32)) = (2 : Int32)) then
          (d_De_compile w v).bind fun q16 =>
          (d_Mo_compile w q16.2).bind fun q17 =>
          some (Sum.inl (q17.2, g, 0))
        else
          bif decide (((xs i.toNatClampNeg) &&& (15 : Int32)) = (3 : Int32)) then
            (d_Mo_place v).bind fun q20 =>
            some (Sum.inl (q20.2, g, 0))
          else
            bif decide (((xs i.toNatClampNeg) &&& (15 : Int32)) = (4 : Int32)) then
              bif pm_in (i + (1 : Int32)) L then
              (d_La_varies (xs (i + (1 : Int32)).toNatClampNeg) v g).bind fun q23 =>
              bif pm_in (i + (1 : Int32)) L then
              (d_Mo_varies (xs (i + (1 : Int32)).toNatClampNeg) q23.2.1).bind fun q25 =>
              bif decide ((d_Mo_thrown q25.2) = q23.1) then
                bif !(decide (q23.1 = 0)) then
                  some (Sum.inl (q25.2, q23.2.2.1, q23.2.2.2))
                else
                  bif decide (q25.1 = 0) then
                    bif decide ((lg_cmp (q23.2.2.1 0) (0 : Int64)) = 0) then
                      some (Sum.inl (q25.2, q23.2.2.1, q23.2.2.2))
                    else
                      some (Sum.inr (0 : Int32))
                  else
                    bif decide ((lg_cmp (q23.2.2.1 0) (1 : Int64)) = 0) then
                      some (Sum.inl (q25.2, q23.2.2.1, q23.2.2.2))
                    else
                      some (Sum.inr (0 : Int32))
              else
                some (Sum.inr (0 : Int32))
              else none
              else none
            else
              bif decide (((xs i.toNatClampNeg) &&& (15 : Int32)) = (5 : Int32)) then
                bif pm_in (i + (1 : Int32)) L then
                bif pm_in (i + (2 : Int32)) L then
                (d_La_input (xs (i + (1 : Int32)).toNatClampNeg) (xs (i + (2 : Int32)).toNatClampNeg) v g).bind fun q35 =>
                bif pm_in (i + (1 : Int32)) L then
                bif pm_in (i + (2 : Int32)) L then
                (d_Mo_input (xs (i + (1 : Int32)).toNatClampNeg) (xs (i + (2 : Int32)).toNatClampNeg) q35.2.1).bind fun q38 =>
                some (Sum.inl (q38, q35.2.2.1, q35.2.2.2))
                else none
                else none
                else none
                else none
              else
                bif decide (((xs i.toNatClampNeg) &&& (15 : Int32)) = (6 : Int32)) then
                  bif pm_in (i + (1 : Int32)) L then
                  (d_La_lanes (xs (i + (1 : Int32)).toNatClampNeg) v g).bind fun q41 =>
                  bif pm_in (i + (1 : Int32)) L then
                  (d_Mo_lanes (xs (i + (1 : Int32)).toNatClampNeg) q41.2.1).bind fun q43 =>
                  some (Sum.inl (q43, q41.2.2.1, q41.2.2.2))
                  else none
                  else none
                else
                  bif decide (((xs i.toNatClampNeg) &&& (15 : Int32)) = (7 : Int32)) then
                    (d_La_start w v g).bind fun q45 =>
                    (d_Mo_start w q45.2.1).bind fun q46 =>
                    some (Sum.inl (q46, q45.2.2.1, q45.2.2.2))
                  else
                    bif decide (((xs i.toNatClampNeg) &&& (15 : Int32)) = (8 : Int32)) then
                      bif pm_in (i + (1 : Int32)) L then
                      (d_La_run w (xs (i + (1 : Int32)).toNatClampNeg) v g).bind fun q49 =>
                      bif pm_in (i + (1 : Int32)) L then
                      (d_Mo_run w (xs (i + (1 : Int32)).toNatClampNeg) q49.2.1).bind fun q51 =>
                      some (Sum.inl (q51.2, q49.2.2.1, q49.2.2.2))
                      else none
                      else none
                    else
                      bif decide (((xs i.toNatClampNeg) &&& (15 : Int32)) = (9 : Int32)) then
                        (d_Mo_mask v).bind fun q54 =>
                        some (Sum.inl (q54.2, g, 0))
                      else
                        bif decide (((xs i.toNatClampNeg) &&& (15 : Int32)) = (10 : Int32)) then
                          bif pm_in (i + (1 : Int32)) L then
                          (d_La_spent (xs (i + (1 : Int32)).toNatClampNeg) v g).bind fun q57 =>
                          bif pm_in (i + (1 : Int32)) L then
                          (d_Mo_spent (xs (i + (1 : Int32)).toNatClampNeg) q57.2.1).bind fun q59 =>
                          some (Sum.inl (q59.2, q57.2.2.1, q57.2.2.2))
                          else none
                          else none
                        else
                          bif decide (((xs i.toNatClampNeg) &&& (15 : Int32)) = (11 : Int32)) then
                            bif pm_in (i + (1 : Int32)) L then
                            (d_La_alone w (xs (i + (1 : Int32)).toNatClampNeg) v g).bind fun q62 =>
                            bif pm_in (i + (1 : Int32)) L then
                            (d_Mo_alone w (xs (i + (1 : Int32)).toNatClampNeg) q62.2.1).bind fun q64 =>
                            some (Sum.inl (q64.2, q62.2.2.1, q62.2.2.2))
                            else none
                            else none
                          else
                            bif decide (((xs i.toNatClampNeg) &&& (15 : Int32)) = (12 : Int32)) then
                              bif pm_in (i + (1 : Int32)) L then
                              bif decide ((xs (i + (1 : Int32)).toNatClampNeg) = 0) then
                                bif pm_in (i + (2 : Int32)) L then
                                bif pm_in (i + (3 : Int32)) L then
                                (d_La_lane (0 : Int32) (xs (i + (2 : Int32)).toNatClampNeg) (xs (i + (3 : Int32)).toNatClampNeg) v g).bind fun q70 =>
                                bif pm_in (i + (1 : Int32)) L then
                                bif decide ((xs (i + (1 : Int32)).toNatClampNeg) = 0) then
                                  bif pm_in (i + (2 : Int32)) L then
                                  bif pm_in (i + (3 : Int32)) L then
                                  (d_Mo_lane (0 : Int32) (xs (i + (2 : Int32)).toNatClampNeg) (xs (i + (3 : Int32)).toNatClampNeg) q70.2.1).bind fun q75 =>
                                  some (Sum.inl (q75.2, q70.2.2.1, q70.2.2.2))
                                  else none
                                  else none
                                else
                                  bif pm_in (i + (2 : Int32)) L then
                                  bif pm_in (i + (3 : Int32)) L then
                                  (d_Mo_lane (1 : Int32) (xs (i + (2 : Int32)).toNatClampNeg) (xs (i + (3 : Int32)).toNatClampNeg) q70.2.1).bind fun q78 =>
                                  some (Sum.inl (q78.2, q70.2.2.1, q70.2.2.2))
                                  else none
                                  else none
                                else none
                                else none
                                else none
                              else
                                bif pm_in (i + (2 : Int32)) L then
                                bif pm_in (i + (3 : Int32)) L then
                                (d_La_lane (1 : Int32) (xs (i + (2 : Int32)).toNatClampNeg) (xs (i + (3 : Int32)).toNatClampNeg) v g).bind fun q81 =>
                                bif pm_in (i + (1 : Int32)) L then
                                bif decide ((xs (i + (1 : Int32)).toNatClampNeg) = 0) then
                                  bif pm_in (i + (2 : Int32)) L then
                                  bif pm_in (i + (3 : Int32)) L then
                                  (d_Mo_lane (0 : Int32) (xs (i + (2 : Int32)).toNatClampNeg) (xs (i + (3 : Int32)).toNatClampNeg) q81.2.1).bind fun q86 =>
                                  some (Sum.inl (q86.2, q81.2.2.1, q81.2.2.2))
                                  else none
                                  else none
                                else
                                  bif pm_in (i + (2 : Int32)) L then
                                  bif pm_in (i + (3 : Int32)) L then
                                  (d_Mo_lane (1 : Int32) (xs (i + (2 : Int32)).toNatClampNeg) (xs (i + (3 : Int32)).toNatClampNeg) q81.2.1).bind fun q89 =>
                                  some (Sum.inl (q89.2, q81.2.2.1, q81.2.2.2))
                                  else none
                                  else none
                                else none
                                else none
                                else none
                              else none
                            else
                              bif decide (((xs i.toNatClampNeg) &&& (15 : Int32)) = (13 : Int32)) then
                                bif pm_in (i + (1 : Int32)) L then
                                bif decide ((xs (i + (1 : Int32)).toNatClampNeg) = 0) then
                                  bif pm_in (i + (2 : Int32)) L then
                                  bif pm_in (i + (3 : Int32)) L then
                                  (d_La_out (0 : Int32) (xs (i + (2 : Int32)).toNatClampNeg) (xs (i + (3 : Int32)).toNatClampNeg) v g).bind fun q95 =>
                                  bif pm_in (i + (1 : Int32)) L then
                                  bif decide ((xs (i + (1 : Int32)).toNatClampNeg) = 0) then
                                    bif pm_in (i + (2 : Int32)) L then
                                    bif pm_in (i + (3 : Int32)) L then
                                    (d_Mo_out (0 : Int32) (xs (i + (2 : Int32)).toNatClampNeg) (xs (i + (3 : Int32)).toNatClampNeg) q95.2.1).bind fun q100 =>
                                    some (Sum.inl (q100.2, q95.2.2.1, q95.2.2.2))
                                    else none
                                    else none
                                  else
                                    bif pm_in (i + (2 : Int32)) L then
                                    bif pm_in (i + (3 : Int32)) L then
                                    (d_Mo_out (1 : Int32) (xs (i + (2 : Int32)).toNatClampNeg) (xs (i + (3 : Int32)).toNatClampNeg) q95.2.1).bind fun q103 =>
                                    some (Sum.inl (q103.2, q95.2.2.1, q95.2.2.2))
                                    else none
                                    else none
                                  else none
                                  else none
                                  else none
                                else
                                  bif pm_in (i + (2 : Int32)) L then
                                  bif pm_in (i + (3 : Int32)) L then
                                  (d_La_out (1 : Int32) (xs (i + (2 : Int32)).toNatClampNeg) (xs (i + (3 : Int32)).toNatClampNeg) v g).bind fun q106 =>
                                  bif pm_in (i + (1 : Int32)) L then
                                  bif decide ((xs (i + (1 : Int32)).toNatClampNeg) = 0) then
                                    bif pm_in (i + (2 : Int32)) L then
                                    bif pm_in (i + (3 : Int32)) L then
                                    (d_Mo_out (0 : Int32) (xs (i + (2 : Int32)).toNatClampNeg) (xs (i + (3 : Int32)).toNatClampNeg) q106.2.1).bind fun q111 =>
                                    some (Sum.inl (q111.2, q106.2.2.1, q106.2.2.2))
                                    else none
                                    else none
                                  else
                                    bif pm_in (i + (2 : Int32)) L then
                                    bif pm_in (i + (3 : Int32)) L then
                                    (d_Mo_out (1 : Int32) (xs (i + (2 : Int32)).toNatClampNeg) (xs (i + (3 : Int32)).toNatClampNeg) q106.2.1).bind fun q114 =>
                                    some (Sum.inl (q114.2, q106.2.2.1, q106.2.2.2))
                                    else none
                                    else none
                                  else none
                                  else none
                                  else none
                                else none
                              else
                                bif decide (((xs i.toNatClampNeg) &&& (15 : Int32)) = (14 : Int32)) then
                                  bif pm_in (i + (1 : Int32)) L then
                                  bif decide ((xs (i + (1 : Int32)).toNatClampNeg) = 0) then
                                    bif pm_in (i + (2 : Int32)) L then
                                    bif pm_in (i + (3 : Int32)) L then
                                    (d_La_cell (0 : Int32) (xs (i + (2 : Int32)).toNatClampNeg) (xs (i + (3 : Int32)).toNatClampNeg) v g).bind fun q120 =>
                                    bif pm_in (i + (1 : Int32)) L then
                                    bif decide ((xs (i + (1 : Int32)).toNatClampNeg) = 0) then
                                      bif pm_in (i + (2 : Int32)) L then
                                      bif pm_in (i + (3 : Int32)) L then
                                      (d_Mo_cell (0 : Int32) (xs (i + (2 : Int32)).toNatClampNeg) (xs (i + (3 : Int32)).toNatClampNeg) q120.2.1).bind fun q125 =>
                                      some (Sum.inl (q125.2, q120.2.2.1, q120.2.2.2))
                                      else none
                                      else none
                                    else
                                      bif pm_in (i + (2 : Int32)) L then
                                      bif pm_in (i + (3 : Int32)) L then
                                      (d_Mo_cell (1 : Int32) (xs (i + (2 : Int32)).toNatClampNeg) (xs (i + (3 : Int32)).toNatClampNeg) q120.2.1).bind fun q128 =>
                                      some (Sum.inl (q128.2, q120.2.2.1, q120.2.2.2))
                                      else none
                                      else none
                                    else none
                                    else none
                                    else none
                                  else
                                    bif pm_in (i + (2 : Int32)) L then
                                    bif pm_in (i + (3 : Int32)) L then
                                    (d_La_cell (1 : Int32) (xs (i + (2 : Int32)).toNatClampNeg) (xs (i + (3 : Int32)).toNatClampNeg) v g).bind fun q131 =>
                                    bif pm_in (i + (1 : Int32)) L then
                                    bif decide ((xs (i + (1 : Int32)).toNatClampNeg) = 0) then
                                      bif pm_in (i + (2 : Int32)) L then
                                      bif pm_in (i + (3 : Int32)) L then
                                      (d_Mo_cell (0 : Int32) (xs (i + (2 : Int32)).toNatClampNeg) (xs (i + (3 : Int32)).toNatClampNeg) q131.2.1).bind fun q136 =>
                                      some (Sum.inl (q136.2, q131.2.2.1, q131.2.2.2))
                                      else none
                                      else none
                                    else
                                      bif pm_in (i + (2 : Int32)) L then
                                      bif pm_in (i + (3 : Int32)) L then
                                      (d_Mo_cell (1 : Int32) (xs (i + (2 : Int32)).toNatClampNeg) (xs (i + (3 : Int32)).toNatClampNeg) q131.2.1).bind fun q139 =>
                                      some (Sum.inl (q139.2, q131.2.2.1, q131.2.2.2))
                                      else none
                                      else none
                                    else none
                                    else none
                                    else none
                                  else none
                                else
                                  some (Sum.inl (v, g, 0))
    else none
set_option maxRecDepth 100000 in
set_option maxHeartbeats 4000000 in
theorem s_law {w : Nat} {i : Int32} {v : pd_V} {y5 y6 : Option Value} {q : pd_V × (Nat → Int64) × Nat} {o : pm_O} (h : d_law w xs L i v g = some (Sum.inl q)) (K : ∀ y5 y6 : Option Value, pm_ev (pj_P xs L) (d + 23) 0 (23, [some (.ref 1000000), some (.ref 0), some (.ref 198), some (.ref 222), some (.int (i + (4 : Int32))), y5, y6], [], (223, kc + q.2.2, ks + 6 * q.2.2, pd_H q.2.1 q.1)) o) : pm_ev (pj_P xs L) (d + 23) 0 (23, [some (.ref 1000000), some (.ref 0), some (.ref 198), some (.ref 222), some (.int i), y5, y6], [], (223, kc, ks, pd_H g v)) o := by
  unfold d_law at h
  refine ev_gos pp_law 5 (S' := (29, [some (.ref 1000000), some (.ref 0), some (.ref 198), some (.ref 222), some (.int i), y5, y6], [.int ((Int32.ofNat L) - (4 : Int32)), .int i], (223, kc, ks, pd_H g v))) rfl ?_
  refine ev_gos pp_law 1 (S' := (bif decide (((Int32.ofNat L) - (4 : Int32)) < i) then 666 else 32, [some (.ref 1000000), some (.ref 0), some (.ref 198), some (.ref 222), some (.int i), y5, y6], [], (223, kc, ks, pd_H g v))) rfl ?_
  rcases pd_cases h with ⟨hb1, h⟩ | ⟨hb1, h⟩
  · rw [hb1]
    refine ev_gos pp_law 1 (S' := (667, [some (.ref 1000000), some (.ref 0), some (.ref 198), some (.ref 222), some (.int i), y5, y6], [.int (1 : Int32)], (223, kc, ks, pd_H g v))) rfl ?_
    exact nomatch h
  · rw [hb1]
    refine ev_gos pp_law 2 (S' := (35, [some (.ref 1000000), some (.ref 0), some (.ref 198), some (.ref 222), some (.int i), y5, y6], [.int i, .ref 1000000], (223, kc, ks, pd_H g v))) rfl ?_
    obtain ⟨hc2, h⟩ := pd_chk h
    refine ev_sald pp_law rfl hc2 ?_
    refine ev_gos pp_law 2 (S' := (39, [some (.ref 1000000), some (.ref 0), some (.ref 198), some (.ref 222), some (.int i), y5, y6], [.int ((xs i.toNatClampNeg) &&& (15 : Int32))], (223, kc, ks, pd_H g v))) rfl ?_
    refine ev_gos pp_law 1 (S' := (bif decide (((xs i.toNatClampNeg) &&& (15 : Int32)) = (0 : Int32)) then 112 else bif decide (((xs i.toNatClampNeg) &&& (15 : Int32)) = (1 : Int32)) then 184 else bif decide (((xs i.toNatClampNeg) &&& (15 : Int32)) = (2 : Int32)) then 195 else bif decide (((xs i.toNatClampNeg) &&& (15 : Int32)) = (3 : Int32)) then 208 else bif decide (((xs i.toNatClampNeg) &&& (15 : Int32)) = (4 : Int32)) then 221 else bif decide (((xs i.toNatClampNeg) &&& (15 : Int32)) = (5 : Int32)) then 284 else bif decide (((xs i.toNatClampNeg) &&& (15 : Int32)) = (6 : Int32)) then 321 else bif decide (((xs i.toNatClampNeg) &&& (15 : Int32)) = (7 : Int32)) then 346 else bif decide (((xs i.toNatClampNeg) &&& (15 : Int32)) = (8 : Int32)) then 359 else bif decide (((xs i.toNatClampNeg) &&& (15 : Int32)) = (9 : Int32)) then 387 else bif decide (((xs i.toNatClampNeg) &&& (15 : Int32)) = (10 : Int32)) then 400 else bif decide (((xs i.toNatClampNeg) &&& (15 : Int32)) = (11 : Int32)) then 428 else bif decide (((xs i.toNatClampNeg) &&& (15 : Int32)) = (12 : Int32)) then 456 else bif decide (((xs i.toNatClampNeg) &&& (15 : Int32)) = (13 : Int32)) then 524 else bif decide (((xs i.toNatClampNeg) &&& (15 : Int32)) = (14 : Int32)) then 592 else 660, [some (.ref 1000000), some (.ref 0), some (.ref 198), some (.ref 222), some (.int i), y5, y6], [], (223, kc, ks, pd_H g v))) rfl ?_
    rcases pd_cases h with ⟨hb3, h⟩ | ⟨hb3, h⟩
    · rw [hb3]
      refine ev_gos pp_law 5 (S' := (118, [some (.ref 1000000), some (.ref 0), some (.ref 198), some (.ref 222), some (.int i), y5, y6], [.int (i + (1 : Int32)), .ref 1000000, .ref 0], (223, kc, ks, pd_H g v))) rfl ?_
      obtain ⟨hc4, h⟩ := pd_chk h
      refine ev_sald pp_law rfl hc4 ?_
      refine ev_gos pp_law 7 (S' := (128, [some (.ref 1000000), some (.ref 0), some (.ref 198), some (.ref 222), some (.int i), y5, y6], [.int (i + (2 : Int32)), .ref 1000000, .long (((xs (i + (1 : Int32)).toNatClampNeg).toInt64) <<< ((32 : Int32).toInt64 &&& 63)), .ref 0], (223, kc, ks, pd_H g v))) rfl ?_
      obtain ⟨hc5, h⟩ := pd_chk h
      refine ev_sald pp_law rfl hc5 ?_
      refine ev_gos pp_law 8 (S' := (140, [some (.ref 1000000), some (.ref 0), some (.ref 198), some (.ref 222), some (.int i), y5, y6], [.int (i + (3 : Int32)), .ref 1000000, .long ((((xs (i + (1 : Int32)).toNatClampNeg).toInt64) <<< ((32 : Int32).toInt64 &&& 63)) ||| (((xs (i + (2 : Int32)).toNatClampNeg).toInt64) &&& (4294967295 : Int64))), .ref 0], (223, kc, ks, pd_H g v))) rfl ?_
      obtain ⟨hc6, h⟩ := pd_chk h
      refine ev_sald pp_law rfl hc6 ?_
      refine ev_gos pp_law 1 (S' := (142, [some (.ref 1000000), some (.ref 0), some (.ref 198), some (.ref 222), some (.int i), y5, y6], [.ref 222, .int (xs (i + (3 : Int32)).toNatClampNeg), .long ((((xs (i + (1 : Int32)).toNatClampNeg).toInt64) <<< ((32 : Int32).toInt64 &&& 63)) ||| (((xs (i + (2 : Int32)).toNatClampNeg).toInt64) &&& (4294967295 : Int64))), .ref 0], (223, kc, ks, pd_H g v))) rfl ?_
      obtain ⟨q7, hq7, h⟩ := pd_bind h
      refine ev_call pp_law rfl rfl rfl (s_La_type hq7) ?_
      refine ev_gos pp_law 6 (S' := (153, [some (.ref 1000000), some (.ref 0), some (.ref 198), some (.ref 222), some (.int i), some (.int q7.1), y6], [.int (i + (1 : Int32)), .ref 1000000, .ref 198], (223, (kc + q7.2.2.2), (ks + 6 * q7.2.2.2), pd_H q7.2.2.1 q7.2.1))) rfl ?_
      obtain ⟨hc8, h⟩ := pd_chk h
      refine ev_sald pp_law rfl hc8 ?_
      refine ev_gos pp_law 7 (S' := (163, [some (.ref 1000000), some (.ref 0), some (.ref 198), some (.ref 222), some (.int i), some (.int q7.1), y6], [.int (i + (2 : Int32)), .ref 1000000, .long (((xs (i + (1 : Int32)).toNatClampNeg).toInt64) <<< ((32 : Int32).toInt64 &&& 63)), .ref 198], (223, (kc + q7.2.2.2), (ks + 6 * q7.2.2.2), pd_H q7.2.2.1 q7.2.1))) rfl ?_
      obtain ⟨hc9, h⟩ := pd_chk h
      refine ev_sald pp_law rfl hc9 ?_
      refine ev_gos pp_law 8 (S' := (175, [some (.ref 1000000), some (.ref 0), some (.ref 198), some (.ref 222), some (.int i), some (.int q7.1), y6], [.int (i + (3 : Int32)), .ref 1000000, .long ((((xs (i + (1 : Int32)).toNatClampNeg).toInt64) <<< ((32 : Int32).toInt64 &&& 63)) ||| (((xs (i + (2 : Int32)).toNatClampNeg).toInt64) &&& (4294967295 : Int64))), .ref 198], (223, (kc + q7.2.2.2), (ks + 6 * q7.2.2.2), pd_H q7.2.2.1 q7.2.1))) rfl ?_
      obtain ⟨hc10, h⟩ := pd_chk h
      refine ev_sald pp_law rfl hc10 ?_
      refine ev_gos pp_law 0 (S' := (176, [some (.ref 1000000), some (.ref 0), some (.ref 198), some (.ref 222), some (.int i), some (.int q7.1), y6], [.int (xs (i + (3 : Int32)).toNatClampNeg), .long ((((xs (i + (1 : Int32)).toNatClampNeg).toInt64) <<< ((32 : Int32).toInt64 &&& 63)) ||| (((xs (i + (2 : Int32)).toNatClampNeg).toInt64) &&& (4294967295 : Int64))), .ref 198], (223, (kc + q7.2.2.2), (ks + 6 * q7.2.2.2), pd_H q7.2.2.1 q7.2.1))) rfl ?_
      obtain ⟨q11, hq11, h⟩ := pd_bind h
      refine ev_callv pp_law rfl rfl rfl rfl (s_Mo_type hq11) ?_
      refine ev_gos pp_law 4 (S' := (23, [some (.ref 1000000), some (.ref 0), some (.ref 198), some (.ref 222), some (.int (i + (4 : Int32))), some (.int q7.1), some (.int q11.1)], [], (223, (kc + q7.2.2.2), (ks + 6 * q7.2.2.2), pd_H q7.2.2.1 q11.2))) rfl ?_
      cases h
      exact K _ _
    · rw [hb3]
      rcases pd_cases h with ⟨hb12, h⟩ | ⟨hb12, h⟩
      · rw [hb12]
        refine ev_gos pp_law 1 (S' := (185, [some (.ref 1000000), some (.ref 0), some (.ref 198), some (.ref 222), some (.int i), y5, y6], [.ref 0], (223, kc, ks, pd_H g v))) rfl ?_
        obtain ⟨q13, hq13, h⟩ := pd_bind h
        refine ev_callv pp_law rfl rfl rfl rfl (s_De_clear hq13) ?_
        refine ev_gos pp_law 1 (S' := (189, [some (.ref 1000000), some (.ref 0), some (.ref 198), some (.ref 222), some (.int i), y5, y6], [.ref 198], (223, kc, ks, pd_H g q13))) rfl ?_
        obtain ⟨q14, hq14, h⟩ := pd_bind h
        refine ev_callv pp_law rfl rfl rfl rfl (s_Mo_clear hq14) ?_
        refine ev_gos pp_law 3 (S' := (23, [some (.ref 1000000), some (.ref 0), some (.ref 198), some (.ref 222), some (.int (i + (4 : Int32))), y5, y6], [], (223, kc, ks, pd_H g q14))) rfl ?_
        cases h
        exact K _ _
      · rw [hb12]
        rcases pd_cases h with ⟨hb15, h⟩ | ⟨hb15, h⟩
        · rw [hb15]
          refine ev_gos pp_law 1 (S' := (196, [some (.ref 1000000), some (.ref 0), some (.ref 198), some (.ref 222), some (.int i), y5, y6], [.ref 0], (223, kc, ks, pd_H g v))) rfl ?_
          obtain ⟨q16, hq16, h⟩ := pd_bind h
          refine ev_callv pp_law rfl rfl rfl rfl (s_De_compile hq16) ?_
          refine ev_gos pp_law 2 (S' := (201, [some (.ref 1000000), some (.ref 0), some (.ref 198), some (.ref 222), some (.int i), y5, y6], [.ref 198], (223, kc, ks, pd_H g q16.2))) rfl ?_
          obtain ⟨q17, hq17, h⟩ := pd_bind h
          refine ev_callv pp_law rfl rfl rfl rfl (s_Mo_compile hq17) ?_
          refine ev_gos pp_law 4 (S' := (23, [some (.ref 1000000), some (.ref 0), some (.ref 198), some (.ref 222), some (.int (i + (4 : Int32))), y5, y6], [], (223, kc, ks, pd_H g q17.2))) rfl ?_
          cases h
          exact K _ _
        · rw [hb15]
          rcases pd_cases h with ⟨hb18, h⟩ | ⟨hb18, h⟩
          · rw [hb18]
            refine ev_gos pp_law 1 (S' := (209, [some (.ref 1000000), some (.ref 0), some (.ref 198), some (.ref 222), some (.int i), y5, y6], [.ref 0], (223, kc, ks, pd_H g v))) rfl ?_
            refine ev_callv pp_law rfl rfl rfl rfl (s_De_place) ?_
            refine ev_gos pp_law 2 (S' := (214, [some (.ref 1000000), some (.ref 0), some (.ref 198), some (.ref 222), some (.int i), y5, y6], [.ref 198], (223, kc, ks, pd_H g v))) rfl ?_
            obtain ⟨q20, hq20, h⟩ := pd_bind h
            refine ev_callv pp_law rfl rfl rfl rfl (s_Mo_place hq20) ?_
            refine ev_gos pp_law 4 (S' := (23, [some (.ref 1000000), some (.ref 0), some (.ref 198), some (.ref 222), some (.int (i + (4 : Int32))), y5, y6], [], (223, kc, ks, pd_H g q20.2))) rfl ?_
            cases h
            exact K _ _
          · rw [hb18]
            rcases pd_cases h with ⟨hb21, h⟩ | ⟨hb21, h⟩
            · rw [hb21]
              refine ev_gos pp_law 5 (S' := (227, [some (.ref 1000000), some (.ref 0), some (.ref 198), some (.ref 222), some (.int i), y5, y6], [.int (i + (1 : Int32)), .ref 1000000, .ref 0], (223, kc, ks, pd_H g v))) rfl ?_
              obtain ⟨hc22, h⟩ := pd_chk h
              refine ev_sald pp_law rfl hc22 ?_
              refine ev_gos pp_law 1 (S' := (229, [some (.ref 1000000), some (.ref 0), some (.ref 198), some (.ref 222), some (.int i), y5, y6], [.ref 222, .int (xs (i + (1 : Int32)).toNatClampNeg), .ref 0], (223, kc, ks, pd_H g v))) rfl ?_
              obtain ⟨q23, hq23, h⟩ := pd_bind h
              refine ev_call pp_law rfl rfl rfl (s_La_varies hq23) ?_
              refine ev_gos pp_law 6 (S' := (240, [some (.ref 1000000), some (.ref 0), some (.ref 198), some (.ref 222), some (.int i), some (.int q23.1), y6], [.int (i + (1 : Int32)), .ref 1000000, .ref 198], (223, (kc + q23.2.2.2), (ks + 6 * q23.2.2.2), pd_H q23.2.2.1 q23.2.1))) rfl ?_
              obtain ⟨hc24, h⟩ := pd_chk h
              refine ev_sald pp_law rfl hc24 ?_
              refine ev_gos pp_law 0 (S' := (241, [some (.ref 1000000), some (.ref 0), some (.ref 198), some (.ref 222), some (.int i), some (.int q23.1), y6], [.int (xs (i + (1 : Int32)).toNatClampNeg), .ref 198], (223, (kc + q23.2.2.2), (ks + 6 * q23.2.2.2), pd_H q23.2.2.1 q23.2.1))) rfl ?_
              obtain ⟨q25, hq25, h⟩ := pd_bind h
              refine ev_callv pp_law rfl rfl rfl rfl (s_Mo_varies hq25) ?_
              refine ev_gos pp_law 2 (S' := (247, [some (.ref 1000000), some (.ref 0), some (.ref 198), some (.ref 222), some (.int i), some (.int q23.1), some (.int q25.1)], [.ref 198], (223, (kc + q23.2.2.2), (ks + 6 * q23.2.2.2), pd_H q23.2.2.1 q25.2))) rfl ?_
              refine ev_callv pp_law rfl rfl rfl rfl (s_Mo_thrown) ?_
              refine ev_gos pp_law 1 (S' := (252, [some (.ref 1000000), some (.ref 0), some (.ref 198), some (.ref 222), some (.int i), some (.int q23.1), some (.int q25.1)], [.int q23.1, .int (d_Mo_thrown q25.2)], (223, (kc + q23.2.2.2), (ks + 6 * q23.2.2.2), pd_H q23.2.2.1 q25.2))) rfl ?_
              refine ev_gos pp_law 1 (S' := (bif decide ((d_Mo_thrown q25.2) = q23.1) then 257 else 255, [some (.ref 1000000), some (.ref 0), some (.ref 198), some (.ref 222), some (.int i), some (.int q23.1), some (.int q25.1)], [], (223, (kc + q23.2.2.2), (ks + 6 * q23.2.2.2), pd_H q23.2.2.1 q25.2))) rfl ?_
              rcases pd_cases h with ⟨hb27, h⟩ | ⟨hb27, h⟩
              · rw [hb27]
                refine ev_gos pp_law 1 (S' := (259, [some (.ref 1000000), some (.ref 0), some (.ref 198), some (.ref 222), some (.int i), some (.int q23.1), some (.int q25.1)], [.int q23.1], (223, (kc + q23.2.2.2), (ks + 6 * q23.2.2.2), pd_H q23.2.2.1 q25.2))) rfl ?_
                refine ev_gos pp_law 1 (S' := (bif !(decide (q23.1 = 0)) then 281 else 262, [some (.ref 1000000), some (.ref 0), some (.ref 198), some (.ref 222), some (.int i), some (.int q23.1), some (.int q25.1)], [], (223, (kc + q23.2.2.2), (ks + 6 * q23.2.2.2), pd_H q23.2.2.1 q25.2))) rfl ?_
                rcases pd_cases h with ⟨hb28, h⟩ | ⟨hb28, h⟩
                · rw [hb28]
                  refine ev_gos pp_law 3 (S' := (23, [some (.ref 1000000), some (.ref 0), some (.ref 198), some (.ref 222), some (.int (i + (4 : Int32))), some (.int q23.1), some (.int q25.1)], [], (223, (kc + q23.2.2.2), (ks + 6 * q23.2.2.2), pd_H q23.2.2.1 q25.2))) rfl ?_
                  cases h
                  exact K _ _
                · rw [hb28]
                  refine ev_gos pp_law 2 (S' := (264, [some (.ref 1000000), some (.ref 0), some (.ref 198), some (.ref 222), some (.int i), some (.int q23.1), some (.int q25.1)], [.int (0 : Int32), .ref 222], (223, (kc + q23.2.2.2), (ks + 6 * q23.2.2.2), pd_H q23.2.2.1 q25.2))) rfl ?_
                  refine ev_lald pp_law rfl ?_
                  refine ev_gos pp_law 1 (S' := (267, [some (.ref 1000000), some (.ref 0), some (.ref 198), some (.ref 222), some (.int i), some (.int q23.1), some (.int q25.1)], [.int q25.1, .long (q23.2.2.1 0)], (223, (kc + q23.2.2.2), (ks + 6 * q23.2.2.2), pd_H q23.2.2.1 q25.2))) rfl ?_
                  refine ev_gos pp_law 1 (S' := (bif decide (q25.1 = 0) then 274 else 270, [some (.ref 1000000), some (.ref 0), some (.ref 198), some (.ref 222), some (.int i), some (.int q23.1), some (.int q25.1)], [.long (q23.2.2.1 0)], (223, (kc + q23.2.2.2), (ks + 6 * q23.2.2.2), pd_H q23.2.2.1 q25.2))) rfl ?_
                  rcases pd_cases h with ⟨hb29, h⟩ | ⟨hb29, h⟩
                  · rw [hb29]
                    refine ev_gos pp_law 2 (S' := (276, [some (.ref 1000000), some (.ref 0), some (.ref 198), some (.ref 222), some (.int i), some (.int q23.1), some (.int q25.1)], [.int (lg_cmp (q23.2.2.1 0) (0 : Int64))], (223, (kc + q23.2.2.2), (ks + 6 * q23.2.2.2), pd_H q23.2.2.1 q25.2))) rfl ?_
                    refine ev_gos pp_law 1 (S' := (bif decide ((lg_cmp (q23.2.2.1 0) (0 : Int64)) = 0) then 281 else 279, [some (.ref 1000000), some (.ref 0), some (.ref 198), some (.ref 222), some (.int i), some (.int q23.1), some (.int q25.1)], [], (223, (kc + q23.2.2.2), (ks + 6 * q23.2.2.2), pd_H q23.2.2.1 q25.2))) rfl ?_
                    rcases pd_cases h with ⟨hb30, h⟩ | ⟨hb30, h⟩
                    · rw [hb30]
                      refine ev_gos pp_law 3 (S' := (23, [some (.ref 1000000), some (.ref 0), some (.ref 198), some (.ref 222), some (.int (i + (4 : Int32))), some (.int q23.1), some (.int q25.1)], [], (223, (kc + q23.2.2.2), (ks + 6 * q23.2.2.2), pd_H q23.2.2.1 q25.2))) rfl ?_
                      cases h
                      exact K _ _
                    · rw [hb30]
                      refine ev_gos pp_law 1 (S' := (280, [some (.ref 1000000), some (.ref 0), some (.ref 198), some (.ref 222), some (.int i), some (.int q23.1), some (.int q25.1)], [.int (0 : Int32)], (223, (kc + q23.2.2.2), (ks + 6 * q23.2.2.2), pd_H q23.2.2.1 q25.2))) rfl ?_
                      exact nomatch h
                  · rw [hb29]
                    refine ev_gos pp_law 3 (S' := (276, [some (.ref 1000000), some (.ref 0), some (.ref 198), some (.ref 222), some (.int i), some (.int q23.1), some (.int q25.1)], [.int (lg_cmp (q23.2.2.1 0) (1 : Int64))], (223, (kc + q23.2.2.2), (ks + 6 * q23.2.2.2), pd_H q23.2.2.1 q25.2))) rfl ?_
                    refine ev_gos pp_law 1 (S' := (bif decide ((lg_cmp (q23.2.2.1 0) (1 : Int64)) = 0) then 281 else 279, [some (.ref 1000000), some (.ref 0), some (.ref 198), some (.ref 222), some (.int i), some (.int q23.1), some (.int q25.1)], [], (223, (kc + q23.2.2.2), (ks + 6 * q23.2.2.2), pd_H q23.2.2.1 q25.2))) rfl ?_
                    rcases pd_cases h with ⟨hb31, h⟩ | ⟨hb31, h⟩
                    · rw [hb31]
                      refine ev_gos pp_law 3 (S' := (23, [some (.ref 1000000), some (.ref 0), some (.ref 198), some (.ref 222), some (.int (i + (4 : Int32))), some (.int q23.1), some (.int q25.1)], [], (223, (kc + q23.2.2.2), (ks + 6 * q23.2.2.2), pd_H q23.2.2.1 q25.2))) rfl ?_
                      cases h
                      exact K _ _
                    · rw [hb31]
                      refine ev_gos pp_law 1 (S' := (280, [some (.ref 1000000), some (.ref 0), some (.ref 198), some (.ref 222), some (.int i), some (.int q23.1), some (.int q25.1)], [.int (0 : Int32)], (223, (kc + q23.2.2.2), (ks + 6 * q23.2.2.2), pd_H q23.2.2.1 q25.2))) rfl ?_
                      exact nomatch h
              · rw [hb27]
                refine ev_gos pp_law 1 (S' := (256, [some (.ref 1000000), some (.ref 0), some (.ref 198), some (.ref 222), some (.int i), some (.int q23.1), some (.int q25.1)], [.int (0 : Int32)], (223, (kc + q23.2.2.2), (ks + 6 * q23.2.2.2), pd_H q23.2.2.1 q25.2))) rfl ?_
                exact nomatch h
            · rw [hb21]
              rcases pd_cases h with ⟨hb32, h⟩ | ⟨hb32, h⟩
              · rw [hb32]
                refine ev_gos pp_law 5 (S' := (290, [some (.ref 1000000), some (.ref 0), some (.ref 198), some (.ref 222), some (.int i), y5, y6], [.int (i + (1 : Int32)), .ref 1000000, .ref 0], (223, kc, ks, pd_H g v))) rfl ?_
                obtain ⟨hc33, h⟩ := pd_chk h
                refine ev_sald pp_law rfl hc33 ?_
                refine ev_gos pp_law 4 (S' := (296, [some (.ref 1000000), some (.ref 0), some (.ref 198), some (.ref 222), some (.int i), y5, y6], [.int (i + (2 : Int32)), .ref 1000000, .int (xs (i + (1 : Int32)).toNatClampNeg), .ref 0], (223, kc, ks, pd_H g v))) rfl ?_
                obtain ⟨hc34, h⟩ := pd_chk h
                refine ev_sald pp_law rfl hc34 ?_
                refine ev_gos pp_law 0 (S' := (297, [some (.ref 1000000), some (.ref 0), some (.ref 198), some (.ref 222), some (.int i), y5, y6], [.int (xs (i + (2 : Int32)).toNatClampNeg), .int (xs (i + (1 : Int32)).toNatClampNeg), .ref 0], (223, kc, ks, pd_H g v))) rfl ?_
                obtain ⟨q35, hq35, h⟩ := pd_bind h
                refine ev_call pp_law rfl rfl rfl (s_La_input hq35) ?_
                refine ev_gos pp_law 6 (S' := (308, [some (.ref 1000000), some (.ref 0), some (.ref 198), some (.ref 222), some (.int i), some (.int q35.1), y6], [.int (i + (1 : Int32)), .ref 1000000, .ref 198], (223, (kc + q35.2.2.2), (ks + 6 * q35.2.2.2), pd_H q35.2.2.1 q35.2.1))) rfl ?_
                obtain ⟨hc36, h⟩ := pd_chk h
                refine ev_sald pp_law rfl hc36 ?_
                refine ev_gos pp_law 4 (S' := (314, [some (.ref 1000000), some (.ref 0), some (.ref 198), some (.ref 222), some (.int i), some (.int q35.1), y6], [.int (i + (2 : Int32)), .ref 1000000, .int (xs (i + (1 : Int32)).toNatClampNeg), .ref 198], (223, (kc + q35.2.2.2), (ks + 6 * q35.2.2.2), pd_H q35.2.2.1 q35.2.1))) rfl ?_
                obtain ⟨hc37, h⟩ := pd_chk h
                refine ev_sald pp_law rfl hc37 ?_
                refine ev_gos pp_law 0 (S' := (315, [some (.ref 1000000), some (.ref 0), some (.ref 198), some (.ref 222), some (.int i), some (.int q35.1), y6], [.int (xs (i + (2 : Int32)).toNatClampNeg), .int (xs (i + (1 : Int32)).toNatClampNeg), .ref 198], (223, (kc + q35.2.2.2), (ks + 6 * q35.2.2.2), pd_H q35.2.2.1 q35.2.1))) rfl ?_
                obtain ⟨q38, hq38, h⟩ := pd_bind h
                refine ev_callv pp_law rfl rfl rfl rfl (s_Mo_input hq38) ?_
                refine ev_gos pp_law 3 (S' := (23, [some (.ref 1000000), some (.ref 0), some (.ref 198), some (.ref 222), some (.int (i + (4 : Int32))), some (.int q35.1), y6], [], (223, (kc + q35.2.2.2), (ks + 6 * q35.2.2.2), pd_H q35.2.2.1 q38))) rfl ?_
                cases h
                exact K _ _
              · rw [hb32]
                rcases pd_cases h with ⟨hb39, h⟩ | ⟨hb39, h⟩
                · rw [hb39]
                  refine ev_gos pp_law 5 (S' := (327, [some (.ref 1000000), some (.ref 0), some (.ref 198), some (.ref 222), some (.int i), y5, y6], [.int (i + (1 : Int32)), .ref 1000000, .ref 0], (223, kc, ks, pd_H g v))) rfl ?_
                  obtain ⟨hc40, h⟩ := pd_chk h
                  refine ev_sald pp_law rfl hc40 ?_
                  refine ev_gos pp_law 0 (S' := (328, [some (.ref 1000000), some (.ref 0), some (.ref 198), some (.ref 222), some (.int i), y5, y6], [.int (xs (i + (1 : Int32)).toNatClampNeg), .ref 0], (223, kc, ks, pd_H g v))) rfl ?_
                  obtain ⟨q41, hq41, h⟩ := pd_bind h
                  refine ev_call pp_law rfl rfl rfl (s_La_lanes hq41) ?_
                  refine ev_gos pp_law 6 (S' := (339, [some (.ref 1000000), some (.ref 0), some (.ref 198), some (.ref 222), some (.int i), some (.int q41.1), y6], [.int (i + (1 : Int32)), .ref 1000000, .ref 198], (223, (kc + q41.2.2.2), (ks + 6 * q41.2.2.2), pd_H q41.2.2.1 q41.2.1))) rfl ?_
                  obtain ⟨hc42, h⟩ := pd_chk h
                  refine ev_sald pp_law rfl hc42 ?_
                  refine ev_gos pp_law 0 (S' := (340, [some (.ref 1000000), some (.ref 0), some (.ref 198), some (.ref 222), some (.int i), some (.int q41.1), y6], [.int (xs (i + (1 : Int32)).toNatClampNeg), .ref 198], (223, (kc + q41.2.2.2), (ks + 6 * q41.2.2.2), pd_H q41.2.2.1 q41.2.1))) rfl ?_
                  obtain ⟨q43, hq43, h⟩ := pd_bind h
                  refine ev_callv pp_law rfl rfl rfl rfl (s_Mo_lanes hq43) ?_
                  refine ev_gos pp_law 3 (S' := (23, [some (.ref 1000000), some (.ref 0), some (.ref 198), some (.ref 222), some (.int (i + (4 : Int32))), some (.int q41.1), y6], [], (223, (kc + q41.2.2.2), (ks + 6 * q41.2.2.2), pd_H q41.2.2.1 q43))) rfl ?_
                  cases h
                  exact K _ _
                · rw [hb39]
                  rcases pd_cases h with ⟨hb44, h⟩ | ⟨hb44, h⟩
                  · rw [hb44]
                    refine ev_gos pp_law 1 (S' := (347, [some (.ref 1000000), some (.ref 0), some (.ref 198), some (.ref 222), some (.int i), y5, y6], [.ref 0], (223, kc, ks, pd_H g v))) rfl ?_
                    obtain ⟨q45, hq45, h⟩ := pd_bind h
                    refine ev_call pp_law rfl rfl rfl (s_La_start hq45) ?_
                    refine ev_gos pp_law 2 (S' := (353, [some (.ref 1000000), some (.ref 0), some (.ref 198), some (.ref 222), some (.int i), some (.int q45.1), y6], [.ref 198], (223, (kc + q45.2.2.2), (ks + 6 * q45.2.2.2), pd_H q45.2.2.1 q45.2.1))) rfl ?_
                    obtain ⟨q46, hq46, h⟩ := pd_bind h
                    refine ev_callv pp_law rfl rfl rfl rfl (s_Mo_start hq46) ?_
                    refine ev_gos pp_law 3 (S' := (23, [some (.ref 1000000), some (.ref 0), some (.ref 198), some (.ref 222), some (.int (i + (4 : Int32))), some (.int q45.1), y6], [], (223, (kc + q45.2.2.2), (ks + 6 * q45.2.2.2), pd_H q45.2.2.1 q46))) rfl ?_
                    cases h
                    exact K _ _
                  · rw [hb44]
                    rcases pd_cases h with ⟨hb47, h⟩ | ⟨hb47, h⟩
                    · rw [hb47]
                      refine ev_gos pp_law 5 (S' := (365, [some (.ref 1000000), some (.ref 0), some (.ref 198), some (.ref 222), some (.int i), y5, y6], [.int (i + (1 : Int32)), .ref 1000000, .ref 0], (223, kc, ks, pd_H g v))) rfl ?_
                      obtain ⟨hc48, h⟩ := pd_chk h
                      refine ev_sald pp_law rfl hc48 ?_
                      refine ev_gos pp_law 1 (S' := (367, [some (.ref 1000000), some (.ref 0), some (.ref 198), some (.ref 222), some (.int i), y5, y6], [.ref 222, .int (xs (i + (1 : Int32)).toNatClampNeg), .ref 0], (223, kc, ks, pd_H g v))) rfl ?_
                      obtain ⟨q49, hq49, h⟩ := pd_bind h
                      refine ev_call pp_law rfl rfl rfl (s_La_run hq49) ?_
                      refine ev_gos pp_law 6 (S' := (378, [some (.ref 1000000), some (.ref 0), some (.ref 198), some (.ref 222), some (.int i), some (.int q49.1), y6], [.int (i + (1 : Int32)), .ref 1000000, .ref 198], (223, (kc + q49.2.2.2), (ks + 6 * q49.2.2.2), pd_H q49.2.2.1 q49.2.1))) rfl ?_
                      obtain ⟨hc50, h⟩ := pd_chk h
                      refine ev_sald pp_law rfl hc50 ?_
                      refine ev_gos pp_law 0 (S' := (379, [some (.ref 1000000), some (.ref 0), some (.ref 198), some (.ref 222), some (.int i), some (.int q49.1), y6], [.int (xs (i + (1 : Int32)).toNatClampNeg), .ref 198], (223, (kc + q49.2.2.2), (ks + 6 * q49.2.2.2), pd_H q49.2.2.1 q49.2.1))) rfl ?_
                      obtain ⟨q51, hq51, h⟩ := pd_bind h
                      refine ev_callv pp_law rfl rfl rfl rfl (s_Mo_run hq51) ?_
                      refine ev_gos pp_law 4 (S' := (23, [some (.ref 1000000), some (.ref 0), some (.ref 198), some (.ref 222), some (.int (i + (4 : Int32))), some (.int q49.1), some (.int q51.1)], [], (223, (kc + q49.2.2.2), (ks + 6 * q49.2.2.2), pd_H q49.2.2.1 q51.2))) rfl ?_
                      cases h
                      exact K _ _
                    · rw [hb47]
                      rcases pd_cases h with ⟨hb52, h⟩ | ⟨hb52, h⟩
                      · rw [hb52]
                        refine ev_gos pp_law 1 (S' := (388, [some (.ref 1000000), some (.ref 0), some (.ref 198), some (.ref 222), some (.int i), y5, y6], [.ref 0], (223, kc, ks, pd_H g v))) rfl ?_
                        refine ev_callv pp_law rfl rfl rfl rfl (s_De_mask) ?_
                        refine ev_gos pp_law 2 (S' := (393, [some (.ref 1000000), some (.ref 0), some (.ref 198), some (.ref 222), some (.int i), y5, y6], [.ref 198], (223, kc, ks, pd_H g v))) rfl ?_
                        obtain ⟨q54, hq54, h⟩ := pd_bind h
                        refine ev_callv pp_law rfl rfl rfl rfl (s_Mo_mask hq54) ?_
                        refine ev_gos pp_law 4 (S' := (23, [some (.ref 1000000), some (.ref 0), some (.ref 198), some (.ref 222), some (.int (i + (4 : Int32))), y5, y6], [], (223, kc, ks, pd_H g q54.2))) rfl ?_
                        cases h
                        exact K _ _
                      · rw [hb52]
                        rcases pd_cases h with ⟨hb55, h⟩ | ⟨hb55, h⟩
                        · rw [hb55]
                          refine ev_gos pp_law 5 (S' := (406, [some (.ref 1000000), some (.ref 0), some (.ref 198), some (.ref 222), some (.int i), y5, y6], [.int (i + (1 : Int32)), .ref 1000000, .ref 0], (223, kc, ks, pd_H g v))) rfl ?_
                          obtain ⟨hc56, h⟩ := pd_chk h
                          refine ev_sald pp_law rfl hc56 ?_
                          refine ev_gos pp_law 1 (S' := (408, [some (.ref 1000000), some (.ref 0), some (.ref 198), some (.ref 222), some (.int i), y5, y6], [.ref 222, .int (xs (i + (1 : Int32)).toNatClampNeg), .ref 0], (223, kc, ks, pd_H g v))) rfl ?_
                          obtain ⟨q57, hq57, h⟩ := pd_bind h
                          refine ev_call pp_law rfl rfl rfl (s_La_spent hq57) ?_
                          refine ev_gos pp_law 6 (S' := (419, [some (.ref 1000000), some (.ref 0), some (.ref 198), some (.ref 222), some (.int i), some (.int q57.1), y6], [.int (i + (1 : Int32)), .ref 1000000, .ref 198], (223, (kc + q57.2.2.2), (ks + 6 * q57.2.2.2), pd_H q57.2.2.1 q57.2.1))) rfl ?_
                          obtain ⟨hc58, h⟩ := pd_chk h
                          refine ev_sald pp_law rfl hc58 ?_
                          refine ev_gos pp_law 0 (S' := (420, [some (.ref 1000000), some (.ref 0), some (.ref 198), some (.ref 222), some (.int i), some (.int q57.1), y6], [.int (xs (i + (1 : Int32)).toNatClampNeg), .ref 198], (223, (kc + q57.2.2.2), (ks + 6 * q57.2.2.2), pd_H q57.2.2.1 q57.2.1))) rfl ?_
                          obtain ⟨q59, hq59, h⟩ := pd_bind h
                          refine ev_callv pp_law rfl rfl rfl rfl (s_Mo_spent hq59) ?_
                          refine ev_gos pp_law 4 (S' := (23, [some (.ref 1000000), some (.ref 0), some (.ref 198), some (.ref 222), some (.int (i + (4 : Int32))), some (.int q57.1), some (.int q59.1)], [], (223, (kc + q57.2.2.2), (ks + 6 * q57.2.2.2), pd_H q57.2.2.1 q59.2))) rfl ?_
                          cases h
                          exact K _ _
                        · rw [hb55]
                          rcases pd_cases h with ⟨hb60, h⟩ | ⟨hb60, h⟩
                          · rw [hb60]
                            refine ev_gos pp_law 5 (S' := (434, [some (.ref 1000000), some (.ref 0), some (.ref 198), some (.ref 222), some (.int i), y5, y6], [.int (i + (1 : Int32)), .ref 1000000, .ref 0], (223, kc, ks, pd_H g v))) rfl ?_
                            obtain ⟨hc61, h⟩ := pd_chk h
                            refine ev_sald pp_law rfl hc61 ?_
                            refine ev_gos pp_law 1 (S' := (436, [some (.ref 1000000), some (.ref 0), some (.ref 198), some (.ref 222), some (.int i), y5, y6], [.ref 222, .int (xs (i + (1 : Int32)).toNatClampNeg), .ref 0], (223, kc, ks, pd_H g v))) rfl ?_
                            obtain ⟨q62, hq62, h⟩ := pd_bind h
                            refine ev_call pp_law rfl rfl rfl (s_La_alone hq62) ?_
                            refine ev_gos pp_law 6 (S' := (447, [some (.ref 1000000), some (.ref 0), some (.ref 198), some (.ref 222), some (.int i), some (.int q62.1), y6], [.int (i + (1 : Int32)), .ref 1000000, .ref 198], (223, (kc + q62.2.2.2), (ks + 6 * q62.2.2.2), pd_H q62.2.2.1 q62.2.1))) rfl ?_
                            obtain ⟨hc63, h⟩ := pd_chk h
                            refine ev_sald pp_law rfl hc63 ?_
                            refine ev_gos pp_law 0 (S' := (448, [some (.ref 1000000), some (.ref 0), some (.ref 198), some (.ref 222), some (.int i), some (.int q62.1), y6], [.int (xs (i + (1 : Int32)).toNatClampNeg), .ref 198], (223, (kc + q62.2.2.2), (ks + 6 * q62.2.2.2), pd_H q62.2.2.1 q62.2.1))) rfl ?_
                            obtain ⟨q64, hq64, h⟩ := pd_bind h
                            refine ev_callv pp_law rfl rfl rfl rfl (s_Mo_alone hq64) ?_
                            refine ev_gos pp_law 4 (S' := (23, [some (.ref 1000000), some (.ref 0), some (.ref 198), some (.ref 222), some (.int (i + (4 : Int32))), some (.int q62.1), some (.int q64.1)], [], (223, (kc + q62.2.2.2), (ks + 6 * q62.2.2.2), pd_H q62.2.2.1 q64.2))) rfl ?_
                            cases h
                            exact K _ _
                          · rw [hb60]
                            rcases pd_cases h with ⟨hb65, h⟩ | ⟨hb65, h⟩
                            · rw [hb65]
                              refine ev_gos pp_law 5 (S' := (462, [some (.ref 1000000), some (.ref 0), some (.ref 198), some (.ref 222), some (.int i), y5, y6], [.int (i + (1 : Int32)), .ref 1000000, .ref 0], (223, kc, ks, pd_H g v))) rfl ?_
                              obtain ⟨hc66, h⟩ := pd_chk h
                              refine ev_sald pp_law rfl hc66 ?_
                              refine ev_gos pp_law 0 (S' := (463, [some (.ref 1000000), some (.ref 0), some (.ref 198), some (.ref 222), some (.int i), y5, y6], [.int (xs (i + (1 : Int32)).toNatClampNeg), .ref 0], (223, kc, ks, pd_H g v))) rfl ?_
                              refine ev_gos pp_law 1 (S' := (bif decide ((xs (i + (1 : Int32)).toNatClampNeg) = 0) then 470 else 466, [some (.ref 1000000), some (.ref 0), some (.ref 198), some (.ref 222), some (.int i), y5, y6], [.ref 0], (223, kc, ks, pd_H g v))) rfl ?_
                              rcases pd_cases h with ⟨hb67, h⟩ | ⟨hb67, h⟩
                              · rw [hb67]
                                refine ev_gos pp_law 5 (S' := (476, [some (.ref 1000000), some (.ref 0), some (.ref 198), some (.ref 222), some (.int i), y5, y6], [.int (i + (2 : Int32)), .ref 1000000, .int (0 : Int32), .ref 0], (223, kc, ks, pd_H g v))) rfl ?_
                                obtain ⟨hc68, h⟩ := pd_chk h
                                refine ev_sald pp_law rfl hc68 ?_
                                refine ev_gos pp_law 4 (S' := (482, [some (.ref 1000000), some (.ref 0), some (.ref 198), some (.ref 222), some (.int i), y5, y6], [.int (i + (3 : Int32)), .ref 1000000, .int (xs (i + (2 : Int32)).toNatClampNeg), .int (0 : Int32), .ref 0], (223, kc, ks, pd_H g v))) rfl ?_
                                obtain ⟨hc69, h⟩ := pd_chk h
                                refine ev_sald pp_law rfl hc69 ?_
                                refine ev_gos pp_law 1 (S' := (484, [some (.ref 1000000), some (.ref 0), some (.ref 198), some (.ref 222), some (.int i), y5, y6], [.ref 222, .int (xs (i + (3 : Int32)).toNatClampNeg), .int (xs (i + (2 : Int32)).toNatClampNeg), .int (0 : Int32), .ref 0], (223, kc, ks, pd_H g v))) rfl ?_
                                obtain ⟨q70, hq70, h⟩ := pd_bind h
                                refine ev_call pp_law rfl rfl rfl (s_La_lane hq70) ?_
                                refine ev_gos pp_law 6 (S' := (495, [some (.ref 1000000), some (.ref 0), some (.ref 198), some (.ref 222), some (.int i), some (.int q70.1), y6], [.int (i + (1 : Int32)), .ref 1000000, .ref 198], (223, (kc + q70.2.2.2), (ks + 6 * q70.2.2.2), pd_H q70.2.2.1 q70.2.1))) rfl ?_
                                obtain ⟨hc71, h⟩ := pd_chk h
                                refine ev_sald pp_law rfl hc71 ?_
                                refine ev_gos pp_law 0 (S' := (496, [some (.ref 1000000), some (.ref 0), some (.ref 198), some (.ref 222), some (.int i), some (.int q70.1), y6], [.int (xs (i + (1 : Int32)).toNatClampNeg), .ref 198], (223, (kc + q70.2.2.2), (ks + 6 * q70.2.2.2), pd_H q70.2.2.1 q70.2.1))) rfl ?_
                                refine ev_gos pp_law 1 (S' := (bif decide ((xs (i + (1 : Int32)).toNatClampNeg) = 0) then 503 else 499, [some (.ref 1000000), some (.ref 0), some (.ref 198), some (.ref 222), some (.int i), some (.int q70.1), y6], [.ref 198], (223, (kc + q70.2.2.2), (ks + 6 * q70.2.2.2), pd_H q70.2.2.1 q70.2.1))) rfl ?_
                                rcases pd_cases h with ⟨hb72, h⟩ | ⟨hb72, h⟩
                                · rw [hb72]
                                  refine ev_gos pp_law 5 (S' := (509, [some (.ref 1000000), some (.ref 0), some (.ref 198), some (.ref 222), some (.int i), some (.int q70.1), y6], [.int (i + (2 : Int32)), .ref 1000000, .int (0 : Int32), .ref 198], (223, (kc + q70.2.2.2), (ks + 6 * q70.2.2.2), pd_H q70.2.2.1 q70.2.1))) rfl ?_
                                  obtain ⟨hc73, h⟩ := pd_chk h
                                  refine ev_sald pp_law rfl hc73 ?_
                                  refine ev_gos pp_law 4 (S' := (515, [some (.ref 1000000), some (.ref 0), some (.ref 198), some (.ref 222), some (.int i), some (.int q70.1), y6], [.int (i + (3 : Int32)), .ref 1000000, .int (xs (i + (2 : Int32)).toNatClampNeg), .int (0 : Int32), .ref 198], (223, (kc + q70.2.2.2), (ks + 6 * q70.2.2.2), pd_H q70.2.2.1 q70.2.1))) rfl ?_
                                  obtain ⟨hc74, h⟩ := pd_chk h
                                  refine ev_sald pp_law rfl hc74 ?_
                                  refine ev_gos pp_law 0 (S' := (516, [some (.ref 1000000), some (.ref 0), some (.ref 198), some (.ref 222), some (.int i), some (.int q70.1), y6], [.int (xs (i + (3 : Int32)).toNatClampNeg), .int (xs (i + (2 : Int32)).toNatClampNeg), .int (0 : Int32), .ref 198], (223, (kc + q70.2.2.2), (ks + 6 * q70.2.2.2), pd_H q70.2.2.1 q70.2.1))) rfl ?_
                                  obtain ⟨q75, hq75, h⟩ := pd_bind h
                                  refine ev_callv pp_law rfl rfl rfl rfl (s_Mo_lane hq75) ?_
                                  refine ev_gos pp_law 4 (S' := (23, [some (.ref 1000000), some (.ref 0), some (.ref 198), some (.ref 222), some (.int (i + (4 : Int32))), some (.int q70.1), some (.int q75.1)], [], (223, (kc + q70.2.2.2), (ks + 6 * q70.2.2.2), pd_H q70.2.2.1 q75.2))) rfl ?_
                                  cases h
                                  exact K _ _
                                · rw [hb72]
                                  refine ev_gos pp_law 6 (S' := (509, [some (.ref 1000000), some (.ref 0), some (.ref 198), some (.ref 222), some (.int i), some (.int q70.1), y6], [.int (i + (2 : Int32)), .ref 1000000, .int (1 : Int32), .ref 198], (223, (kc + q70.2.2.2), (ks + 6 * q70.2.2.2), pd_H q70.2.2.1 q70.2.1))) rfl ?_
                                  obtain ⟨hc76, h⟩ := pd_chk h
                                  refine ev_sald pp_law rfl hc76 ?_
                                  refine ev_gos pp_law 4 (S' := (515, [some (.ref 1000000), some (.ref 0), some (.ref 198), some (.ref 222), some (.int i), some (.int q70.1), y6], [.int (i + (3 : Int32)), .ref 1000000, .int (xs (i + (2 : Int32)).toNatClampNeg), .int (1 : Int32), .ref 198], (223, (kc + q70.2.2.2), (ks + 6 * q70.2.2.2), pd_H q70.2.2.1 q70.2.1))) rfl ?_
                                  obtain ⟨hc77, h⟩ := pd_chk h
                                  refine ev_sald pp_law rfl hc77 ?_
                                  refine ev_gos pp_law 0 (S' := (516, [some (.ref 1000000), some (.ref 0), some (.ref 198), some (.ref 222), some (.int i), some (.int q70.1), y6], [.int (xs (i + (3 : Int32)).toNatClampNeg), .int (xs (i + (2 : Int32)).toNatClampNeg), .int (1 : Int32), .ref 198], (223, (kc + q70.2.2.2), (ks + 6 * q70.2.2.2), pd_H q70.2.2.1 q70.2.1))) rfl ?_
                                  obtain ⟨q78, hq78, h⟩ := pd_bind h
                                  refine ev_callv pp_law rfl rfl rfl rfl (s_Mo_lane hq78) ?_
                                  refine ev_gos pp_law 4 (S' := (23, [some (.ref 1000000), some (.ref 0), some (.ref 198), some (.ref 222), some (.int (i + (4 : Int32))), some (.int q70.1), some (.int q78.1)], [], (223, (kc + q70.2.2.2), (ks + 6 * q70.2.2.2), pd_H q70.2.2.1 q78.2))) rfl ?_
                                  cases h
                                  exact K _ _
                              · rw [hb67]
                                refine ev_gos pp_law 6 (S' := (476, [some (.ref 1000000), some (.ref 0), some (.ref 198), some (.ref 222), some (.int i), y5, y6], [.int (i + (2 : Int32)), .ref 1000000, .int (1 : Int32), .ref 0], (223, kc, ks, pd_H g v))) rfl ?_
                                obtain ⟨hc79, h⟩ := pd_chk h
                                refine ev_sald pp_law rfl hc79 ?_
                                refine ev_gos pp_law 4 (S' := (482, [some (.ref 1000000), some (.ref 0), some (.ref 198), some (.ref 222), some (.int i), y5, y6], [.int (i + (3 : Int32)), .ref 1000000, .int (xs (i + (2 : Int32)).toNatClampNeg), .int (1 : Int32), .ref 0], (223, kc, ks, pd_H g v))) rfl ?_
                                obtain ⟨hc80, h⟩ := pd_chk h
                                refine ev_sald pp_law rfl hc80 ?_
                                refine ev_gos pp_law 1 (S' := (484, [some (.ref 1000000), some (.ref 0), some (.ref 198), some (.ref 222), some (.int i), y5, y6], [.ref 222, .int (xs (i + (3 : Int32)).toNatClampNeg), .int (xs (i + (2 : Int32)).toNatClampNeg), .int (1 : Int32), .ref 0], (223, kc, ks, pd_H g v))) rfl ?_
                                obtain ⟨q81, hq81, h⟩ := pd_bind h
                                refine ev_call pp_law rfl rfl rfl (s_La_lane hq81) ?_
                                refine ev_gos pp_law 6 (S' := (495, [some (.ref 1000000), some (.ref 0), some (.ref 198), some (.ref 222), some (.int i), some (.int q81.1), y6], [.int (i + (1 : Int32)), .ref 1000000, .ref 198], (223, (kc + q81.2.2.2), (ks + 6 * q81.2.2.2), pd_H q81.2.2.1 q81.2.1))) rfl ?_
                                obtain ⟨hc82, h⟩ := pd_chk h
                                refine ev_sald pp_law rfl hc82 ?_
                                refine ev_gos pp_law 0 (S' := (496, [some (.ref 1000000), some (.ref 0), some (.ref 198), some (.ref 222), some (.int i), some (.int q81.1), y6], [.int (xs (i + (1 : Int32)).toNatClampNeg), .ref 198], (223, (kc + q81.2.2.2), (ks + 6 * q81.2.2.2), pd_H q81.2.2.1 q81.2.1))) rfl ?_
                                refine ev_gos pp_law 1 (S' := (bif decide ((xs (i + (1 : Int32)).toNatClampNeg) = 0) then 503 else 499, [some (.ref 1000000), some (.ref 0), some (.ref 198), some (.ref 222), some (.int i), some (.int q81.1), y6], [.ref 198], (223, (kc + q81.2.2.2), (ks + 6 * q81.2.2.2), pd_H q81.2.2.1 q81.2.1))) rfl ?_
                                rcases pd_cases h with ⟨hb83, h⟩ | ⟨hb83, h⟩
                                · rw [hb83]
                                  refine ev_gos pp_law 5 (S' := (509, [some (.ref 1000000), some (.ref 0), some (.ref 198), some (.ref 222), some (.int i), some (.int q81.1), y6], [.int (i + (2 : Int32)), .ref 1000000, .int (0 : Int32), .ref 198], (223, (kc + q81.2.2.2), (ks + 6 * q81.2.2.2), pd_H q81.2.2.1 q81.2.1))) rfl ?_
                                  obtain ⟨hc84, h⟩ := pd_chk h
                                  refine ev_sald pp_law rfl hc84 ?_
                                  refine ev_gos pp_law 4 (S' := (515, [some (.ref 1000000), some (.ref 0), some (.ref 198), some (.ref 222), some (.int i), some (.int q81.1), y6], [.int (i + (3 : Int32)), .ref 1000000, .int (xs (i + (2 : Int32)).toNatClampNeg), .int (0 : Int32), .ref 198], (223, (kc + q81.2.2.2), (ks + 6 * q81.2.2.2), pd_H q81.2.2.1 q81.2.1))) rfl ?_
                                  obtain ⟨hc85, h⟩ := pd_chk h
                                  refine ev_sald pp_law rfl hc85 ?_
                                  refine ev_gos pp_law 0 (S' := (516, [some (.ref 1000000), some (.ref 0), some (.ref 198), some (.ref 222), some (.int i), some (.int q81.1), y6], [.int (xs (i + (3 : Int32)).toNatClampNeg), .int (xs (i + (2 : Int32)).toNatClampNeg), .int (0 : Int32), .ref 198], (223, (kc + q81.2.2.2), (ks + 6 * q81.2.2.2), pd_H q81.2.2.1 q81.2.1))) rfl ?_
                                  obtain ⟨q86, hq86, h⟩ := pd_bind h
                                  refine ev_callv pp_law rfl rfl rfl rfl (s_Mo_lane hq86) ?_
                                  refine ev_gos pp_law 4 (S' := (23, [some (.ref 1000000), some (.ref 0), some (.ref 198), some (.ref 222), some (.int (i + (4 : Int32))), some (.int q81.1), some (.int q86.1)], [], (223, (kc + q81.2.2.2), (ks + 6 * q81.2.2.2), pd_H q81.2.2.1 q86.2))) rfl ?_
                                  cases h
                                  exact K _ _
                                · rw [hb83]
                                  refine ev_gos pp_law 6 (S' := (509, [some (.ref 1000000), some (.ref 0), some (.ref 198), some (.ref 222), some (.int i), some (.int q81.1), y6], [.int (i + (2 : Int32)), .ref 1000000, .int (1 : Int32), .ref 198], (223, (kc + q81.2.2.2), (ks + 6 * q81.2.2.2), pd_H q81.2.2.1 q81.2.1))) rfl ?_
                                  obtain ⟨hc87, h⟩ := pd_chk h
                                  refine ev_sald pp_law rfl hc87 ?_
                                  refine ev_gos pp_law 4 (S' := (515, [some (.ref 1000000), some (.ref 0), some (.ref 198), some (.ref 222), some (.int i), some (.int q81.1), y6], [.int (i + (3 : Int32)), .ref 1000000, .int (xs (i + (2 : Int32)).toNatClampNeg), .int (1 : Int32), .ref 198], (223, (kc + q81.2.2.2), (ks + 6 * q81.2.2.2), pd_H q81.2.2.1 q81.2.1))) rfl ?_
                                  obtain ⟨hc88, h⟩ := pd_chk h
                                  refine ev_sald pp_law rfl hc88 ?_
                                  refine ev_gos pp_law 0 (S' := (516, [some (.ref 1000000), some (.ref 0), some (.ref 198), some (.ref 222), some (.int i), some (.int q81.1), y6], [.int (xs (i + (3 : Int32)).toNatClampNeg), .int (xs (i + (2 : Int32)).toNatClampNeg), .int (1 : Int32), .ref 198], (223, (kc + q81.2.2.2), (ks + 6 * q81.2.2.2), pd_H q81.2.2.1 q81.2.1))) rfl ?_
                                  obtain ⟨q89, hq89, h⟩ := pd_bind h
                                  refine ev_callv pp_law rfl rfl rfl rfl (s_Mo_lane hq89) ?_
                                  refine ev_gos pp_law 4 (S' := (23, [some (.ref 1000000), some (.ref 0), some (.ref 198), some (.ref 222), some (.int (i + (4 : Int32))), some (.int q81.1), some (.int q89.1)], [], (223, (kc + q81.2.2.2), (ks + 6 * q81.2.2.2), pd_H q81.2.2.1 q89.2))) rfl ?_
                                  cases h
                                  exact K _ _
                            · rw [hb65]
                              rcases pd_cases h with ⟨hb90, h⟩ | ⟨hb90, h⟩
                              · rw [hb90]
                                refine ev_gos pp_law 5 (S' := (530, [some (.ref 1000000), some (.ref 0), some (.ref 198), some (.ref 222), some (.int i), y5, y6], [.int (i + (1 : Int32)), .ref 1000000, .ref 0], (223, kc, ks, pd_H g v))) rfl ?_
                                obtain ⟨hc91, h⟩ := pd_chk h
                                refine ev_sald pp_law rfl hc91 ?_
                                refine ev_gos pp_law 0 (S' := (531, [some (.ref 1000000), some (.ref 0), some (.ref 198), some (.ref 222), some (.int i), y5, y6], [.int (xs (i + (1 : Int32)).toNatClampNeg), .ref 0], (223, kc, ks, pd_H g v))) rfl ?_
                                refine ev_gos pp_law 1 (S' := (bif decide ((xs (i + (1 : Int32)).toNatClampNeg) = 0) then 538 else 534, [some (.ref 1000000), some (.ref 0), some (.ref 198), some (.ref 222), some (.int i), y5, y6], [.ref 0], (223, kc, ks, pd_H g v))) rfl ?_
                                rcases pd_cases h with ⟨hb92, h⟩ | ⟨hb92, h⟩
                                · rw [hb92]
                                  refine ev_gos pp_law 5 (S' := (544, [some (.ref 1000000), some (.ref 0), some (.ref 198), some (.ref 222), some (.int i), y5, y6], [.int (i + (2 : Int32)), .ref 1000000, .int (0 : Int32), .ref 0], (223, kc, ks, pd_H g v))) rfl ?_
                                  obtain ⟨hc93, h⟩ := pd_chk h
                                  refine ev_sald pp_law rfl hc93 ?_
                                  refine ev_gos pp_law 4 (S' := (550, [some (.ref 1000000), some (.ref 0), some (.ref 198), some (.ref 222), some (.int i), y5, y6], [.int (i + (3 : Int32)), .ref 1000000, .int (xs (i + (2 : Int32)).toNatClampNeg), .int (0 : Int32), .ref 0], (223, kc, ks, pd_H g v))) rfl ?_
                                  obtain ⟨hc94, h⟩ := pd_chk h
                                  refine ev_sald pp_law rfl hc94 ?_
                                  refine ev_gos pp_law 1 (S' := (552, [some (.ref 1000000), some (.ref 0), some (.ref 198), some (.ref 222), some (.int i), y5, y6], [.ref 222, .int (xs (i + (3 : Int32)).toNatClampNeg), .int (xs (i + (2 : Int32)).toNatClampNeg), .int (0 : Int32), .ref 0], (223, kc, ks, pd_H g v))) rfl ?_
                                  obtain ⟨q95, hq95, h⟩ := pd_bind h
                                  refine ev_call pp_law rfl rfl rfl (s_La_out hq95) ?_
                                  refine ev_gos pp_law 6 (S' := (563, [some (.ref 1000000), some (.ref 0), some (.ref 198), some (.ref 222), some (.int i), some (.int q95.1), y6], [.int (i + (1 : Int32)), .ref 1000000, .ref 198], (223, (kc + q95.2.2.2), (ks + 6 * q95.2.2.2), pd_H q95.2.2.1 q95.2.1))) rfl ?_
                                  obtain ⟨hc96, h⟩ := pd_chk h
                                  refine ev_sald pp_law rfl hc96 ?_
                                  refine ev_gos pp_law 0 (S' := (564, [some (.ref 1000000), some (.ref 0), some (.ref 198), some (.ref 222), some (.int i), some (.int q95.1), y6], [.int (xs (i + (1 : Int32)).toNatClampNeg), .ref 198], (223, (kc + q95.2.2.2), (ks + 6 * q95.2.2.2), pd_H q95.2.2.1 q95.2.1))) rfl ?_
                                  refine ev_gos pp_law 1 (S' := (bif decide ((xs (i + (1 : Int32)).toNatClampNeg) = 0) then 571 else 567, [some (.ref 1000000), some (.ref 0), some (.ref 198), some (.ref 222), some (.int i), some (.int q95.1), y6], [.ref 198], (223, (kc + q95.2.2.2), (ks + 6 * q95.2.2.2), pd_H q95.2.2.1 q95.2.1))) rfl ?_
                                  rcases pd_cases h with ⟨hb97, h⟩ | ⟨hb97, h⟩
                                  · rw [hb97]
                                    refine ev_gos pp_law 5 (S' := (577, [some (.ref 1000000), some (.ref 0), some (.ref 198), some (.ref 222), some (.int i), some (.int q95.1), y6], [.int (i + (2 : Int32)), .ref 1000000, .int (0 : Int32), .ref 198], (223, (kc + q95.2.2.2), (ks + 6 * q95.2.2.2), pd_H q95.2.2.1 q95.2.1))) rfl ?_
                                    obtain ⟨hc98, h⟩ := pd_chk h
                                    refine ev_sald pp_law rfl hc98 ?_
                                    refine ev_gos pp_law 4 (S' := (583, [some (.ref 1000000), some (.ref 0), some (.ref 198), some (.ref 222), some (.int i), some (.int q95.1), y6], [.int (i + (3 : Int32)), .ref 1000000, .int (xs (i + (2 : Int32)).toNatClampNeg), .int (0 : Int32), .ref 198], (223, (kc + q95.2.2.2), (ks + 6 * q95.2.2.2), pd_H q95.2.2.1 q95.2.1))) rfl ?_
                                    obtain ⟨hc99, h⟩ := pd_chk h
                                    refine ev_sald pp_law rfl hc99 ?_
                                    refine ev_gos pp_law 0 (S' := (584, [some (.ref 1000000), some (.ref 0), some (.ref 198), some (.ref 222), some (.int i), some (.int q95.1), y6], [.int (xs (i + (3 : Int32)).toNatClampNeg), .int (xs (i + (2 : Int32)).toNatClampNeg), .int (0 : Int32), .ref 198], (223, (kc + q95.2.2.2), (ks + 6 * q95.2.2.2), pd_H q95.2.2.1 q95.2.1))) rfl ?_
                                    obtain ⟨q100, hq100, h⟩ := pd_bind h
                                    refine ev_callv pp_law rfl rfl rfl rfl (s_Mo_out hq100) ?_
                                    refine ev_gos pp_law 4 (S' := (23, [some (.ref 1000000), some (.ref 0), some (.ref 198), some (.ref 222), some (.int (i + (4 : Int32))), some (.int q95.1), some (.int q100.1)], [], (223, (kc + q95.2.2.2), (ks + 6 * q95.2.2.2), pd_H q95.2.2.1 q100.2))) rfl ?_
                                    cases h
                                    exact K _ _
                                  · rw [hb97]
                                    refine ev_gos pp_law 6 (S' := (577, [some (.ref 1000000), some (.ref 0), some (.ref 198), some (.ref 222), some (.int i), some (.int q95.1), y6], [.int (i + (2 : Int32)), .ref 1000000, .int (1 : Int32), .ref 198], (223, (kc + q95.2.2.2), (ks + 6 * q95.2.2.2), pd_H q95.2.2.1 q95.2.1))) rfl ?_
                                    obtain ⟨hc101, h⟩ := pd_chk h
                                    refine ev_sald pp_law rfl hc101 ?_
                                    refine ev_gos pp_law 4 (S' := (583, [some (.ref 1000000), some (.ref 0), some (.ref 198), some (.ref 222), some (.int i), some (.int q95.1), y6], [.int (i + (3 : Int32)), .ref 1000000, .int (xs (i + (2 : Int32)).toNatClampNeg), .int (1 : Int32), .ref 198], (223, (kc + q95.2.2.2), (ks + 6 * q95.2.2.2), pd_H q95.2.2.1 q95.2.1))) rfl ?_
                                    obtain ⟨hc102, h⟩ := pd_chk h
                                    refine ev_sald pp_law rfl hc102 ?_
                                    refine ev_gos pp_law 0 (S' := (584, [some (.ref 1000000), some (.ref 0), some (.ref 198), some (.ref 222), some (.int i), some (.int q95.1), y6], [.int (xs (i + (3 : Int32)).toNatClampNeg), .int (xs (i + (2 : Int32)).toNatClampNeg), .int (1 : Int32), .ref 198], (223, (kc + q95.2.2.2), (ks + 6 * q95.2.2.2), pd_H q95.2.2.1 q95.2.1))) rfl ?_
                                    obtain ⟨q103, hq103, h⟩ := pd_bind h
                                    refine ev_callv pp_law rfl rfl rfl rfl (s_Mo_out hq103) ?_
                                    refine ev_gos pp_law 4 (S' := (23, [some (.ref 1000000), some (.ref 0), some (.ref 198), some (.ref 222), some (.int (i + (4 : Int32))), some (.int q95.1), some (.int q103.1)], [], (223, (kc + q95.2.2.2), (ks + 6 * q95.2.2.2), pd_H q95.2.2.1 q103.2))) rfl ?_
                                    cases h
                                    exact K _ _
                                · rw [hb92]
                                  refine ev_gos pp_law 6 (S' := (544, [some (.ref 1000000), some (.ref 0), some (.ref 198), some (.ref 222), some (.int i), y5, y6], [.int (i + (2 : Int32)), .ref 1000000, .int (1 : Int32), .ref 0], (223, kc, ks, pd_H g v))) rfl ?_
                                  obtain ⟨hc104, h⟩ := pd_chk h
                                  refine ev_sald pp_law rfl hc104 ?_
                                  refine ev_gos pp_law 4 (S' := (550, [some (.ref 1000000), some (.ref 0), some (.ref 198), some (.ref 222), some (.int i), y5, y6], [.int (i + (3 : Int32)), .ref 1000000, .int (xs (i + (2 : Int32)).toNatClampNeg), .int (1 : Int32), .ref 0], (223, kc, ks, pd_H g v))) rfl ?_
                                  obtain ⟨hc105, h⟩ := pd_chk h
                                  refine ev_sald pp_law rfl hc105 ?_
                                  refine ev_gos pp_law 1 (S' := (552, [some (.ref 1000000), some (.ref 0), some (.ref 198), some (.ref 222), some (.int i), y5, y6], [.ref 222, .int (xs (i + (3 : Int32)).toNatClampNeg), .int (xs (i + (2 : Int32)).toNatClampNeg), .int (1 : Int32), .ref 0], (223, kc, ks, pd_H g v))) rfl ?_
                                  obtain ⟨q106, hq106, h⟩ := pd_bind h
                                  refine ev_call pp_law rfl rfl rfl (s_La_out hq106) ?_
                                  refine ev_gos pp_law 6 (S' := (563, [some (.ref 1000000), some (.ref 0), some (.ref 198), some (.ref 222), some (.int i), some (.int q106.1), y6], [.int (i + (1 : Int32)), .ref 1000000, .ref 198], (223, (kc + q106.2.2.2), (ks + 6 * q106.2.2.2), pd_H q106.2.2.1 q106.2.1))) rfl ?_
                                  obtain ⟨hc107, h⟩ := pd_chk h
                                  refine ev_sald pp_law rfl hc107 ?_
                                  refine ev_gos pp_law 0 (S' := (564, [some (.ref 1000000), some (.ref 0), some (.ref 198), some (.ref 222), some (.int i), some (.int q106.1), y6], [.int (xs (i + (1 : Int32)).toNatClampNeg), .ref 198], (223, (kc + q106.2.2.2), (ks + 6 * q106.2.2.2), pd_H q106.2.2.1 q106.2.1))) rfl ?_
                                  refine ev_gos pp_law 1 (S' := (bif decide ((xs (i + (1 : Int32)).toNatClampNeg) = 0) then 571 else 567, [some (.ref 1000000), some (.ref 0), some (.ref 198), some (.ref 222), some (.int i), some (.int q106.1), y6], [.ref 198], (223, (kc + q106.2.2.2), (ks + 6 * q106.2.2.2), pd_H q106.2.2.1 q106.2.1))) rfl ?_
                                  rcases pd_cases h with ⟨hb108, h⟩ | ⟨hb108, h⟩
                                  · rw [hb108]
                                    refine ev_gos pp_law 5 (S' := (577, [some (.ref 1000000), some (.ref 0), some (.ref 198), some (.ref 222), some (.int i), some (.int q106.1), y6], [.int (i + (2 : Int32)), .ref 1000000, .int (0 : Int32), .ref 198], (223, (kc + q106.2.2.2), (ks + 6 * q106.2.2.2), pd_H q106.2.2.1 q106.2.1))) rfl ?_
                                    obtain ⟨hc109, h⟩ := pd_chk h
                                    refine ev_sald pp_law rfl hc109 ?_
                                    refine ev_gos pp_law 4 (S' := (583, [some (.ref 1000000), some (.ref 0), some (.ref 198), some (.ref 222), some (.int i), some (.int q106.1), y6], [.int (i + (3 : Int32)), .ref 1000000, .int (xs (i + (2 : Int32)).toNatClampNeg), .int (0 : Int32), .ref 198], (223, (kc + q106.2.2.2), (ks + 6 * q106.2.2.2), pd_H q106.2.2.1 q106.2.1))) rfl ?_
                                    obtain ⟨hc110, h⟩ := pd_chk h
                                    refine ev_sald pp_law rfl hc110 ?_
                                    refine ev_gos pp_law 0 (S' := (584, [some (.ref 1000000), some (.ref 0), some (.ref 198), some (.ref 222), some (.int i), some (.int q106.1), y6], [.int (xs (i + (3 : Int32)).toNatClampNeg), .int (xs (i + (2 : Int32)).toNatClampNeg), .int (0 : Int32), .ref 198], (223, (kc + q106.2.2.2), (ks + 6 * q106.2.2.2), pd_H q106.2.2.1 q106.2.1))) rfl ?_
                                    obtain ⟨q111, hq111, h⟩ := pd_bind h
                                    refine ev_callv pp_law rfl rfl rfl rfl (s_Mo_out hq111) ?_
                                    refine ev_gos pp_law 4 (S' := (23, [some (.ref 1000000), some (.ref 0), some (.ref 198), some (.ref 222), some (.int (i + (4 : Int32))), some (.int q106.1), some (.int q111.1)], [], (223, (kc + q106.2.2.2), (ks + 6 * q106.2.2.2), pd_H q106.2.2.1 q111.2))) rfl ?_
                                    cases h
                                    exact K _ _
                                  · rw [hb108]
                                    refine ev_gos pp_law 6 (S' := (577, [some (.ref 1000000), some (.ref 0), some (.ref 198), some (.ref 222), some (.int i), some (.int q106.1), y6], [.int (i + (2 : Int32)), .ref 1000000, .int (1 : Int32), .ref 198], (223, (kc + q106.2.2.2), (ks + 6 * q106.2.2.2), pd_H q106.2.2.1 q106.2.1))) rfl ?_
                                    obtain ⟨hc112, h⟩ := pd_chk h
                                    refine ev_sald pp_law rfl hc112 ?_
                                    refine ev_gos pp_law 4 (S' := (583, [some (.ref 1000000), some (.ref 0), some (.ref 198), some (.ref 222), some (.int i), some (.int q106.1), y6], [.int (i + (3 : Int32)), .ref 1000000, .int (xs (i + (2 : Int32)).toNatClampNeg), .int (1 : Int32), .ref 198], (223, (kc + q106.2.2.2), (ks + 6 * q106.2.2.2), pd_H q106.2.2.1 q106.2.1))) rfl ?_
                                    obtain ⟨hc113, h⟩ := pd_chk h
                                    refine ev_sald pp_law rfl hc113 ?_
                                    refine ev_gos pp_law 0 (S' := (584, [some (.ref 1000000), some (.ref 0), some (.ref 198), some (.ref 222), some (.int i), some (.int q106.1), y6], [.int (xs (i + (3 : Int32)).toNatClampNeg), .int (xs (i + (2 : Int32)).toNatClampNeg), .int (1 : Int32), .ref 198], (223, (kc + q106.2.2.2), (ks + 6 * q106.2.2.2), pd_H q106.2.2.1 q106.2.1))) rfl ?_
                                    obtain ⟨q114, hq114, h⟩ := pd_bind h
                                    refine ev_callv pp_law rfl rfl rfl rfl (s_Mo_out hq114) ?_
                                    refine ev_gos pp_law 4 (S' := (23, [some (.ref 1000000), some (.ref 0), some (.ref 198), some (.ref 222), some (.int (i + (4 : Int32))), some (.int q106.1), some (.int q114.1)], [], (223, (kc + q106.2.2.2), (ks + 6 * q106.2.2.2), pd_H q106.2.2.1 q114.2))) rfl ?_
                                    cases h
                                    exact K _ _
                              · rw [hb90]
                                rcases pd_cases h with ⟨hb115, h⟩ | ⟨hb115, h⟩
                                · rw [hb115]
                                  refine ev_gos pp_law 5 (S' := (598, [some (.ref 1000000), some (.ref 0), some (.ref 198), some (.ref 222), some (.int i), y5, y6], [.int (i + (1 : Int32)), .ref 1000000, .ref 0], (223, kc, ks, pd_H g v))) rfl ?_
                                  obtain ⟨hc116, h⟩ := pd_chk h
                                  refine ev_sald pp_law rfl hc116 ?_
                                  refine ev_gos pp_law 0 (S' := (599, [some (.ref 1000000), some (.ref 0), some (.ref 198), some (.ref 222), some (.int i), y5, y6], [.int (xs (i + (1 : Int32)).toNatClampNeg), .ref 0], (223, kc, ks, pd_H g v))) rfl ?_
                                  refine ev_gos pp_law 1 (S' := (bif decide ((xs (i + (1 : Int32)).toNatClampNeg) = 0) then 606 else 602, [some (.ref 1000000), some (.ref 0), some (.ref 198), some (.ref 222), some (.int i), y5, y6], [.ref 0], (223, kc, ks, pd_H g v))) rfl ?_
                                  rcases pd_cases h with ⟨hb117, h⟩ | ⟨hb117, h⟩
                                  · rw [hb117]
                                    refine ev_gos pp_law 5 (S' := (612, [some (.ref 1000000), some (.ref 0), some (.ref 198), some (.ref 222), some (.int i), y5, y6], [.int (i + (2 : Int32)), .ref 1000000, .int (0 : Int32), .ref 0], (223, kc, ks, pd_H g v))) rfl ?_
                                    obtain ⟨hc118, h⟩ := pd_chk h
                                    refine ev_sald pp_law rfl hc118 ?_
                                    refine ev_gos pp_law 4 (S' := (618, [some (.ref 1000000), some (.ref 0), some (.ref 198), some (.ref 222), some (.int i), y5, y6], [.int (i + (3 : Int32)), .ref 1000000, .int (xs (i + (2 : Int32)).toNatClampNeg), .int (0 : Int32), .ref 0], (223, kc, ks, pd_H g v))) rfl ?_
                                    obtain ⟨hc119, h⟩ := pd_chk h
                                    refine ev_sald pp_law rfl hc119 ?_
                                    refine ev_gos pp_law 1 (S' := (620, [some (.ref 1000000), some (.ref 0), some (.ref 198), some (.ref 222), some (.int i), y5, y6], [.ref 222, .int (xs (i + (3 : Int32)).toNatClampNeg), .int (xs (i + (2 : Int32)).toNatClampNeg), .int (0 : Int32), .ref 0], (223, kc, ks, pd_H g v))) rfl ?_
                                    obtain ⟨q120, hq120, h⟩ := pd_bind h
                                    refine ev_call pp_law rfl rfl rfl (s_La_cell hq120) ?_
                                    refine ev_gos pp_law 6 (S' := (631, [some (.ref 1000000), some (.ref 0), some (.ref 198), some (.ref 222), some (.int i), some (.int q120.1), y6], [.int (i + (1 : Int32)), .ref 1000000, .ref 198], (223, (kc + q120.2.2.2), (ks + 6 * q120.2.2.2), pd_H q120.2.2.1 q120.2.1))) rfl ?_
                                    obtain ⟨hc121, h⟩ := pd_chk h
                                    refine ev_sald pp_law rfl hc121 ?_
                                    refine ev_gos pp_law 0 (S' := (632, [some (.ref 1000000), some (.ref 0), some (.ref 198), some (.ref 222), some (.int i), some (.int q120.1), y6], [.int (xs (i + (1 : Int32)).toNatClampNeg), .ref 198], (223, (kc + q120.2.2.2), (ks + 6 * q120.2.2.2), pd_H q120.2.2.1 q120.2.1))) rfl ?_
                                    refine ev_gos pp_law 1 (S' := (bif decide ((xs (i + (1 : Int32)).toNatClampNeg) = 0) then 639 else 635, [some (.ref 1000000), some (.ref 0), some (.ref 198), some (.ref 222), some (.int i), some (.int q120.1), y6], [.ref 198], (223, (kc + q120.2.2.2), (ks + 6 * q120.2.2.2), pd_H q120.2.2.1 q120.2.1))) rfl ?_
                                    rcases pd_cases h with ⟨hb122, h⟩ | ⟨hb122, h⟩
                                    · rw [hb122]
                                      refine ev_gos pp_law 5 (S' := (645, [some (.ref 1000000), some (.ref 0), some (.ref 198), some (.ref 222), some (.int i), some (.int q120.1), y6], [.int (i + (2 : Int32)), .ref 1000000, .int (0 : Int32), .ref 198], (223, (kc + q120.2.2.2), (ks + 6 * q120.2.2.2), pd_H q120.2.2.1 q120.2.1))) rfl ?_
                                      obtain ⟨hc123, h⟩ := pd_chk h
                                      refine ev_sald pp_law rfl hc123 ?_
                                      refine ev_gos pp_law 4 (S' := (651, [some (.ref 1000000), some (.ref 0), some (.ref 198), some (.ref 222), some (.int i), some (.int q120.1), y6], [.int (i + (3 : Int32)), .ref 1000000, .int (xs (i + (2 : Int32)).toNatClampNeg), .int (0 : Int32), .ref 198], (223, (kc + q120.2.2.2), (ks + 6 * q120.2.2.2), pd_H q120.2.2.1 q120.2.1))) rfl ?_
                                      obtain ⟨hc124, h⟩ := pd_chk h
                                      refine ev_sald pp_law rfl hc124 ?_
                                      refine ev_gos pp_law 0 (S' := (652, [some (.ref 1000000), some (.ref 0), some (.ref 198), some (.ref 222), some (.int i), some (.int q120.1), y6], [.int (xs (i + (3 : Int32)).toNatClampNeg), .int (xs (i + (2 : Int32)).toNatClampNeg), .int (0 : Int32), .ref 198], (223, (kc + q120.2.2.2), (ks + 6 * q120.2.2.2), pd_H q120.2.2.1 q120.2.1))) rfl ?_
                                      obtain ⟨q125, hq125, h⟩ := pd_bind h
                                      refine ev_callv pp_law rfl rfl rfl rfl (s_Mo_cell hq125) ?_
                                      refine ev_gos pp_law 4 (S' := (23, [some (.ref 1000000), some (.ref 0), some (.ref 198), some (.ref 222), some (.int (i + (4 : Int32))), some (.int q120.1), some (.int q125.1)], [], (223, (kc + q120.2.2.2), (ks + 6 * q120.2.2.2), pd_H q120.2.2.1 q125.2))) rfl ?_
                                      cases h
                                      exact K _ _
                                    · rw [hb122]
                                      refine ev_gos pp_law 6 (S' := (645, [some (.ref 1000000), some (.ref 0), some (.ref 198), some (.ref 222), some (.int i), some (.int q120.1), y6], [.int (i + (2 : Int32)), .ref 1000000, .int (1 : Int32), .ref 198], (223, (kc + q120.2.2.2), (ks + 6 * q120.2.2.2), pd_H q120.2.2.1 q120.2.1))) rfl ?_
                                      obtain ⟨hc126, h⟩ := pd_chk h
                                      refine ev_sald pp_law rfl hc126 ?_
                                      refine ev_gos pp_law 4 (S' := (651, [some (.ref 1000000), some (.ref 0), some (.ref 198), some (.ref 222), some (.int i), some (.int q120.1), y6], [.int (i + (3 : Int32)), .ref 1000000, .int (xs (i + (2 : Int32)).toNatClampNeg), .int (1 : Int32), .ref 198], (223, (kc + q120.2.2.2), (ks + 6 * q120.2.2.2), pd_H q120.2.2.1 q120.2.1))) rfl ?_
                                      obtain ⟨hc127, h⟩ := pd_chk h
                                      refine ev_sald pp_law rfl hc127 ?_
                                      refine ev_gos pp_law 0 (S' := (652, [some (.ref 1000000), some (.ref 0), some (.ref 198), some (.ref 222), some (.int i), some (.int q120.1), y6], [.int (xs (i + (3 : Int32)).toNatClampNeg), .int (xs (i + (2 : Int32)).toNatClampNeg), .int (1 : Int32), .ref 198], (223, (kc + q120.2.2.2), (ks + 6 * q120.2.2.2), pd_H q120.2.2.1 q120.2.1))) rfl ?_
                                      obtain ⟨q128, hq128, h⟩ := pd_bind h
                                      refine ev_callv pp_law rfl rfl rfl rfl (s_Mo_cell hq128) ?_
                                      refine ev_gos pp_law 4 (S' := (23, [some (.ref 1000000), some (.ref 0), some (.ref 198), some (.ref 222), some (.int (i + (4 : Int32))), some (.int q120.1), some (.int q128.1)], [], (223, (kc + q120.2.2.2), (ks + 6 * q120.2.2.2), pd_H q120.2.2.1 q128.2))) rfl ?_
                                      cases h
                                      exact K _ _
                                  · rw [hb117]
                                    refine ev_gos pp_law 6 (S' := (612, [some (.ref 1000000), some (.ref 0), some (.ref 198), some (.ref 222), some (.int i), y5, y6], [.int (i + (2 : Int32)), .ref 1000000, .int (1 : Int32), .ref 0], (223, kc, ks, pd_H g v))) rfl ?_
                                    obtain ⟨hc129, h⟩ := pd_chk h
                                    refine ev_sald pp_law rfl hc129 ?_
                                    refine ev_gos pp_law 4 (S' := (618, [some (.ref 1000000), some (.ref 0), some (.ref 198), some (.ref 222), some (.int i), y5, y6], [.int (i + (3 : Int32)), .ref 1000000, .int (xs (i + (2 : Int32)).toNatClampNeg), .int (1 : Int32), .ref 0], (223, kc, ks, pd_H g v))) rfl ?_
                                    obtain ⟨hc130, h⟩ := pd_chk h
                                    refine ev_sald pp_law rfl hc130 ?_
                                    refine ev_gos pp_law 1 (S' := (620, [some (.ref 1000000), some (.ref 0), some (.ref 198), some (.ref 222), some (.int i), y5, y6], [.ref 222, .int (xs (i + (3 : Int32)).toNatClampNeg), .int (xs (i + (2 : Int32)).toNatClampNeg), .int (1 : Int32), .ref 0], (223, kc, ks, pd_H g v))) rfl ?_
                                    obtain ⟨q131, hq131, h⟩ := pd_bind h
                                    refine ev_call pp_law rfl rfl rfl (s_La_cell hq131) ?_
                                    refine ev_gos pp_law 6 (S' := (631, [some (.ref 1000000), some (.ref 0), some (.ref 198), some (.ref 222), some (.int i), some (.int q131.1), y6], [.int (i + (1 : Int32)), .ref 1000000, .ref 198], (223, (kc + q131.2.2.2), (ks + 6 * q131.2.2.2), pd_H q131.2.2.1 q131.2.1))) rfl ?_
                                    obtain ⟨hc132, h⟩ := pd_chk h
                                    refine ev_sald pp_law rfl hc132 ?_
                                    refine ev_gos pp_law 0 (S' := (632, [some (.ref 1000000), some (.ref 0), some (.ref 198), some (.ref 222), some (.int i), some (.int q131.1), y6], [.int (xs (i + (1 : Int32)).toNatClampNeg), .ref 198], (223, (kc + q131.2.2.2), (ks + 6 * q131.2.2.2), pd_H q131.2.2.1 q131.2.1))) rfl ?_
                                    refine ev_gos pp_law 1 (S' := (bif decide ((xs (i + (1 : Int32)).toNatClampNeg) = 0) then 639 else 635, [some (.ref 1000000), some (.ref 0), some (.ref 198), some (.ref 222), some (.int i), some (.int q131.1), y6], [.ref 198], (223, (kc + q131.2.2.2), (ks + 6 * q131.2.2.2), pd_H q131.2.2.1 q131.2.1))) rfl ?_
                                    rcases pd_cases h with ⟨hb133, h⟩ | ⟨hb133, h⟩
                                    · rw [hb133]
                                      refine ev_gos pp_law 5 (S' := (645, [some (.ref 1000000), some (.ref 0), some (.ref 198), some (.ref 222), some (.int i), some (.int q131.1), y6], [.int (i + (2 : Int32)), .ref 1000000, .int (0 : Int32), .ref 198], (223, (kc + q131.2.2.2), (ks + 6 * q131.2.2.2), pd_H q131.2.2.1 q131.2.1))) rfl ?_
                                      obtain ⟨hc134, h⟩ := pd_chk h
                                      refine ev_sald pp_law rfl hc134 ?_
                                      refine ev_gos pp_law 4 (S' := (651, [some (.ref 1000000), some (.ref 0), some (.ref 198), some (.ref 222), some (.int i), some (.int q131.1), y6], [.int (i + (3 : Int32)), .ref 1000000, .int (xs (i + (2 : Int32)).toNatClampNeg), .int (0 : Int32), .ref 198], (223, (kc + q131.2.2.2), (ks + 6 * q131.2.2.2), pd_H q131.2.2.1 q131.2.1))) rfl ?_
                                      obtain ⟨hc135, h⟩ := pd_chk h
                                      refine ev_sald pp_law rfl hc135 ?_
                                      refine ev_gos pp_law 0 (S' := (652, [some (.ref 1000000), some (.ref 0), some (.ref 198), some (.ref 222), some (.int i), some (.int q131.1), y6], [.int (xs (i + (3 : Int32)).toNatClampNeg), .int (xs (i + (2 : Int32)).toNatClampNeg), .int (0 : Int32), .ref 198], (223, (kc + q131.2.2.2), (ks + 6 * q131.2.2.2), pd_H q131.2.2.1 q131.2.1))) rfl ?_
                                      obtain ⟨q136, hq136, h⟩ := pd_bind h
                                      refine ev_callv pp_law rfl rfl rfl rfl (s_Mo_cell hq136) ?_
                                      refine ev_gos pp_law 4 (S' := (23, [some (.ref 1000000), some (.ref 0), some (.ref 198), some (.ref 222), some (.int (i + (4 : Int32))), some (.int q131.1), some (.int q136.1)], [], (223, (kc + q131.2.2.2), (ks + 6 * q131.2.2.2), pd_H q131.2.2.1 q136.2))) rfl ?_
                                      cases h
                                      exact K _ _
                                    · rw [hb133]
                                      refine ev_gos pp_law 6 (S' := (645, [some (.ref 1000000), some (.ref 0), some (.ref 198), some (.ref 222), some (.int i), some (.int q131.1), y6], [.int (i + (2 : Int32)), .ref 1000000, .int (1 : Int32), .ref 198], (223, (kc + q131.2.2.2), (ks + 6 * q131.2.2.2), pd_H q131.2.2.1 q131.2.1))) rfl ?_
                                      obtain ⟨hc137, h⟩ := pd_chk h
                                      refine ev_sald pp_law rfl hc137 ?_
                                      refine ev_gos pp_law 4 (S' := (651, [some (.ref 1000000), some (.ref 0), some (.ref 198), some (.ref 222), some (.int i), some (.int q131.1), y6], [.int (i + (3 : Int32)), .ref 1000000, .int (xs (i + (2 : Int32)).toNatClampNeg), .int (1 : Int32), .ref 198], (223, (kc + q131.2.2.2), (ks + 6 * q131.2.2.2), pd_H q131.2.2.1 q131.2.1))) rfl ?_
                                      obtain ⟨hc138, h⟩ := pd_chk h
                                      refine ev_sald pp_law rfl hc138 ?_
                                      refine ev_gos pp_law 0 (S' := (652, [some (.ref 1000000), some (.ref 0), some (.ref 198), some (.ref 222), some (.int i), some (.int q131.1), y6], [.int (xs (i + (3 : Int32)).toNatClampNeg), .int (xs (i + (2 : Int32)).toNatClampNeg), .int (1 : Int32), .ref 198], (223, (kc + q131.2.2.2), (ks + 6 * q131.2.2.2), pd_H q131.2.2.1 q131.2.1))) rfl ?_
                                      obtain ⟨q139, hq139, h⟩ := pd_bind h
                                      refine ev_callv pp_law rfl rfl rfl rfl (s_Mo_cell hq139) ?_
                                      refine ev_gos pp_law 4 (S' := (23, [some (.ref 1000000), some (.ref 0), some (.ref 198), some (.ref 222), some (.int (i + (4 : Int32))), some (.int q131.1), some (.int q139.1)], [], (223, (kc + q131.2.2.2), (ks + 6 * q131.2.2.2), pd_H q131.2.2.1 q139.2))) rfl ?_
                                      cases h
                                      exact K _ _
                                · rw [hb115]
                                  refine ev_gos pp_law 2 (S' := (23, [some (.ref 1000000), some (.ref 0), some (.ref 198), some (.ref 222), some (.int (i + (4 : Int32))), y5, y6], [], (223, kc, ks, pd_H g v))) rfl ?_
                                  cases h
                                  exact K _ _
end LS9
