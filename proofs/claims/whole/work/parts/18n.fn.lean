section FN
variable {xs : Nat → Int32} {L : Nat} {g : Nat → Int64} {d kc ks : Nat}
theorem pp_Mo_round {xs : Nat → Int32} {L : Nat} : (pj_P xs L 145).1 = fun S => pm_look tb_Mo_round S.1 S := rfl
def d_Mo_round_49 (w : Nat) (f : Nat) (l1 : Int32) (l2 : Int32) (l3 : Int32) (v : pd_V) : Option (Int32 × pd_V) := match f with
  | 0 => none
  | f + 1 =>
    bif decide ((8 : Int32) ≤ l3) then
      bif decide (0 ≤ l2) then
        bif pm_in (l2 + (1 : Int32)) 160 then
        bif pm_in (l2 + (2 : Int32)) 160 then
        (d_Mo_exchange w (8 : Int32) l1 ((v 200 ((l2 + (1 : Int32)).toNatClampNeg)) - (97 : Int32)) ((v 200 ((l2 + (2 : Int32)).toNatClampNeg)) - (97 : Int32)) v).bind fun q5 =>
        some ((1 : Int32), q5)
        else none
        else none
      else
        some ((2 : Int32), v)
    else
      bif pm_in l3 8 then
      bif !(decide ((v 215 l3.toNatClampNeg) = 0)) then
        bif !(decide ((v 198 28) = 0)) then
          bif pm_in l3 8 then
          (d_Mo_valueOf w ((8 : Int32) + l3) ((v 210 l3.toNatClampNeg) + (3 : Int32)) (v 210 l3.toNatClampNeg) (pd_w v 198 28 ((v 198 28) - (1 : Int32)))).bind fun q10 =>
          bif pm_in l3 8 then
          bif pm_in ((8 : Int32) + l3) 16 then
          bif decide ((q10.2 209 (((8 : Int32) + l3).toNatClampNeg)) = 0) then
            (d_Mo_upTo w 200 160 (v 210 l3.toNatClampNeg) (59 : Int32) (59 : Int32) (pd_w q10.2 214 l3.toNatClampNeg q10.1)).bind fun q14 =>
            bif pm_in l3 8 then
            d_Mo_round_49 w f (l1 ||| ((1 : Int32) <<< (l3 &&& 31))) (v 210 l3.toNatClampNeg) (l3 + (1 : Int32)) (pd_w (pd_w q10.2 214 l3.toNatClampNeg q10.1) 210 l3.toNatClampNeg (q14 + (1 : Int32)))
            else none
          else
            (d_Mo_upTo w 200 160 (v 210 l3.toNatClampNeg) (59 : Int32) (59 : Int32) (pd_w q10.2 214 l3.toNatClampNeg q10.1)).bind fun q16 =>
            bif pm_in l3 8 then
            d_Mo_round_49 w f l1 (v 210 l3.toNatClampNeg) (l3 + (1 : Int32)) (pd_w (pd_w q10.2 214 l3.toNatClampNeg q10.1) 210 l3.toNatClampNeg (q16 + (1 : Int32)))
            else none
          else none
          else none
          else none
        else
          some ((0 : Int32), v)
      else
        d_Mo_round_49 w f l1 l2 (l3 + (1 : Int32)) v
      else none
set_option maxRecDepth 100000 in
set_option maxHeartbeats 4000000 in
theorem s_Mo_round_49 {w : Nat} : ∀ (f : Nat) (l1 : Int32) (l2 : Int32) (l3 : Int32) (v : pd_V)  (q : (Int32 × pd_V)) , d_Mo_round_49 w f l1 l2 l3 v = some q → pm_ev (pj_P xs L) (d + 6) 145 (49, [some (.ref 198), some (.int l1), some (.int l2), some (.int l3)], [], (223, kc, ks, pd_H g v)) (.inl (some (.int q.1)), (223, kc, ks, pd_H g q.2)) := by
  intro f
  induction f with
  | zero => intro l1 l2 l3 v q h; exact nomatch (show (none : Option (Int32 × pd_V)) = some q from h)
  | succ f ih =>
    intro l1 l2 l3 v q h
    rw [d_Mo_round_49] at h
    refine ev_gos pp_Mo_round 2 (S' := (52, [some (.ref 198), some (.int l1), some (.int l2), some (.int l3)], [.int (8 : Int32), .int l3], (223, kc, ks, pd_H g v))) rfl ?_
    refine ev_gos pp_Mo_round 1 (S' := (bif decide ((8 : Int32) ≤ l3) then 159 else 55, [some (.ref 198), some (.int l1), some (.int l2), some (.int l3)], [], (223, kc, ks, pd_H g v))) rfl ?_
    rcases pd_cases h with ⟨hb1, h⟩ | ⟨hb1, h⟩
    · rw [hb1]
      refine ev_gos pp_Mo_round 1 (S' := (160, [some (.ref 198), some (.int l1), some (.int l2), some (.int l3)], [.int l2], (223, kc, ks, pd_H g v))) rfl ?_
      refine ev_gos pp_Mo_round 1 (S' := (bif decide (0 ≤ l2) then 165 else 163, [some (.ref 198), some (.int l1), some (.int l2), some (.int l3)], [], (223, kc, ks, pd_H g v))) rfl ?_
      rcases pd_cases h with ⟨hb2, h⟩ | ⟨hb2, h⟩
      · rw [hb2]
        refine ev_gos pp_Mo_round 8 (S' := (176, [some (.ref 198), some (.int l1), some (.int l2), some (.int l3)], [.int (l2 + (1 : Int32)), .ref 200, .int l1, .int (8 : Int32), .ref 198], (223, kc, ks, pd_H g v))) rfl ?_
        obtain ⟨hc3, h⟩ := pd_chk h
        refine ev_iald pp_Mo_round rfl (fun _ => rfl) hc3 ?_
        refine ev_gos pp_Mo_round 7 (S' := (187, [some (.ref 198), some (.int l1), some (.int l2), some (.int l3)], [.int (l2 + (2 : Int32)), .ref 200, .int ((v 200 ((l2 + (1 : Int32)).toNatClampNeg)) - (97 : Int32)), .int l1, .int (8 : Int32), .ref 198], (223, kc, ks, pd_H g v))) rfl ?_
        obtain ⟨hc4, h⟩ := pd_chk h
        refine ev_iald pp_Mo_round rfl (fun _ => rfl) hc4 ?_
        refine ev_gos pp_Mo_round 2 (S' := (191, [some (.ref 198), some (.int l1), some (.int l2), some (.int l3)], [.int ((v 200 ((l2 + (2 : Int32)).toNatClampNeg)) - (97 : Int32)), .int ((v 200 ((l2 + (1 : Int32)).toNatClampNeg)) - (97 : Int32)), .int l1, .int (8 : Int32), .ref 198], (223, kc, ks, pd_H g v))) rfl ?_
        obtain ⟨q5, hq5, h⟩ := pd_bind h
        refine ev_callv pp_Mo_round rfl rfl rfl rfl (s_Mo_exchange hq5) ?_
        refine ev_gos pp_Mo_round 1 (S' := (195, [some (.ref 198), some (.int l1), some (.int l2), some (.int l3)], [.int (1 : Int32)], (223, kc, ks, pd_H g q5))) rfl ?_
        cases h
        exact ev_fin pp_Mo_round rfl
      · rw [hb2]
        refine ev_gos pp_Mo_round 1 (S' := (164, [some (.ref 198), some (.int l1), some (.int l2), some (.int l3)], [.int (2 : Int32)], (223, kc, ks, pd_H g v))) rfl ?_
        cases h
        exact ev_fin pp_Mo_round rfl
    · rw [hb1]
      refine ev_gos pp_Mo_round 3 (S' := (60, [some (.ref 198), some (.int l1), some (.int l2), some (.int l3)], [.int l3, .ref 215], (223, kc, ks, pd_H g v))) rfl ?_
      obtain ⟨hc6, h⟩ := pd_chk h
      refine ev_zald pp_Mo_round rfl (fun _ => rfl) hc6 ?_
      refine ev_gos pp_Mo_round 0 (S' := (61, [some (.ref 198), some (.int l1), some (.int l2), some (.int l3)], [.int (v 215 l3.toNatClampNeg)], (223, kc, ks, pd_H g v))) rfl ?_
      refine ev_gos pp_Mo_round 1 (S' := (bif !(decide ((v 215 l3.toNatClampNeg) = 0)) then 67 else 64, [some (.ref 198), some (.int l1), some (.int l2), some (.int l3)], [], (223, kc, ks, pd_H g v))) rfl ?_
      rcases pd_cases h with ⟨hb7, h⟩ | ⟨hb7, h⟩
      · rw [hb7]
        refine ev_gos pp_Mo_round 2 (S' := (71, [some (.ref 198), some (.int l1), some (.int l2), some (.int l3)], [.int (v 198 28)], (223, kc, ks, pd_H g v))) rfl ?_
        refine ev_gos pp_Mo_round 1 (S' := (bif !(decide ((v 198 28) = 0)) then 76 else 74, [some (.ref 198), some (.int l1), some (.int l2), some (.int l3)], [], (223, kc, ks, pd_H g v))) rfl ?_
        rcases pd_cases h with ⟨hb8, h⟩ | ⟨hb8, h⟩
        · rw [hb8]
          refine ev_gos pp_Mo_round 5 (S' := (83, [some (.ref 198), some (.int l1), some (.int l2), some (.int l3)], [.int ((v 198 28) - (1 : Int32)), .ref 198], (223, kc, ks, pd_H g v))) rfl ?_
          refine ev_put pp_Mo_round rfl (fun _ => rfl) rfl rfl rfl ?_
          refine ev_gos pp_Mo_round 3 (S' := (91, [some (.ref 198), some (.int l1), some (.int l2), some (.int l3)], [.int l3, .ref 210], (223, kc, ks, pd_H g (pd_w v 198 28 ((v 198 28) - (1 : Int32)))))) rfl ?_
          obtain ⟨hc9, h⟩ := pd_chk h
          refine ev_iald pp_Mo_round rfl (fun _ => rfl) hc9 ?_
          refine ev_gos pp_Mo_round 12 (S' := (107, [some (.ref 198), some (.int l1), some (.int (v 210 l3.toNatClampNeg)), some (.int l3)], [.int (v 210 l3.toNatClampNeg), .int ((v 210 l3.toNatClampNeg) + (3 : Int32)), .int ((8 : Int32) + l3), .ref 198, .int l3, .ref 214], (223, kc, ks, pd_H g (pd_w v 198 28 ((v 198 28) - (1 : Int32)))))) rfl ?_
          obtain ⟨q10, hq10, h⟩ := pd_bind h
          refine ev_callv pp_Mo_round rfl rfl rfl rfl (s_Mo_valueOf hq10) ?_
          refine ev_gos pp_Mo_round 0 (S' := (110, [some (.ref 198), some (.int l1), some (.int (v 210 l3.toNatClampNeg)), some (.int l3)], [.int q10.1, .int l3, .ref 214], (223, kc, ks, pd_H g q10.2))) rfl ?_
          obtain ⟨hc11, h⟩ := pd_chk h
          refine ev_iast pp_Mo_round rfl (fun _ => rfl) hc11 ?_
          refine ev_gos pp_Mo_round 5 (S' := (119, [some (.ref 198), some (.int l1), some (.int (v 210 l3.toNatClampNeg)), some (.int l3)], [.int ((8 : Int32) + l3), .ref 209], (223, kc, ks, pd_H g (pd_w q10.2 214 l3.toNatClampNeg q10.1)))) rfl ?_
          obtain ⟨hc12, h⟩ := pd_chk h
          refine ev_zald pp_Mo_round rfl (fun _ => rfl) hc12 ?_
          refine ev_gos pp_Mo_round 0 (S' := (120, [some (.ref 198), some (.int l1), some (.int (v 210 l3.toNatClampNeg)), some (.int l3)], [.int (q10.2 209 (((8 : Int32) + l3).toNatClampNeg))], (223, kc, ks, pd_H g (pd_w q10.2 214 l3.toNatClampNeg q10.1)))) rfl ?_
          refine ev_gos pp_Mo_round 1 (S' := (bif decide ((q10.2 209 (((8 : Int32) + l3).toNatClampNeg)) = 0) then 127 else 123, [some (.ref 198), some (.int l1), some (.int (v 210 l3.toNatClampNeg)), some (.int l3)], [], (223, kc, ks, pd_H g (pd_w q10.2 214 l3.toNatClampNeg q10.1)))) rfl ?_
          rcases pd_cases h with ⟨hb13, h⟩ | ⟨hb13, h⟩
          · rw [hb13]
            refine ev_gos pp_Mo_round 14 (S' := (147, [some (.ref 198), some (.int (l1 ||| ((1 : Int32) <<< (l3 &&& 31)))), some (.int (v 210 l3.toNatClampNeg)), some (.int l3)], [.int (59 : Int32), .int (59 : Int32), .int (v 210 l3.toNatClampNeg), .ref 200, .int l3, .ref 210], (223, kc, ks, pd_H g (pd_w q10.2 214 l3.toNatClampNeg q10.1)))) rfl ?_
            obtain ⟨q14, hq14, h⟩ := pd_bind h
            refine ev_call pp_Mo_round rfl rfl rfl (s_Mo_upTo (fun _ => rfl) hq14) ?_
            refine ev_gos pp_Mo_round 2 (S' := (152, [some (.ref 198), some (.int (l1 ||| ((1 : Int32) <<< (l3 &&& 31)))), some (.int (v 210 l3.toNatClampNeg)), some (.int l3)], [.int (q14 + (1 : Int32)), .int l3, .ref 210], (223, kc, ks, pd_H g (pd_w q10.2 214 l3.toNatClampNeg q10.1)))) rfl ?_
            obtain ⟨hc15, h⟩ := pd_chk h
            refine ev_iast pp_Mo_round rfl (fun _ => rfl) hc15 ?_
            refine ev_gos pp_Mo_round 2 (S' := (49, [some (.ref 198), some (.int (l1 ||| ((1 : Int32) <<< (l3 &&& 31)))), some (.int (v 210 l3.toNatClampNeg)), some (.int (l3 + (1 : Int32)))], [], (223, kc, ks, pd_H g (pd_w (pd_w q10.2 214 l3.toNatClampNeg q10.1) 210 l3.toNatClampNeg (q14 + (1 : Int32)))))) rfl ?_
            exact ih _ _ _ _ _  h
          · rw [hb13]
            refine ev_gos pp_Mo_round 11 (S' := (147, [some (.ref 198), some (.int l1), some (.int (v 210 l3.toNatClampNeg)), some (.int l3)], [.int (59 : Int32), .int (59 : Int32), .int (v 210 l3.toNatClampNeg), .ref 200, .int l3, .ref 210], (223, kc, ks, pd_H g (pd_w q10.2 214 l3.toNatClampNeg q10.1)))) rfl ?_
            obtain ⟨q16, hq16, h⟩ := pd_bind h
            refine ev_call pp_Mo_round rfl rfl rfl (s_Mo_upTo (fun _ => rfl) hq16) ?_
            refine ev_gos pp_Mo_round 2 (S' := (152, [some (.ref 198), some (.int l1), some (.int (v 210 l3.toNatClampNeg)), some (.int l3)], [.int (q16 + (1 : Int32)), .int l3, .ref 210], (223, kc, ks, pd_H g (pd_w q10.2 214 l3.toNatClampNeg q10.1)))) rfl ?_
            obtain ⟨hc17, h⟩ := pd_chk h
            refine ev_iast pp_Mo_round rfl (fun _ => rfl) hc17 ?_
            refine ev_gos pp_Mo_round 2 (S' := (49, [some (.ref 198), some (.int l1), some (.int (v 210 l3.toNatClampNeg)), some (.int (l3 + (1 : Int32)))], [], (223, kc, ks, pd_H g (pd_w (pd_w q10.2 214 l3.toNatClampNeg q10.1) 210 l3.toNatClampNeg (q16 + (1 : Int32)))))) rfl ?_
            exact ih _ _ _ _ _  h
        · rw [hb8]
          refine ev_gos pp_Mo_round 1 (S' := (75, [some (.ref 198), some (.int l1), some (.int l2), some (.int l3)], [.int (0 : Int32)], (223, kc, ks, pd_H g v))) rfl ?_
          cases h
          exact ev_fin pp_Mo_round rfl
      · rw [hb7]
        refine ev_gos pp_Mo_round 3 (S' := (49, [some (.ref 198), some (.int l1), some (.int l2), some (.int (l3 + (1 : Int32)))], [], (223, kc, ks, pd_H g v))) rfl ?_
        exact ih _ _ _ _ _  h
def d_Mo_round_6 (w : Nat) (f : Nat) (l1 : Int32) (l2 : Int32) (l3 : Int32) (v : pd_V) : Option (Int32 × pd_V) := match f with
  | 0 => none
  | f + 1 =>
    bif decide ((8 : Int32) ≤ l3) then
      d_Mo_round_49 w w l1 l2 (0 : Int32) v
    else
      bif pm_in l3 8 then
      bif pm_in ((8 : Int32) + l3) 16 then
      bif !(decide ((v 209 (((8 : Int32) + l3).toNatClampNeg)) = 0)) then
        d_Mo_round_6 w f l1 l2 (l3 + (1 : Int32)) (pd_w v 215 l3.toNatClampNeg (0 : Int32))
      else
        (d_Mo_goes w l3 (pd_w v 215 l3.toNatClampNeg (0 : Int32))).bind fun q5 =>
        bif !(decide (q5.1 = 0)) then
          d_Mo_round_6 w f l1 l2 (l3 + (1 : Int32)) q5.2
        else
          some ((0 : Int32), q5.2)
      else none
      else none
set_option maxRecDepth 100000 in
set_option maxHeartbeats 4000000 in
theorem s_Mo_round_6 {w : Nat} : ∀ (f : Nat) (l1 : Int32) (l2 : Int32) (l3 : Int32) (v : pd_V)  (q : (Int32 × pd_V)) , d_Mo_round_6 w f l1 l2 l3 v = some q → pm_ev (pj_P xs L) (d + 6) 145 (6, [some (.ref 198), some (.int l1), some (.int l2), some (.int l3)], [], (223, kc, ks, pd_H g v)) (.inl (some (.int q.1)), (223, kc, ks, pd_H g q.2)) := by
  intro f
  induction f with
  | zero => intro l1 l2 l3 v q h; exact nomatch (show (none : Option (Int32 × pd_V)) = some q from h)
  | succ f ih =>
    intro l1 l2 l3 v q h
    rw [d_Mo_round_6] at h
    refine ev_gos pp_Mo_round 2 (S' := (9, [some (.ref 198), some (.int l1), some (.int l2), some (.int l3)], [.int (8 : Int32), .int l3], (223, kc, ks, pd_H g v))) rfl ?_
    refine ev_gos pp_Mo_round 1 (S' := (bif decide ((8 : Int32) ≤ l3) then 47 else 12, [some (.ref 198), some (.int l1), some (.int l2), some (.int l3)], [], (223, kc, ks, pd_H g v))) rfl ?_
    rcases pd_cases h with ⟨hb1, h⟩ | ⟨hb1, h⟩
    · rw [hb1]
      refine ev_gos pp_Mo_round 2 (S' := (49, [some (.ref 198), some (.int l1), some (.int l2), some (.int (0 : Int32))], [], (223, kc, ks, pd_H g v))) rfl ?_
      exact s_Mo_round_49 _ _ _ _ _ _  h
    · rw [hb1]
      refine ev_gos pp_Mo_round 4 (S' := (18, [some (.ref 198), some (.int l1), some (.int l2), some (.int l3)], [.int (0 : Int32), .int l3, .ref 215], (223, kc, ks, pd_H g v))) rfl ?_
      obtain ⟨hc2, h⟩ := pd_chk h
      refine ev_zast pp_Mo_round rfl (fun _ => rfl) hc2 pd_b0 ?_
      refine ev_gos pp_Mo_round 5 (S' := (27, [some (.ref 198), some (.int l1), some (.int l2), some (.int l3)], [.int ((8 : Int32) + l3), .ref 209], (223, kc, ks, pd_H g (pd_w v 215 l3.toNatClampNeg (0 : Int32))))) rfl ?_
      obtain ⟨hc3, h⟩ := pd_chk h
      refine ev_zald pp_Mo_round rfl (fun _ => rfl) hc3 ?_
      refine ev_gos pp_Mo_round 0 (S' := (28, [some (.ref 198), some (.int l1), some (.int l2), some (.int l3)], [.int (v 209 (((8 : Int32) + l3).toNatClampNeg))], (223, kc, ks, pd_H g (pd_w v 215 l3.toNatClampNeg (0 : Int32))))) rfl ?_
      refine ev_gos pp_Mo_round 1 (S' := (bif !(decide ((v 209 (((8 : Int32) + l3).toNatClampNeg)) = 0)) then 41 else 31, [some (.ref 198), some (.int l1), some (.int l2), some (.int l3)], [], (223, kc, ks, pd_H g (pd_w v 215 l3.toNatClampNeg (0 : Int32))))) rfl ?_
      rcases pd_cases h with ⟨hb4, h⟩ | ⟨hb4, h⟩
      · rw [hb4]
        refine ev_gos pp_Mo_round 2 (S' := (6, [some (.ref 198), some (.int l1), some (.int l2), some (.int (l3 + (1 : Int32)))], [], (223, kc, ks, pd_H g (pd_w v 215 l3.toNatClampNeg (0 : Int32))))) rfl ?_
        exact ih _ _ _ _ _  h
      · rw [hb4]
        refine ev_gos pp_Mo_round 2 (S' := (33, [some (.ref 198), some (.int l1), some (.int l2), some (.int l3)], [.int l3, .ref 198], (223, kc, ks, pd_H g (pd_w v 215 l3.toNatClampNeg (0 : Int32))))) rfl ?_
        obtain ⟨q5, hq5, h⟩ := pd_bind h
        refine ev_callv pp_Mo_round rfl rfl rfl rfl (s_Mo_goes hq5) ?_
        refine ev_gos pp_Mo_round 0 (S' := (36, [some (.ref 198), some (.int l1), some (.int l2), some (.int l3)], [.int q5.1], (223, kc, ks, pd_H g q5.2))) rfl ?_
        refine ev_gos pp_Mo_round 1 (S' := (bif !(decide (q5.1 = 0)) then 41 else 39, [some (.ref 198), some (.int l1), some (.int l2), some (.int l3)], [], (223, kc, ks, pd_H g q5.2))) rfl ?_
        rcases pd_cases h with ⟨hb6, h⟩ | ⟨hb6, h⟩
        · rw [hb6]
          refine ev_gos pp_Mo_round 2 (S' := (6, [some (.ref 198), some (.int l1), some (.int l2), some (.int (l3 + (1 : Int32)))], [], (223, kc, ks, pd_H g q5.2))) rfl ?_
          exact ih _ _ _ _ _  h
        · rw [hb6]
          refine ev_gos pp_Mo_round 1 (S' := (40, [some (.ref 198), some (.int l1), some (.int l2), some (.int l3)], [.int (0 : Int32)], (223, kc, ks, pd_H g q5.2))) rfl ?_
          cases h
          exact ev_fin pp_Mo_round rfl
def d_Mo_round (w : Nat)  (v : pd_V) : Option (Int32 × pd_V) :=
  d_Mo_round_6 w w (0 : Int32) (-1 : Int32) (0 : Int32) v
set_option maxRecDepth 100000 in
set_option maxHeartbeats 4000000 in
theorem s_Mo_round {w : Nat}  {v : pd_V} {q : (Int32 × pd_V)}  (h : d_Mo_round w v = some q) : pm_ev (pj_P xs L) (d + 6) 145 (0, [some (.ref 198), none, none, none], [], (223, kc, ks, pd_H g v)) (.inl (some (.int q.1)), (223, kc, ks, pd_H g q.2)) := by
  unfold d_Mo_round at h
  refine ev_gos pp_Mo_round 6 (S' := (6, [some (.ref 198), some (.int (0 : Int32)), some (.int (-1 : Int32)), some (.int (0 : Int32))], [], (223, kc, ks, pd_H g v))) rfl ?_
  exact s_Mo_round_6 _ _ _ _ _ _  h
theorem pp_Mo_alone {xs : Nat → Int32} {L : Nat} : (pj_P xs L 144).1 = fun S => pm_look tb_Mo_alone S.1 S := rfl
def d_Mo_alone_90 (w : Nat) (f : Nat) (l2 : Int32) (v : pd_V) : Option (Int32 × pd_V) := match f with
  | 0 => none
  | f + 1 =>
    bif !(decide (l2 = (1 : Int32))) then
      bif !(decide (l2 = (2 : Int32))) then
        bif decide ((0 : Int32) = 0) then
          some ((0 : Int32), (pd_w v 198 27 (0 : Int32)))
        else
          some ((1 : Int32), (pd_w v 198 27 (0 : Int32)))
      else
        bif decide ((1 : Int32) = 0) then
          some ((0 : Int32), (pd_w v 198 27 (1 : Int32)))
        else
          some ((1 : Int32), (pd_w v 198 27 (1 : Int32)))
    else
      (d_Mo_round w v).bind fun q5 =>
      d_Mo_alone_90 w f q5.1 q5.2
theorem s_Mo_alone_90 {w : Nat} : ∀ (f : Nat) (l2 : Int32) (v : pd_V) (y1 : Int32) (q : (Int32 × pd_V)) , d_Mo_alone_90 w f l2 v = some q → pm_ev (pj_P xs L) (d + 7) 144 (90, [some (.ref 198), some (.int y1), some (.int l2)], [], (223, kc, ks, pd_H g v)) (.inl (some (.int q.1)), (223, kc, ks, pd_H g q.2)) := by
  intro f
  induction f with
  | zero => intro l2 v y1 q h; exact nomatch (show (none : Option (Int32 × pd_V)) = some q from h)
  | succ f ih =>
    intro l2 v y1 q h
    rw [d_Mo_alone_90] at h
    refine ev_gos pp_Mo_alone 2 (S' := (92, [some (.ref 198), some (.int y1), some (.int l2)], [.int (1 : Int32), .int l2], (223, kc, ks, pd_H g v))) rfl ?_
    refine ev_gos pp_Mo_alone 1 (S' := (bif !(decide (l2 = (1 : Int32))) then 103 else 95, [some (.ref 198), some (.int y1), some (.int l2)], [], (223, kc, ks, pd_H g v))) rfl ?_
    rcases pd_cases h with ⟨hb1, h⟩ | ⟨hb1, h⟩
    · rw [hb1]
      refine ev_gos pp_Mo_alone 3 (S' := (106, [some (.ref 198), some (.int y1), some (.int l2)], [.int (2 : Int32), .int l2, .ref 198], (223, kc, ks, pd_H g v))) rfl ?_
      refine ev_gos pp_Mo_alone 1 (S' := (bif !(decide (l2 = (2 : Int32))) then 113 else 109, [some (.ref 198), some (.int y1), some (.int l2)], [.ref 198], (223, kc, ks, pd_H g v))) rfl ?_
      rcases pd_cases h with ⟨hb2, h⟩ | ⟨hb2, h⟩
      · rw [hb2]
        refine ev_gos pp_Mo_alone 1 (S' := (114, [some (.ref 198), some (.int y1), some (.int l2)], [.int (0 : Int32), .ref 198], (223, kc, ks, pd_H g v))) rfl ?_
        refine ev_put pp_Mo_alone rfl (fun _ => rfl) rfl rfl (pd_fit pd_b0) ?_
        refine ev_gos pp_Mo_alone 2 (S' := (121, [some (.ref 198), some (.int y1), some (.int l2)], [.int (0 : Int32)], (223, kc, ks, pd_H g (pd_w v 198 27 (0 : Int32))))) rfl ?_
        refine ev_gos pp_Mo_alone 1 (S' := (bif decide ((0 : Int32) = 0) then 128 else 124, [some (.ref 198), some (.int y1), some (.int l2)], [], (223, kc, ks, pd_H g (pd_w v 198 27 (0 : Int32))))) rfl ?_
        rcases pd_cases h with ⟨hb3, h⟩ | ⟨hb3, h⟩
        · rw [hb3]
          refine ev_gos pp_Mo_alone 1 (S' := (129, [some (.ref 198), some (.int y1), some (.int l2)], [.int (0 : Int32)], (223, kc, ks, pd_H g (pd_w v 198 27 (0 : Int32))))) rfl ?_
          cases h
          exact ev_fin pp_Mo_alone rfl
        · rw [hb3]
          refine ev_gos pp_Mo_alone 2 (S' := (129, [some (.ref 198), some (.int y1), some (.int l2)], [.int (1 : Int32)], (223, kc, ks, pd_H g (pd_w v 198 27 (0 : Int32))))) rfl ?_
          cases h
          exact ev_fin pp_Mo_alone rfl
      · rw [hb2]
        refine ev_gos pp_Mo_alone 2 (S' := (114, [some (.ref 198), some (.int y1), some (.int l2)], [.int (1 : Int32), .ref 198], (223, kc, ks, pd_H g v))) rfl ?_
        refine ev_put pp_Mo_alone rfl (fun _ => rfl) rfl rfl (pd_fit pd_b1) ?_
        refine ev_gos pp_Mo_alone 2 (S' := (121, [some (.ref 198), some (.int y1), some (.int l2)], [.int (1 : Int32)], (223, kc, ks, pd_H g (pd_w v 198 27 (1 : Int32))))) rfl ?_
        refine ev_gos pp_Mo_alone 1 (S' := (bif decide ((1 : Int32) = 0) then 128 else 124, [some (.ref 198), some (.int y1), some (.int l2)], [], (223, kc, ks, pd_H g (pd_w v 198 27 (1 : Int32))))) rfl ?_
        rcases pd_cases h with ⟨hb4, h⟩ | ⟨hb4, h⟩
        · rw [hb4]
          refine ev_gos pp_Mo_alone 1 (S' := (129, [some (.ref 198), some (.int y1), some (.int l2)], [.int (0 : Int32)], (223, kc, ks, pd_H g (pd_w v 198 27 (1 : Int32))))) rfl ?_
          cases h
          exact ev_fin pp_Mo_alone rfl
        · rw [hb4]
          refine ev_gos pp_Mo_alone 2 (S' := (129, [some (.ref 198), some (.int y1), some (.int l2)], [.int (1 : Int32)], (223, kc, ks, pd_H g (pd_w v 198 27 (1 : Int32))))) rfl ?_
          cases h
          exact ev_fin pp_Mo_alone rfl
    · rw [hb1]
      refine ev_gos pp_Mo_alone 1 (S' := (96, [some (.ref 198), some (.int y1), some (.int l2)], [.ref 198], (223, kc, ks, pd_H g v))) rfl ?_
      obtain ⟨q5, hq5, h⟩ := pd_bind h
      refine ev_callv pp_Mo_alone rfl rfl rfl rfl (s_Mo_round hq5) ?_
      refine ev_gos pp_Mo_alone 2 (S' := (90, [some (.ref 198), some (.int y1), some (.int q5.1)], [], (223, kc, ks, pd_H g q5.2))) rfl ?_
      exact ih _ _ _ _  h
def d_Mo_alone_57 (w : Nat) (f : Nat) (l1 : Int32) (l2 : Int32) (v : pd_V) : Option (Int32 × pd_V) := match f with
  | 0 => none
  | f + 1 =>
    bif decide ((8 : Int32) ≤ l2) then
      d_Mo_alone_90 w w (1 : Int32) (pd_w v 198 28 l1)
    else
      bif pm_in l2 8 then
      bif pm_in l2 8 then
      d_Mo_alone_57 w f l1 (l2 + (1 : Int32)) (pd_w (pd_w v 210 l2.toNatClampNeg (0 : Int32)) 211 l2.toNatClampNeg (0 : Int32))
      else none
      else none
theorem s_Mo_alone_57 {w : Nat} : ∀ (f : Nat) (l1 : Int32) (l2 : Int32) (v : pd_V)  (q : (Int32 × pd_V)) , d_Mo_alone_57 w f l1 l2 v = some q → pm_ev (pj_P xs L) (d + 7) 144 (57, [some (.ref 198), some (.int l1), some (.int l2)], [], (223, kc, ks, pd_H g v)) (.inl (some (.int q.1)), (223, kc, ks, pd_H g q.2)) := by
  intro f
  induction f with
  | zero => intro l1 l2 v q h; exact nomatch (show (none : Option (Int32 × pd_V)) = some q from h)
  | succ f ih =>
    intro l1 l2 v q h
    rw [d_Mo_alone_57] at h
    refine ev_gos pp_Mo_alone 2 (S' := (60, [some (.ref 198), some (.int l1), some (.int l2)], [.int (8 : Int32), .int l2], (223, kc, ks, pd_H g v))) rfl ?_
    refine ev_gos pp_Mo_alone 1 (S' := (bif decide ((8 : Int32) ≤ l2) then 83 else 63, [some (.ref 198), some (.int l1), some (.int l2)], [], (223, kc, ks, pd_H g v))) rfl ?_
    rcases pd_cases h with ⟨hb1, h⟩ | ⟨hb1, h⟩
    · rw [hb1]
      refine ev_gos pp_Mo_alone 2 (S' := (85, [some (.ref 198), some (.int l1), some (.int l2)], [.int l1, .ref 198], (223, kc, ks, pd_H g v))) rfl ?_
      refine ev_put pp_Mo_alone rfl (fun _ => rfl) rfl rfl rfl ?_
      refine ev_gos pp_Mo_alone 2 (S' := (90, [some (.ref 198), some (.int l1), some (.int (1 : Int32))], [], (223, kc, ks, pd_H g (pd_w v 198 28 l1)))) rfl ?_
      exact s_Mo_alone_90 _ _ _ _ _  h
    · rw [hb1]
      refine ev_gos pp_Mo_alone 4 (S' := (69, [some (.ref 198), some (.int l1), some (.int l2)], [.int (0 : Int32), .int l2, .ref 210], (223, kc, ks, pd_H g v))) rfl ?_
      obtain ⟨hc2, h⟩ := pd_chk h
      refine ev_iast pp_Mo_alone rfl (fun _ => rfl) hc2 ?_
      refine ev_gos pp_Mo_alone 4 (S' := (76, [some (.ref 198), some (.int l1), some (.int l2)], [.int (0 : Int32), .int l2, .ref 211], (223, kc, ks, pd_H g (pd_w v 210 l2.toNatClampNeg (0 : Int32))))) rfl ?_
      obtain ⟨hc3, h⟩ := pd_chk h
      refine ev_iast pp_Mo_alone rfl (fun _ => rfl) hc3 ?_
      refine ev_gos pp_Mo_alone 2 (S' := (57, [some (.ref 198), some (.int l1), some (.int (l2 + (1 : Int32)))], [], (223, kc, ks, pd_H g (pd_w (pd_w v 210 l2.toNatClampNeg (0 : Int32)) 211 l2.toNatClampNeg (0 : Int32))))) rfl ?_
      exact ih _ _ _ _  h
def d_Mo_alone (w : Nat) (l1 : Int32) (v : pd_V) : Option (Int32 × pd_V) :=
  bif !(decide ((v 198 5) = 0)) then
    bif decide ((v 198 5) = 0) then
      (d_Mo_throwing (0 : Int32) (0 : Int32) (0 : Int32) v).bind fun q3 =>
      bif decide (q3.1 = 0) then
        (d_Mo_begin w (8 : Int32) (q3.2 198 12) q3.2).bind fun q5 =>
        d_Mo_alone_57 w w l1 (0 : Int32) q5
      else
        some ((0 : Int32), q3.2)
    else
      bif decide ((d_Mo_beyond l1 (1 : Int32) (4000 : Int32)) = 0) then
        (d_Mo_throwing (0 : Int32) (0 : Int32) (0 : Int32) v).bind fun q8 =>
        bif decide (q8.1 = 0) then
          (d_Mo_begin w (8 : Int32) (q8.2 198 12) q8.2).bind fun q10 =>
          d_Mo_alone_57 w w l1 (0 : Int32) q10
        else
          some ((0 : Int32), q8.2)
      else
        (d_Mo_throwing (0 : Int32) (1 : Int32) (0 : Int32) v).bind fun q11 =>
        bif decide (q11.1 = 0) then
          (d_Mo_begin w (8 : Int32) (q11.2 198 12) q11.2).bind fun q13 =>
          d_Mo_alone_57 w w l1 (0 : Int32) q13
        else
          some ((0 : Int32), q11.2)
  else
    bif decide ((v 198 5) = 0) then
      (d_Mo_throwing (1 : Int32) (0 : Int32) (0 : Int32) v).bind fun q15 =>
      bif decide (q15.1 = 0) then
        (d_Mo_begin w (8 : Int32) (q15.2 198 12) q15.2).bind fun q17 =>
        d_Mo_alone_57 w w l1 (0 : Int32) q17
      else
        some ((0 : Int32), q15.2)
    else
      bif decide ((d_Mo_beyond l1 (1 : Int32) (4000 : Int32)) = 0) then
        (d_Mo_throwing (1 : Int32) (0 : Int32) (0 : Int32) v).bind fun q20 =>
        bif decide (q20.1 = 0) then
          (d_Mo_begin w (8 : Int32) (q20.2 198 12) q20.2).bind fun q22 =>
          d_Mo_alone_57 w w l1 (0 : Int32) q22
        else
          some ((0 : Int32), q20.2)
      else
        (d_Mo_throwing (1 : Int32) (1 : Int32) (0 : Int32) v).bind fun q23 =>
        bif decide (q23.1 = 0) then
          (d_Mo_begin w (8 : Int32) (q23.2 198 12) q23.2).bind fun q25 =>
          d_Mo_alone_57 w w l1 (0 : Int32) q25
        else
          some ((0 : Int32), q23.2)
theorem s_Mo_alone {w : Nat} {l1 : Int32} {v : pd_V} {q : (Int32 × pd_V)}  (h : d_Mo_alone w l1 v = some q) : pm_ev (pj_P xs L) (d + 7) 144 (0, [some (.ref 198), some (.int l1), none], [], (223, kc, ks, pd_H g v)) (.inl (some (.int q.1)), (223, kc, ks, pd_H g q.2)) := by
  unfold d_Mo_alone at h
  refine ev_gos pp_Mo_alone 3 (S' := (5, [some (.ref 198), some (.int l1), none], [.int (v 198 5), .ref 198], (223, kc, ks, pd_H g v))) rfl ?_
  refine ev_gos pp_Mo_alone 1 (S' := (bif !(decide ((v 198 5) = 0)) then 12 else 8, [some (.ref 198), some (.int l1), none], [.ref 198], (223, kc, ks, pd_H g v))) rfl ?_
  rcases pd_cases h with ⟨hb1, h⟩ | ⟨hb1, h⟩
  · rw [hb1]
    refine ev_gos pp_Mo_alone 3 (S' := (17, [some (.ref 198), some (.int l1), none], [.int (v 198 5), .int (0 : Int32), .ref 198], (223, kc, ks, pd_H g v))) rfl ?_
    refine ev_gos pp_Mo_alone 1 (S' := (bif decide ((v 198 5) = 0) then 35 else 20, [some (.ref 198), some (.int l1), none], [.int (0 : Int32), .ref 198], (223, kc, ks, pd_H g v))) rfl ?_
    rcases pd_cases h with ⟨hb2, h⟩ | ⟨hb2, h⟩
    · rw [hb2]
      refine ev_gos pp_Mo_alone 2 (S' := (37, [some (.ref 198), some (.int l1), none], [.int (0 : Int32), .int (0 : Int32), .int (0 : Int32), .ref 198], (223, kc, ks, pd_H g v))) rfl ?_
      obtain ⟨q3, hq3, h⟩ := pd_bind h
      refine ev_callv pp_Mo_alone rfl rfl rfl rfl (s_Mo_throwing hq3) ?_
      refine ev_gos pp_Mo_alone 0 (S' := (40, [some (.ref 198), some (.int l1), none], [.int q3.1], (223, kc, ks, pd_H g q3.2))) rfl ?_
      refine ev_gos pp_Mo_alone 1 (S' := (bif decide (q3.1 = 0) then 45 else 43, [some (.ref 198), some (.int l1), none], [], (223, kc, ks, pd_H g q3.2))) rfl ?_
      rcases pd_cases h with ⟨hb4, h⟩ | ⟨hb4, h⟩
      · rw [hb4]
        refine ev_gos pp_Mo_alone 4 (S' := (52, [some (.ref 198), some (.int l1), none], [.int (q3.2 198 12), .int (8 : Int32), .ref 198], (223, kc, ks, pd_H g q3.2))) rfl ?_
        obtain ⟨q5, hq5, h⟩ := pd_bind h
        refine ev_callv pp_Mo_alone rfl rfl rfl rfl (s_Mo_begin hq5) ?_
        refine ev_gos pp_Mo_alone 2 (S' := (57, [some (.ref 198), some (.int l1), some (.int (0 : Int32))], [], (223, kc, ks, pd_H g q5))) rfl ?_
        exact s_Mo_alone_57 _ _ _ _ _  h
      · rw [hb4]
        refine ev_gos pp_Mo_alone 1 (S' := (44, [some (.ref 198), some (.int l1), none], [.int (0 : Int32)], (223, kc, ks, pd_H g q3.2))) rfl ?_
        cases h
        exact ev_fin pp_Mo_alone rfl
    · rw [hb2]
      refine ev_gos pp_Mo_alone 3 (S' := (25, [some (.ref 198), some (.int l1), none], [.int (4000 : Int32), .int (1 : Int32), .int l1, .int (0 : Int32), .ref 198], (223, kc, ks, pd_H g v))) rfl ?_
      refine ev_call pp_Mo_alone rfl rfl rfl (s_Mo_beyond) ?_
      refine ev_gos pp_Mo_alone 0 (S' := (28, [some (.ref 198), some (.int l1), none], [.int (d_Mo_beyond l1 (1 : Int32) (4000 : Int32)), .int (0 : Int32), .ref 198], (223, kc, ks, pd_H g v))) rfl ?_
      refine ev_gos pp_Mo_alone 1 (S' := (bif decide ((d_Mo_beyond l1 (1 : Int32) (4000 : Int32)) = 0) then 35 else 31, [some (.ref 198), some (.int l1), none], [.int (0 : Int32), .ref 198], (223, kc, ks, pd_H g v))) rfl ?_
      rcases pd_cases h with ⟨hb7, h⟩ | ⟨hb7, h⟩
      · rw [hb7]
        refine ev_gos pp_Mo_alone 2 (S' := (37, [some (.ref 198), some (.int l1), none], [.int (0 : Int32), .int (0 : Int32), .int (0 : Int32), .ref 198], (223, kc, ks, pd_H g v))) rfl ?_
        obtain ⟨q8, hq8, h⟩ := pd_bind h
        refine ev_callv pp_Mo_alone rfl rfl rfl rfl (s_Mo_throwing hq8) ?_
        refine ev_gos pp_Mo_alone 0 (S' := (40, [some (.ref 198), some (.int l1), none], [.int q8.1], (223, kc, ks, pd_H g q8.2))) rfl ?_
        refine ev_gos pp_Mo_alone 1 (S' := (bif decide (q8.1 = 0) then 45 else 43, [some (.ref 198), some (.int l1), none], [], (223, kc, ks, pd_H g q8.2))) rfl ?_
        rcases pd_cases h with ⟨hb9, h⟩ | ⟨hb9, h⟩
        · rw [hb9]
          refine ev_gos pp_Mo_alone 4 (S' := (52, [some (.ref 198), some (.int l1), none], [.int (q8.2 198 12), .int (8 : Int32), .ref 198], (223, kc, ks, pd_H g q8.2))) rfl ?_
          obtain ⟨q10, hq10, h⟩ := pd_bind h
          refine ev_callv pp_Mo_alone rfl rfl rfl rfl (s_Mo_begin hq10) ?_
          refine ev_gos pp_Mo_alone 2 (S' := (57, [some (.ref 198), some (.int l1), some (.int (0 : Int32))], [], (223, kc, ks, pd_H g q10))) rfl ?_
          exact s_Mo_alone_57 _ _ _ _ _  h
        · rw [hb9]
          refine ev_gos pp_Mo_alone 1 (S' := (44, [some (.ref 198), some (.int l1), none], [.int (0 : Int32)], (223, kc, ks, pd_H g q8.2))) rfl ?_
          cases h
          exact ev_fin pp_Mo_alone rfl
      · rw [hb7]
        refine ev_gos pp_Mo_alone 3 (S' := (37, [some (.ref 198), some (.int l1), none], [.int (0 : Int32), .int (1 : Int32), .int (0 : Int32), .ref 198], (223, kc, ks, pd_H g v))) rfl ?_
        obtain ⟨q11, hq11, h⟩ := pd_bind h
        refine ev_callv pp_Mo_alone rfl rfl rfl rfl (s_Mo_throwing hq11) ?_
        refine ev_gos pp_Mo_alone 0 (S' := (40, [some (.ref 198), some (.int l1), none], [.int q11.1], (223, kc, ks, pd_H g q11.2))) rfl ?_
        refine ev_gos pp_Mo_alone 1 (S' := (bif decide (q11.1 = 0) then 45 else 43, [some (.ref 198), some (.int l1), none], [], (223, kc, ks, pd_H g q11.2))) rfl ?_
        rcases pd_cases h with ⟨hb12, h⟩ | ⟨hb12, h⟩
        · rw [hb12]
          refine ev_gos pp_Mo_alone 4 (S' := (52, [some (.ref 198), some (.int l1), none], [.int (q11.2 198 12), .int (8 : Int32), .ref 198], (223, kc, ks, pd_H g q11.2))) rfl ?_
          obtain ⟨q13, hq13, h⟩ := pd_bind h
          refine ev_callv pp_Mo_alone rfl rfl rfl rfl (s_Mo_begin hq13) ?_
          refine ev_gos pp_Mo_alone 2 (S' := (57, [some (.ref 198), some (.int l1), some (.int (0 : Int32))], [], (223, kc, ks, pd_H g q13))) rfl ?_
          exact s_Mo_alone_57 _ _ _ _ _  h
        · rw [hb12]
          refine ev_gos pp_Mo_alone 1 (S' := (44, [some (.ref 198), some (.int l1), none], [.int (0 : Int32)], (223, kc, ks, pd_H g q11.2))) rfl ?_
          cases h
          exact ev_fin pp_Mo_alone rfl
  · rw [hb1]
    refine ev_gos pp_Mo_alone 4 (S' := (17, [some (.ref 198), some (.int l1), none], [.int (v 198 5), .int (1 : Int32), .ref 198], (223, kc, ks, pd_H g v))) rfl ?_
    refine ev_gos pp_Mo_alone 1 (S' := (bif decide ((v 198 5) = 0) then 35 else 20, [some (.ref 198), some (.int l1), none], [.int (1 : Int32), .ref 198], (223, kc, ks, pd_H g v))) rfl ?_
    rcases pd_cases h with ⟨hb14, h⟩ | ⟨hb14, h⟩
    · rw [hb14]
      refine ev_gos pp_Mo_alone 2 (S' := (37, [some (.ref 198), some (.int l1), none], [.int (0 : Int32), .int (0 : Int32), .int (1 : Int32), .ref 198], (223, kc, ks, pd_H g v))) rfl ?_
      obtain ⟨q15, hq15, h⟩ := pd_bind h
      refine ev_callv pp_Mo_alone rfl rfl rfl rfl (s_Mo_throwing hq15) ?_
      refine ev_gos pp_Mo_alone 0 (S' := (40, [some (.ref 198), some (.int l1), none], [.int q15.1], (223, kc, ks, pd_H g q15.2))) rfl ?_
      refine ev_gos pp_Mo_alone 1 (S' := (bif decide (q15.1 = 0) then 45 else 43, [some (.ref 198), some (.int l1), none], [], (223, kc, ks, pd_H g q15.2))) rfl ?_
      rcases pd_cases h with ⟨hb16, h⟩ | ⟨hb16, h⟩
      · rw [hb16]
        refine ev_gos pp_Mo_alone 4 (S' := (52, [some (.ref 198), some (.int l1), none], [.int (q15.2 198 12), .int (8 : Int32), .ref 198], (223, kc, ks, pd_H g q15.2))) rfl ?_
        obtain ⟨q17, hq17, h⟩ := pd_bind h
        refine ev_callv pp_Mo_alone rfl rfl rfl rfl (s_Mo_begin hq17) ?_
        refine ev_gos pp_Mo_alone 2 (S' := (57, [some (.ref 198), some (.int l1), some (.int (0 : Int32))], [], (223, kc, ks, pd_H g q17))) rfl ?_
        exact s_Mo_alone_57 _ _ _ _ _  h
      · rw [hb16]
        refine ev_gos pp_Mo_alone 1 (S' := (44, [some (.ref 198), some (.int l1), none], [.int (0 : Int32)], (223, kc, ks, pd_H g q15.2))) rfl ?_
        cases h
        exact ev_fin pp_Mo_alone rfl
    · rw [hb14]
      refine ev_gos pp_Mo_alone 3 (S' := (25, [some (.ref 198), some (.int l1), none], [.int (4000 : Int32), .int (1 : Int32), .int l1, .int (1 : Int32), .ref 198], (223, kc, ks, pd_H g v))) rfl ?_
      refine ev_call pp_Mo_alone rfl rfl rfl (s_Mo_beyond) ?_
      refine ev_gos pp_Mo_alone 0 (S' := (28, [some (.ref 198), some (.int l1), none], [.int (d_Mo_beyond l1 (1 : Int32) (4000 : Int32)), .int (1 : Int32), .ref 198], (223, kc, ks, pd_H g v))) rfl ?_
      refine ev_gos pp_Mo_alone 1 (S' := (bif decide ((d_Mo_beyond l1 (1 : Int32) (4000 : Int32)) = 0) then 35 else 31, [some (.ref 198), some (.int l1), none], [.int (1 : Int32), .ref 198], (223, kc, ks, pd_H g v))) rfl ?_
      rcases pd_cases h with ⟨hb19, h⟩ | ⟨hb19, h⟩
      · rw [hb19]
        refine ev_gos pp_Mo_alone 2 (S' := (37, [some (.ref 198), some (.int l1), none], [.int (0 : Int32), .int (0 : Int32), .int (1 : Int32), .ref 198], (223, kc, ks, pd_H g v))) rfl ?_
        obtain ⟨q20, hq20, h⟩ := pd_bind h
        refine ev_callv pp_Mo_alone rfl rfl rfl rfl (s_Mo_throwing hq20) ?_
        refine ev_gos pp_Mo_alone 0 (S' := (40, [some (.ref 198), some (.int l1), none], [.int q20.1], (223, kc, ks, pd_H g q20.2))) rfl ?_
        refine ev_gos pp_Mo_alone 1 (S' := (bif decide (q20.1 = 0) then 45 else 43, [some (.ref 198), some (.int l1), none], [], (223, kc, ks, pd_H g q20.2))) rfl ?_
        rcases pd_cases h with ⟨hb21, h⟩ | ⟨hb21, h⟩
        · rw [hb21]
          refine ev_gos pp_Mo_alone 4 (S' := (52, [some (.ref 198), some (.int l1), none], [.int (q20.2 198 12), .int (8 : Int32), .ref 198], (223, kc, ks, pd_H g q20.2))) rfl ?_
          obtain ⟨q22, hq22, h⟩ := pd_bind h
          refine ev_callv pp_Mo_alone rfl rfl rfl rfl (s_Mo_begin hq22) ?_
          refine ev_gos pp_Mo_alone 2 (S' := (57, [some (.ref 198), some (.int l1), some (.int (0 : Int32))], [], (223, kc, ks, pd_H g q22))) rfl ?_
          exact s_Mo_alone_57 _ _ _ _ _  h
        · rw [hb21]
          refine ev_gos pp_Mo_alone 1 (S' := (44, [some (.ref 198), some (.int l1), none], [.int (0 : Int32)], (223, kc, ks, pd_H g q20.2))) rfl ?_
          cases h
          exact ev_fin pp_Mo_alone rfl
      · rw [hb19]
        refine ev_gos pp_Mo_alone 3 (S' := (37, [some (.ref 198), some (.int l1), none], [.int (0 : Int32), .int (1 : Int32), .int (1 : Int32), .ref 198], (223, kc, ks, pd_H g v))) rfl ?_
        obtain ⟨q23, hq23, h⟩ := pd_bind h
        refine ev_callv pp_Mo_alone rfl rfl rfl rfl (s_Mo_throwing hq23) ?_
        refine ev_gos pp_Mo_alone 0 (S' := (40, [some (.ref 198), some (.int l1), none], [.int q23.1], (223, kc, ks, pd_H g q23.2))) rfl ?_
        refine ev_gos pp_Mo_alone 1 (S' := (bif decide (q23.1 = 0) then 45 else 43, [some (.ref 198), some (.int l1), none], [], (223, kc, ks, pd_H g q23.2))) rfl ?_
        rcases pd_cases h with ⟨hb24, h⟩ | ⟨hb24, h⟩
        · rw [hb24]
          refine ev_gos pp_Mo_alone 4 (S' := (52, [some (.ref 198), some (.int l1), none], [.int (q23.2 198 12), .int (8 : Int32), .ref 198], (223, kc, ks, pd_H g q23.2))) rfl ?_
          obtain ⟨q25, hq25, h⟩ := pd_bind h
          refine ev_callv pp_Mo_alone rfl rfl rfl rfl (s_Mo_begin hq25) ?_
          refine ev_gos pp_Mo_alone 2 (S' := (57, [some (.ref 198), some (.int l1), some (.int (0 : Int32))], [], (223, kc, ks, pd_H g q25))) rfl ?_
          exact s_Mo_alone_57 _ _ _ _ _  h
        · rw [hb24]
          refine ev_gos pp_Mo_alone 1 (S' := (44, [some (.ref 198), some (.int l1), none], [.int (0 : Int32)], (223, kc, ks, pd_H g q23.2))) rfl ?_
          cases h
          exact ev_fin pp_Mo_alone rfl
theorem pp_Mo_isNot {xs : Nat → Int32} {L : Nat} : (pj_P xs L 152).1 = fun S => pm_look tb_Mo_isNot S.1 S := rfl
def d_Mo_isNot (l1 : Int32) (v : pd_V) : Int32 :=
  bif decide (l1 = 0) then
    bif !(decide ((v 198 20) = 0)) then
      (0 : Int32)
    else
      (1 : Int32)
  else
    bif !(decide ((v 198 27) = 0)) then
      (0 : Int32)
    else
      (1 : Int32)
theorem s_Mo_isNot {l1 : Int32} {v : pd_V}  : pm_ev (pj_P xs L) d 152 (0, [some (.ref 198), some (.int l1)], [], (223, kc, ks, pd_H g v)) (.inl (some (.int (d_Mo_isNot l1 v))), (223, kc, ks, pd_H g v)) := by
  unfold d_Mo_isNot
  refine ev_gos pp_Mo_isNot 1 (S' := (1, [some (.ref 198), some (.int l1)], [.int l1], (223, kc, ks, pd_H g v))) rfl ?_
  refine ev_gos pp_Mo_isNot 1 (S' := (bif decide (l1 = 0) then 19 else 4, [some (.ref 198), some (.int l1)], [], (223, kc, ks, pd_H g v))) rfl ?_
  cases hb1 : (decide (l1 = 0))
  · refine ev_gos pp_Mo_isNot 2 (S' := (8, [some (.ref 198), some (.int l1)], [.int (v 198 27)], (223, kc, ks, pd_H g v))) rfl ?_
    refine ev_gos pp_Mo_isNot 1 (S' := (bif !(decide ((v 198 27) = 0)) then 15 else 11, [some (.ref 198), some (.int l1)], [], (223, kc, ks, pd_H g v))) rfl ?_
    cases hb3 : (!(decide ((v 198 27) = 0)))
    · refine ev_gos pp_Mo_isNot 2 (S' := (31, [some (.ref 198), some (.int l1)], [.int (1 : Int32)], (223, kc, ks, pd_H g v))) rfl ?_
      exact ev_zret pp_Mo_isNot rfl pd_b1
    · refine ev_gos pp_Mo_isNot 2 (S' := (31, [some (.ref 198), some (.int l1)], [.int (0 : Int32)], (223, kc, ks, pd_H g v))) rfl ?_
      exact ev_zret pp_Mo_isNot rfl pd_b0
  · refine ev_gos pp_Mo_isNot 2 (S' := (23, [some (.ref 198), some (.int l1)], [.int (v 198 20)], (223, kc, ks, pd_H g v))) rfl ?_
    refine ev_gos pp_Mo_isNot 1 (S' := (bif !(decide ((v 198 20) = 0)) then 30 else 26, [some (.ref 198), some (.int l1)], [], (223, kc, ks, pd_H g v))) rfl ?_
    cases hb2 : (!(decide ((v 198 20) = 0)))
    · refine ev_gos pp_Mo_isNot 2 (S' := (31, [some (.ref 198), some (.int l1)], [.int (1 : Int32)], (223, kc, ks, pd_H g v))) rfl ?_
      exact ev_zret pp_Mo_isNot rfl pd_b1
    · refine ev_gos pp_Mo_isNot 1 (S' := (31, [some (.ref 198), some (.int l1)], [.int (0 : Int32)], (223, kc, ks, pd_H g v))) rfl ?_
      exact ev_zret pp_Mo_isNot rfl pd_b0
theorem z_Mo_isNot {l1 : Int32} {v : pd_V}  : (d_Mo_isNot l1 v == 0 || d_Mo_isNot l1 v == 1) = true := by
  unfold d_Mo_isNot
  cases hb1 : (decide (l1 = 0))
  · cases hb3 : (!(decide ((v 198 27) = 0)))
    · exact pd_b1
    · exact pd_b0
  · cases hb2 : (!(decide ((v 198 20) = 0)))
    · exact pd_b1
    · exact pd_b0
end FN
