section FN
variable {xs : Nat → Int32} {L : Nat} {g : Nat → Int64} {d kc ks : Nat}
theorem pp_Mo_compile {xs : Nat → Int32} {L : Nat} : (pj_P xs L 104).1 = fun S => pm_look tb_Mo_compile S.1 S := rfl
def d_Mo_compile_123 (w : Nat) (f : Nat) (l1 : Int32) (v : pd_V) : Option (Int32 × pd_V) := match f with
  | 0 => none
  | f + 1 =>
    bif decide ((v 198 2) ≤ l1) then
      some ((0 : Int32), (pd_w (pd_w (pd_w (pd_w (pd_w v 198 4 (v 198 2)) 198 5 (1 : Int32)) 198 20 (0 : Int32)) 198 26 (0 : Int32)) 198 27 (0 : Int32)))
    else
      bif pm_in l1 160 then
      bif pm_in l1 160 then
      d_Mo_compile_123 w f (l1 + (1 : Int32)) (pd_w v 200 l1.toNatClampNeg (v 199 l1.toNatClampNeg))
      else none
      else none
set_option maxRecDepth 100000 in
set_option maxHeartbeats 4000000 in
theorem s_Mo_compile_123 {w : Nat} : ∀ (f : Nat) (l1 : Int32) (v : pd_V)  (q : (Int32 × pd_V)) , d_Mo_compile_123 w f l1 v = some q → pm_ev (pj_P xs L) (d + 6) 104 (123, [some (.ref 198), some (.int l1)], [], (223, kc, ks, pd_H g v)) (.inl (some (.int q.1)), (223, kc, ks, pd_H g q.2)) := by
  intro f
  induction f with
  | zero => intro l1 v q h; exact nomatch (show (none : Option (Int32 × pd_V)) = some q from h)
  | succ f ih =>
    intro l1 v q h
    rw [d_Mo_compile_123] at h
    refine ev_gos pp_Mo_compile 3 (S' := (128, [some (.ref 198), some (.int l1)], [.int (v 198 2), .int l1], (223, kc, ks, pd_H g v))) rfl ?_
    refine ev_gos pp_Mo_compile 1 (S' := (bif decide ((v 198 2) ≤ l1) then 149 else 131, [some (.ref 198), some (.int l1)], [], (223, kc, ks, pd_H g v))) rfl ?_
    rcases pd_cases h with ⟨hb1, h⟩ | ⟨hb1, h⟩
    · rw [hb1]
      refine ev_gos pp_Mo_compile 3 (S' := (154, [some (.ref 198), some (.int l1)], [.int (v 198 2), .ref 198], (223, kc, ks, pd_H g v))) rfl ?_
      refine ev_put pp_Mo_compile rfl (fun _ => rfl) rfl rfl rfl ?_
      refine ev_gos pp_Mo_compile 2 (S' := (159, [some (.ref 198), some (.int l1)], [.int (1 : Int32), .ref 198], (223, kc, ks, pd_H g (pd_w v 198 4 (v 198 2))))) rfl ?_
      refine ev_put pp_Mo_compile rfl (fun _ => rfl) rfl rfl (pd_fit pd_b1) ?_
      refine ev_gos pp_Mo_compile 2 (S' := (164, [some (.ref 198), some (.int l1)], [.int (0 : Int32), .ref 198], (223, kc, ks, pd_H g (pd_w (pd_w v 198 4 (v 198 2)) 198 5 (1 : Int32))))) rfl ?_
      refine ev_put pp_Mo_compile rfl (fun _ => rfl) rfl rfl (pd_fit pd_b0) ?_
      refine ev_gos pp_Mo_compile 2 (S' := (169, [some (.ref 198), some (.int l1)], [.int (0 : Int32), .ref 198], (223, kc, ks, pd_H g (pd_w (pd_w (pd_w v 198 4 (v 198 2)) 198 5 (1 : Int32)) 198 20 (0 : Int32))))) rfl ?_
      refine ev_put pp_Mo_compile rfl (fun _ => rfl) rfl rfl rfl ?_
      refine ev_gos pp_Mo_compile 2 (S' := (174, [some (.ref 198), some (.int l1)], [.int (0 : Int32), .ref 198], (223, kc, ks, pd_H g (pd_w (pd_w (pd_w (pd_w v 198 4 (v 198 2)) 198 5 (1 : Int32)) 198 20 (0 : Int32)) 198 26 (0 : Int32))))) rfl ?_
      refine ev_put pp_Mo_compile rfl (fun _ => rfl) rfl rfl (pd_fit pd_b0) ?_
      refine ev_gos pp_Mo_compile 1 (S' := (178, [some (.ref 198), some (.int l1)], [.int (0 : Int32)], (223, kc, ks, pd_H g (pd_w (pd_w (pd_w (pd_w (pd_w v 198 4 (v 198 2)) 198 5 (1 : Int32)) 198 20 (0 : Int32)) 198 26 (0 : Int32)) 198 27 (0 : Int32))))) rfl ?_
      cases h
      exact ev_fin pp_Mo_compile rfl
    · rw [hb1]
      refine ev_gos pp_Mo_compile 6 (S' := (141, [some (.ref 198), some (.int l1)], [.int l1, .ref 199, .int l1, .ref 200], (223, kc, ks, pd_H g v))) rfl ?_
      obtain ⟨hc2, h⟩ := pd_chk h
      refine ev_iald pp_Mo_compile rfl (fun _ => rfl) hc2 ?_
      refine ev_gos pp_Mo_compile 0 (S' := (142, [some (.ref 198), some (.int l1)], [.int (v 199 l1.toNatClampNeg), .int l1, .ref 200], (223, kc, ks, pd_H g v))) rfl ?_
      obtain ⟨hc3, h⟩ := pd_chk h
      refine ev_iast pp_Mo_compile rfl (fun _ => rfl) hc3 ?_
      refine ev_gos pp_Mo_compile 2 (S' := (123, [some (.ref 198), some (.int (l1 + (1 : Int32)))], [], (223, kc, ks, pd_H g (pd_w v 200 l1.toNatClampNeg (v 199 l1.toNatClampNeg))))) rfl ?_
      exact ih _ _ _  h
def d_Mo_compile_95 (w : Nat) (f : Nat) (l1 : Int32) (v : pd_V) : Option (Int32 × pd_V) := match f with
  | 0 => none
  | f + 1 =>
    bif decide ((8 : Int32) ≤ l1) then
      some ((2 : Int32), v)
    else
      bif pm_in l1 8 then
      bif pm_in l1 8 then
      bif ((v 202 l1.toNatClampNeg) == 0 || (v 202 l1.toNatClampNeg) == 1) then
      d_Mo_compile_95 w f (l1 + (1 : Int32)) (pd_w v 201 l1.toNatClampNeg (v 202 l1.toNatClampNeg))
      else none
      else none
      else none
set_option maxRecDepth 100000 in
set_option maxHeartbeats 4000000 in
theorem s_Mo_compile_95 {w : Nat} : ∀ (f : Nat) (l1 : Int32) (v : pd_V)  (q : (Int32 × pd_V)) , d_Mo_compile_95 w f l1 v = some q → pm_ev (pj_P xs L) (d + 6) 104 (95, [some (.ref 198), some (.int l1)], [], (223, kc, ks, pd_H g v)) (.inl (some (.int q.1)), (223, kc, ks, pd_H g q.2)) := by
  intro f
  induction f with
  | zero => intro l1 v q h; exact nomatch (show (none : Option (Int32 × pd_V)) = some q from h)
  | succ f ih =>
    intro l1 v q h
    rw [d_Mo_compile_95] at h
    refine ev_gos pp_Mo_compile 2 (S' := (98, [some (.ref 198), some (.int l1)], [.int (8 : Int32), .int l1], (223, kc, ks, pd_H g v))) rfl ?_
    refine ev_gos pp_Mo_compile 1 (S' := (bif decide ((8 : Int32) ≤ l1) then 119 else 101, [some (.ref 198), some (.int l1)], [], (223, kc, ks, pd_H g v))) rfl ?_
    rcases pd_cases h with ⟨hb1, h⟩ | ⟨hb1, h⟩
    · rw [hb1]
      refine ev_gos pp_Mo_compile 1 (S' := (120, [some (.ref 198), some (.int l1)], [.int (2 : Int32)], (223, kc, ks, pd_H g v))) rfl ?_
      cases h
      exact ev_fin pp_Mo_compile rfl
    · rw [hb1]
      refine ev_gos pp_Mo_compile 6 (S' := (111, [some (.ref 198), some (.int l1)], [.int l1, .ref 202, .int l1, .ref 201], (223, kc, ks, pd_H g v))) rfl ?_
      obtain ⟨hc2, h⟩ := pd_chk h
      refine ev_zald pp_Mo_compile rfl (fun _ => rfl) hc2 ?_
      refine ev_gos pp_Mo_compile 0 (S' := (112, [some (.ref 198), some (.int l1)], [.int (v 202 l1.toNatClampNeg), .int l1, .ref 201], (223, kc, ks, pd_H g v))) rfl ?_
      obtain ⟨hc3, h⟩ := pd_chk h
      obtain ⟨hc4, h⟩ := pd_chk h
      refine ev_zast pp_Mo_compile rfl (fun _ => rfl) hc3 hc4 ?_
      refine ev_gos pp_Mo_compile 2 (S' := (95, [some (.ref 198), some (.int (l1 + (1 : Int32)))], [], (223, kc, ks, pd_H g (pd_w v 201 l1.toNatClampNeg (v 202 l1.toNatClampNeg))))) rfl ?_
      exact ih _ _ _  h
def d_Mo_compile_57 (w : Nat) (f : Nat) (l1 : Int32) (v : pd_V) : Option (Int32 × pd_V) := match f with
  | 0 => none
  | f + 1 =>
    bif decide ((9 : Int32) ≤ l1) then
      bif decide ((v 198 10) < 0) then
        d_Mo_compile_123 w w (0 : Int32) (pd_w v 198 7 (v 198 10))
      else
        d_Mo_compile_95 w w (0 : Int32) (pd_w v 198 7 (v 198 10))
    else
      (d_Mo_look w (pd_w v 198 10 (-1 : Int32))).bind fun q3 =>
      d_Mo_compile_57 w f (l1 + (1 : Int32)) q3
set_option maxRecDepth 100000 in
set_option maxHeartbeats 4000000 in
theorem s_Mo_compile_57 {w : Nat} : ∀ (f : Nat) (l1 : Int32) (v : pd_V)  (q : (Int32 × pd_V)) , d_Mo_compile_57 w f l1 v = some q → pm_ev (pj_P xs L) (d + 6) 104 (57, [some (.ref 198), some (.int l1)], [], (223, kc, ks, pd_H g v)) (.inl (some (.int q.1)), (223, kc, ks, pd_H g q.2)) := by
  intro f
  induction f with
  | zero => intro l1 v q h; exact nomatch (show (none : Option (Int32 × pd_V)) = some q from h)
  | succ f ih =>
    intro l1 v q h
    rw [d_Mo_compile_57] at h
    refine ev_gos pp_Mo_compile 2 (S' := (60, [some (.ref 198), some (.int l1)], [.int (9 : Int32), .int l1], (223, kc, ks, pd_H g v))) rfl ?_
    refine ev_gos pp_Mo_compile 1 (S' := (bif decide ((9 : Int32) ≤ l1) then 78 else 63, [some (.ref 198), some (.int l1)], [], (223, kc, ks, pd_H g v))) rfl ?_
    rcases pd_cases h with ⟨hb1, h⟩ | ⟨hb1, h⟩
    · rw [hb1]
      refine ev_gos pp_Mo_compile 3 (S' := (83, [some (.ref 198), some (.int l1)], [.int (v 198 10), .ref 198], (223, kc, ks, pd_H g v))) rfl ?_
      refine ev_put pp_Mo_compile rfl (fun _ => rfl) rfl rfl rfl ?_
      refine ev_gos pp_Mo_compile 2 (S' := (90, [some (.ref 198), some (.int l1)], [.int (v 198 10)], (223, kc, ks, pd_H g (pd_w v 198 7 (v 198 10))))) rfl ?_
      refine ev_gos pp_Mo_compile 1 (S' := (bif decide ((v 198 10) < 0) then 121 else 93, [some (.ref 198), some (.int l1)], [], (223, kc, ks, pd_H g (pd_w v 198 7 (v 198 10))))) rfl ?_
      rcases pd_cases h with ⟨hb2, h⟩ | ⟨hb2, h⟩
      · rw [hb2]
        refine ev_gos pp_Mo_compile 2 (S' := (123, [some (.ref 198), some (.int (0 : Int32))], [], (223, kc, ks, pd_H g (pd_w v 198 7 (v 198 10))))) rfl ?_
        exact s_Mo_compile_123 _ _ _ _  h
      · rw [hb2]
        refine ev_gos pp_Mo_compile 2 (S' := (95, [some (.ref 198), some (.int (0 : Int32))], [], (223, kc, ks, pd_H g (pd_w v 198 7 (v 198 10))))) rfl ?_
        exact s_Mo_compile_95 _ _ _ _  h
    · rw [hb1]
      refine ev_gos pp_Mo_compile 2 (S' := (65, [some (.ref 198), some (.int l1)], [.int (-1 : Int32), .ref 198], (223, kc, ks, pd_H g v))) rfl ?_
      refine ev_put pp_Mo_compile rfl (fun _ => rfl) rfl rfl rfl ?_
      refine ev_gos pp_Mo_compile 1 (S' := (69, [some (.ref 198), some (.int l1)], [.ref 198], (223, kc, ks, pd_H g (pd_w v 198 10 (-1 : Int32))))) rfl ?_
      obtain ⟨q3, hq3, h⟩ := pd_bind h
      refine ev_callv pp_Mo_compile rfl rfl rfl rfl (s_Mo_look hq3) ?_
      refine ev_gos pp_Mo_compile 2 (S' := (57, [some (.ref 198), some (.int (l1 + (1 : Int32)))], [], (223, kc, ks, pd_H g q3))) rfl ?_
      exact ih _ _ _  h
def d_Mo_compile_24 (w : Nat) (f : Nat) (l1 : Int32) (v : pd_V) : Option (Int32 × pd_V) := match f with
  | 0 => none
  | f + 1 =>
    bif decide ((8 : Int32) ≤ l1) then
      d_Mo_compile_57 w w (0 : Int32) v
    else
      bif pm_in l1 8 then
      bif pm_in l1 8 then
      bif ((v 201 l1.toNatClampNeg) == 0 || (v 201 l1.toNatClampNeg) == 1) then
      bif pm_in l1 8 then
      d_Mo_compile_24 w f (l1 + (1 : Int32)) (pd_w (pd_w v 202 l1.toNatClampNeg (v 201 l1.toNatClampNeg)) 201 l1.toNatClampNeg (0 : Int32))
      else none
      else none
      else none
      else none
set_option maxRecDepth 100000 in
set_option maxHeartbeats 4000000 in
theorem s_Mo_compile_24 {w : Nat} : ∀ (f : Nat) (l1 : Int32) (v : pd_V)  (q : (Int32 × pd_V)) , d_Mo_compile_24 w f l1 v = some q → pm_ev (pj_P xs L) (d + 6) 104 (24, [some (.ref 198), some (.int l1)], [], (223, kc, ks, pd_H g v)) (.inl (some (.int q.1)), (223, kc, ks, pd_H g q.2)) := by
  intro f
  induction f with
  | zero => intro l1 v q h; exact nomatch (show (none : Option (Int32 × pd_V)) = some q from h)
  | succ f ih =>
    intro l1 v q h
    rw [d_Mo_compile_24] at h
    refine ev_gos pp_Mo_compile 2 (S' := (27, [some (.ref 198), some (.int l1)], [.int (8 : Int32), .int l1], (223, kc, ks, pd_H g v))) rfl ?_
    refine ev_gos pp_Mo_compile 1 (S' := (bif decide ((8 : Int32) ≤ l1) then 55 else 30, [some (.ref 198), some (.int l1)], [], (223, kc, ks, pd_H g v))) rfl ?_
    rcases pd_cases h with ⟨hb1, h⟩ | ⟨hb1, h⟩
    · rw [hb1]
      refine ev_gos pp_Mo_compile 2 (S' := (57, [some (.ref 198), some (.int (0 : Int32))], [], (223, kc, ks, pd_H g v))) rfl ?_
      exact s_Mo_compile_57 _ _ _ _  h
    · rw [hb1]
      refine ev_gos pp_Mo_compile 6 (S' := (40, [some (.ref 198), some (.int l1)], [.int l1, .ref 201, .int l1, .ref 202], (223, kc, ks, pd_H g v))) rfl ?_
      obtain ⟨hc2, h⟩ := pd_chk h
      refine ev_zald pp_Mo_compile rfl (fun _ => rfl) hc2 ?_
      refine ev_gos pp_Mo_compile 0 (S' := (41, [some (.ref 198), some (.int l1)], [.int (v 201 l1.toNatClampNeg), .int l1, .ref 202], (223, kc, ks, pd_H g v))) rfl ?_
      obtain ⟨hc3, h⟩ := pd_chk h
      obtain ⟨hc4, h⟩ := pd_chk h
      refine ev_zast pp_Mo_compile rfl (fun _ => rfl) hc3 hc4 ?_
      refine ev_gos pp_Mo_compile 4 (S' := (48, [some (.ref 198), some (.int l1)], [.int (0 : Int32), .int l1, .ref 201], (223, kc, ks, pd_H g (pd_w v 202 l1.toNatClampNeg (v 201 l1.toNatClampNeg))))) rfl ?_
      obtain ⟨hc5, h⟩ := pd_chk h
      refine ev_zast pp_Mo_compile rfl (fun _ => rfl) hc5 pd_b0 ?_
      refine ev_gos pp_Mo_compile 2 (S' := (24, [some (.ref 198), some (.int (l1 + (1 : Int32)))], [], (223, kc, ks, pd_H g (pd_w (pd_w v 202 l1.toNatClampNeg (v 201 l1.toNatClampNeg)) 201 l1.toNatClampNeg (0 : Int32))))) rfl ?_
      exact ih _ _ _  h
def d_Mo_compile (w : Nat)  (v : pd_V) : Option (Int32 × pd_V) :=
  (d_Mo_isText w (pd_w v 198 0 (0 : Int32))).bind fun q1 =>
  bif !(decide (q1.1 = 0)) then
    d_Mo_compile_24 w w (0 : Int32) q1.2
  else
    some ((1 : Int32), (pd_w q1.2 198 7 (q1.2 198 6)))
set_option maxRecDepth 100000 in
set_option maxHeartbeats 4000000 in
theorem s_Mo_compile {w : Nat}  {v : pd_V} {q : (Int32 × pd_V)}  (h : d_Mo_compile w v = some q) : pm_ev (pj_P xs L) (d + 6) 104 (0, [some (.ref 198), none], [], (223, kc, ks, pd_H g v)) (.inl (some (.int q.1)), (223, kc, ks, pd_H g q.2)) := by
  unfold d_Mo_compile at h
  refine ev_gos pp_Mo_compile 2 (S' := (2, [some (.ref 198), none], [.int (0 : Int32), .ref 198], (223, kc, ks, pd_H g v))) rfl ?_
  refine ev_put pp_Mo_compile rfl (fun _ => rfl) rfl rfl rfl ?_
  refine ev_gos pp_Mo_compile 1 (S' := (6, [some (.ref 198), none], [.ref 198], (223, kc, ks, pd_H g (pd_w v 198 0 (0 : Int32))))) rfl ?_
  obtain ⟨q1, hq1, h⟩ := pd_bind h
  refine ev_callv pp_Mo_compile rfl rfl rfl rfl (s_Mo_isText hq1) ?_
  refine ev_gos pp_Mo_compile 0 (S' := (9, [some (.ref 198), none], [.int q1.1], (223, kc, ks, pd_H g q1.2))) rfl ?_
  refine ev_gos pp_Mo_compile 1 (S' := (bif !(decide (q1.1 = 0)) then 22 else 12, [some (.ref 198), none], [], (223, kc, ks, pd_H g q1.2))) rfl ?_
  rcases pd_cases h with ⟨hb2, h⟩ | ⟨hb2, h⟩
  · rw [hb2]
    refine ev_gos pp_Mo_compile 2 (S' := (24, [some (.ref 198), some (.int (0 : Int32))], [], (223, kc, ks, pd_H g q1.2))) rfl ?_
    exact s_Mo_compile_24 _ _ _ _  h
  · rw [hb2]
    refine ev_gos pp_Mo_compile 3 (S' := (17, [some (.ref 198), none], [.int (q1.2 198 6), .ref 198], (223, kc, ks, pd_H g q1.2))) rfl ?_
    refine ev_put pp_Mo_compile rfl (fun _ => rfl) rfl rfl rfl ?_
    refine ev_gos pp_Mo_compile 1 (S' := (21, [some (.ref 198), none], [.int (1 : Int32)], (223, kc, ks, pd_H g (pd_w q1.2 198 7 (q1.2 198 6))))) rfl ?_
    cases h
    exact ev_fin pp_Mo_compile rfl
theorem pp_Mo_place {xs : Nat → Int32} {L : Nat} : (pj_P xs L 117).1 = fun S => pm_look tb_Mo_place S.1 S := rfl
def d_Mo_place  (v : pd_V) : Option (Int32 × pd_V) :=
  some ((v 198 7), (pd_w v 198 0 (0 : Int32)))
theorem s_Mo_place  {v : pd_V} {q : (Int32 × pd_V)}  (h : d_Mo_place v = some q) : pm_ev (pj_P xs L) d 117 (0, [some (.ref 198)], [], (223, kc, ks, pd_H g v)) (.inl (some (.int q.1)), (223, kc, ks, pd_H g q.2)) := by
  unfold d_Mo_place at h
  refine ev_gos pp_Mo_place 2 (S' := (2, [some (.ref 198)], [.int (0 : Int32), .ref 198], (223, kc, ks, pd_H g v))) rfl ?_
  refine ev_put pp_Mo_place rfl (fun _ => rfl) rfl rfl rfl ?_
  refine ev_gos pp_Mo_place 2 (S' := (9, [some (.ref 198)], [.int (v 198 7)], (223, kc, ks, pd_H g (pd_w v 198 0 (0 : Int32))))) rfl ?_
  cases h
  exact ev_fin pp_Mo_place rfl
theorem pp_Mo_varies {xs : Nat → Int32} {L : Nat} : (pj_P xs L 118).1 = fun S => pm_look tb_Mo_varies S.1 S := rfl
def d_Mo_varies (l1 : Int32) (v : pd_V) : Option (Int32 × pd_V) :=
  bif !(decide ((v 198 5) = 0)) then
    bif decide ((v 198 5) = 0) then
      (d_Mo_throwing (0 : Int32) (0 : Int32) (0 : Int32) v).bind fun q3 =>
      bif !(decide (q3.1 = 0)) then
        some ((0 : Int32), q3.2)
      else
        bif pm_in l1 8 then
        bif decide ((q3.2 201 l1.toNatClampNeg) = 0) then
          some ((0 : Int32), q3.2)
        else
          some ((1 : Int32), q3.2)
        else none
    else
      bif decide ((d_Mo_beyond l1 (0 : Int32) (7 : Int32)) = 0) then
        (d_Mo_throwing (0 : Int32) (0 : Int32) (0 : Int32) v).bind fun q9 =>
        bif !(decide (q9.1 = 0)) then
          some ((0 : Int32), q9.2)
        else
          bif pm_in l1 8 then
          bif decide ((q9.2 201 l1.toNatClampNeg) = 0) then
            some ((0 : Int32), q9.2)
          else
            some ((1 : Int32), q9.2)
          else none
      else
        (d_Mo_throwing (0 : Int32) (1 : Int32) (0 : Int32) v).bind fun q13 =>
        bif !(decide (q13.1 = 0)) then
          some ((0 : Int32), q13.2)
        else
          bif pm_in l1 8 then
          bif decide ((q13.2 201 l1.toNatClampNeg) = 0) then
            some ((0 : Int32), q13.2)
          else
            some ((1 : Int32), q13.2)
          else none
  else
    bif decide ((v 198 5) = 0) then
      (d_Mo_throwing (1 : Int32) (0 : Int32) (0 : Int32) v).bind fun q18 =>
      bif !(decide (q18.1 = 0)) then
        some ((0 : Int32), q18.2)
      else
        bif pm_in l1 8 then
        bif decide ((q18.2 201 l1.toNatClampNeg) = 0) then
          some ((0 : Int32), q18.2)
        else
          some ((1 : Int32), q18.2)
        else none
    else
      bif decide ((d_Mo_beyond l1 (0 : Int32) (7 : Int32)) = 0) then
        (d_Mo_throwing (1 : Int32) (0 : Int32) (0 : Int32) v).bind fun q24 =>
        bif !(decide (q24.1 = 0)) then
          some ((0 : Int32), q24.2)
        else
          bif pm_in l1 8 then
          bif decide ((q24.2 201 l1.toNatClampNeg) = 0) then
            some ((0 : Int32), q24.2)
          else
            some ((1 : Int32), q24.2)
          else none
      else
        (d_Mo_throwing (1 : Int32) (1 : Int32) (0 : Int32) v).bind fun q28 =>
        bif !(decide (q28.1 = 0)) then
          some ((0 : Int32), q28.2)
        else
          bif pm_in l1 8 then
          bif decide ((q28.2 201 l1.toNatClampNeg) = 0) then
            some ((0 : Int32), q28.2)
          else
            some ((1 : Int32), q28.2)
          else none
theorem s_Mo_varies {l1 : Int32} {v : pd_V} {q : (Int32 × pd_V)}  (h : d_Mo_varies l1 v = some q) : pm_ev (pj_P xs L) (d + 1) 118 (0, [some (.ref 198), some (.int l1)], [], (223, kc, ks, pd_H g v)) (.inl (some (.int q.1)), (223, kc, ks, pd_H g q.2)) := by
  unfold d_Mo_varies at h
  refine ev_gos pp_Mo_varies 3 (S' := (5, [some (.ref 198), some (.int l1)], [.int (v 198 5), .ref 198], (223, kc, ks, pd_H g v))) rfl ?_
  refine ev_gos pp_Mo_varies 1 (S' := (bif !(decide ((v 198 5) = 0)) then 12 else 8, [some (.ref 198), some (.int l1)], [.ref 198], (223, kc, ks, pd_H g v))) rfl ?_
  rcases pd_cases h with ⟨hb1, h⟩ | ⟨hb1, h⟩
  · rw [hb1]
    refine ev_gos pp_Mo_varies 3 (S' := (17, [some (.ref 198), some (.int l1)], [.int (v 198 5), .int (0 : Int32), .ref 198], (223, kc, ks, pd_H g v))) rfl ?_
    refine ev_gos pp_Mo_varies 1 (S' := (bif decide ((v 198 5) = 0) then 34 else 20, [some (.ref 198), some (.int l1)], [.int (0 : Int32), .ref 198], (223, kc, ks, pd_H g v))) rfl ?_
    rcases pd_cases h with ⟨hb2, h⟩ | ⟨hb2, h⟩
    · rw [hb2]
      refine ev_gos pp_Mo_varies 2 (S' := (36, [some (.ref 198), some (.int l1)], [.int (0 : Int32), .int (0 : Int32), .int (0 : Int32), .ref 198], (223, kc, ks, pd_H g v))) rfl ?_
      obtain ⟨q3, hq3, h⟩ := pd_bind h
      refine ev_callv pp_Mo_varies rfl rfl rfl rfl (s_Mo_throwing hq3) ?_
      refine ev_gos pp_Mo_varies 0 (S' := (39, [some (.ref 198), some (.int l1)], [.int q3.1], (223, kc, ks, pd_H g q3.2))) rfl ?_
      refine ev_gos pp_Mo_varies 1 (S' := (bif !(decide (q3.1 = 0)) then 55 else 42, [some (.ref 198), some (.int l1)], [], (223, kc, ks, pd_H g q3.2))) rfl ?_
      rcases pd_cases h with ⟨hb4, h⟩ | ⟨hb4, h⟩
      · rw [hb4]
        refine ev_gos pp_Mo_varies 1 (S' := (56, [some (.ref 198), some (.int l1)], [.int (0 : Int32)], (223, kc, ks, pd_H g q3.2))) rfl ?_
        cases h
        exact ev_zret pp_Mo_varies rfl pd_b0
      · rw [hb4]
        refine ev_gos pp_Mo_varies 3 (S' := (47, [some (.ref 198), some (.int l1)], [.int l1, .ref 201], (223, kc, ks, pd_H g q3.2))) rfl ?_
        obtain ⟨hc5, h⟩ := pd_chk h
        refine ev_zald pp_Mo_varies rfl (fun _ => rfl) hc5 ?_
        refine ev_gos pp_Mo_varies 0 (S' := (48, [some (.ref 198), some (.int l1)], [.int (q3.2 201 l1.toNatClampNeg)], (223, kc, ks, pd_H g q3.2))) rfl ?_
        refine ev_gos pp_Mo_varies 1 (S' := (bif decide ((q3.2 201 l1.toNatClampNeg) = 0) then 55 else 51, [some (.ref 198), some (.int l1)], [], (223, kc, ks, pd_H g q3.2))) rfl ?_
        rcases pd_cases h with ⟨hb6, h⟩ | ⟨hb6, h⟩
        · rw [hb6]
          refine ev_gos pp_Mo_varies 1 (S' := (56, [some (.ref 198), some (.int l1)], [.int (0 : Int32)], (223, kc, ks, pd_H g q3.2))) rfl ?_
          cases h
          exact ev_zret pp_Mo_varies rfl pd_b0
        · rw [hb6]
          refine ev_gos pp_Mo_varies 2 (S' := (56, [some (.ref 198), some (.int l1)], [.int (1 : Int32)], (223, kc, ks, pd_H g q3.2))) rfl ?_
          cases h
          exact ev_zret pp_Mo_varies rfl pd_b1
    · rw [hb2]
      refine ev_gos pp_Mo_varies 3 (S' := (24, [some (.ref 198), some (.int l1)], [.int (7 : Int32), .int (0 : Int32), .int l1, .int (0 : Int32), .ref 198], (223, kc, ks, pd_H g v))) rfl ?_
      refine ev_call pp_Mo_varies rfl rfl rfl (s_Mo_beyond) ?_
      refine ev_gos pp_Mo_varies 0 (S' := (27, [some (.ref 198), some (.int l1)], [.int (d_Mo_beyond l1 (0 : Int32) (7 : Int32)), .int (0 : Int32), .ref 198], (223, kc, ks, pd_H g v))) rfl ?_
      refine ev_gos pp_Mo_varies 1 (S' := (bif decide ((d_Mo_beyond l1 (0 : Int32) (7 : Int32)) = 0) then 34 else 30, [some (.ref 198), some (.int l1)], [.int (0 : Int32), .ref 198], (223, kc, ks, pd_H g v))) rfl ?_
      rcases pd_cases h with ⟨hb8, h⟩ | ⟨hb8, h⟩
      · rw [hb8]
        refine ev_gos pp_Mo_varies 2 (S' := (36, [some (.ref 198), some (.int l1)], [.int (0 : Int32), .int (0 : Int32), .int (0 : Int32), .ref 198], (223, kc, ks, pd_H g v))) rfl ?_
        obtain ⟨q9, hq9, h⟩ := pd_bind h
        refine ev_callv pp_Mo_varies rfl rfl rfl rfl (s_Mo_throwing hq9) ?_
        refine ev_gos pp_Mo_varies 0 (S' := (39, [some (.ref 198), some (.int l1)], [.int q9.1], (223, kc, ks, pd_H g q9.2))) rfl ?_
        refine ev_gos pp_Mo_varies 1 (S' := (bif !(decide (q9.1 = 0)) then 55 else 42, [some (.ref 198), some (.int l1)], [], (223, kc, ks, pd_H g q9.2))) rfl ?_
        rcases pd_cases h with ⟨hb10, h⟩ | ⟨hb10, h⟩
        · rw [hb10]
          refine ev_gos pp_Mo_varies 1 (S' := (56, [some (.ref 198), some (.int l1)], [.int (0 : Int32)], (223, kc, ks, pd_H g q9.2))) rfl ?_
          cases h
          exact ev_zret pp_Mo_varies rfl pd_b0
        · rw [hb10]
          refine ev_gos pp_Mo_varies 3 (S' := (47, [some (.ref 198), some (.int l1)], [.int l1, .ref 201], (223, kc, ks, pd_H g q9.2))) rfl ?_
          obtain ⟨hc11, h⟩ := pd_chk h
          refine ev_zald pp_Mo_varies rfl (fun _ => rfl) hc11 ?_
          refine ev_gos pp_Mo_varies 0 (S' := (48, [some (.ref 198), some (.int l1)], [.int (q9.2 201 l1.toNatClampNeg)], (223, kc, ks, pd_H g q9.2))) rfl ?_
          refine ev_gos pp_Mo_varies 1 (S' := (bif decide ((q9.2 201 l1.toNatClampNeg) = 0) then 55 else 51, [some (.ref 198), some (.int l1)], [], (223, kc, ks, pd_H g q9.2))) rfl ?_
          rcases pd_cases h with ⟨hb12, h⟩ | ⟨hb12, h⟩
          · rw [hb12]
            refine ev_gos pp_Mo_varies 1 (S' := (56, [some (.ref 198), some (.int l1)], [.int (0 : Int32)], (223, kc, ks, pd_H g q9.2))) rfl ?_
            cases h
            exact ev_zret pp_Mo_varies rfl pd_b0
          · rw [hb12]
            refine ev_gos pp_Mo_varies 2 (S' := (56, [some (.ref 198), some (.int l1)], [.int (1 : Int32)], (223, kc, ks, pd_H g q9.2))) rfl ?_
            cases h
            exact ev_zret pp_Mo_varies rfl pd_b1
      · rw [hb8]
        refine ev_gos pp_Mo_varies 3 (S' := (36, [some (.ref 198), some (.int l1)], [.int (0 : Int32), .int (1 : Int32), .int (0 : Int32), .ref 198], (223, kc, ks, pd_H g v))) rfl ?_
        obtain ⟨q13, hq13, h⟩ := pd_bind h
        refine ev_callv pp_Mo_varies rfl rfl rfl rfl (s_Mo_throwing hq13) ?_
        refine ev_gos pp_Mo_varies 0 (S' := (39, [some (.ref 198), some (.int l1)], [.int q13.1], (223, kc, ks, pd_H g q13.2))) rfl ?_
        refine ev_gos pp_Mo_varies 1 (S' := (bif !(decide (q13.1 = 0)) then 55 else 42, [some (.ref 198), some (.int l1)], [], (223, kc, ks, pd_H g q13.2))) rfl ?_
        rcases pd_cases h with ⟨hb14, h⟩ | ⟨hb14, h⟩
        · rw [hb14]
          refine ev_gos pp_Mo_varies 1 (S' := (56, [some (.ref 198), some (.int l1)], [.int (0 : Int32)], (223, kc, ks, pd_H g q13.2))) rfl ?_
          cases h
          exact ev_zret pp_Mo_varies rfl pd_b0
        · rw [hb14]
          refine ev_gos pp_Mo_varies 3 (S' := (47, [some (.ref 198), some (.int l1)], [.int l1, .ref 201], (223, kc, ks, pd_H g q13.2))) rfl ?_
          obtain ⟨hc15, h⟩ := pd_chk h
          refine ev_zald pp_Mo_varies rfl (fun _ => rfl) hc15 ?_
          refine ev_gos pp_Mo_varies 0 (S' := (48, [some (.ref 198), some (.int l1)], [.int (q13.2 201 l1.toNatClampNeg)], (223, kc, ks, pd_H g q13.2))) rfl ?_
          refine ev_gos pp_Mo_varies 1 (S' := (bif decide ((q13.2 201 l1.toNatClampNeg) = 0) then 55 else 51, [some (.ref 198), some (.int l1)], [], (223, kc, ks, pd_H g q13.2))) rfl ?_
          rcases pd_cases h with ⟨hb16, h⟩ | ⟨hb16, h⟩
          · rw [hb16]
            refine ev_gos pp_Mo_varies 1 (S' := (56, [some (.ref 198), some (.int l1)], [.int (0 : Int32)], (223, kc, ks, pd_H g q13.2))) rfl ?_
            cases h
            exact ev_zret pp_Mo_varies rfl pd_b0
          · rw [hb16]
            refine ev_gos pp_Mo_varies 2 (S' := (56, [some (.ref 198), some (.int l1)], [.int (1 : Int32)], (223, kc, ks, pd_H g q13.2))) rfl ?_
            cases h
            exact ev_zret pp_Mo_varies rfl pd_b1
  · rw [hb1]
    refine ev_gos pp_Mo_varies 4 (S' := (17, [some (.ref 198), some (.int l1)], [.int (v 198 5), .int (1 : Int32), .ref 198], (223, kc, ks, pd_H g v))) rfl ?_
    refine ev_gos pp_Mo_varies 1 (S' := (bif decide ((v 198 5) = 0) then 34 else 20, [some (.ref 198), some (.int l1)], [.int (1 : Int32), .ref 198], (223, kc, ks, pd_H g v))) rfl ?_
    rcases pd_cases h with ⟨hb17, h⟩ | ⟨hb17, h⟩
    · rw [hb17]
      refine ev_gos pp_Mo_varies 2 (S' := (36, [some (.ref 198), some (.int l1)], [.int (0 : Int32), .int (0 : Int32), .int (1 : Int32), .ref 198], (223, kc, ks, pd_H g v))) rfl ?_
      obtain ⟨q18, hq18, h⟩ := pd_bind h
      refine ev_callv pp_Mo_varies rfl rfl rfl rfl (s_Mo_throwing hq18) ?_
      refine ev_gos pp_Mo_varies 0 (S' := (39, [some (.ref 198), some (.int l1)], [.int q18.1], (223, kc, ks, pd_H g q18.2))) rfl ?_
      refine ev_gos pp_Mo_varies 1 (S' := (bif !(decide (q18.1 = 0)) then 55 else 42, [some (.ref 198), some (.int l1)], [], (223, kc, ks, pd_H g q18.2))) rfl ?_
      rcases pd_cases h with ⟨hb19, h⟩ | ⟨hb19, h⟩
      · rw [hb19]
        refine ev_gos pp_Mo_varies 1 (S' := (56, [some (.ref 198), some (.int l1)], [.int (0 : Int32)], (223, kc, ks, pd_H g q18.2))) rfl ?_
        cases h
        exact ev_zret pp_Mo_varies rfl pd_b0
      · rw [hb19]
        refine ev_gos pp_Mo_varies 3 (S' := (47, [some (.ref 198), some (.int l1)], [.int l1, .ref 201], (223, kc, ks, pd_H g q18.2))) rfl ?_
        obtain ⟨hc20, h⟩ := pd_chk h
        refine ev_zald pp_Mo_varies rfl (fun _ => rfl) hc20 ?_
        refine ev_gos pp_Mo_varies 0 (S' := (48, [some (.ref 198), some (.int l1)], [.int (q18.2 201 l1.toNatClampNeg)], (223, kc, ks, pd_H g q18.2))) rfl ?_
        refine ev_gos pp_Mo_varies 1 (S' := (bif decide ((q18.2 201 l1.toNatClampNeg) = 0) then 55 else 51, [some (.ref 198), some (.int l1)], [], (223, kc, ks, pd_H g q18.2))) rfl ?_
        rcases pd_cases h with ⟨hb21, h⟩ | ⟨hb21, h⟩
        · rw [hb21]
          refine ev_gos pp_Mo_varies 1 (S' := (56, [some (.ref 198), some (.int l1)], [.int (0 : Int32)], (223, kc, ks, pd_H g q18.2))) rfl ?_
          cases h
          exact ev_zret pp_Mo_varies rfl pd_b0
        · rw [hb21]
          refine ev_gos pp_Mo_varies 2 (S' := (56, [some (.ref 198), some (.int l1)], [.int (1 : Int32)], (223, kc, ks, pd_H g q18.2))) rfl ?_
          cases h
          exact ev_zret pp_Mo_varies rfl pd_b1
    · rw [hb17]
      refine ev_gos pp_Mo_varies 3 (S' := (24, [some (.ref 198), some (.int l1)], [.int (7 : Int32), .int (0 : Int32), .int l1, .int (1 : Int32), .ref 198], (223, kc, ks, pd_H g v))) rfl ?_
      refine ev_call pp_Mo_varies rfl rfl rfl (s_Mo_beyond) ?_
      refine ev_gos pp_Mo_varies 0 (S' := (27, [some (.ref 198), some (.int l1)], [.int (d_Mo_beyond l1 (0 : Int32) (7 : Int32)), .int (1 : Int32), .ref 198], (223, kc, ks, pd_H g v))) rfl ?_
      refine ev_gos pp_Mo_varies 1 (S' := (bif decide ((d_Mo_beyond l1 (0 : Int32) (7 : Int32)) = 0) then 34 else 30, [some (.ref 198), some (.int l1)], [.int (1 : Int32), .ref 198], (223, kc, ks, pd_H g v))) rfl ?_
      rcases pd_cases h with ⟨hb23, h⟩ | ⟨hb23, h⟩
      · rw [hb23]
        refine ev_gos pp_Mo_varies 2 (S' := (36, [some (.ref 198), some (.int l1)], [.int (0 : Int32), .int (0 : Int32), .int (1 : Int32), .ref 198], (223, kc, ks, pd_H g v))) rfl ?_
        obtain ⟨q24, hq24, h⟩ := pd_bind h
        refine ev_callv pp_Mo_varies rfl rfl rfl rfl (s_Mo_throwing hq24) ?_
        refine ev_gos pp_Mo_varies 0 (S' := (39, [some (.ref 198), some (.int l1)], [.int q24.1], (223, kc, ks, pd_H g q24.2))) rfl ?_
        refine ev_gos pp_Mo_varies 1 (S' := (bif !(decide (q24.1 = 0)) then 55 else 42, [some (.ref 198), some (.int l1)], [], (223, kc, ks, pd_H g q24.2))) rfl ?_
        rcases pd_cases h with ⟨hb25, h⟩ | ⟨hb25, h⟩
        · rw [hb25]
          refine ev_gos pp_Mo_varies 1 (S' := (56, [some (.ref 198), some (.int l1)], [.int (0 : Int32)], (223, kc, ks, pd_H g q24.2))) rfl ?_
          cases h
          exact ev_zret pp_Mo_varies rfl pd_b0
        · rw [hb25]
          refine ev_gos pp_Mo_varies 3 (S' := (47, [some (.ref 198), some (.int l1)], [.int l1, .ref 201], (223, kc, ks, pd_H g q24.2))) rfl ?_
          obtain ⟨hc26, h⟩ := pd_chk h
          refine ev_zald pp_Mo_varies rfl (fun _ => rfl) hc26 ?_
          refine ev_gos pp_Mo_varies 0 (S' := (48, [some (.ref 198), some (.int l1)], [.int (q24.2 201 l1.toNatClampNeg)], (223, kc, ks, pd_H g q24.2))) rfl ?_
          refine ev_gos pp_Mo_varies 1 (S' := (bif decide ((q24.2 201 l1.toNatClampNeg) = 0) then 55 else 51, [some (.ref 198), some (.int l1)], [], (223, kc, ks, pd_H g q24.2))) rfl ?_
          rcases pd_cases h with ⟨hb27, h⟩ | ⟨hb27, h⟩
          · rw [hb27]
            refine ev_gos pp_Mo_varies 1 (S' := (56, [some (.ref 198), some (.int l1)], [.int (0 : Int32)], (223, kc, ks, pd_H g q24.2))) rfl ?_
            cases h
            exact ev_zret pp_Mo_varies rfl pd_b0
          · rw [hb27]
            refine ev_gos pp_Mo_varies 2 (S' := (56, [some (.ref 198), some (.int l1)], [.int (1 : Int32)], (223, kc, ks, pd_H g q24.2))) rfl ?_
            cases h
            exact ev_zret pp_Mo_varies rfl pd_b1
      · rw [hb23]
        refine ev_gos pp_Mo_varies 3 (S' := (36, [some (.ref 198), some (.int l1)], [.int (0 : Int32), .int (1 : Int32), .int (1 : Int32), .ref 198], (223, kc, ks, pd_H g v))) rfl ?_
        obtain ⟨q28, hq28, h⟩ := pd_bind h
        refine ev_callv pp_Mo_varies rfl rfl rfl rfl (s_Mo_throwing hq28) ?_
        refine ev_gos pp_Mo_varies 0 (S' := (39, [some (.ref 198), some (.int l1)], [.int q28.1], (223, kc, ks, pd_H g q28.2))) rfl ?_
        refine ev_gos pp_Mo_varies 1 (S' := (bif !(decide (q28.1 = 0)) then 55 else 42, [some (.ref 198), some (.int l1)], [], (223, kc, ks, pd_H g q28.2))) rfl ?_
        rcases pd_cases h with ⟨hb29, h⟩ | ⟨hb29, h⟩
        · rw [hb29]
          refine ev_gos pp_Mo_varies 1 (S' := (56, [some (.ref 198), some (.int l1)], [.int (0 : Int32)], (223, kc, ks, pd_H g q28.2))) rfl ?_
          cases h
          exact ev_zret pp_Mo_varies rfl pd_b0
        · rw [hb29]
          refine ev_gos pp_Mo_varies 3 (S' := (47, [some (.ref 198), some (.int l1)], [.int l1, .ref 201], (223, kc, ks, pd_H g q28.2))) rfl ?_
          obtain ⟨hc30, h⟩ := pd_chk h
          refine ev_zald pp_Mo_varies rfl (fun _ => rfl) hc30 ?_
          refine ev_gos pp_Mo_varies 0 (S' := (48, [some (.ref 198), some (.int l1)], [.int (q28.2 201 l1.toNatClampNeg)], (223, kc, ks, pd_H g q28.2))) rfl ?_
          refine ev_gos pp_Mo_varies 1 (S' := (bif decide ((q28.2 201 l1.toNatClampNeg) = 0) then 55 else 51, [some (.ref 198), some (.int l1)], [], (223, kc, ks, pd_H g q28.2))) rfl ?_
          rcases pd_cases h with ⟨hb31, h⟩ | ⟨hb31, h⟩
          · rw [hb31]
            refine ev_gos pp_Mo_varies 1 (S' := (56, [some (.ref 198), some (.int l1)], [.int (0 : Int32)], (223, kc, ks, pd_H g q28.2))) rfl ?_
            cases h
            exact ev_zret pp_Mo_varies rfl pd_b0
          · rw [hb31]
            refine ev_gos pp_Mo_varies 2 (S' := (56, [some (.ref 198), some (.int l1)], [.int (1 : Int32)], (223, kc, ks, pd_H g q28.2))) rfl ?_
            cases h
            exact ev_zret pp_Mo_varies rfl pd_b1
theorem z_Mo_varies {l1 : Int32} {v : pd_V} {q : (Int32 × pd_V)}  (h : d_Mo_varies l1 v = some q) : (q.1 == 0 || q.1 == 1) = true := by
  unfold d_Mo_varies at h
  rcases pd_cases h with ⟨hb1, h⟩ | ⟨hb1, h⟩
  · rcases pd_cases h with ⟨hb2, h⟩ | ⟨hb2, h⟩
    · obtain ⟨q3, hq3, h⟩ := pd_bind h
      rcases pd_cases h with ⟨hb4, h⟩ | ⟨hb4, h⟩
      · cases h
        exact pd_b0
      · obtain ⟨hc5, h⟩ := pd_chk h
        rcases pd_cases h with ⟨hb6, h⟩ | ⟨hb6, h⟩
        · cases h
          exact pd_b0
        · cases h
          exact pd_b1
    · rcases pd_cases h with ⟨hb8, h⟩ | ⟨hb8, h⟩
      · obtain ⟨q9, hq9, h⟩ := pd_bind h
        rcases pd_cases h with ⟨hb10, h⟩ | ⟨hb10, h⟩
        · cases h
          exact pd_b0
        · obtain ⟨hc11, h⟩ := pd_chk h
          rcases pd_cases h with ⟨hb12, h⟩ | ⟨hb12, h⟩
          · cases h
            exact pd_b0
          · cases h
            exact pd_b1
      · obtain ⟨q13, hq13, h⟩ := pd_bind h
        rcases pd_cases h with ⟨hb14, h⟩ | ⟨hb14, h⟩
        · cases h
          exact pd_b0
        · obtain ⟨hc15, h⟩ := pd_chk h
          rcases pd_cases h with ⟨hb16, h⟩ | ⟨hb16, h⟩
          · cases h
            exact pd_b0
          · cases h
            exact pd_b1
  · rcases pd_cases h with ⟨hb17, h⟩ | ⟨hb17, h⟩
    · obtain ⟨q18, hq18, h⟩ := pd_bind h
      rcases pd_cases h with ⟨hb19, h⟩ | ⟨hb19, h⟩
      · cases h
        exact pd_b0
      · obtain ⟨hc20, h⟩ := pd_chk h
        rcases pd_cases h with ⟨hb21, h⟩ | ⟨hb21, h⟩
        · cases h
          exact pd_b0
        · cases h
          exact pd_b1
    · rcases pd_cases h with ⟨hb23, h⟩ | ⟨hb23, h⟩
      · obtain ⟨q24, hq24, h⟩ := pd_bind h
        rcases pd_cases h with ⟨hb25, h⟩ | ⟨hb25, h⟩
        · cases h
          exact pd_b0
        · obtain ⟨hc26, h⟩ := pd_chk h
          rcases pd_cases h with ⟨hb27, h⟩ | ⟨hb27, h⟩
          · cases h
            exact pd_b0
          · cases h
            exact pd_b1
      · obtain ⟨q28, hq28, h⟩ := pd_bind h
        rcases pd_cases h with ⟨hb29, h⟩ | ⟨hb29, h⟩
        · cases h
          exact pd_b0
        · obtain ⟨hc30, h⟩ := pd_chk h
          rcases pd_cases h with ⟨hb31, h⟩ | ⟨hb31, h⟩
          · cases h
            exact pd_b0
          · cases h
            exact pd_b1
theorem pp_Mo_input {xs : Nat → Int32} {L : Nat} : (pj_P xs L 119).1 = fun S => pm_look tb_Mo_input S.1 S := rfl
def d_Mo_input (l1 : Int32) (l2 : Int32) (v : pd_V) : Option pd_V :=
  bif !(decide ((d_Mo_beyond l1 (0 : Int32) (15 : Int32)) = 0)) then
    (d_Mo_throwing (d_Mo_beyond l1 (0 : Int32) (15 : Int32)) (0 : Int32) (0 : Int32) v).bind fun q3 =>
    bif decide (q3.1 = 0) then
      bif pm_in l1 16 then
      some (pd_w q3.2 203 l1.toNatClampNeg l2)
      else none
    else
      some q3.2
  else
    bif decide ((v 198 26) = 0) then
      (d_Mo_throwing (d_Mo_beyond l1 (0 : Int32) (15 : Int32)) (0 : Int32) (0 : Int32) v).bind fun q7 =>
      bif decide (q7.1 = 0) then
        bif pm_in l1 16 then
        some (pd_w q7.2 203 l1.toNatClampNeg l2)
        else none
      else
        some q7.2
    else
      (d_Mo_throwing (d_Mo_beyond l1 (0 : Int32) (15 : Int32)) (1 : Int32) (0 : Int32) v).bind fun q10 =>
      bif decide (q10.1 = 0) then
        bif pm_in l1 16 then
        some (pd_w q10.2 203 l1.toNatClampNeg l2)
        else none
      else
        some q10.2
theorem s_Mo_input {l1 : Int32} {l2 : Int32} {v : pd_V} {q : pd_V}  (h : d_Mo_input l1 l2 v = some q) : pm_ev (pj_P xs L) (d + 1) 119 (0, [some (.ref 198), some (.int l1), some (.int l2), none], [], (223, kc, ks, pd_H g v)) (.inl none, (223, kc, ks, pd_H g q)) := by
  unfold d_Mo_input at h
  refine ev_gos pp_Mo_input 3 (S' := (4, [some (.ref 198), some (.int l1), some (.int l2), none], [.int (15 : Int32), .int (0 : Int32), .int l1], (223, kc, ks, pd_H g v))) rfl ?_
  refine ev_call pp_Mo_input rfl rfl rfl (s_Mo_beyond) ?_
  refine ev_gos pp_Mo_input 4 (S' := (11, [some (.ref 198), some (.int l1), some (.int l2), some (.int (d_Mo_beyond l1 (0 : Int32) (15 : Int32)))], [.int (d_Mo_beyond l1 (0 : Int32) (15 : Int32)), .int (d_Mo_beyond l1 (0 : Int32) (15 : Int32)), .ref 198], (223, kc, ks, pd_H g v))) rfl ?_
  refine ev_gos pp_Mo_input 1 (S' := (bif !(decide ((d_Mo_beyond l1 (0 : Int32) (15 : Int32)) = 0)) then 25 else 14, [some (.ref 198), some (.int l1), some (.int l2), some (.int (d_Mo_beyond l1 (0 : Int32) (15 : Int32)))], [.int (d_Mo_beyond l1 (0 : Int32) (15 : Int32)), .ref 198], (223, kc, ks, pd_H g v))) rfl ?_
  rcases pd_cases h with ⟨hb2, h⟩ | ⟨hb2, h⟩
  · rw [hb2]
    refine ev_gos pp_Mo_input 2 (S' := (27, [some (.ref 198), some (.int l1), some (.int l2), some (.int (d_Mo_beyond l1 (0 : Int32) (15 : Int32)))], [.int (0 : Int32), .int (0 : Int32), .int (d_Mo_beyond l1 (0 : Int32) (15 : Int32)), .ref 198], (223, kc, ks, pd_H g v))) rfl ?_
    obtain ⟨q3, hq3, h⟩ := pd_bind h
    refine ev_callv pp_Mo_input rfl rfl rfl rfl (s_Mo_throwing hq3) ?_
    refine ev_gos pp_Mo_input 0 (S' := (30, [some (.ref 198), some (.int l1), some (.int l2), some (.int (d_Mo_beyond l1 (0 : Int32) (15 : Int32)))], [.int q3.1], (223, kc, ks, pd_H g q3.2))) rfl ?_
    refine ev_gos pp_Mo_input 1 (S' := (bif decide (q3.1 = 0) then 34 else 33, [some (.ref 198), some (.int l1), some (.int l2), some (.int (d_Mo_beyond l1 (0 : Int32) (15 : Int32)))], [], (223, kc, ks, pd_H g q3.2))) rfl ?_
    rcases pd_cases h with ⟨hb4, h⟩ | ⟨hb4, h⟩
    · rw [hb4]
      refine ev_gos pp_Mo_input 4 (S' := (40, [some (.ref 198), some (.int l1), some (.int l2), some (.int (d_Mo_beyond l1 (0 : Int32) (15 : Int32)))], [.int l2, .int l1, .ref 203], (223, kc, ks, pd_H g q3.2))) rfl ?_
      obtain ⟨hc5, h⟩ := pd_chk h
      refine ev_iast pp_Mo_input rfl (fun _ => rfl) hc5 ?_
      refine ev_gos pp_Mo_input 0 (S' := (41, [some (.ref 198), some (.int l1), some (.int l2), some (.int (d_Mo_beyond l1 (0 : Int32) (15 : Int32)))], [], (223, kc, ks, pd_H g (pd_w q3.2 203 l1.toNatClampNeg l2)))) rfl ?_
      cases h
      exact ev_fin pp_Mo_input rfl
    · rw [hb4]
      refine ev_gos pp_Mo_input 0 (S' := (33, [some (.ref 198), some (.int l1), some (.int l2), some (.int (d_Mo_beyond l1 (0 : Int32) (15 : Int32)))], [], (223, kc, ks, pd_H g q3.2))) rfl ?_
      cases h
      exact ev_fin pp_Mo_input rfl
  · rw [hb2]
    refine ev_gos pp_Mo_input 2 (S' := (18, [some (.ref 198), some (.int l1), some (.int l2), some (.int (d_Mo_beyond l1 (0 : Int32) (15 : Int32)))], [.int (v 198 26), .int (d_Mo_beyond l1 (0 : Int32) (15 : Int32)), .ref 198], (223, kc, ks, pd_H g v))) rfl ?_
    refine ev_gos pp_Mo_input 1 (S' := (bif decide ((v 198 26) = 0) then 25 else 21, [some (.ref 198), some (.int l1), some (.int l2), some (.int (d_Mo_beyond l1 (0 : Int32) (15 : Int32)))], [.int (d_Mo_beyond l1 (0 : Int32) (15 : Int32)), .ref 198], (223, kc, ks, pd_H g v))) rfl ?_
    rcases pd_cases h with ⟨hb6, h⟩ | ⟨hb6, h⟩
    · rw [hb6]
      refine ev_gos pp_Mo_input 2 (S' := (27, [some (.ref 198), some (.int l1), some (.int l2), some (.int (d_Mo_beyond l1 (0 : Int32) (15 : Int32)))], [.int (0 : Int32), .int (0 : Int32), .int (d_Mo_beyond l1 (0 : Int32) (15 : Int32)), .ref 198], (223, kc, ks, pd_H g v))) rfl ?_
      obtain ⟨q7, hq7, h⟩ := pd_bind h
      refine ev_callv pp_Mo_input rfl rfl rfl rfl (s_Mo_throwing hq7) ?_
      refine ev_gos pp_Mo_input 0 (S' := (30, [some (.ref 198), some (.int l1), some (.int l2), some (.int (d_Mo_beyond l1 (0 : Int32) (15 : Int32)))], [.int q7.1], (223, kc, ks, pd_H g q7.2))) rfl ?_
      refine ev_gos pp_Mo_input 1 (S' := (bif decide (q7.1 = 0) then 34 else 33, [some (.ref 198), some (.int l1), some (.int l2), some (.int (d_Mo_beyond l1 (0 : Int32) (15 : Int32)))], [], (223, kc, ks, pd_H g q7.2))) rfl ?_
      rcases pd_cases h with ⟨hb8, h⟩ | ⟨hb8, h⟩
      · rw [hb8]
        refine ev_gos pp_Mo_input 4 (S' := (40, [some (.ref 198), some (.int l1), some (.int l2), some (.int (d_Mo_beyond l1 (0 : Int32) (15 : Int32)))], [.int l2, .int l1, .ref 203], (223, kc, ks, pd_H g q7.2))) rfl ?_
        obtain ⟨hc9, h⟩ := pd_chk h
        refine ev_iast pp_Mo_input rfl (fun _ => rfl) hc9 ?_
        refine ev_gos pp_Mo_input 0 (S' := (41, [some (.ref 198), some (.int l1), some (.int l2), some (.int (d_Mo_beyond l1 (0 : Int32) (15 : Int32)))], [], (223, kc, ks, pd_H g (pd_w q7.2 203 l1.toNatClampNeg l2)))) rfl ?_
        cases h
        exact ev_fin pp_Mo_input rfl
      · rw [hb8]
        refine ev_gos pp_Mo_input 0 (S' := (33, [some (.ref 198), some (.int l1), some (.int l2), some (.int (d_Mo_beyond l1 (0 : Int32) (15 : Int32)))], [], (223, kc, ks, pd_H g q7.2))) rfl ?_
        cases h
        exact ev_fin pp_Mo_input rfl
    · rw [hb6]
      refine ev_gos pp_Mo_input 3 (S' := (27, [some (.ref 198), some (.int l1), some (.int l2), some (.int (d_Mo_beyond l1 (0 : Int32) (15 : Int32)))], [.int (0 : Int32), .int (1 : Int32), .int (d_Mo_beyond l1 (0 : Int32) (15 : Int32)), .ref 198], (223, kc, ks, pd_H g v))) rfl ?_
      obtain ⟨q10, hq10, h⟩ := pd_bind h
      refine ev_callv pp_Mo_input rfl rfl rfl rfl (s_Mo_throwing hq10) ?_
      refine ev_gos pp_Mo_input 0 (S' := (30, [some (.ref 198), some (.int l1), some (.int l2), some (.int (d_Mo_beyond l1 (0 : Int32) (15 : Int32)))], [.int q10.1], (223, kc, ks, pd_H g q10.2))) rfl ?_
      refine ev_gos pp_Mo_input 1 (S' := (bif decide (q10.1 = 0) then 34 else 33, [some (.ref 198), some (.int l1), some (.int l2), some (.int (d_Mo_beyond l1 (0 : Int32) (15 : Int32)))], [], (223, kc, ks, pd_H g q10.2))) rfl ?_
      rcases pd_cases h with ⟨hb11, h⟩ | ⟨hb11, h⟩
      · rw [hb11]
        refine ev_gos pp_Mo_input 4 (S' := (40, [some (.ref 198), some (.int l1), some (.int l2), some (.int (d_Mo_beyond l1 (0 : Int32) (15 : Int32)))], [.int l2, .int l1, .ref 203], (223, kc, ks, pd_H g q10.2))) rfl ?_
        obtain ⟨hc12, h⟩ := pd_chk h
        refine ev_iast pp_Mo_input rfl (fun _ => rfl) hc12 ?_
        refine ev_gos pp_Mo_input 0 (S' := (41, [some (.ref 198), some (.int l1), some (.int l2), some (.int (d_Mo_beyond l1 (0 : Int32) (15 : Int32)))], [], (223, kc, ks, pd_H g (pd_w q10.2 203 l1.toNatClampNeg l2)))) rfl ?_
        cases h
        exact ev_fin pp_Mo_input rfl
      · rw [hb11]
        refine ev_gos pp_Mo_input 0 (S' := (33, [some (.ref 198), some (.int l1), some (.int l2), some (.int (d_Mo_beyond l1 (0 : Int32) (15 : Int32)))], [], (223, kc, ks, pd_H g q10.2))) rfl ?_
        cases h
        exact ev_fin pp_Mo_input rfl
theorem pp_Mo_lanes {xs : Nat → Int32} {L : Nat} : (pj_P xs L 120).1 = fun S => pm_look tb_Mo_lanes S.1 S := rfl
def d_Mo_lanes (l1 : Int32) (v : pd_V) : Option pd_V :=
  bif !(decide ((d_Mo_beyond l1 (1 : Int32) (8 : Int32)) = 0)) then
    (d_Mo_throwing (d_Mo_beyond l1 (1 : Int32) (8 : Int32)) (0 : Int32) (0 : Int32) v).bind fun q3 =>
    bif decide (q3.1 = 0) then
      some (pd_w q3.2 198 12 l1)
    else
      some q3.2
  else
    bif decide ((v 198 26) = 0) then
      (d_Mo_throwing (d_Mo_beyond l1 (1 : Int32) (8 : Int32)) (0 : Int32) (0 : Int32) v).bind fun q6 =>
      bif decide (q6.1 = 0) then
        some (pd_w q6.2 198 12 l1)
      else
        some q6.2
    else
      (d_Mo_throwing (d_Mo_beyond l1 (1 : Int32) (8 : Int32)) (1 : Int32) (0 : Int32) v).bind fun q8 =>
      bif decide (q8.1 = 0) then
        some (pd_w q8.2 198 12 l1)
      else
        some q8.2
theorem s_Mo_lanes {l1 : Int32} {v : pd_V} {q : pd_V}  (h : d_Mo_lanes l1 v = some q) : pm_ev (pj_P xs L) (d + 1) 120 (0, [some (.ref 198), some (.int l1), none], [], (223, kc, ks, pd_H g v)) (.inl none, (223, kc, ks, pd_H g q)) := by
  unfold d_Mo_lanes at h
  refine ev_gos pp_Mo_lanes 3 (S' := (4, [some (.ref 198), some (.int l1), none], [.int (8 : Int32), .int (1 : Int32), .int l1], (223, kc, ks, pd_H g v))) rfl ?_
  refine ev_call pp_Mo_lanes rfl rfl rfl (s_Mo_beyond) ?_
  refine ev_gos pp_Mo_lanes 4 (S' := (11, [some (.ref 198), some (.int l1), some (.int (d_Mo_beyond l1 (1 : Int32) (8 : Int32)))], [.int (d_Mo_beyond l1 (1 : Int32) (8 : Int32)), .int (d_Mo_beyond l1 (1 : Int32) (8 : Int32)), .ref 198], (223, kc, ks, pd_H g v))) rfl ?_
  refine ev_gos pp_Mo_lanes 1 (S' := (bif !(decide ((d_Mo_beyond l1 (1 : Int32) (8 : Int32)) = 0)) then 25 else 14, [some (.ref 198), some (.int l1), some (.int (d_Mo_beyond l1 (1 : Int32) (8 : Int32)))], [.int (d_Mo_beyond l1 (1 : Int32) (8 : Int32)), .ref 198], (223, kc, ks, pd_H g v))) rfl ?_
  rcases pd_cases h with ⟨hb2, h⟩ | ⟨hb2, h⟩
  · rw [hb2]
    refine ev_gos pp_Mo_lanes 2 (S' := (27, [some (.ref 198), some (.int l1), some (.int (d_Mo_beyond l1 (1 : Int32) (8 : Int32)))], [.int (0 : Int32), .int (0 : Int32), .int (d_Mo_beyond l1 (1 : Int32) (8 : Int32)), .ref 198], (223, kc, ks, pd_H g v))) rfl ?_
    obtain ⟨q3, hq3, h⟩ := pd_bind h
    refine ev_callv pp_Mo_lanes rfl rfl rfl rfl (s_Mo_throwing hq3) ?_
    refine ev_gos pp_Mo_lanes 0 (S' := (30, [some (.ref 198), some (.int l1), some (.int (d_Mo_beyond l1 (1 : Int32) (8 : Int32)))], [.int q3.1], (223, kc, ks, pd_H g q3.2))) rfl ?_
    refine ev_gos pp_Mo_lanes 1 (S' := (bif decide (q3.1 = 0) then 34 else 33, [some (.ref 198), some (.int l1), some (.int (d_Mo_beyond l1 (1 : Int32) (8 : Int32)))], [], (223, kc, ks, pd_H g q3.2))) rfl ?_
    rcases pd_cases h with ⟨hb4, h⟩ | ⟨hb4, h⟩
    · rw [hb4]
      refine ev_gos pp_Mo_lanes 2 (S' := (36, [some (.ref 198), some (.int l1), some (.int (d_Mo_beyond l1 (1 : Int32) (8 : Int32)))], [.int l1, .ref 198], (223, kc, ks, pd_H g q3.2))) rfl ?_
      refine ev_put pp_Mo_lanes rfl (fun _ => rfl) rfl rfl rfl ?_
      refine ev_gos pp_Mo_lanes 0 (S' := (39, [some (.ref 198), some (.int l1), some (.int (d_Mo_beyond l1 (1 : Int32) (8 : Int32)))], [], (223, kc, ks, pd_H g (pd_w q3.2 198 12 l1)))) rfl ?_
      cases h
      exact ev_fin pp_Mo_lanes rfl
    · rw [hb4]
      refine ev_gos pp_Mo_lanes 0 (S' := (33, [some (.ref 198), some (.int l1), some (.int (d_Mo_beyond l1 (1 : Int32) (8 : Int32)))], [], (223, kc, ks, pd_H g q3.2))) rfl ?_
      cases h
      exact ev_fin pp_Mo_lanes rfl
  · rw [hb2]
    refine ev_gos pp_Mo_lanes 2 (S' := (18, [some (.ref 198), some (.int l1), some (.int (d_Mo_beyond l1 (1 : Int32) (8 : Int32)))], [.int (v 198 26), .int (d_Mo_beyond l1 (1 : Int32) (8 : Int32)), .ref 198], (223, kc, ks, pd_H g v))) rfl ?_
    refine ev_gos pp_Mo_lanes 1 (S' := (bif decide ((v 198 26) = 0) then 25 else 21, [some (.ref 198), some (.int l1), some (.int (d_Mo_beyond l1 (1 : Int32) (8 : Int32)))], [.int (d_Mo_beyond l1 (1 : Int32) (8 : Int32)), .ref 198], (223, kc, ks, pd_H g v))) rfl ?_
    rcases pd_cases h with ⟨hb5, h⟩ | ⟨hb5, h⟩
    · rw [hb5]
      refine ev_gos pp_Mo_lanes 2 (S' := (27, [some (.ref 198), some (.int l1), some (.int (d_Mo_beyond l1 (1 : Int32) (8 : Int32)))], [.int (0 : Int32), .int (0 : Int32), .int (d_Mo_beyond l1 (1 : Int32) (8 : Int32)), .ref 198], (223, kc, ks, pd_H g v))) rfl ?_
      obtain ⟨q6, hq6, h⟩ := pd_bind h
      refine ev_callv pp_Mo_lanes rfl rfl rfl rfl (s_Mo_throwing hq6) ?_
      refine ev_gos pp_Mo_lanes 0 (S' := (30, [some (.ref 198), some (.int l1), some (.int (d_Mo_beyond l1 (1 : Int32) (8 : Int32)))], [.int q6.1], (223, kc, ks, pd_H g q6.2))) rfl ?_
      refine ev_gos pp_Mo_lanes 1 (S' := (bif decide (q6.1 = 0) then 34 else 33, [some (.ref 198), some (.int l1), some (.int (d_Mo_beyond l1 (1 : Int32) (8 : Int32)))], [], (223, kc, ks, pd_H g q6.2))) rfl ?_
      rcases pd_cases h with ⟨hb7, h⟩ | ⟨hb7, h⟩
      · rw [hb7]
        refine ev_gos pp_Mo_lanes 2 (S' := (36, [some (.ref 198), some (.int l1), some (.int (d_Mo_beyond l1 (1 : Int32) (8 : Int32)))], [.int l1, .ref 198], (223, kc, ks, pd_H g q6.2))) rfl ?_
        refine ev_put pp_Mo_lanes rfl (fun _ => rfl) rfl rfl rfl ?_
        refine ev_gos pp_Mo_lanes 0 (S' := (39, [some (.ref 198), some (.int l1), some (.int (d_Mo_beyond l1 (1 : Int32) (8 : Int32)))], [], (223, kc, ks, pd_H g (pd_w q6.2 198 12 l1)))) rfl ?_
        cases h
        exact ev_fin pp_Mo_lanes rfl
      · rw [hb7]
        refine ev_gos pp_Mo_lanes 0 (S' := (33, [some (.ref 198), some (.int l1), some (.int (d_Mo_beyond l1 (1 : Int32) (8 : Int32)))], [], (223, kc, ks, pd_H g q6.2))) rfl ?_
        cases h
        exact ev_fin pp_Mo_lanes rfl
    · rw [hb5]
      refine ev_gos pp_Mo_lanes 3 (S' := (27, [some (.ref 198), some (.int l1), some (.int (d_Mo_beyond l1 (1 : Int32) (8 : Int32)))], [.int (0 : Int32), .int (1 : Int32), .int (d_Mo_beyond l1 (1 : Int32) (8 : Int32)), .ref 198], (223, kc, ks, pd_H g v))) rfl ?_
      obtain ⟨q8, hq8, h⟩ := pd_bind h
      refine ev_callv pp_Mo_lanes rfl rfl rfl rfl (s_Mo_throwing hq8) ?_
      refine ev_gos pp_Mo_lanes 0 (S' := (30, [some (.ref 198), some (.int l1), some (.int (d_Mo_beyond l1 (1 : Int32) (8 : Int32)))], [.int q8.1], (223, kc, ks, pd_H g q8.2))) rfl ?_
      refine ev_gos pp_Mo_lanes 1 (S' := (bif decide (q8.1 = 0) then 34 else 33, [some (.ref 198), some (.int l1), some (.int (d_Mo_beyond l1 (1 : Int32) (8 : Int32)))], [], (223, kc, ks, pd_H g q8.2))) rfl ?_
      rcases pd_cases h with ⟨hb9, h⟩ | ⟨hb9, h⟩
      · rw [hb9]
        refine ev_gos pp_Mo_lanes 2 (S' := (36, [some (.ref 198), some (.int l1), some (.int (d_Mo_beyond l1 (1 : Int32) (8 : Int32)))], [.int l1, .ref 198], (223, kc, ks, pd_H g q8.2))) rfl ?_
        refine ev_put pp_Mo_lanes rfl (fun _ => rfl) rfl rfl rfl ?_
        refine ev_gos pp_Mo_lanes 0 (S' := (39, [some (.ref 198), some (.int l1), some (.int (d_Mo_beyond l1 (1 : Int32) (8 : Int32)))], [], (223, kc, ks, pd_H g (pd_w q8.2 198 12 l1)))) rfl ?_
        cases h
        exact ev_fin pp_Mo_lanes rfl
      · rw [hb9]
        refine ev_gos pp_Mo_lanes 0 (S' := (33, [some (.ref 198), some (.int l1), some (.int (d_Mo_beyond l1 (1 : Int32) (8 : Int32)))], [], (223, kc, ks, pd_H g q8.2))) rfl ?_
        cases h
        exact ev_fin pp_Mo_lanes rfl
theorem pp_Mo_begin {xs : Nat → Int32} {L : Nat} : (pj_P xs L 123).1 = fun S => pm_look tb_Mo_begin S.1 S := rfl
def d_Mo_begin_13 (K : Int32 → Int32 → Int32 → pd_V → Option pd_V) (w : Nat) (f : Nat) (l1 : Int32) (l2 : Int32) (l3 : Int32) (l4 : Int32) (v : pd_V) : Option pd_V := match f with
  | 0 => none
  | f + 1 =>
    bif decide ((8 : Int32) ≤ l4) then
      K l1 l2 l3 v
    else
      bif pm_in (((8 : Int32) * l3) + l4) 128 then
      bif pm_in (((8 : Int32) * l3) + l4) 128 then
      d_Mo_begin_13 K w f l1 l2 l3 (l4 + (1 : Int32)) (pd_w (pd_w v 204 ((((8 : Int32) * l3) + l4).toNatClampNeg) (0 : Int32)) 205 ((((8 : Int32) * l3) + l4).toNatClampNeg) (0 : Int32))
      else none
      else none
theorem s_Mo_begin_13 {w : Nat} {K : Int32 → Int32 → Int32 → pd_V → Option pd_V} (hK : ∀ (l1 : Int32) (l2 : Int32) (l3 : Int32) (v : pd_V) (y4 : Int32) (q : pd_V) , K l1 l2 l3 v = some q → pm_ev (pj_P xs L) d 123 (52, [some (.ref 198), some (.int l1), some (.int l2), some (.int l3), some (.int y4)], [], (223, kc, ks, pd_H g v)) (.inl none, (223, kc, ks, pd_H g q))) : ∀ (f : Nat) (l1 : Int32) (l2 : Int32) (l3 : Int32) (l4 : Int32) (v : pd_V)  (q : pd_V) , d_Mo_begin_13 K w f l1 l2 l3 l4 v = some q → pm_ev (pj_P xs L) d 123 (13, [some (.ref 198), some (.int l1), some (.int l2), some (.int l3), some (.int l4)], [], (223, kc, ks, pd_H g v)) (.inl none, (223, kc, ks, pd_H g q)) := by
  intro f
  induction f with
  | zero => intro l1 l2 l3 l4 v q h; exact nomatch (show (none : Option pd_V) = some q from h)
  | succ f ih =>
    intro l1 l2 l3 l4 v q h
    rw [d_Mo_begin_13] at h
    refine ev_gos pp_Mo_begin 2 (S' := (17, [some (.ref 198), some (.int l1), some (.int l2), some (.int l3), some (.int l4)], [.int (8 : Int32), .int l4], (223, kc, ks, pd_H g v))) rfl ?_
    refine ev_gos pp_Mo_begin 1 (S' := (bif decide ((8 : Int32) ≤ l4) then 52 else 20, [some (.ref 198), some (.int l1), some (.int l2), some (.int l3), some (.int l4)], [], (223, kc, ks, pd_H g v))) rfl ?_
    rcases pd_cases h with ⟨hb1, h⟩ | ⟨hb1, h⟩
    · rw [hb1]
      refine ev_gos pp_Mo_begin 0 (S' := (52, [some (.ref 198), some (.int l1), some (.int l2), some (.int l3), some (.int l4)], [], (223, kc, ks, pd_H g v))) rfl ?_
      exact hK _ _ _ _ _ _  h
    · rw [hb1]
      refine ev_gos pp_Mo_begin 8 (S' := (32, [some (.ref 198), some (.int l1), some (.int l2), some (.int l3), some (.int l4)], [.int (0 : Int32), .int (((8 : Int32) * l3) + l4), .ref 204], (223, kc, ks, pd_H g v))) rfl ?_
      obtain ⟨hc2, h⟩ := pd_chk h
      refine ev_iast pp_Mo_begin rfl (fun _ => rfl) hc2 ?_
      refine ev_gos pp_Mo_begin 8 (S' := (45, [some (.ref 198), some (.int l1), some (.int l2), some (.int l3), some (.int l4)], [.int (0 : Int32), .int (((8 : Int32) * l3) + l4), .ref 205], (223, kc, ks, pd_H g (pd_w v 204 ((((8 : Int32) * l3) + l4).toNatClampNeg) (0 : Int32))))) rfl ?_
      obtain ⟨hc3, h⟩ := pd_chk h
      refine ev_iast pp_Mo_begin rfl (fun _ => rfl) hc3 ?_
      refine ev_gos pp_Mo_begin 2 (S' := (13, [some (.ref 198), some (.int l1), some (.int l2), some (.int l3), some (.int (l4 + (1 : Int32)))], [], (223, kc, ks, pd_H g (pd_w (pd_w v 204 ((((8 : Int32) * l3) + l4).toNatClampNeg) (0 : Int32)) 205 ((((8 : Int32) * l3) + l4).toNatClampNeg) (0 : Int32))))) rfl ?_
      exact ih _ _ _ _ _ _  h
def d_Mo_begin_2 (w : Nat) (f : Nat) (l1 : Int32) (l2 : Int32) (l3 : Int32) (v : pd_V) : Option pd_V := match f with
  | 0 => none
  | f + 1 =>
    bif decide ((l1 + (8 : Int32)) ≤ l3) then
      some v
    else
      d_Mo_begin_13 (fun l1_1 l2_1 l3_1 v_1 =>
        bif pm_in l3_1 16 then
        bif pm_in l3_1 16 then
        bif decide (l3_1 < (l1_1 + l2_1)) then
          bif pm_in l3_1 16 then
          d_Mo_begin_2 w f l1_1 l2_1 (l3_1 + (1 : Int32)) (pd_w (pd_w (pd_w v_1 207 l3_1.toNatClampNeg (0 : Int32)) 208 l3_1.toNatClampNeg (0 : Int32)) 209 l3_1.toNatClampNeg (0 : Int32))
          else none
        else
          bif pm_in l3_1 16 then
          d_Mo_begin_2 w f l1_1 l2_1 (l3_1 + (1 : Int32)) (pd_w (pd_w (pd_w v_1 207 l3_1.toNatClampNeg (0 : Int32)) 208 l3_1.toNatClampNeg (0 : Int32)) 209 l3_1.toNatClampNeg (1 : Int32))
          else none
        else none
        else none) w w l1 l2 l3 (0 : Int32) v
theorem s_Mo_begin_2 {w : Nat} : ∀ (f : Nat) (l1 : Int32) (l2 : Int32) (l3 : Int32) (v : pd_V) (y4 : Option Value) (q : pd_V) , d_Mo_begin_2 w f l1 l2 l3 v = some q → pm_ev (pj_P xs L) d 123 (2, [some (.ref 198), some (.int l1), some (.int l2), some (.int l3), y4], [], (223, kc, ks, pd_H g v)) (.inl none, (223, kc, ks, pd_H g q)) := by
  intro f
  induction f with
  | zero => intro l1 l2 l3 v y4 q h; exact nomatch (show (none : Option pd_V) = some q from h)
  | succ f ih =>
    intro l1 l2 l3 v y4 q h
    rw [d_Mo_begin_2] at h
    refine ev_gos pp_Mo_begin 4 (S' := (7, [some (.ref 198), some (.int l1), some (.int l2), some (.int l3), y4], [.int (l1 + (8 : Int32)), .int l3], (223, kc, ks, pd_H g v))) rfl ?_
    refine ev_gos pp_Mo_begin 1 (S' := (bif decide ((l1 + (8 : Int32)) ≤ l3) then 90 else 10, [some (.ref 198), some (.int l1), some (.int l2), some (.int l3), y4], [], (223, kc, ks, pd_H g v))) rfl ?_
    rcases pd_cases h with ⟨hb1, h⟩ | ⟨hb1, h⟩
    · rw [hb1]
      refine ev_gos pp_Mo_begin 0 (S' := (90, [some (.ref 198), some (.int l1), some (.int l2), some (.int l3), y4], [], (223, kc, ks, pd_H g v))) rfl ?_
      cases h
      exact ev_fin pp_Mo_begin rfl
    · rw [hb1]
      refine ev_gos pp_Mo_begin 2 (S' := (13, [some (.ref 198), some (.int l1), some (.int l2), some (.int l3), some (.int (0 : Int32))], [], (223, kc, ks, pd_H g v))) rfl ?_
      refine s_Mo_begin_13 (fun l1_1 l2_1 l3_1 v_1 y4_1 q9  h => ?_) _ _ _ _ _ _ _  h
      refine ev_gos pp_Mo_begin 4 (S' := (58, [some (.ref 198), some (.int l1_1), some (.int l2_1), some (.int l3_1), some (.int y4_1)], [.int (0 : Int32), .int l3_1, .ref 207], (223, kc, ks, pd_H g v_1))) rfl ?_
      obtain ⟨hc2, h⟩ := pd_chk h
      refine ev_iast pp_Mo_begin rfl (fun _ => rfl) hc2 ?_
      refine ev_gos pp_Mo_begin 4 (S' := (65, [some (.ref 198), some (.int l1_1), some (.int l2_1), some (.int l3_1), some (.int y4_1)], [.int (0 : Int32), .int l3_1, .ref 208], (223, kc, ks, pd_H g (pd_w v_1 207 l3_1.toNatClampNeg (0 : Int32))))) rfl ?_
      obtain ⟨hc3, h⟩ := pd_chk h
      refine ev_iast pp_Mo_begin rfl (fun _ => rfl) hc3 ?_
      refine ev_gos pp_Mo_begin 7 (S' := (75, [some (.ref 198), some (.int l1_1), some (.int l2_1), some (.int l3_1), some (.int y4_1)], [.int (l1_1 + l2_1), .int l3_1, .int l3_1, .ref 209], (223, kc, ks, pd_H g (pd_w (pd_w v_1 207 l3_1.toNatClampNeg (0 : Int32)) 208 l3_1.toNatClampNeg (0 : Int32))))) rfl ?_
      refine ev_gos pp_Mo_begin 1 (S' := (bif decide (l3_1 < (l1_1 + l2_1)) then 82 else 78, [some (.ref 198), some (.int l1_1), some (.int l2_1), some (.int l3_1), some (.int y4_1)], [.int l3_1, .ref 209], (223, kc, ks, pd_H g (pd_w (pd_w v_1 207 l3_1.toNatClampNeg (0 : Int32)) 208 l3_1.toNatClampNeg (0 : Int32))))) rfl ?_
      rcases pd_cases h with ⟨hb4, h⟩ | ⟨hb4, h⟩
      · rw [hb4]
        refine ev_gos pp_Mo_begin 1 (S' := (83, [some (.ref 198), some (.int l1_1), some (.int l2_1), some (.int l3_1), some (.int y4_1)], [.int (0 : Int32), .int l3_1, .ref 209], (223, kc, ks, pd_H g (pd_w (pd_w v_1 207 l3_1.toNatClampNeg (0 : Int32)) 208 l3_1.toNatClampNeg (0 : Int32))))) rfl ?_
        obtain ⟨hc5, h⟩ := pd_chk h
        refine ev_zast pp_Mo_begin rfl (fun _ => rfl) hc5 pd_b0 ?_
        refine ev_gos pp_Mo_begin 2 (S' := (2, [some (.ref 198), some (.int l1_1), some (.int l2_1), some (.int (l3_1 + (1 : Int32))), some (.int y4_1)], [], (223, kc, ks, pd_H g (pd_w (pd_w (pd_w v_1 207 l3_1.toNatClampNeg (0 : Int32)) 208 l3_1.toNatClampNeg (0 : Int32)) 209 l3_1.toNatClampNeg (0 : Int32))))) rfl ?_
        exact ih _ _ _ _ _ _  h
      · rw [hb4]
        refine ev_gos pp_Mo_begin 2 (S' := (83, [some (.ref 198), some (.int l1_1), some (.int l2_1), some (.int l3_1), some (.int y4_1)], [.int (1 : Int32), .int l3_1, .ref 209], (223, kc, ks, pd_H g (pd_w (pd_w v_1 207 l3_1.toNatClampNeg (0 : Int32)) 208 l3_1.toNatClampNeg (0 : Int32))))) rfl ?_
        obtain ⟨hc6, h⟩ := pd_chk h
        refine ev_zast pp_Mo_begin rfl (fun _ => rfl) hc6 pd_b1 ?_
        refine ev_gos pp_Mo_begin 2 (S' := (2, [some (.ref 198), some (.int l1_1), some (.int l2_1), some (.int (l3_1 + (1 : Int32))), some (.int y4_1)], [], (223, kc, ks, pd_H g (pd_w (pd_w (pd_w v_1 207 l3_1.toNatClampNeg (0 : Int32)) 208 l3_1.toNatClampNeg (0 : Int32)) 209 l3_1.toNatClampNeg (1 : Int32))))) rfl ?_
        exact ih _ _ _ _ _ _  h
def d_Mo_begin (w : Nat) (l1 : Int32) (l2 : Int32) (v : pd_V) : Option pd_V :=
  d_Mo_begin_2 w w l1 l2 l1 v
theorem s_Mo_begin {w : Nat} {l1 : Int32} {l2 : Int32} {v : pd_V} {q : pd_V}  (h : d_Mo_begin w l1 l2 v = some q) : pm_ev (pj_P xs L) d 123 (0, [some (.ref 198), some (.int l1), some (.int l2), none, none], [], (223, kc, ks, pd_H g v)) (.inl none, (223, kc, ks, pd_H g q)) := by
  unfold d_Mo_begin at h
  refine ev_gos pp_Mo_begin 2 (S' := (2, [some (.ref 198), some (.int l1), some (.int l2), some (.int l1), none], [], (223, kc, ks, pd_H g v))) rfl ?_
  exact s_Mo_begin_2 _ _ _ _ _ _ _  h
theorem pp_Mo_going {xs : Nat → Int32} {L : Nat} : (pj_P xs L 125).1 = fun S => pm_look tb_Mo_going S.1 S := rfl
def d_Mo_going_4 (w : Nat) (f : Nat) (l1 : Int32) (l2 : Int32) (l3 : Int32) (v : pd_V) : Option Int32 := match f with
  | 0 => none
  | f + 1 =>
    bif decide ((8 : Int32) ≤ l3) then
      some l2
    else
      bif !(decide (((l1 >>> (l3 &&& 31)) &&& (1 : Int32)) = (1 : Int32))) then
        d_Mo_going_4 w f l1 l2 (l3 + (1 : Int32)) v
      else
        bif pm_in l3 16 then
        bif !(decide ((v 209 l3.toNatClampNeg) = 0)) then
          d_Mo_going_4 w f l1 l2 (l3 + (1 : Int32)) v
        else
          d_Mo_going_4 w f l1 (l2 ||| ((1 : Int32) <<< (l3 &&& 31))) (l3 + (1 : Int32)) v
        else none
theorem s_Mo_going_4 {w : Nat} : ∀ (f : Nat) (l1 : Int32) (l2 : Int32) (l3 : Int32) (v : pd_V)  (q : Int32) , d_Mo_going_4 w f l1 l2 l3 v = some q → pm_ev (pj_P xs L) d 125 (4, [some (.ref 198), some (.int l1), some (.int l2), some (.int l3)], [], (223, kc, ks, pd_H g v)) (.inl (some (.int q)), (223, kc, ks, pd_H g v)) := by
  intro f
  induction f with
  | zero => intro l1 l2 l3 v q h; exact nomatch (show (none : Option Int32) = some q from h)
  | succ f ih =>
    intro l1 l2 l3 v q h
    rw [d_Mo_going_4] at h
    refine ev_gos pp_Mo_going 2 (S' := (7, [some (.ref 198), some (.int l1), some (.int l2), some (.int l3)], [.int (8 : Int32), .int l3], (223, kc, ks, pd_H g v))) rfl ?_
    refine ev_gos pp_Mo_going 1 (S' := (bif decide ((8 : Int32) ≤ l3) then 44 else 10, [some (.ref 198), some (.int l1), some (.int l2), some (.int l3)], [], (223, kc, ks, pd_H g v))) rfl ?_
    rcases pd_cases h with ⟨hb1, h⟩ | ⟨hb1, h⟩
    · rw [hb1]
      refine ev_gos pp_Mo_going 1 (S' := (45, [some (.ref 198), some (.int l1), some (.int l2), some (.int l3)], [.int l2], (223, kc, ks, pd_H g v))) rfl ?_
      cases h
      exact ev_fin pp_Mo_going rfl
    · rw [hb1]
      refine ev_gos pp_Mo_going 6 (S' := (16, [some (.ref 198), some (.int l1), some (.int l2), some (.int l3)], [.int (1 : Int32), .int ((l1 >>> (l3 &&& 31)) &&& (1 : Int32))], (223, kc, ks, pd_H g v))) rfl ?_
      refine ev_gos pp_Mo_going 1 (S' := (bif !(decide (((l1 >>> (l3 &&& 31)) &&& (1 : Int32)) = (1 : Int32))) then 36 else 19, [some (.ref 198), some (.int l1), some (.int l2), some (.int l3)], [], (223, kc, ks, pd_H g v))) rfl ?_
      rcases pd_cases h with ⟨hb2, h⟩ | ⟨hb2, h⟩
      · rw [hb2]
        refine ev_gos pp_Mo_going 4 (S' := (4, [some (.ref 198), some (.int l1), some (.int l2), some (.int (l3 + (1 : Int32)))], [], (223, kc, ks, pd_H g v))) rfl ?_
        exact ih _ _ _ _ _  h
      · rw [hb2]
        refine ev_gos pp_Mo_going 3 (S' := (24, [some (.ref 198), some (.int l1), some (.int l2), some (.int l3)], [.int l3, .ref 209], (223, kc, ks, pd_H g v))) rfl ?_
        obtain ⟨hc3, h⟩ := pd_chk h
        refine ev_zald pp_Mo_going rfl (fun _ => rfl) hc3 ?_
        refine ev_gos pp_Mo_going 0 (S' := (25, [some (.ref 198), some (.int l1), some (.int l2), some (.int l3)], [.int (v 209 l3.toNatClampNeg)], (223, kc, ks, pd_H g v))) rfl ?_
        refine ev_gos pp_Mo_going 1 (S' := (bif !(decide ((v 209 l3.toNatClampNeg) = 0)) then 36 else 28, [some (.ref 198), some (.int l1), some (.int l2), some (.int l3)], [], (223, kc, ks, pd_H g v))) rfl ?_
        rcases pd_cases h with ⟨hb4, h⟩ | ⟨hb4, h⟩
        · rw [hb4]
          refine ev_gos pp_Mo_going 4 (S' := (4, [some (.ref 198), some (.int l1), some (.int l2), some (.int (l3 + (1 : Int32)))], [], (223, kc, ks, pd_H g v))) rfl ?_
          exact ih _ _ _ _ _  h
        · rw [hb4]
          refine ev_gos pp_Mo_going 9 (S' := (4, [some (.ref 198), some (.int l1), some (.int (l2 ||| ((1 : Int32) <<< (l3 &&& 31)))), some (.int (l3 + (1 : Int32)))], [], (223, kc, ks, pd_H g v))) rfl ?_
          exact ih _ _ _ _ _  h
def d_Mo_going (w : Nat) (l1 : Int32) (v : pd_V) : Option Int32 :=
  d_Mo_going_4 w w l1 (0 : Int32) (0 : Int32) v
theorem s_Mo_going {w : Nat} {l1 : Int32} {v : pd_V} {q : Int32}  (h : d_Mo_going w l1 v = some q) : pm_ev (pj_P xs L) d 125 (0, [some (.ref 198), some (.int l1), none, none], [], (223, kc, ks, pd_H g v)) (.inl (some (.int q)), (223, kc, ks, pd_H g v)) := by
  unfold d_Mo_going at h
  refine ev_gos pp_Mo_going 4 (S' := (4, [some (.ref 198), some (.int l1), some (.int (0 : Int32)), some (.int (0 : Int32))], [], (223, kc, ks, pd_H g v))) rfl ?_
  exact s_Mo_going_4 _ _ _ _ _ _  h
theorem pp_Mo_goOut {xs : Nat → Int32} {L : Nat} : (pj_P xs L 127).1 = fun S => pm_look tb_Mo_goOut S.1 S := rfl
def d_Mo_goOut (l1 : Int32) (v : pd_V) : Option (Int32 × pd_V) :=
  bif pm_in ((v 198 35) - (1 : Int32)) 5 then
  some (l1, (pd_w (pd_w v 198 35 ((v 198 35) - (1 : Int32))) 198 36 (v 217 (((v 198 35) - (1 : Int32)).toNatClampNeg))))
  else none
theorem s_Mo_goOut {l1 : Int32} {v : pd_V} {q : (Int32 × pd_V)}  (h : d_Mo_goOut l1 v = some q) : pm_ev (pj_P xs L) d 127 (0, [some (.ref 198), some (.int l1)], [], (223, kc, ks, pd_H g v)) (.inl (some (.int q.1)), (223, kc, ks, pd_H g q.2)) := by
  unfold d_Mo_goOut at h
  refine ev_gos pp_Mo_goOut 5 (S' := (7, [some (.ref 198), some (.int l1)], [.int ((v 198 35) - (1 : Int32)), .ref 198], (223, kc, ks, pd_H g v))) rfl ?_
  refine ev_put pp_Mo_goOut rfl (fun _ => rfl) rfl rfl rfl ?_
  refine ev_gos pp_Mo_goOut 5 (S' := (19, [some (.ref 198), some (.int l1)], [.int ((v 198 35) - (1 : Int32)), .ref 217, .ref 198], (223, kc, ks, pd_H g (pd_w v 198 35 ((v 198 35) - (1 : Int32)))))) rfl ?_
  obtain ⟨hc1, h⟩ := pd_chk h
  refine ev_iald pp_Mo_goOut rfl (fun _ => rfl) hc1 ?_
  refine ev_gos pp_Mo_goOut 0 (S' := (20, [some (.ref 198), some (.int l1)], [.int (v 217 (((v 198 35) - (1 : Int32)).toNatClampNeg)), .ref 198], (223, kc, ks, pd_H g (pd_w v 198 35 ((v 198 35) - (1 : Int32)))))) rfl ?_
  refine ev_put pp_Mo_goOut rfl (fun _ => rfl) rfl rfl rfl ?_
  refine ev_gos pp_Mo_goOut 1 (S' := (24, [some (.ref 198), some (.int l1)], [.int l1], (223, kc, ks, pd_H g (pd_w (pd_w v 198 35 ((v 198 35) - (1 : Int32))) 198 36 (v 217 (((v 198 35) - (1 : Int32)).toNatClampNeg)))))) rfl ?_
  cases h
  exact ev_fin pp_Mo_goOut rfl
theorem pp_Mo_issues {xs : Nat → Int32} {L : Nat} : (pj_P xs L 128).1 = fun S => pm_look tb_Mo_issues S.1 S := rfl
def d_Mo_issues_35 (w : Nat) (f : Nat) (l1 : Int32) (l2 : Int32) (v : pd_V) : Option (Int32 × pd_V) := match f with
  | 0 => none
  | f + 1 =>
    bif decide ((8 : Int32) ≤ l2) then
      some ((1 : Int32), v)
    else
      d_Mo_issues_35 w f l1 (l2 + (1 : Int32)) (pd_w v 198 24 ((v 198 24) + ((l1 >>> (l2 &&& 31)) &&& (1 : Int32))))
theorem s_Mo_issues_35 {w : Nat} : ∀ (f : Nat) (l1 : Int32) (l2 : Int32) (v : pd_V)  (q : (Int32 × pd_V)) , d_Mo_issues_35 w f l1 l2 v = some q → pm_ev (pj_P xs L) d 128 (35, [some (.ref 198), some (.int l1), some (.int l2)], [], (223, kc, ks, pd_H g v)) (.inl (some (.int q.1)), (223, kc, ks, pd_H g q.2)) := by
  intro f
  induction f with
  | zero => intro l1 l2 v q h; exact nomatch (show (none : Option (Int32 × pd_V)) = some q from h)
  | succ f ih =>
    intro l1 l2 v q h
    rw [d_Mo_issues_35] at h
    refine ev_gos pp_Mo_issues 2 (S' := (38, [some (.ref 198), some (.int l1), some (.int l2)], [.int (8 : Int32), .int l2], (223, kc, ks, pd_H g v))) rfl ?_
    refine ev_gos pp_Mo_issues 1 (S' := (bif decide ((8 : Int32) ≤ l2) then 61 else 41, [some (.ref 198), some (.int l1), some (.int l2)], [], (223, kc, ks, pd_H g v))) rfl ?_
    rcases pd_cases h with ⟨hb1, h⟩ | ⟨hb1, h⟩
    · rw [hb1]
      refine ev_gos pp_Mo_issues 1 (S' := (62, [some (.ref 198), some (.int l1), some (.int l2)], [.int (1 : Int32)], (223, kc, ks, pd_H g v))) rfl ?_
      cases h
      exact ev_zret pp_Mo_issues rfl pd_b1
    · rw [hb1]
      refine ev_gos pp_Mo_issues 9 (S' := (52, [some (.ref 198), some (.int l1), some (.int l2)], [.int ((v 198 24) + ((l1 >>> (l2 &&& 31)) &&& (1 : Int32))), .ref 198], (223, kc, ks, pd_H g v))) rfl ?_
      refine ev_put pp_Mo_issues rfl (fun _ => rfl) rfl rfl rfl ?_
      refine ev_gos pp_Mo_issues 2 (S' := (35, [some (.ref 198), some (.int l1), some (.int (l2 + (1 : Int32)))], [], (223, kc, ks, pd_H g (pd_w v 198 24 ((v 198 24) + ((l1 >>> (l2 &&& 31)) &&& (1 : Int32))))))) rfl ?_
      exact ih _ _ _ _  h
theorem s_Mo_issues_35z {w : Nat} : ∀ (f : Nat) (l1 : Int32) (l2 : Int32) (v : pd_V)  (q : (Int32 × pd_V)) , d_Mo_issues_35 w f l1 l2 v = some q → (q.1 == 0 || q.1 == 1) = true := by
  intro f
  induction f with
  | zero => intro l1 l2 v q h; exact nomatch (show (none : Option (Int32 × pd_V)) = some q from h)
  | succ f ih =>
    intro l1 l2 v q h
    rw [d_Mo_issues_35] at h
    rcases pd_cases h with ⟨hb1, h⟩ | ⟨hb1, h⟩
    · cases h
      exact pd_b1
    · exact ih _ _ _ _  h
def d_Mo_issues (w : Nat) (l1 : Int32) (v : pd_V) : Option (Int32 × pd_V) :=
  bif !(decide ((v 198 23) = (v 198 22))) then
    d_Mo_issues_35 w w l1 (0 : Int32) (pd_w v 198 23 ((v 198 23) + (1 : Int32)))
  else
    some ((0 : Int32), (pd_w (pd_w v 198 25 (1 : Int32)) 198 26 l1))
theorem s_Mo_issues {w : Nat} {l1 : Int32} {v : pd_V} {q : (Int32 × pd_V)}  (h : d_Mo_issues w l1 v = some q) : pm_ev (pj_P xs L) d 128 (0, [some (.ref 198), some (.int l1), none], [], (223, kc, ks, pd_H g v)) (.inl (some (.int q.1)), (223, kc, ks, pd_H g q.2)) := by
  unfold d_Mo_issues at h
  refine ev_gos pp_Mo_issues 4 (S' := (8, [some (.ref 198), some (.int l1), none], [.int (v 198 22), .int (v 198 23)], (223, kc, ks, pd_H g v))) rfl ?_
  refine ev_gos pp_Mo_issues 1 (S' := (bif !(decide ((v 198 23) = (v 198 22))) then 23 else 11, [some (.ref 198), some (.int l1), none], [], (223, kc, ks, pd_H g v))) rfl ?_
  rcases pd_cases h with ⟨hb1, h⟩ | ⟨hb1, h⟩
  · rw [hb1]
    refine ev_gos pp_Mo_issues 5 (S' := (30, [some (.ref 198), some (.int l1), none], [.int ((v 198 23) + (1 : Int32)), .ref 198], (223, kc, ks, pd_H g v))) rfl ?_
    refine ev_put pp_Mo_issues rfl (fun _ => rfl) rfl rfl rfl ?_
    refine ev_gos pp_Mo_issues 2 (S' := (35, [some (.ref 198), some (.int l1), some (.int (0 : Int32))], [], (223, kc, ks, pd_H g (pd_w v 198 23 ((v 198 23) + (1 : Int32)))))) rfl ?_
    exact s_Mo_issues_35 _ _ _ _ _  h
  · rw [hb1]
    refine ev_gos pp_Mo_issues 2 (S' := (13, [some (.ref 198), some (.int l1), none], [.int (1 : Int32), .ref 198], (223, kc, ks, pd_H g v))) rfl ?_
    refine ev_put pp_Mo_issues rfl (fun _ => rfl) rfl rfl (pd_fit pd_b1) ?_
    refine ev_gos pp_Mo_issues 2 (S' := (18, [some (.ref 198), some (.int l1), none], [.int l1, .ref 198], (223, kc, ks, pd_H g (pd_w v 198 25 (1 : Int32))))) rfl ?_
    refine ev_put pp_Mo_issues rfl (fun _ => rfl) rfl rfl rfl ?_
    refine ev_gos pp_Mo_issues 1 (S' := (22, [some (.ref 198), some (.int l1), none], [.int (0 : Int32)], (223, kc, ks, pd_H g (pd_w (pd_w v 198 25 (1 : Int32)) 198 26 l1)))) rfl ?_
    cases h
    exact ev_zret pp_Mo_issues rfl pd_b0
theorem z_Mo_issues {w : Nat} {l1 : Int32} {v : pd_V} {q : (Int32 × pd_V)}  (h : d_Mo_issues w l1 v = some q) : (q.1 == 0 || q.1 == 1) = true := by
  unfold d_Mo_issues at h
  rcases pd_cases h with ⟨hb1, h⟩ | ⟨hb1, h⟩
  · exact s_Mo_issues_35z _ _ _ _ _  h
  · cases h
    exact pd_b0
theorem pp_Mo_plain {xs : Nat → Int32} {L : Nat} : (pj_P xs L 132).1 = fun S => pm_look tb_Mo_plain S.1 S := rfl
def d_Mo_plain_23 (w : Nat) (f : Nat) (l3 : Int32) (v : pd_V) : Option (Int32 × pd_V) := match f with
  | 0 => none
  | f + 1 =>
    bif pm_in (v 198 6) 160 then
    bif !(decide ((d_Mo_beyond (v 200 ((v 198 6).toNatClampNeg)) (48 : Int32) (57 : Int32)) = 0)) then
      some (l3, v)
    else
      bif pm_in (v 198 6) 160 then
      d_Mo_plain_23 w f ((((10 : Int32) * l3) + (v 200 ((v 198 6).toNatClampNeg))) - (48 : Int32)) (pd_w v 198 6 ((v 198 6) + (1 : Int32)))
      else none
    else none
theorem s_Mo_plain_23 {w : Nat} : ∀ (f : Nat) (l3 : Int32) (v : pd_V) (y1 : Int32) (y2 : Int32) (q : (Int32 × pd_V)) , d_Mo_plain_23 w f l3 v = some q → pm_ev (pj_P xs L) (d + 1) 132 (23, [some (.ref 198), some (.int y1), some (.int y2), some (.int l3)], [], (223, kc, ks, pd_H g v)) (.inl (some (.int q.1)), (223, kc, ks, pd_H g q.2)) := by
  intro f
  induction f with
  | zero => intro l3 v y1 y2 q h; exact nomatch (show (none : Option (Int32 × pd_V)) = some q from h)
  | succ f ih =>
    intro l3 v y1 y2 q h
    rw [d_Mo_plain_23] at h
    refine ev_gos pp_Mo_plain 4 (S' := (31, [some (.ref 198), some (.int y1), some (.int y2), some (.int l3)], [.int (v 198 6), .ref 200], (223, kc, ks, pd_H g v))) rfl ?_
    obtain ⟨hc1, h⟩ := pd_chk h
    refine ev_iald pp_Mo_plain rfl (fun _ => rfl) hc1 ?_
    refine ev_gos pp_Mo_plain 2 (S' := (36, [some (.ref 198), some (.int y1), some (.int y2), some (.int l3)], [.int (57 : Int32), .int (48 : Int32), .int (v 200 ((v 198 6).toNatClampNeg))], (223, kc, ks, pd_H g v))) rfl ?_
    refine ev_call pp_Mo_plain rfl rfl rfl (s_Mo_beyond) ?_
    refine ev_gos pp_Mo_plain 0 (S' := (39, [some (.ref 198), some (.int y1), some (.int y2), some (.int l3)], [.int (d_Mo_beyond (v 200 ((v 198 6).toNatClampNeg)) (48 : Int32) (57 : Int32))], (223, kc, ks, pd_H g v))) rfl ?_
    refine ev_gos pp_Mo_plain 1 (S' := (bif !(decide ((d_Mo_beyond (v 200 ((v 198 6).toNatClampNeg)) (48 : Int32) (57 : Int32)) = 0)) then 73 else 42, [some (.ref 198), some (.int y1), some (.int y2), some (.int l3)], [], (223, kc, ks, pd_H g v))) rfl ?_
    rcases pd_cases h with ⟨hb3, h⟩ | ⟨hb3, h⟩
    · rw [hb3]
      refine ev_gos pp_Mo_plain 1 (S' := (74, [some (.ref 198), some (.int y1), some (.int y2), some (.int l3)], [.int l3], (223, kc, ks, pd_H g v))) rfl ?_
      cases h
      exact ev_fin pp_Mo_plain rfl
    · rw [hb3]
      refine ev_gos pp_Mo_plain 7 (S' := (54, [some (.ref 198), some (.int y1), some (.int y2), some (.int l3)], [.int (v 198 6), .ref 200, .int ((10 : Int32) * l3)], (223, kc, ks, pd_H g v))) rfl ?_
      obtain ⟨hc4, h⟩ := pd_chk h
      refine ev_iald pp_Mo_plain rfl (fun _ => rfl) hc4 ?_
      refine ev_gos pp_Mo_plain 9 (S' := (67, [some (.ref 198), some (.int y1), some (.int y2), some (.int ((((10 : Int32) * l3) + (v 200 ((v 198 6).toNatClampNeg))) - (48 : Int32)))], [.int ((v 198 6) + (1 : Int32)), .ref 198], (223, kc, ks, pd_H g v))) rfl ?_
      refine ev_put pp_Mo_plain rfl (fun _ => rfl) rfl rfl rfl ?_
      refine ev_gos pp_Mo_plain 1 (S' := (23, [some (.ref 198), some (.int y1), some (.int y2), some (.int ((((10 : Int32) * l3) + (v 200 ((v 198 6).toNatClampNeg))) - (48 : Int32)))], [], (223, kc, ks, pd_H g (pd_w v 198 6 ((v 198 6) + (1 : Int32)))))) rfl ?_
      exact ih _ _ _ _ _  h
def d_Mo_plain (w : Nat) (l1 : Int32) (v : pd_V) : Option (Int32 × pd_V) :=
  bif pm_in (v 198 6) 160 then
  bif !(decide ((d_Mo_beyond (v 200 ((v 198 6).toNatClampNeg)) (48 : Int32) (57 : Int32)) = 0)) then
    bif !(decide ((v 200 ((v 198 6).toNatClampNeg)) = (110 : Int32))) then
      bif pm_in ((((8 : Int32) * l1) + (v 200 ((v 198 6).toNatClampNeg))) - (97 : Int32)) 128 then
      some ((v 204 (((((8 : Int32) * l1) + (v 200 ((v 198 6).toNatClampNeg))) - (97 : Int32)).toNatClampNeg)), (pd_w v 198 6 ((v 198 6) + (1 : Int32))))
      else none
    else
      bif !(decide ((8 : Int32) = 0)) then
      some ((l1 - l1 / (8 : Int32) * (8 : Int32)), (pd_w v 198 6 ((v 198 6) + (1 : Int32))))
      else none
  else
    d_Mo_plain_23 w w (0 : Int32) v
  else none
theorem s_Mo_plain {w : Nat} {l1 : Int32} {v : pd_V} {q : (Int32 × pd_V)}  (h : d_Mo_plain w l1 v = some q) : pm_ev (pj_P xs L) (d + 1) 132 (0, [some (.ref 198), some (.int l1), none, none], [], (223, kc, ks, pd_H g v)) (.inl (some (.int q.1)), (223, kc, ks, pd_H g q.2)) := by
  unfold d_Mo_plain at h
  refine ev_gos pp_Mo_plain 4 (S' := (8, [some (.ref 198), some (.int l1), none, none], [.int (v 198 6), .ref 200], (223, kc, ks, pd_H g v))) rfl ?_
  obtain ⟨hc1, h⟩ := pd_chk h
  refine ev_iald pp_Mo_plain rfl (fun _ => rfl) hc1 ?_
  refine ev_gos pp_Mo_plain 6 (S' := (17, [some (.ref 198), some (.int l1), some (.int (v 200 ((v 198 6).toNatClampNeg))), some (.int (0 : Int32))], [.int (57 : Int32), .int (48 : Int32), .int (v 200 ((v 198 6).toNatClampNeg))], (223, kc, ks, pd_H g v))) rfl ?_
  refine ev_call pp_Mo_plain rfl rfl rfl (s_Mo_beyond) ?_
  refine ev_gos pp_Mo_plain 0 (S' := (20, [some (.ref 198), some (.int l1), some (.int (v 200 ((v 198 6).toNatClampNeg))), some (.int (0 : Int32))], [.int (d_Mo_beyond (v 200 ((v 198 6).toNatClampNeg)) (48 : Int32) (57 : Int32))], (223, kc, ks, pd_H g v))) rfl ?_
  refine ev_gos pp_Mo_plain 1 (S' := (bif !(decide ((d_Mo_beyond (v 200 ((v 198 6).toNatClampNeg)) (48 : Int32) (57 : Int32)) = 0)) then 75 else 23, [some (.ref 198), some (.int l1), some (.int (v 200 ((v 198 6).toNatClampNeg))), some (.int (0 : Int32))], [], (223, kc, ks, pd_H g v))) rfl ?_
  rcases pd_cases h with ⟨hb3, h⟩ | ⟨hb3, h⟩
  · rw [hb3]
    refine ev_gos pp_Mo_plain 5 (S' := (82, [some (.ref 198), some (.int l1), some (.int (v 200 ((v 198 6).toNatClampNeg))), some (.int (0 : Int32))], [.int ((v 198 6) + (1 : Int32)), .ref 198], (223, kc, ks, pd_H g v))) rfl ?_
    refine ev_put pp_Mo_plain rfl (fun _ => rfl) rfl rfl rfl ?_
    refine ev_gos pp_Mo_plain 2 (S' := (88, [some (.ref 198), some (.int l1), some (.int (v 200 ((v 198 6).toNatClampNeg))), some (.int (0 : Int32))], [.int (110 : Int32), .int (v 200 ((v 198 6).toNatClampNeg))], (223, kc, ks, pd_H g (pd_w v 198 6 ((v 198 6) + (1 : Int32)))))) rfl ?_
    refine ev_gos pp_Mo_plain 1 (S' := (bif !(decide ((v 200 ((v 198 6).toNatClampNeg)) = (110 : Int32))) then 98 else 91, [some (.ref 198), some (.int l1), some (.int (v 200 ((v 198 6).toNatClampNeg))), some (.int (0 : Int32))], [], (223, kc, ks, pd_H g (pd_w v 198 6 ((v 198 6) + (1 : Int32)))))) rfl ?_
    rcases pd_cases h with ⟨hb4, h⟩ | ⟨hb4, h⟩
    · rw [hb4]
      refine ev_gos pp_Mo_plain 9 (S' := (111, [some (.ref 198), some (.int l1), some (.int (v 200 ((v 198 6).toNatClampNeg))), some (.int (0 : Int32))], [.int ((((8 : Int32) * l1) + (v 200 ((v 198 6).toNatClampNeg))) - (97 : Int32)), .ref 204], (223, kc, ks, pd_H g (pd_w v 198 6 ((v 198 6) + (1 : Int32)))))) rfl ?_
      obtain ⟨hc5, h⟩ := pd_chk h
      refine ev_iald pp_Mo_plain rfl (fun _ => rfl) hc5 ?_
      refine ev_gos pp_Mo_plain 0 (S' := (112, [some (.ref 198), some (.int l1), some (.int (v 200 ((v 198 6).toNatClampNeg))), some (.int (0 : Int32))], [.int (v 204 (((((8 : Int32) * l1) + (v 200 ((v 198 6).toNatClampNeg))) - (97 : Int32)).toNatClampNeg))], (223, kc, ks, pd_H g (pd_w v 198 6 ((v 198 6) + (1 : Int32)))))) rfl ?_
      cases h
      exact ev_fin pp_Mo_plain rfl
    · rw [hb4]
      refine ev_gos pp_Mo_plain 2 (S' := (94, [some (.ref 198), some (.int l1), some (.int (v 200 ((v 198 6).toNatClampNeg))), some (.int (0 : Int32))], [.int (8 : Int32), .int l1], (223, kc, ks, pd_H g (pd_w v 198 6 ((v 198 6) + (1 : Int32)))))) rfl ?_
      obtain ⟨hc6, h⟩ := pd_chk h
      refine ev_irem pp_Mo_plain rfl hc6 ?_
      refine ev_gos pp_Mo_plain 1 (S' := (112, [some (.ref 198), some (.int l1), some (.int (v 200 ((v 198 6).toNatClampNeg))), some (.int (0 : Int32))], [.int (l1 - l1 / (8 : Int32) * (8 : Int32))], (223, kc, ks, pd_H g (pd_w v 198 6 ((v 198 6) + (1 : Int32)))))) rfl ?_
      cases h
      exact ev_fin pp_Mo_plain rfl
  · rw [hb3]
    refine ev_gos pp_Mo_plain 0 (S' := (23, [some (.ref 198), some (.int l1), some (.int (v 200 ((v 198 6).toNatClampNeg))), some (.int (0 : Int32))], [], (223, kc, ks, pd_H g v))) rfl ?_
    exact s_Mo_plain_23 _ _ _ _ _ _  h
theorem pp_Mo_joined {xs : Nat → Int32} {L : Nat} : (pj_P xs L 133).1 = fun S => pm_look tb_Mo_joined S.1 S := rfl
def d_Mo_joined (l0 : Int32) (l1 : Int32) (l2 : Int32)  : Int32 :=
  bif !(decide (l1 = (43 : Int32))) then
    bif !(decide (l1 = (45 : Int32))) then
      bif !(decide (l1 = (42 : Int32))) then
        bif !(decide (l1 = (38 : Int32))) then
          bif !(decide (l1 = (60 : Int32))) then
            bif !(decide (l0 = l2)) then
              (0 : Int32)
            else
              (1 : Int32)
          else
            bif decide (l2 ≤ l0) then
              (0 : Int32)
            else
              (1 : Int32)
        else
          (l0 &&& l2)
      else
        (l0 * l2)
    else
      (l0 - l2)
  else
    (l0 + l2)
theorem s_Mo_joined {l0 : Int32} {l1 : Int32} {l2 : Int32} {v : pd_V}  : pm_ev (pj_P xs L) d 133 (0, [some (.int l0), some (.int l1), some (.int l2)], [], (223, kc, ks, pd_H g v)) (.inl (some (.int (d_Mo_joined l0 l1 l2))), (223, kc, ks, pd_H g v)) := by
  unfold d_Mo_joined
  refine ev_gos pp_Mo_joined 2 (S' := (3, [some (.int l0), some (.int l1), some (.int l2)], [.int (43 : Int32), .int l1], (223, kc, ks, pd_H g v))) rfl ?_
  refine ev_gos pp_Mo_joined 1 (S' := (bif !(decide (l1 = (43 : Int32))) then 10 else 6, [some (.int l0), some (.int l1), some (.int l2)], [], (223, kc, ks, pd_H g v))) rfl ?_
  cases hb1 : (!(decide (l1 = (43 : Int32))))
  · refine ev_gos pp_Mo_joined 3 (S' := (9, [some (.int l0), some (.int l1), some (.int l2)], [.int (l0 + l2)], (223, kc, ks, pd_H g v))) rfl ?_
    exact ev_fin pp_Mo_joined rfl
  · refine ev_gos pp_Mo_joined 2 (S' := (13, [some (.int l0), some (.int l1), some (.int l2)], [.int (45 : Int32), .int l1], (223, kc, ks, pd_H g v))) rfl ?_
    refine ev_gos pp_Mo_joined 1 (S' := (bif !(decide (l1 = (45 : Int32))) then 20 else 16, [some (.int l0), some (.int l1), some (.int l2)], [], (223, kc, ks, pd_H g v))) rfl ?_
    cases hb2 : (!(decide (l1 = (45 : Int32))))
    · refine ev_gos pp_Mo_joined 3 (S' := (19, [some (.int l0), some (.int l1), some (.int l2)], [.int (l0 - l2)], (223, kc, ks, pd_H g v))) rfl ?_
      exact ev_fin pp_Mo_joined rfl
    · refine ev_gos pp_Mo_joined 2 (S' := (23, [some (.int l0), some (.int l1), some (.int l2)], [.int (42 : Int32), .int l1], (223, kc, ks, pd_H g v))) rfl ?_
      refine ev_gos pp_Mo_joined 1 (S' := (bif !(decide (l1 = (42 : Int32))) then 30 else 26, [some (.int l0), some (.int l1), some (.int l2)], [], (223, kc, ks, pd_H g v))) rfl ?_
      cases hb3 : (!(decide (l1 = (42 : Int32))))
      · refine ev_gos pp_Mo_joined 3 (S' := (29, [some (.int l0), some (.int l1), some (.int l2)], [.int (l0 * l2)], (223, kc, ks, pd_H g v))) rfl ?_
        exact ev_fin pp_Mo_joined rfl
      · refine ev_gos pp_Mo_joined 2 (S' := (33, [some (.int l0), some (.int l1), some (.int l2)], [.int (38 : Int32), .int l1], (223, kc, ks, pd_H g v))) rfl ?_
        refine ev_gos pp_Mo_joined 1 (S' := (bif !(decide (l1 = (38 : Int32))) then 40 else 36, [some (.int l0), some (.int l1), some (.int l2)], [], (223, kc, ks, pd_H g v))) rfl ?_
        cases hb4 : (!(decide (l1 = (38 : Int32))))
        · refine ev_gos pp_Mo_joined 3 (S' := (39, [some (.int l0), some (.int l1), some (.int l2)], [.int (l0 &&& l2)], (223, kc, ks, pd_H g v))) rfl ?_
          exact ev_fin pp_Mo_joined rfl
        · refine ev_gos pp_Mo_joined 2 (S' := (43, [some (.int l0), some (.int l1), some (.int l2)], [.int (60 : Int32), .int l1], (223, kc, ks, pd_H g v))) rfl ?_
          refine ev_gos pp_Mo_joined 1 (S' := (bif !(decide (l1 = (60 : Int32))) then 59 else 46, [some (.int l0), some (.int l1), some (.int l2)], [], (223, kc, ks, pd_H g v))) rfl ?_
          cases hb5 : (!(decide (l1 = (60 : Int32))))
          · refine ev_gos pp_Mo_joined 2 (S' := (48, [some (.int l0), some (.int l1), some (.int l2)], [.int l2, .int l0], (223, kc, ks, pd_H g v))) rfl ?_
            refine ev_gos pp_Mo_joined 1 (S' := (bif decide (l2 ≤ l0) then 55 else 51, [some (.int l0), some (.int l1), some (.int l2)], [], (223, kc, ks, pd_H g v))) rfl ?_
            cases hb7 : (decide (l2 ≤ l0))
            · refine ev_gos pp_Mo_joined 2 (S' := (69, [some (.int l0), some (.int l1), some (.int l2)], [.int (1 : Int32)], (223, kc, ks, pd_H g v))) rfl ?_
              exact ev_fin pp_Mo_joined rfl
            · refine ev_gos pp_Mo_joined 2 (S' := (69, [some (.int l0), some (.int l1), some (.int l2)], [.int (0 : Int32)], (223, kc, ks, pd_H g v))) rfl ?_
              exact ev_fin pp_Mo_joined rfl
          · refine ev_gos pp_Mo_joined 2 (S' := (61, [some (.int l0), some (.int l1), some (.int l2)], [.int l2, .int l0], (223, kc, ks, pd_H g v))) rfl ?_
            refine ev_gos pp_Mo_joined 1 (S' := (bif !(decide (l0 = l2)) then 68 else 64, [some (.int l0), some (.int l1), some (.int l2)], [], (223, kc, ks, pd_H g v))) rfl ?_
            cases hb6 : (!(decide (l0 = l2)))
            · refine ev_gos pp_Mo_joined 2 (S' := (69, [some (.int l0), some (.int l1), some (.int l2)], [.int (1 : Int32)], (223, kc, ks, pd_H g v))) rfl ?_
              exact ev_fin pp_Mo_joined rfl
            · refine ev_gos pp_Mo_joined 1 (S' := (69, [some (.int l0), some (.int l1), some (.int l2)], [.int (0 : Int32)], (223, kc, ks, pd_H g v))) rfl ?_
              exact ev_fin pp_Mo_joined rfl
end FN
