section LH
variable {xs : Nat → Int32} {L : Nat} {g : Nat → Int64} {d kc ks : Nat}
theorem pp_La_type {xs : Nat → Int32} {L : Nat} : (pj_P xs L 155).1 = fun S => pm_look tb_La_type S.1 S := rfl
def d_La_type (w : Nat) (l1 : Int64) (l3 : Int32) (v : pd_V) (g : Nat → Int64) : Option (Int32 × pd_V × (Nat → Int64) × Nat) :=
  (d_De_type w l1 l3 v).bind fun q1 => Sum.elim (fun rq1 =>
  some ((0 : Int32), q1.2, (vp_updL g 0 (rq1.toInt64)), 0)) (fun xq1 => bif Nat.beq xq1 0 then some ((1 : Int32), q1.2, g, 1) else bif Nat.beq xq1 1 then some ((2 : Int32), q1.2, g, 1) else none) q1.1
theorem s_La_type {w : Nat} {l1 : Int64} {l3 : Int32} {v : pd_V} {q : Int32 × pd_V × (Nat → Int64) × Nat} (h : d_La_type w l1 l3 v g = some q) : pm_ev (pj_P xs L) (d + 3) 155 (0, [some (.ref 0), some (.long l1), none, some (.int l3), some (.ref 222), none], [], (223, kc, ks, pd_H g v)) (.inl (some (.int q.1)), (223, kc + q.2.2.2, ks + 6 * q.2.2.2, pd_H q.2.2.1 q.2.1)) := by
  unfold d_La_type at h
  refine ev_gos pp_La_type 5 (S' := (6, [some (.ref 0), some (.long l1), none, some (.int l3), some (.ref 222), none], [.int l3, .long l1, .ref 0, .int (0 : Int32), .ref 222], (223, kc, ks, pd_H g v))) rfl ?_
  obtain ⟨q1, hq1, h⟩ := pd_bind h
  have evq1 := s_De_type (xs := xs) (L := L) (g := g) (d := d + 0) (kc := kc) (ks := ks) hq1
  rcases pd_elim h with ⟨rq1, eq1, h⟩ | ⟨xq1, eq1, h⟩
  · rw [eq1] at evq1
    refine ev_callv pp_La_type rfl rfl rfl rfl evq1 ?_
    refine ev_gos pp_La_type 1 (S' := (10, [some (.ref 0), some (.long l1), none, some (.int l3), some (.ref 222), none], [.long (rq1.toInt64), .int (0 : Int32), .ref 222], (223, kc, ks, pd_H g q1.2))) rfl ?_
    refine ev_last pp_La_type rfl ?_
    refine ev_gos pp_La_type 2 (S' := (23, [some (.ref 0), some (.long l1), none, some (.int l3), some (.ref 222), none], [.int (0 : Int32)], (223, kc, ks, pd_H (vp_updL g 0 (rq1.toInt64)) q1.2))) rfl ?_
    cases h
    exact ev_fin pp_La_type rfl
  · rw [eq1] at evq1
    rcases pd_cases h with ⟨hx0, h⟩ | ⟨hx0, h⟩
    · have ex0 := Nat.eq_of_beq_eq_true hx0
      subst ex0
      refine ev_callvC pp_La_type rfl rfl rfl rfl evq1 rfl ?_
      refine ev_gos pp_La_type 1 (S' := (17, [none, none, none, none, none, none], [.int (1 : Int32)], (223, (kc + 1), (ks + 6), pd_H g q1.2))) rfl ?_
      cases h
      exact ev_fin pp_La_type rfl
    · skip
      rcases pd_cases h with ⟨hx1, h⟩ | ⟨hx1, h⟩
      · have ex1 := Nat.eq_of_beq_eq_true hx1
        subst ex1
        refine ev_callvC pp_La_type rfl rfl rfl rfl evq1 rfl ?_
        refine ev_gos pp_La_type 1 (S' := (21, [none, none, none, none, none, none], [.int (2 : Int32)], (223, (kc + 1), (ks + 6), pd_H g q1.2))) rfl ?_
        cases h
        exact ev_fin pp_La_type rfl
      · skip
        exact nomatch h
theorem pp_La_varies {xs : Nat → Int32} {L : Nat} : (pj_P xs L 156).1 = fun S => pm_look tb_La_varies S.1 S := rfl
def d_La_varies (l1 : Int32) (v : pd_V) (g : Nat → Int64) : Option (Int32 × pd_V × (Nat → Int64) × Nat) :=
  (d_De_varies l1 v).bind fun q1 => Sum.elim (fun rq1 =>
  bif decide (rq1 = 0) then
    some ((0 : Int32), v, (vp_updL g 0 (0 : Int64)), 0)
  else
    some ((0 : Int32), v, (vp_updL g 0 (1 : Int64)), 0)) (fun xq1 => bif Nat.beq xq1 1 then some ((1 : Int32), v, g, 1) else bif Nat.beq xq1 0 then some ((2 : Int32), v, g, 1) else none) q1
theorem s_La_varies {l1 : Int32} {v : pd_V} {q : Int32 × pd_V × (Nat → Int64) × Nat} (h : d_La_varies l1 v g = some q) : pm_ev (pj_P xs L) (d + 2) 156 (0, [some (.ref 0), some (.int l1), some (.ref 222), none], [], (223, kc, ks, pd_H g v)) (.inl (some (.int q.1)), (223, kc + q.2.2.2, ks + 6 * q.2.2.2, pd_H q.2.2.1 q.2.1)) := by
  unfold d_La_varies at h
  refine ev_gos pp_La_varies 4 (S' := (4, [some (.ref 0), some (.int l1), some (.ref 222), none], [.int l1, .ref 0, .int (0 : Int32), .ref 222], (223, kc, ks, pd_H g v))) rfl ?_
  obtain ⟨q1, hq1, h⟩ := pd_bind h
  have evq1 := s_De_varies (xs := xs) (L := L) (g := g) (d := d + 0) (kc := kc) (ks := ks) hq1
  rcases pd_elim h with ⟨rq1, eq1, h⟩ | ⟨xq1, eq1, h⟩
  · rw [eq1] at evq1
    refine ev_callv pp_La_varies rfl rfl rfl rfl evq1 ?_
    refine ev_gos pp_La_varies 0 (S' := (7, [some (.ref 0), some (.int l1), some (.ref 222), none], [.int rq1, .int (0 : Int32), .ref 222], (223, kc, ks, pd_H g v))) rfl ?_
    refine ev_gos pp_La_varies 1 (S' := (bif decide (rq1 = 0) then 14 else 10, [some (.ref 0), some (.int l1), some (.ref 222), none], [.int (0 : Int32), .ref 222], (223, kc, ks, pd_H g v))) rfl ?_
    rcases pd_cases h with ⟨hb2, h⟩ | ⟨hb2, h⟩
    · rw [hb2]
      refine ev_gos pp_La_varies 1 (S' := (15, [some (.ref 0), some (.int l1), some (.ref 222), none], [.long (0 : Int64), .int (0 : Int32), .ref 222], (223, kc, ks, pd_H g v))) rfl ?_
      refine ev_last pp_La_varies rfl ?_
      refine ev_gos pp_La_varies 2 (S' := (26, [some (.ref 0), some (.int l1), some (.ref 222), none], [.int (0 : Int32)], (223, kc, ks, pd_H (vp_updL g 0 (0 : Int64)) v))) rfl ?_
      cases h
      exact ev_fin pp_La_varies rfl
    · rw [hb2]
      refine ev_gos pp_La_varies 2 (S' := (15, [some (.ref 0), some (.int l1), some (.ref 222), none], [.long (1 : Int64), .int (0 : Int32), .ref 222], (223, kc, ks, pd_H g v))) rfl ?_
      refine ev_last pp_La_varies rfl ?_
      refine ev_gos pp_La_varies 2 (S' := (26, [some (.ref 0), some (.int l1), some (.ref 222), none], [.int (0 : Int32)], (223, kc, ks, pd_H (vp_updL g 0 (1 : Int64)) v))) rfl ?_
      cases h
      exact ev_fin pp_La_varies rfl
  · rw [eq1] at evq1
    rcases pd_cases h with ⟨hx1, h⟩ | ⟨hx1, h⟩
    · have ex1 := Nat.eq_of_beq_eq_true hx1
      subst ex1
      refine ev_callvC pp_La_varies rfl rfl rfl rfl evq1 rfl ?_
      refine ev_gos pp_La_varies 1 (S' := (21, [none, none, none, none], [.int (1 : Int32)], (223, (kc + 1), (ks + 6), pd_H g v))) rfl ?_
      cases h
      exact ev_fin pp_La_varies rfl
    · skip
      rcases pd_cases h with ⟨hx0, h⟩ | ⟨hx0, h⟩
      · have ex0 := Nat.eq_of_beq_eq_true hx0
        subst ex0
        refine ev_callvC pp_La_varies rfl rfl rfl rfl evq1 rfl ?_
        refine ev_gos pp_La_varies 1 (S' := (24, [none, none, none, none], [.int (2 : Int32)], (223, (kc + 1), (ks + 6), pd_H g v))) rfl ?_
        cases h
        exact ev_fin pp_La_varies rfl
      · skip
        exact nomatch h
theorem pp_La_input {xs : Nat → Int32} {L : Nat} : (pj_P xs L 157).1 = fun S => pm_look tb_La_input S.1 S := rfl
def d_La_input (l1 : Int32) (l2 : Int32) (v : pd_V) (g : Nat → Int64) : Option (Int32 × pd_V × (Nat → Int64) × Nat) :=
  (d_De_input l1 l2 v).bind fun q1 => Option.elim q1.1 (
  some ((0 : Int32), q1.2, g, 0)) (fun xq1 => bif Nat.beq xq1 0 then some ((1 : Int32), q1.2, g, 1) else bif Nat.beq xq1 1 then some ((2 : Int32), q1.2, g, 1) else none)
theorem s_La_input {l1 : Int32} {l2 : Int32} {v : pd_V} {q : Int32 × pd_V × (Nat → Int64) × Nat} (h : d_La_input l1 l2 v g = some q) : pm_ev (pj_P xs L) (d + 2) 157 (0, [some (.ref 0), some (.int l1), some (.int l2), none], [], (223, kc, ks, pd_H g v)) (.inl (some (.int q.1)), (223, kc + q.2.2.2, ks + 6 * q.2.2.2, pd_H q.2.2.1 q.2.1)) := by
  unfold d_La_input at h
  refine ev_gos pp_La_input 3 (S' := (3, [some (.ref 0), some (.int l1), some (.int l2), none], [.int l2, .int l1, .ref 0], (223, kc, ks, pd_H g v))) rfl ?_
  obtain ⟨q1, hq1, h⟩ := pd_bind h
  have evq1 := s_De_input (xs := xs) (L := L) (g := g) (d := d + 0) (kc := kc) (ks := ks) hq1
  rcases pd_elimv h with ⟨eq1, h⟩ | ⟨xq1, eq1, h⟩
  · rw [eq1] at evq1
    refine ev_callv pp_La_input rfl rfl rfl rfl evq1 ?_
    refine ev_gos pp_La_input 2 (S' := (16, [some (.ref 0), some (.int l1), some (.int l2), none], [.int (0 : Int32)], (223, kc, ks, pd_H g q1.2))) rfl ?_
    cases h
    exact ev_fin pp_La_input rfl
  · rw [eq1] at evq1
    rcases pd_cases h with ⟨hx0, h⟩ | ⟨hx0, h⟩
    · have ex0 := Nat.eq_of_beq_eq_true hx0
      subst ex0
      refine ev_callvC pp_La_input rfl rfl rfl rfl evq1 rfl ?_
      refine ev_gos pp_La_input 1 (S' := (11, [none, none, none, none], [.int (1 : Int32)], (223, (kc + 1), (ks + 6), pd_H g q1.2))) rfl ?_
      cases h
      exact ev_fin pp_La_input rfl
    · skip
      rcases pd_cases h with ⟨hx1, h⟩ | ⟨hx1, h⟩
      · have ex1 := Nat.eq_of_beq_eq_true hx1
        subst ex1
        refine ev_callvC pp_La_input rfl rfl rfl rfl evq1 rfl ?_
        refine ev_gos pp_La_input 1 (S' := (14, [none, none, none, none], [.int (2 : Int32)], (223, (kc + 1), (ks + 6), pd_H g q1.2))) rfl ?_
        cases h
        exact ev_fin pp_La_input rfl
      · skip
        exact nomatch h
theorem pp_La_lanes {xs : Nat → Int32} {L : Nat} : (pj_P xs L 158).1 = fun S => pm_look tb_La_lanes S.1 S := rfl
def d_La_lanes (l1 : Int32) (v : pd_V) (g : Nat → Int64) : Option (Int32 × pd_V × (Nat → Int64) × Nat) :=
  (d_De_lanes l1 v).bind fun q1 => Option.elim q1.1 (
  some ((0 : Int32), q1.2, g, 0)) (fun xq1 => bif Nat.beq xq1 0 then some ((1 : Int32), q1.2, g, 1) else bif Nat.beq xq1 1 then some ((2 : Int32), q1.2, g, 1) else none)
theorem s_La_lanes {l1 : Int32} {v : pd_V} {q : Int32 × pd_V × (Nat → Int64) × Nat} (h : d_La_lanes l1 v g = some q) : pm_ev (pj_P xs L) (d + 2) 158 (0, [some (.ref 0), some (.int l1), none], [], (223, kc, ks, pd_H g v)) (.inl (some (.int q.1)), (223, kc + q.2.2.2, ks + 6 * q.2.2.2, pd_H q.2.2.1 q.2.1)) := by
  unfold d_La_lanes at h
  refine ev_gos pp_La_lanes 2 (S' := (2, [some (.ref 0), some (.int l1), none], [.int l1, .ref 0], (223, kc, ks, pd_H g v))) rfl ?_
  obtain ⟨q1, hq1, h⟩ := pd_bind h
  have evq1 := s_De_lanes (xs := xs) (L := L) (g := g) (d := d + 0) (kc := kc) (ks := ks) hq1
  rcases pd_elimv h with ⟨eq1, h⟩ | ⟨xq1, eq1, h⟩
  · rw [eq1] at evq1
    refine ev_callv pp_La_lanes rfl rfl rfl rfl evq1 ?_
    refine ev_gos pp_La_lanes 2 (S' := (15, [some (.ref 0), some (.int l1), none], [.int (0 : Int32)], (223, kc, ks, pd_H g q1.2))) rfl ?_
    cases h
    exact ev_fin pp_La_lanes rfl
  · rw [eq1] at evq1
    rcases pd_cases h with ⟨hx0, h⟩ | ⟨hx0, h⟩
    · have ex0 := Nat.eq_of_beq_eq_true hx0
      subst ex0
      refine ev_callvC pp_La_lanes rfl rfl rfl rfl evq1 rfl ?_
      refine ev_gos pp_La_lanes 1 (S' := (10, [none, none, none], [.int (1 : Int32)], (223, (kc + 1), (ks + 6), pd_H g q1.2))) rfl ?_
      cases h
      exact ev_fin pp_La_lanes rfl
    · skip
      rcases pd_cases h with ⟨hx1, h⟩ | ⟨hx1, h⟩
      · have ex1 := Nat.eq_of_beq_eq_true hx1
        subst ex1
        refine ev_callvC pp_La_lanes rfl rfl rfl rfl evq1 rfl ?_
        refine ev_gos pp_La_lanes 1 (S' := (13, [none, none, none], [.int (2 : Int32)], (223, (kc + 1), (ks + 6), pd_H g q1.2))) rfl ?_
        cases h
        exact ev_fin pp_La_lanes rfl
      · skip
        exact nomatch h
theorem pp_La_start {xs : Nat → Int32} {L : Nat} : (pj_P xs L 159).1 = fun S => pm_look tb_La_start S.1 S := rfl
def d_La_start (w : Nat)  (v : pd_V) (g : Nat → Int64) : Option (Int32 × pd_V × (Nat → Int64) × Nat) :=
  (d_De_start w v).bind fun q1 => Option.elim q1.1 (
  some ((0 : Int32), q1.2, g, 0)) (fun xq1 => bif Nat.beq xq1 1 then some ((1 : Int32), q1.2, g, 1) else none)
theorem s_La_start {w : Nat}  {v : pd_V} {q : Int32 × pd_V × (Nat → Int64) × Nat} (h : d_La_start w  v g = some q) : pm_ev (pj_P xs L) (d + 5) 159 (0, [some (.ref 0), none], [], (223, kc, ks, pd_H g v)) (.inl (some (.int q.1)), (223, kc + q.2.2.2, ks + 6 * q.2.2.2, pd_H q.2.2.1 q.2.1)) := by
  unfold d_La_start at h
  refine ev_gos pp_La_start 1 (S' := (1, [some (.ref 0), none], [.ref 0], (223, kc, ks, pd_H g v))) rfl ?_
  obtain ⟨q1, hq1, h⟩ := pd_bind h
  have evq1 := s_De_start (xs := xs) (L := L) (g := g) (d := d + 0) (kc := kc) (ks := ks) hq1
  rcases pd_elimv h with ⟨eq1, h⟩ | ⟨xq1, eq1, h⟩
  · rw [eq1] at evq1
    refine ev_callv pp_La_start rfl rfl rfl rfl evq1 ?_
    refine ev_gos pp_La_start 2 (S' := (11, [some (.ref 0), none], [.int (0 : Int32)], (223, kc, ks, pd_H g q1.2))) rfl ?_
    cases h
    exact ev_fin pp_La_start rfl
  · rw [eq1] at evq1
    rcases pd_cases h with ⟨hx1, h⟩ | ⟨hx1, h⟩
    · have ex1 := Nat.eq_of_beq_eq_true hx1
      subst ex1
      refine ev_callvC pp_La_start rfl rfl rfl rfl evq1 rfl ?_
      refine ev_gos pp_La_start 1 (S' := (9, [none, none], [.int (1 : Int32)], (223, (kc + 1), (ks + 6), pd_H g q1.2))) rfl ?_
      cases h
      exact ev_fin pp_La_start rfl
    · skip
      exact nomatch h
theorem pp_La_run {xs : Nat → Int32} {L : Nat} : (pj_P xs L 160).1 = fun S => pm_look tb_La_run S.1 S := rfl
def d_La_run (w : Nat) (l1 : Int32) (v : pd_V) (g : Nat → Int64) : Option (Int32 × pd_V × (Nat → Int64) × Nat) :=
  (d_De_run w l1 v).bind fun q1 => Sum.elim (fun rq1 =>
  some ((0 : Int32), q1.2, (vp_updL g 0 (rq1.toInt64)), 0)) (fun xq1 => bif Nat.beq xq1 1 then some ((1 : Int32), q1.2, g, 1) else bif Nat.beq xq1 0 then some ((2 : Int32), q1.2, g, 1) else none) q1.1
theorem s_La_run {w : Nat} {l1 : Int32} {v : pd_V} {q : Int32 × pd_V × (Nat → Int64) × Nat} (h : d_La_run w l1 v g = some q) : pm_ev (pj_P xs L) (d + 8) 160 (0, [some (.ref 0), some (.int l1), some (.ref 222), none], [], (223, kc, ks, pd_H g v)) (.inl (some (.int q.1)), (223, kc + q.2.2.2, ks + 6 * q.2.2.2, pd_H q.2.2.1 q.2.1)) := by
  unfold d_La_run at h
  refine ev_gos pp_La_run 4 (S' := (4, [some (.ref 0), some (.int l1), some (.ref 222), none], [.int l1, .ref 0, .int (0 : Int32), .ref 222], (223, kc, ks, pd_H g v))) rfl ?_
  obtain ⟨q1, hq1, h⟩ := pd_bind h
  have evq1 := s_De_run (xs := xs) (L := L) (g := g) (d := d + 0) (kc := kc) (ks := ks) hq1
  rcases pd_elim h with ⟨rq1, eq1, h⟩ | ⟨xq1, eq1, h⟩
  · rw [eq1] at evq1
    refine ev_callv pp_La_run rfl rfl rfl rfl evq1 ?_
    refine ev_gos pp_La_run 1 (S' := (8, [some (.ref 0), some (.int l1), some (.ref 222), none], [.long (rq1.toInt64), .int (0 : Int32), .ref 222], (223, kc, ks, pd_H g q1.2))) rfl ?_
    refine ev_last pp_La_run rfl ?_
    refine ev_gos pp_La_run 2 (S' := (19, [some (.ref 0), some (.int l1), some (.ref 222), none], [.int (0 : Int32)], (223, kc, ks, pd_H (vp_updL g 0 (rq1.toInt64)) q1.2))) rfl ?_
    cases h
    exact ev_fin pp_La_run rfl
  · rw [eq1] at evq1
    rcases pd_cases h with ⟨hx1, h⟩ | ⟨hx1, h⟩
    · have ex1 := Nat.eq_of_beq_eq_true hx1
      subst ex1
      refine ev_callvC pp_La_run rfl rfl rfl rfl evq1 rfl ?_
      refine ev_gos pp_La_run 1 (S' := (14, [none, none, none, none], [.int (1 : Int32)], (223, (kc + 1), (ks + 6), pd_H g q1.2))) rfl ?_
      cases h
      exact ev_fin pp_La_run rfl
    · skip
      rcases pd_cases h with ⟨hx0, h⟩ | ⟨hx0, h⟩
      · have ex0 := Nat.eq_of_beq_eq_true hx0
        subst ex0
        refine ev_callvC pp_La_run rfl rfl rfl rfl evq1 rfl ?_
        refine ev_gos pp_La_run 1 (S' := (17, [none, none, none, none], [.int (2 : Int32)], (223, (kc + 1), (ks + 6), pd_H g q1.2))) rfl ?_
        cases h
        exact ev_fin pp_La_run rfl
      · skip
        exact nomatch h
theorem pp_La_spent {xs : Nat → Int32} {L : Nat} : (pj_P xs L 161).1 = fun S => pm_look tb_La_spent S.1 S := rfl
def d_La_spent (l1 : Int32) (v : pd_V) (g : Nat → Int64) : Option (Int32 × pd_V × (Nat → Int64) × Nat) :=
  (d_De_spent l1 v).bind fun q1 => Sum.elim (fun rq1 =>
  some ((0 : Int32), v, (vp_updL g 0 (rq1.toInt64)), 0)) (fun xq1 => bif Nat.beq xq1 0 then some ((1 : Int32), v, g, 1) else bif Nat.beq xq1 1 then some ((2 : Int32), v, g, 1) else none) q1
theorem s_La_spent {l1 : Int32} {v : pd_V} {q : Int32 × pd_V × (Nat → Int64) × Nat} (h : d_La_spent l1 v g = some q) : pm_ev (pj_P xs L) (d + 2) 161 (0, [some (.ref 0), some (.int l1), some (.ref 222), none], [], (223, kc, ks, pd_H g v)) (.inl (some (.int q.1)), (223, kc + q.2.2.2, ks + 6 * q.2.2.2, pd_H q.2.2.1 q.2.1)) := by
  unfold d_La_spent at h
  refine ev_gos pp_La_spent 4 (S' := (4, [some (.ref 0), some (.int l1), some (.ref 222), none], [.int l1, .ref 0, .int (0 : Int32), .ref 222], (223, kc, ks, pd_H g v))) rfl ?_
  obtain ⟨q1, hq1, h⟩ := pd_bind h
  have evq1 := s_De_spent (xs := xs) (L := L) (g := g) (d := d + 0) (kc := kc) (ks := ks) hq1
  rcases pd_elim h with ⟨rq1, eq1, h⟩ | ⟨xq1, eq1, h⟩
  · rw [eq1] at evq1
    refine ev_callv pp_La_spent rfl rfl rfl rfl evq1 ?_
    refine ev_gos pp_La_spent 1 (S' := (8, [some (.ref 0), some (.int l1), some (.ref 222), none], [.long (rq1.toInt64), .int (0 : Int32), .ref 222], (223, kc, ks, pd_H g v))) rfl ?_
    refine ev_last pp_La_spent rfl ?_
    refine ev_gos pp_La_spent 2 (S' := (19, [some (.ref 0), some (.int l1), some (.ref 222), none], [.int (0 : Int32)], (223, kc, ks, pd_H (vp_updL g 0 (rq1.toInt64)) v))) rfl ?_
    cases h
    exact ev_fin pp_La_spent rfl
  · rw [eq1] at evq1
    rcases pd_cases h with ⟨hx0, h⟩ | ⟨hx0, h⟩
    · have ex0 := Nat.eq_of_beq_eq_true hx0
      subst ex0
      refine ev_callvC pp_La_spent rfl rfl rfl rfl evq1 rfl ?_
      refine ev_gos pp_La_spent 1 (S' := (14, [none, none, none, none], [.int (1 : Int32)], (223, (kc + 1), (ks + 6), pd_H g v))) rfl ?_
      cases h
      exact ev_fin pp_La_spent rfl
    · skip
      rcases pd_cases h with ⟨hx1, h⟩ | ⟨hx1, h⟩
      · have ex1 := Nat.eq_of_beq_eq_true hx1
        subst ex1
        refine ev_callvC pp_La_spent rfl rfl rfl rfl evq1 rfl ?_
        refine ev_gos pp_La_spent 1 (S' := (17, [none, none, none, none], [.int (2 : Int32)], (223, (kc + 1), (ks + 6), pd_H g v))) rfl ?_
        cases h
        exact ev_fin pp_La_spent rfl
      · skip
        exact nomatch h
theorem pp_La_alone {xs : Nat → Int32} {L : Nat} : (pj_P xs L 162).1 = fun S => pm_look tb_La_alone S.1 S := rfl
def d_La_alone (w : Nat) (l1 : Int32) (v : pd_V) (g : Nat → Int64) : Option (Int32 × pd_V × (Nat → Int64) × Nat) :=
  (d_De_alone w l1 v).bind fun q1 => Sum.elim (fun rq1 =>
  some ((0 : Int32), q1.2, (vp_updL g 0 (rq1.toInt64)), 0)) (fun xq1 => bif Nat.beq xq1 1 then some ((1 : Int32), q1.2, g, 1) else bif Nat.beq xq1 0 then some ((2 : Int32), q1.2, g, 1) else none) q1.1
theorem s_La_alone {w : Nat} {l1 : Int32} {v : pd_V} {q : Int32 × pd_V × (Nat → Int64) × Nat} (h : d_La_alone w l1 v g = some q) : pm_ev (pj_P xs L) (d + 8) 162 (0, [some (.ref 0), some (.int l1), some (.ref 222), none], [], (223, kc, ks, pd_H g v)) (.inl (some (.int q.1)), (223, kc + q.2.2.2, ks + 6 * q.2.2.2, pd_H q.2.2.1 q.2.1)) := by
  unfold d_La_alone at h
  refine ev_gos pp_La_alone 4 (S' := (4, [some (.ref 0), some (.int l1), some (.ref 222), none], [.int l1, .ref 0, .int (0 : Int32), .ref 222], (223, kc, ks, pd_H g v))) rfl ?_
  obtain ⟨q1, hq1, h⟩ := pd_bind h
  have evq1 := s_De_alone (xs := xs) (L := L) (g := g) (d := d + 0) (kc := kc) (ks := ks) hq1
  rcases pd_elim h with ⟨rq1, eq1, h⟩ | ⟨xq1, eq1, h⟩
  · rw [eq1] at evq1
    refine ev_callv pp_La_alone rfl rfl rfl rfl evq1 ?_
    refine ev_gos pp_La_alone 1 (S' := (8, [some (.ref 0), some (.int l1), some (.ref 222), none], [.long (rq1.toInt64), .int (0 : Int32), .ref 222], (223, kc, ks, pd_H g q1.2))) rfl ?_
    refine ev_last pp_La_alone rfl ?_
    refine ev_gos pp_La_alone 2 (S' := (19, [some (.ref 0), some (.int l1), some (.ref 222), none], [.int (0 : Int32)], (223, kc, ks, pd_H (vp_updL g 0 (rq1.toInt64)) q1.2))) rfl ?_
    cases h
    exact ev_fin pp_La_alone rfl
  · rw [eq1] at evq1
    rcases pd_cases h with ⟨hx1, h⟩ | ⟨hx1, h⟩
    · have ex1 := Nat.eq_of_beq_eq_true hx1
      subst ex1
      refine ev_callvC pp_La_alone rfl rfl rfl rfl evq1 rfl ?_
      refine ev_gos pp_La_alone 1 (S' := (14, [none, none, none, none], [.int (1 : Int32)], (223, (kc + 1), (ks + 6), pd_H g q1.2))) rfl ?_
      cases h
      exact ev_fin pp_La_alone rfl
    · skip
      rcases pd_cases h with ⟨hx0, h⟩ | ⟨hx0, h⟩
      · have ex0 := Nat.eq_of_beq_eq_true hx0
        subst ex0
        refine ev_callvC pp_La_alone rfl rfl rfl rfl evq1 rfl ?_
        refine ev_gos pp_La_alone 1 (S' := (17, [none, none, none, none], [.int (2 : Int32)], (223, (kc + 1), (ks + 6), pd_H g q1.2))) rfl ?_
        cases h
        exact ev_fin pp_La_alone rfl
      · skip
        exact nomatch h
theorem pp_La_lane {xs : Nat → Int32} {L : Nat} : (pj_P xs L 163).1 = fun S => pm_look tb_La_lane S.1 S := rfl
def d_La_lane (l1 : Int32) (l2 : Int32) (l3 : Int32) (v : pd_V) (g : Nat → Int64) : Option (Int32 × pd_V × (Nat → Int64) × Nat) :=
  (d_De_lane l1 l2 l3 v).bind fun q1 => Sum.elim (fun rq1 =>
  some ((0 : Int32), v, (vp_updL g 0 (rq1.toInt64)), 0)) (fun xq1 => bif Nat.beq xq1 0 then some ((1 : Int32), v, g, 1) else bif Nat.beq xq1 1 then some ((2 : Int32), v, g, 1) else none) q1
theorem s_La_lane {l1 : Int32} {l2 : Int32} {l3 : Int32} {v : pd_V} {q : Int32 × pd_V × (Nat → Int64) × Nat} (h : d_La_lane l1 l2 l3 v g = some q) : pm_ev (pj_P xs L) (d + 2) 163 (0, [some (.ref 0), some (.int l1), some (.int l2), some (.int l3), some (.ref 222), none], [], (223, kc, ks, pd_H g v)) (.inl (some (.int q.1)), (223, kc + q.2.2.2, ks + 6 * q.2.2.2, pd_H q.2.2.1 q.2.1)) := by
  unfold d_La_lane at h
  refine ev_gos pp_La_lane 6 (S' := (7, [some (.ref 0), some (.int l1), some (.int l2), some (.int l3), some (.ref 222), none], [.int l3, .int l2, .int l1, .ref 0, .int (0 : Int32), .ref 222], (223, kc, ks, pd_H g v))) rfl ?_
  obtain ⟨q1, hq1, h⟩ := pd_bind h
  have evq1 := s_De_lane (xs := xs) (L := L) (g := g) (d := d + 0) (kc := kc) (ks := ks) hq1
  rcases pd_elim h with ⟨rq1, eq1, h⟩ | ⟨xq1, eq1, h⟩
  · rw [eq1] at evq1
    refine ev_callv pp_La_lane rfl rfl rfl rfl evq1 ?_
    refine ev_gos pp_La_lane 1 (S' := (11, [some (.ref 0), some (.int l1), some (.int l2), some (.int l3), some (.ref 222), none], [.long (rq1.toInt64), .int (0 : Int32), .ref 222], (223, kc, ks, pd_H g v))) rfl ?_
    refine ev_last pp_La_lane rfl ?_
    refine ev_gos pp_La_lane 2 (S' := (24, [some (.ref 0), some (.int l1), some (.int l2), some (.int l3), some (.ref 222), none], [.int (0 : Int32)], (223, kc, ks, pd_H (vp_updL g 0 (rq1.toInt64)) v))) rfl ?_
    cases h
    exact ev_fin pp_La_lane rfl
  · rw [eq1] at evq1
    rcases pd_cases h with ⟨hx0, h⟩ | ⟨hx0, h⟩
    · have ex0 := Nat.eq_of_beq_eq_true hx0
      subst ex0
      refine ev_callvC pp_La_lane rfl rfl rfl rfl evq1 rfl ?_
      refine ev_gos pp_La_lane 1 (S' := (18, [none, none, none, none, none, none], [.int (1 : Int32)], (223, (kc + 1), (ks + 6), pd_H g v))) rfl ?_
      cases h
      exact ev_fin pp_La_lane rfl
    · skip
      rcases pd_cases h with ⟨hx1, h⟩ | ⟨hx1, h⟩
      · have ex1 := Nat.eq_of_beq_eq_true hx1
        subst ex1
        refine ev_callvC pp_La_lane rfl rfl rfl rfl evq1 rfl ?_
        refine ev_gos pp_La_lane 1 (S' := (22, [none, none, none, none, none, none], [.int (2 : Int32)], (223, (kc + 1), (ks + 6), pd_H g v))) rfl ?_
        cases h
        exact ev_fin pp_La_lane rfl
      · skip
        exact nomatch h
theorem pp_La_out {xs : Nat → Int32} {L : Nat} : (pj_P xs L 164).1 = fun S => pm_look tb_La_out S.1 S := rfl
def d_La_out (l1 : Int32) (l2 : Int32) (l3 : Int32) (v : pd_V) (g : Nat → Int64) : Option (Int32 × pd_V × (Nat → Int64) × Nat) :=
  (d_De_out l1 l2 l3 v).bind fun q1 => Sum.elim (fun rq1 =>
  some ((0 : Int32), v, (vp_updL g 0 (rq1.toInt64)), 0)) (fun xq1 => bif Nat.beq xq1 0 then some ((1 : Int32), v, g, 1) else bif Nat.beq xq1 1 then some ((2 : Int32), v, g, 1) else bif Nat.beq xq1 2 then some ((3 : Int32), v, g, 1) else none) q1
theorem s_La_out {l1 : Int32} {l2 : Int32} {l3 : Int32} {v : pd_V} {q : Int32 × pd_V × (Nat → Int64) × Nat} (h : d_La_out l1 l2 l3 v g = some q) : pm_ev (pj_P xs L) (d + 2) 164 (0, [some (.ref 0), some (.int l1), some (.int l2), some (.int l3), some (.ref 222), none], [], (223, kc, ks, pd_H g v)) (.inl (some (.int q.1)), (223, kc + q.2.2.2, ks + 6 * q.2.2.2, pd_H q.2.2.1 q.2.1)) := by
  unfold d_La_out at h
  refine ev_gos pp_La_out 6 (S' := (7, [some (.ref 0), some (.int l1), some (.int l2), some (.int l3), some (.ref 222), none], [.int l3, .int l2, .int l1, .ref 0, .int (0 : Int32), .ref 222], (223, kc, ks, pd_H g v))) rfl ?_
  obtain ⟨q1, hq1, h⟩ := pd_bind h
  have evq1 := s_De_out (xs := xs) (L := L) (g := g) (d := d + 0) (kc := kc) (ks := ks) hq1
  rcases pd_elim h with ⟨rq1, eq1, h⟩ | ⟨xq1, eq1, h⟩
  · rw [eq1] at evq1
    refine ev_callv pp_La_out rfl rfl rfl rfl evq1 ?_
    refine ev_gos pp_La_out 1 (S' := (11, [some (.ref 0), some (.int l1), some (.int l2), some (.int l3), some (.ref 222), none], [.long (rq1.toInt64), .int (0 : Int32), .ref 222], (223, kc, ks, pd_H g v))) rfl ?_
    refine ev_last pp_La_out rfl ?_
    refine ev_gos pp_La_out 2 (S' := (28, [some (.ref 0), some (.int l1), some (.int l2), some (.int l3), some (.ref 222), none], [.int (0 : Int32)], (223, kc, ks, pd_H (vp_updL g 0 (rq1.toInt64)) v))) rfl ?_
    cases h
    exact ev_fin pp_La_out rfl
  · rw [eq1] at evq1
    rcases pd_cases h with ⟨hx0, h⟩ | ⟨hx0, h⟩
    · have ex0 := Nat.eq_of_beq_eq_true hx0
      subst ex0
      refine ev_callvC pp_La_out rfl rfl rfl rfl evq1 rfl ?_
      refine ev_gos pp_La_out 1 (S' := (18, [none, none, none, none, none, none], [.int (1 : Int32)], (223, (kc + 1), (ks + 6), pd_H g v))) rfl ?_
      cases h
      exact ev_fin pp_La_out rfl
    · skip
      rcases pd_cases h with ⟨hx1, h⟩ | ⟨hx1, h⟩
      · have ex1 := Nat.eq_of_beq_eq_true hx1
        subst ex1
        refine ev_callvC pp_La_out rfl rfl rfl rfl evq1 rfl ?_
        refine ev_gos pp_La_out 1 (S' := (22, [none, none, none, none, none, none], [.int (2 : Int32)], (223, (kc + 1), (ks + 6), pd_H g v))) rfl ?_
        cases h
        exact ev_fin pp_La_out rfl
      · skip
        rcases pd_cases h with ⟨hx2, h⟩ | ⟨hx2, h⟩
        · have ex2 := Nat.eq_of_beq_eq_true hx2
          subst ex2
          refine ev_callvC pp_La_out rfl rfl rfl rfl evq1 rfl ?_
          refine ev_gos pp_La_out 1 (S' := (26, [none, none, none, none, none, none], [.int (3 : Int32)], (223, (kc + 1), (ks + 6), pd_H g v))) rfl ?_
          cases h
          exact ev_fin pp_La_out rfl
        · skip
          exact nomatch h
theorem pp_La_cell {xs : Nat → Int32} {L : Nat} : (pj_P xs L 165).1 = fun S => pm_look tb_La_cell S.1 S := rfl
def d_La_cell (l1 : Int32) (l2 : Int32) (l3 : Int32) (v : pd_V) (g : Nat → Int64) : Option (Int32 × pd_V × (Nat → Int64) × Nat) :=
  (d_De_cell l1 l2 l3 v).bind fun q1 => Sum.elim (fun rq1 =>
  some ((0 : Int32), v, (vp_updL g 0 (rq1.toInt64)), 0)) (fun xq1 => bif Nat.beq xq1 0 then some ((1 : Int32), v, g, 1) else bif Nat.beq xq1 1 then some ((2 : Int32), v, g, 1) else none) q1
theorem s_La_cell {l1 : Int32} {l2 : Int32} {l3 : Int32} {v : pd_V} {q : Int32 × pd_V × (Nat → Int64) × Nat} (h : d_La_cell l1 l2 l3 v g = some q) : pm_ev (pj_P xs L) (d + 3) 165 (0, [some (.ref 0), some (.int l1), some (.int l2), some (.int l3), some (.ref 222), none], [], (223, kc, ks, pd_H g v)) (.inl (some (.int q.1)), (223, kc + q.2.2.2, ks + 6 * q.2.2.2, pd_H q.2.2.1 q.2.1)) := by
  unfold d_La_cell at h
  refine ev_gos pp_La_cell 6 (S' := (7, [some (.ref 0), some (.int l1), some (.int l2), some (.int l3), some (.ref 222), none], [.int l3, .int l2, .int l1, .ref 0, .int (0 : Int32), .ref 222], (223, kc, ks, pd_H g v))) rfl ?_
  obtain ⟨q1, hq1, h⟩ := pd_bind h
  have evq1 := s_De_cell (xs := xs) (L := L) (g := g) (d := d + 0) (kc := kc) (ks := ks) hq1
  rcases pd_elim h with ⟨rq1, eq1, h⟩ | ⟨xq1, eq1, h⟩
  · rw [eq1] at evq1
    refine ev_callv pp_La_cell rfl rfl rfl rfl evq1 ?_
    refine ev_gos pp_La_cell 1 (S' := (11, [some (.ref 0), some (.int l1), some (.int l2), some (.int l3), some (.ref 222), none], [.long (rq1.toInt64), .int (0 : Int32), .ref 222], (223, kc, ks, pd_H g v))) rfl ?_
    refine ev_last pp_La_cell rfl ?_
    refine ev_gos pp_La_cell 2 (S' := (24, [some (.ref 0), some (.int l1), some (.int l2), some (.int l3), some (.ref 222), none], [.int (0 : Int32)], (223, kc, ks, pd_H (vp_updL g 0 (rq1.toInt64)) v))) rfl ?_
    cases h
    exact ev_fin pp_La_cell rfl
  · rw [eq1] at evq1
    rcases pd_cases h with ⟨hx0, h⟩ | ⟨hx0, h⟩
    · have ex0 := Nat.eq_of_beq_eq_true hx0
      subst ex0
      refine ev_callvC pp_La_cell rfl rfl rfl rfl evq1 rfl ?_
      refine ev_gos pp_La_cell 1 (S' := (18, [none, none, none, none, none, none], [.int (1 : Int32)], (223, (kc + 1), (ks + 6), pd_H g v))) rfl ?_
      cases h
      exact ev_fin pp_La_cell rfl
    · skip
      rcases pd_cases h with ⟨hx1, h⟩ | ⟨hx1, h⟩
      · have ex1 := Nat.eq_of_beq_eq_true hx1
        subst ex1
        refine ev_callvC pp_La_cell rfl rfl rfl rfl evq1 rfl ?_
        refine ev_gos pp_La_cell 1 (S' := (22, [none, none, none, none, none, none], [.int (2 : Int32)], (223, (kc + 1), (ks + 6), pd_H g v))) rfl ?_
        cases h
        exact ev_fin pp_La_cell rfl
      · skip
        exact nomatch h
end LH
